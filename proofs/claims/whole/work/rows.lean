section
-- ===== PART A: goes FIRST, ahead of the names: the tables' words, and 'selects' of the private methods out of them =====
/-- a private method of a class that the tables say can be made, by its rows of tables_1 -/
def lw_okq (q : MethodName × Nat) : Prop := (q.1.cls ≠ "java/lang/invoke/MethodHandle" ∧ q.1.cls ≠ "java/lang/invoke/VarHandle") ∧ Cond.instantiable q.1.cls q.2 ∈ tables_1 ∧ Cond.privateMethod q.1 ∈ tables_1 ∧ Cond.instanceMethod q.1 ∈ tables_1
theorem lw_p0 : lw_okq (⟨"MovedStalls$History", "dropOldest", "()V"⟩, 2) := ⟨⟨by decide +kernel, by decide +kernel⟩, List.mem_of_getElem? (i := 162) (by decide +kernel), List.mem_of_getElem? (i := 251) (by decide +kernel), List.mem_of_getElem? (i := 252) (by decide +kernel)⟩
theorem lw_p1 : lw_okq (⟨"MovedStalls$History", "stateAt", "(I)LMovedStalls$Roads;"⟩, 2) := ⟨⟨by decide +kernel, by decide +kernel⟩, List.mem_of_getElem? (i := 162) (by decide +kernel), List.mem_of_getElem? (i := 255) (by decide +kernel), List.mem_of_getElem? (i := 256) (by decide +kernel)⟩
theorem lw_p2 : lw_okq (⟨"MovedStalls$Foresight", "lookBack", "(LMovedStalls$Roads;III)V"⟩, 4) := ⟨⟨by decide +kernel, by decide +kernel⟩, List.mem_of_getElem? (i := 193) (by decide +kernel), List.mem_of_getElem? (i := 313) (by decide +kernel), List.mem_of_getElem? (i := 314) (by decide +kernel)⟩
theorem lw_p3 : lw_okq (⟨"MovedStalls$Foresight", "stepBack", "(LMovedStalls$Roads;III)V"⟩, 4) := ⟨⟨by decide +kernel, by decide +kernel⟩, List.mem_of_getElem? (i := 193) (by decide +kernel), List.mem_of_getElem? (i := 321) (by decide +kernel), List.mem_of_getElem? (i := 322) (by decide +kernel)⟩
theorem lw_p4 : lw_okq (⟨"MovedStalls$Roads", "moveOn", "(LMovedStalls$Bundle;LMovedStalls$Foresight;)V"⟩, 12) := ⟨⟨by decide +kernel, by decide +kernel⟩, List.mem_of_getElem? (i := 20) (by decide +kernel), List.mem_of_getElem? (i := 358) (by decide +kernel), List.mem_of_getElem? (i := 359) (by decide +kernel)⟩
theorem lw_p5 : lw_okq (⟨"MovedStalls$Roads", "takersOf", "(LMovedStalls$Bundle;)I"⟩, 12) := ⟨⟨by decide +kernel, by decide +kernel⟩, List.mem_of_getElem? (i := 20) (by decide +kernel), List.mem_of_getElem? (i := 363) (by decide +kernel), List.mem_of_getElem? (i := 364) (by decide +kernel)⟩
theorem lw_p6 : lw_okq (⟨"MovedStalls$Foresight", "ifStaying", "(LMovedStalls$Bundle;)I"⟩, 4) := ⟨⟨by decide +kernel, by decide +kernel⟩, List.mem_of_getElem? (i := 193) (by decide +kernel), List.mem_of_getElem? (i := 384) (by decide +kernel), List.mem_of_getElem? (i := 385) (by decide +kernel)⟩
theorem lw_p7 : lw_okq (⟨"MovedStalls$Roads", "changeHands", "(LMovedStalls$Bundle;I)V"⟩, 12) := ⟨⟨by decide +kernel, by decide +kernel⟩, List.mem_of_getElem? (i := 20) (by decide +kernel), List.mem_of_getElem? (i := 388) (by decide +kernel), List.mem_of_getElem? (i := 389) (by decide +kernel)⟩
theorem lw_p8 : lw_okq (⟨"MovedStalls$Pad", "fitsLetters", "(I)Z"⟩, 2) := ⟨⟨by decide +kernel, by decide +kernel⟩, List.mem_of_getElem? (i := 179) (by decide +kernel), List.mem_of_getElem? (i := 426) (by decide +kernel), List.mem_of_getElem? (i := 427) (by decide +kernel)⟩
theorem lw_p9 : lw_okq (⟨"MovedStalls", "addCarriersOfPad", "()V"⟩, 7) := ⟨⟨by decide +kernel, by decide +kernel⟩, List.mem_of_getElem? (i := 12) (by decide +kernel), List.mem_of_getElem? (i := 438) (by decide +kernel), List.mem_of_getElem? (i := 439) (by decide +kernel)⟩
theorem lw_p10 : lw_okq (⟨"MovedStalls", "shiftedDelayOf", "(LMovedStalls$Bundle;)I"⟩, 7) := ⟨⟨by decide +kernel, by decide +kernel⟩, List.mem_of_getElem? (i := 12) (by decide +kernel), List.mem_of_getElem? (i := 478) (by decide +kernel), List.mem_of_getElem? (i := 479) (by decide +kernel)⟩
theorem lw_p11 : lw_okq (⟨"MovedStalls", "delayOf", "(LMovedStalls$Bundle;)I"⟩, 7) := ⟨⟨by decide +kernel, by decide +kernel⟩, List.mem_of_getElem? (i := 12) (by decide +kernel), List.mem_of_getElem? (i := 482) (by decide +kernel), List.mem_of_getElem? (i := 483) (by decide +kernel)⟩
theorem lw_p12 : lw_okq (⟨"MovedStalls", "stallToday", "()I"⟩, 7) := ⟨⟨by decide +kernel, by decide +kernel⟩, List.mem_of_getElem? (i := 12) (by decide +kernel), List.mem_of_getElem? (i := 508) (by decide +kernel), List.mem_of_getElem? (i := 509) (by decide +kernel)⟩
theorem lw_p13 : lw_okq (⟨"MovedStallsModel", "records", "()V"⟩, 12) := ⟨⟨by decide +kernel, by decide +kernel⟩, List.mem_of_getElem? (i := 571) (by decide +kernel), List.mem_of_getElem? (i := 621) (by decide +kernel), List.mem_of_getElem? (i := 622) (by decide +kernel)⟩
theorem lw_p14 : lw_okq (⟨"MovedStallsModel", "isCarrier", "(I)Z"⟩, 12) := ⟨⟨by decide +kernel, by decide +kernel⟩, List.mem_of_getElem? (i := 571) (by decide +kernel), List.mem_of_getElem? (i := 632) (by decide +kernel), List.mem_of_getElem? (i := 633) (by decide +kernel)⟩
theorem lw_p15 : lw_okq (⟨"MovedStallsModel", "ofCarrier", "(II)I"⟩, 12) := ⟨⟨by decide +kernel, by decide +kernel⟩, List.mem_of_getElem? (i := 571) (by decide +kernel), List.mem_of_getElem? (i := 636) (by decide +kernel), List.mem_of_getElem? (i := 637) (by decide +kernel)⟩
def lw_privs_1 : List (MethodName × Nat) := [(⟨"MovedStalls$History", "dropOldest", "()V"⟩, 2), (⟨"MovedStalls$History", "stateAt", "(I)LMovedStalls$Roads;"⟩, 2), (⟨"MovedStalls$Foresight", "lookBack", "(LMovedStalls$Roads;III)V"⟩, 4), (⟨"MovedStalls$Foresight", "stepBack", "(LMovedStalls$Roads;III)V"⟩, 4), (⟨"MovedStalls$Roads", "moveOn", "(LMovedStalls$Bundle;LMovedStalls$Foresight;)V"⟩, 12), (⟨"MovedStalls$Roads", "takersOf", "(LMovedStalls$Bundle;)I"⟩, 12), (⟨"MovedStalls$Foresight", "ifStaying", "(LMovedStalls$Bundle;)I"⟩, 4), (⟨"MovedStalls$Roads", "changeHands", "(LMovedStalls$Bundle;I)V"⟩, 12), (⟨"MovedStalls$Pad", "fitsLetters", "(I)Z"⟩, 2), (⟨"MovedStalls", "addCarriersOfPad", "()V"⟩, 7), (⟨"MovedStalls", "shiftedDelayOf", "(LMovedStalls$Bundle;)I"⟩, 7), (⟨"MovedStalls", "delayOf", "(LMovedStalls$Bundle;)I"⟩, 7), (⟨"MovedStalls", "stallToday", "()I"⟩, 7), (⟨"MovedStallsModel", "records", "()V"⟩, 12), (⟨"MovedStallsModel", "isCarrier", "(I)Z"⟩, 12), (⟨"MovedStallsModel", "ofCarrier", "(II)I"⟩, 12)]
theorem lw_r1 : ∀ q ∈ lw_privs_1, lw_okq q := List.forall_mem_cons.mpr ⟨lw_p0, List.forall_mem_cons.mpr ⟨lw_p1, List.forall_mem_cons.mpr ⟨lw_p2, List.forall_mem_cons.mpr ⟨lw_p3, List.forall_mem_cons.mpr ⟨lw_p4, List.forall_mem_cons.mpr ⟨lw_p5, List.forall_mem_cons.mpr ⟨lw_p6, List.forall_mem_cons.mpr ⟨lw_p7, List.forall_mem_cons.mpr ⟨lw_p8, List.forall_mem_cons.mpr ⟨lw_p9, List.forall_mem_cons.mpr ⟨lw_p10, List.forall_mem_cons.mpr ⟨lw_p11, List.forall_mem_cons.mpr ⟨lw_p12, List.forall_mem_cons.mpr ⟨lw_p13, List.forall_mem_cons.mpr ⟨lw_p14, List.forall_mem_cons.mpr ⟨lw_p15, fun _ h => absurd h List.not_mem_nil⟩⟩⟩⟩⟩⟩⟩⟩⟩⟩⟩⟩⟩⟩⟩⟩
theorem lw_p16 : lw_okq (⟨"MovedStallsModel", "goPost", "(II)I"⟩, 12) := ⟨⟨by decide +kernel, by decide +kernel⟩, List.mem_of_getElem? (i := 571) (by decide +kernel), List.mem_of_getElem? (i := 658) (by decide +kernel), List.mem_of_getElem? (i := 659) (by decide +kernel)⟩
theorem lw_p17 : lw_okq (⟨"MovedStallsModel", "arrivalOf", "(IIII)I"⟩, 12) := ⟨⟨by decide +kernel, by decide +kernel⟩, List.mem_of_getElem? (i := 571) (by decide +kernel), List.mem_of_getElem? (i := 662) (by decide +kernel), List.mem_of_getElem? (i := 663) (by decide +kernel)⟩
theorem lw_p18 : lw_okq (⟨"MovedStallsModel", "thereOn", "(II)I"⟩, 12) := ⟨⟨by decide +kernel, by decide +kernel⟩, List.mem_of_getElem? (i := 571) (by decide +kernel), List.mem_of_getElem? (i := 667) (by decide +kernel), List.mem_of_getElem? (i := 668) (by decide +kernel)⟩
theorem lw_p19 : lw_okq (⟨"MovedStallsModel", "townOf", "(II)I"⟩, 12) := ⟨⟨by decide +kernel, by decide +kernel⟩, List.mem_of_getElem? (i := 571) (by decide +kernel), List.mem_of_getElem? (i := 671) (by decide +kernel), List.mem_of_getElem? (i := 672) (by decide +kernel)⟩
theorem lw_p20 : lw_okq (⟨"MovedStallsModel", "stallOn", "(I)I"⟩, 12) := ⟨⟨by decide +kernel, by decide +kernel⟩, List.mem_of_getElem? (i := 571) (by decide +kernel), List.mem_of_getElem? (i := 675) (by decide +kernel), List.mem_of_getElem? (i := 676) (by decide +kernel)⟩
theorem lw_p21 : lw_okq (⟨"MovedStallsModel", "lays", "(III)V"⟩, 12) := ⟨⟨by decide +kernel, by decide +kernel⟩, List.mem_of_getElem? (i := 571) (by decide +kernel), List.mem_of_getElem? (i := 682) (by decide +kernel), List.mem_of_getElem? (i := 683) (by decide +kernel)⟩
theorem lw_p22 : lw_okq (⟨"MovedStallsModel", "isBundle", "(I)Z"⟩, 12) := ⟨⟨by decide +kernel, by decide +kernel⟩, List.mem_of_getElem? (i := 571) (by decide +kernel), List.mem_of_getElem? (i := 690) (by decide +kernel), List.mem_of_getElem? (i := 691) (by decide +kernel)⟩
theorem lw_p23 : lw_okq (⟨"MovedStallsModel", "goPass", "(I)I"⟩, 12) := ⟨⟨by decide +kernel, by decide +kernel⟩, List.mem_of_getElem? (i := 571) (by decide +kernel), List.mem_of_getElem? (i := 698) (by decide +kernel), List.mem_of_getElem? (i := 699) (by decide +kernel)⟩
theorem lw_p24 : lw_okq (⟨"MovedStallsModel", "goDay", "()I"⟩, 12) := ⟨⟨by decide +kernel, by decide +kernel⟩, List.mem_of_getElem? (i := 571) (by decide +kernel), List.mem_of_getElem? (i := 702) (by decide +kernel), List.mem_of_getElem? (i := 703) (by decide +kernel)⟩
theorem lw_p25 : lw_okq (⟨"MovedStallsModel", "of", "(II)I"⟩, 12) := ⟨⟨by decide +kernel, by decide +kernel⟩, List.mem_of_getElem? (i := 571) (by decide +kernel), List.mem_of_getElem? (i := 706) (by decide +kernel), List.mem_of_getElem? (i := 707) (by decide +kernel)⟩
theorem lw_p26 : lw_okq (⟨"MovedStallsModel", "goesOn", "(I)V"⟩, 12) := ⟨⟨by decide +kernel, by decide +kernel⟩, List.mem_of_getElem? (i := 571) (by decide +kernel), List.mem_of_getElem? (i := 710) (by decide +kernel), List.mem_of_getElem? (i := 711) (by decide +kernel)⟩
theorem lw_p27 : lw_okq (⟨"MovedStallsModel", "arrivalBehind", "(II)I"⟩, 12) := ⟨⟨by decide +kernel, by decide +kernel⟩, List.mem_of_getElem? (i := 571) (by decide +kernel), List.mem_of_getElem? (i := 714) (by decide +kernel), List.mem_of_getElem? (i := 715) (by decide +kernel)⟩
theorem lw_p28 : lw_okq (⟨"MovedStallsModel", "has", "(I)I"⟩, 12) := ⟨⟨by decide +kernel, by decide +kernel⟩, List.mem_of_getElem? (i := 571) (by decide +kernel), List.mem_of_getElem? (i := 718) (by decide +kernel), List.mem_of_getElem? (i := 719) (by decide +kernel)⟩
theorem lw_p29 : lw_okq (⟨"MovedStallsModel", "changes", "(II)V"⟩, 12) := ⟨⟨by decide +kernel, by decide +kernel⟩, List.mem_of_getElem? (i := 571) (by decide +kernel), List.mem_of_getElem? (i := 722) (by decide +kernel), List.mem_of_getElem? (i := 723) (by decide +kernel)⟩
theorem lw_p30 : lw_okq (⟨"MovedStallsModel", "addsCarrier", "(III)V"⟩, 12) := ⟨⟨by decide +kernel, by decide +kernel⟩, List.mem_of_getElem? (i := 571) (by decide +kernel), List.mem_of_getElem? (i := 726) (by decide +kernel), List.mem_of_getElem? (i := 727) (by decide +kernel)⟩
theorem lw_p31 : lw_okq (⟨"MovedStallsModel", "isText", "(Z)Z"⟩, 12) := ⟨⟨by decide +kernel, by decide +kernel⟩, List.mem_of_getElem? (i := 571) (by decide +kernel), List.mem_of_getElem? (i := 742) (by decide +kernel), List.mem_of_getElem? (i := 743) (by decide +kernel)⟩
def lw_privs_2 : List (MethodName × Nat) := [(⟨"MovedStallsModel", "goPost", "(II)I"⟩, 12), (⟨"MovedStallsModel", "arrivalOf", "(IIII)I"⟩, 12), (⟨"MovedStallsModel", "thereOn", "(II)I"⟩, 12), (⟨"MovedStallsModel", "townOf", "(II)I"⟩, 12), (⟨"MovedStallsModel", "stallOn", "(I)I"⟩, 12), (⟨"MovedStallsModel", "lays", "(III)V"⟩, 12), (⟨"MovedStallsModel", "isBundle", "(I)Z"⟩, 12), (⟨"MovedStallsModel", "goPass", "(I)I"⟩, 12), (⟨"MovedStallsModel", "goDay", "()I"⟩, 12), (⟨"MovedStallsModel", "of", "(II)I"⟩, 12), (⟨"MovedStallsModel", "goesOn", "(I)V"⟩, 12), (⟨"MovedStallsModel", "arrivalBehind", "(II)I"⟩, 12), (⟨"MovedStallsModel", "has", "(I)I"⟩, 12), (⟨"MovedStallsModel", "changes", "(II)V"⟩, 12), (⟨"MovedStallsModel", "addsCarrier", "(III)V"⟩, 12), (⟨"MovedStallsModel", "isText", "(Z)Z"⟩, 12)]
theorem lw_r2 : ∀ q ∈ lw_privs_2, lw_okq q := List.forall_mem_cons.mpr ⟨lw_p16, List.forall_mem_cons.mpr ⟨lw_p17, List.forall_mem_cons.mpr ⟨lw_p18, List.forall_mem_cons.mpr ⟨lw_p19, List.forall_mem_cons.mpr ⟨lw_p20, List.forall_mem_cons.mpr ⟨lw_p21, List.forall_mem_cons.mpr ⟨lw_p22, List.forall_mem_cons.mpr ⟨lw_p23, List.forall_mem_cons.mpr ⟨lw_p24, List.forall_mem_cons.mpr ⟨lw_p25, List.forall_mem_cons.mpr ⟨lw_p26, List.forall_mem_cons.mpr ⟨lw_p27, List.forall_mem_cons.mpr ⟨lw_p28, List.forall_mem_cons.mpr ⟨lw_p29, List.forall_mem_cons.mpr ⟨lw_p30, List.forall_mem_cons.mpr ⟨lw_p31, fun _ h => absurd h List.not_mem_nil⟩⟩⟩⟩⟩⟩⟩⟩⟩⟩⟩⟩⟩⟩⟩⟩
theorem lw_p32 : lw_okq (⟨"MovedStallsModel", "takesTour", "()V"⟩, 12) := ⟨⟨by decide +kernel, by decide +kernel⟩, List.mem_of_getElem? (i := 571) (by decide +kernel), List.mem_of_getElem? (i := 746) (by decide +kernel), List.mem_of_getElem? (i := 747) (by decide +kernel)⟩
theorem lw_p33 : lw_okq (⟨"MovedStallsModel", "takesDigit", "(I)I"⟩, 12) := ⟨⟨by decide +kernel, by decide +kernel⟩, List.mem_of_getElem? (i := 571) (by decide +kernel), List.mem_of_getElem? (i := 750) (by decide +kernel), List.mem_of_getElem? (i := 751) (by decide +kernel)⟩
theorem lw_p34 : lw_okq (⟨"MovedStallsModel", "here", "()I"⟩, 12) := ⟨⟨by decide +kernel, by decide +kernel⟩, List.mem_of_getElem? (i := 571) (by decide +kernel), List.mem_of_getElem? (i := 754) (by decide +kernel), List.mem_of_getElem? (i := 755) (by decide +kernel)⟩
theorem lw_p35 : lw_okq (⟨"MovedStallsModel", "takes", "(Z)V"⟩, 12) := ⟨⟨by decide +kernel, by decide +kernel⟩, List.mem_of_getElem? (i := 571) (by decide +kernel), List.mem_of_getElem? (i := 758) (by decide +kernel), List.mem_of_getElem? (i := 759) (by decide +kernel)⟩
theorem lw_p36 : lw_okq (⟨"MovedStallsModel", "takesLetter", "()V"⟩, 12) := ⟨⟨by decide +kernel, by decide +kernel⟩, List.mem_of_getElem? (i := 571) (by decide +kernel), List.mem_of_getElem? (i := 762) (by decide +kernel), List.mem_of_getElem? (i := 763) (by decide +kernel)⟩
theorem lw_p37 : lw_okq (⟨"MovedStallsModel", "hasDelay", "(I)Z"⟩, 12) := ⟨⟨by decide +kernel, by decide +kernel⟩, List.mem_of_getElem? (i := 571) (by decide +kernel), List.mem_of_getElem? (i := 789) (by decide +kernel), List.mem_of_getElem? (i := 790) (by decide +kernel)⟩
theorem lw_p38 : lw_okq (⟨"MovedStallsModel", "arrivalNow", "(I)I"⟩, 12) := ⟨⟨by decide +kernel, by decide +kernel⟩, List.mem_of_getElem? (i := 571) (by decide +kernel), List.mem_of_getElem? (i := 793) (by decide +kernel), List.mem_of_getElem? (i := 794) (by decide +kernel)⟩
theorem lw_p39 : lw_okq (⟨"MovedStallsModel", "delayOf", "(I)I"⟩, 12) := ⟨⟨by decide +kernel, by decide +kernel⟩, List.mem_of_getElem? (i := 571) (by decide +kernel), List.mem_of_getElem? (i := 797) (by decide +kernel), List.mem_of_getElem? (i := 798) (by decide +kernel)⟩
theorem lw_p40 : lw_okq (⟨"MovedStallsModel", "illOnes", "()I"⟩, 12) := ⟨⟨by decide +kernel, by decide +kernel⟩, List.mem_of_getElem? (i := 571) (by decide +kernel), List.mem_of_getElem? (i := 813) (by decide +kernel), List.mem_of_getElem? (i := 814) (by decide +kernel)⟩
theorem lw_p41 : lw_okq (⟨"MovedStallsModel", "bundlesBy", "(I)I"⟩, 12) := ⟨⟨by decide +kernel, by decide +kernel⟩, List.mem_of_getElem? (i := 571) (by decide +kernel), List.mem_of_getElem? (i := 817) (by decide +kernel), List.mem_of_getElem? (i := 818) (by decide +kernel)⟩
def lw_privs_3 : List (MethodName × Nat) := [(⟨"MovedStallsModel", "takesTour", "()V"⟩, 12), (⟨"MovedStallsModel", "takesDigit", "(I)I"⟩, 12), (⟨"MovedStallsModel", "here", "()I"⟩, 12), (⟨"MovedStallsModel", "takes", "(Z)V"⟩, 12), (⟨"MovedStallsModel", "takesLetter", "()V"⟩, 12), (⟨"MovedStallsModel", "hasDelay", "(I)Z"⟩, 12), (⟨"MovedStallsModel", "arrivalNow", "(I)I"⟩, 12), (⟨"MovedStallsModel", "delayOf", "(I)I"⟩, 12), (⟨"MovedStallsModel", "illOnes", "()I"⟩, 12), (⟨"MovedStallsModel", "bundlesBy", "(I)I"⟩, 12)]
theorem lw_r3 : ∀ q ∈ lw_privs_3, lw_okq q := List.forall_mem_cons.mpr ⟨lw_p32, List.forall_mem_cons.mpr ⟨lw_p33, List.forall_mem_cons.mpr ⟨lw_p34, List.forall_mem_cons.mpr ⟨lw_p35, List.forall_mem_cons.mpr ⟨lw_p36, List.forall_mem_cons.mpr ⟨lw_p37, List.forall_mem_cons.mpr ⟨lw_p38, List.forall_mem_cons.mpr ⟨lw_p39, List.forall_mem_cons.mpr ⟨lw_p40, List.forall_mem_cons.mpr ⟨lw_p41, fun _ h => absurd h List.not_mem_nil⟩⟩⟩⟩⟩⟩⟩⟩⟩⟩
def lw_privs : List (MethodName × Nat) := lw_privs_1 ++ (lw_privs_2 ++ (lw_privs_3))
def lw_tbl : List Cond := k2_sels lw_privs ++ tables_1
theorem lw_privs_ok : ∀ q ∈ lw_privs, lw_okq q := by
  show ∀ q ∈ lw_privs_1 ++ (lw_privs_2 ++ (lw_privs_3)), lw_okq q
  exact List.forall_mem_append.mpr ⟨lw_r1, List.forall_mem_append.mpr ⟨lw_r2, lw_r3⟩⟩
/-- the streams that the claim lets the run draw from -/
abbrev lw_cs : List Choice := [Jvm.Choice.named "NaN.bits"]
theorem lw_bits : nanBits ∈ lw_cs := by first | decide | exact List.mem_cons_self | simp [lw_cs, nanBits]

def RX0 : String := "MovedStalls$Bundle"
def TX0 : u_T := fun k => match k with
  | 0 => ("MovedStalls$Bundle", "to", "I", false)
  | 1 => ("MovedStalls$Bundle", "town", "I", false)
  | 2 => ("MovedStalls$Bundle", "hand", "I", false)
  | 3 => ("MovedStalls$Bundle", "arrivedOn", "I", false)
  | 4 => ("MovedStalls$Bundle", "promise", "I", false)
  | 5 => ("MovedStalls$Bundle", "broken", "Z", false)
  | 6 => ("MovedStalls$Bundle", "changes", "I", false)
  | _ => ("MovedStalls$Bundle", "postedOn", "I", false)
def tyX0 : Nat → FieldType := fun k => match k with
  | 0 => .int
  | 1 => .int
  | 2 => .int
  | 3 => .int
  | 4 => .int
  | 5 => .boolean
  | 6 => .int
  | _ => .int
abbrev wsX00 : List Cond := u_ws RX0 TX0 8
theorem nmX0 : ∀ a, a < 8 → ∀ b, b < 8 → a ≠ b → (TX0 a).2.1 ≠ (TX0 b).2.1 := by decide +kernel
theorem tyX0_ok : ∀ k, k < 8 → parseFieldDescriptor (TX0 k).2.2.1 = some (tyX0 k) := by decide +kernel
abbrev cX0_init : ByteArray := prog_2_method_1_code
def yX0_init : MethodName := ⟨RX0, "<init>", "()V"⟩
abbrev cX0_begin : ByteArray := prog_2_method_2_code
def yX0_begin : MethodName := ⟨RX0, "begin", "(IIII)V"⟩
abbrev cX0_copyFrom : ByteArray := prog_2_method_3_code
def yX0_copyFrom : MethodName := ⟨RX0, "copyFrom", "(LMovedStalls$Bundle;)V"⟩
def RX1 : String := "MovedStalls$Carrier"
def TX1 : u_T := fun k => match k with
  | 0 => ("MovedStalls$Carrier", "tour", "[I", true)
  | 1 => ("MovedStalls$Carrier", "length", "I", false)
  | 2 => ("MovedStalls$Carrier", "roughness", "I", false)
  | 3 => ("MovedStalls$Carrier", "aboutAgain", "I", false)
  | 4 => ("MovedStalls$Carrier", "changes", "I", false)
  | _ => ("MovedStalls$Carrier", "broken", "I", false)
def tyX1 : Nat → FieldType := fun k => match k with
  | 0 => .array .int
  | 1 => .int
  | 2 => .int
  | 3 => .int
  | 4 => .int
  | _ => .int
abbrev wsX10 : List Cond := u_ws RX1 TX1 6
theorem nmX1 : ∀ a, a < 6 → ∀ b, b < 6 → a ≠ b → (TX1 a).2.1 ≠ (TX1 b).2.1 := by decide +kernel
theorem tyX1_ok : ∀ k, k < 6 → parseFieldDescriptor (TX1 k).2.2.1 = some (tyX1 k) := by decide +kernel
abbrev cX1_init : ByteArray := prog_3_method_1_code
def yX1_init : MethodName := ⟨RX1, "<init>", "()V"⟩
abbrev cX1_begin : ByteArray := prog_3_method_2_code
def yX1_begin : MethodName := ⟨RX1, "begin", "()V"⟩
abbrev cX1_addTown : ByteArray := prog_3_method_3_code
def yX1_addTown : MethodName := ⟨RX1, "addTown", "(I)V"⟩
abbrev cX1_copyFrom : ByteArray := prog_3_method_4_code
def yX1_copyFrom : MethodName := ⟨RX1, "copyFrom", "(LMovedStalls$Carrier;)V"⟩
def RX2 : String := "MovedStalls$Foresight"
def TX2 : u_T := fun k => match k with
  | 0 => ("MovedStalls$Foresight", "inHands", "[I", true)
  | 1 => ("MovedStalls$Foresight", "lying", "I", false)
  | 2 => ("MovedStalls$Foresight", "found", "I", false)
  | _ => ("MovedStalls$Foresight", "sum", "I", false)
def tyX2 : Nat → FieldType := fun k => match k with
  | 0 => .array .int
  | 1 => .int
  | 2 => .int
  | _ => .int
abbrev wsX20 : List Cond := u_ws RX2 TX2 4
theorem nmX2 : ∀ a, a < 4 → ∀ b, b < 4 → a ≠ b → (TX2 a).2.1 ≠ (TX2 b).2.1 := by decide +kernel
theorem tyX2_ok : ∀ k, k < 4 → parseFieldDescriptor (TX2 k).2.2.1 = some (tyX2 k) := by decide +kernel
abbrev cX2_init : ByteArray := prog_4_method_1_code
def yX2_init : MethodName := ⟨RX2, "<init>", "()V"⟩
abbrev cX2_ifLying : ByteArray := prog_4_method_2_code
def yX2_ifLying : MethodName := ⟨RX2, "ifLying", "(LMovedStalls$Roads;III)I"⟩
abbrev cX2_arrivalOf : ByteArray := prog_4_method_3_code
def yX2_arrivalOf : MethodName := ⟨RX2, "arrivalOf", "(LMovedStalls$Roads;LMovedStalls$Bundle;)I"⟩
abbrev cX2_addUpArrivals : ByteArray := prog_4_method_4_code
def yX2_addUpArrivals : MethodName := ⟨RX2, "addUpArrivals", "(LMovedStalls$Roads;)V"⟩
abbrev cX2_bestTaker : ByteArray := prog_4_method_5_code
def yX2_bestTaker : MethodName := ⟨RX2, "bestTaker", "(LMovedStalls$Roads;LMovedStalls$Bundle;I)I"⟩
abbrev cX2_ifStaying : ByteArray := prog_4_method_6_code
def yX2_ifStaying : MethodName := ⟨RX2, "ifStaying", "(LMovedStalls$Bundle;)I"⟩
abbrev cX2_lookBack : ByteArray := prog_4_method_7_code
def yX2_lookBack : MethodName := ⟨RX2, "lookBack", "(LMovedStalls$Roads;III)V"⟩
abbrev cX2_stepBack : ByteArray := prog_4_method_8_code
def yX2_stepBack : MethodName := ⟨RX2, "stepBack", "(LMovedStalls$Roads;III)V"⟩
abbrev cX2_arrivalByHands : ByteArray := prog_4_method_9_code
def yX2_arrivalByHands : MethodName := ⟨RX2, "arrivalByHands", "(LMovedStalls$Roads;LMovedStalls$Bundle;)I"⟩
def RX3 : String := "MovedStalls$History"
def TX3 : u_T := fun k => match k with
  | 0 => ("MovedStalls$History", "states", "[LMovedStalls$Roads;", true)
  | _ => ("MovedStalls$History", "length", "I", false)
def tyX3 : Nat → FieldType := fun k => match k with
  | 0 => .array (.object "MovedStalls$Roads")
  | _ => .int
abbrev wsX30 : List Cond := u_ws RX3 TX3 2
theorem nmX3 : ∀ a, a < 2 → ∀ b, b < 2 → a ≠ b → (TX3 a).2.1 ≠ (TX3 b).2.1 := by decide +kernel
theorem tyX3_ok : ∀ k, k < 2 → parseFieldDescriptor (TX3 k).2.2.1 = some (tyX3 k) := by decide +kernel
abbrev cX3_init : ByteArray := prog_5_method_1_code
def yX3_init : MethodName := ⟨RX3, "<init>", "()V"⟩
abbrev cX3_keep : ByteArray := prog_5_method_2_code
def yX3_keep : MethodName := ⟨RX3, "keep", "(LMovedStalls$Roads;)V"⟩
abbrev cX3_takeBack : ByteArray := prog_5_method_3_code
def yX3_takeBack : MethodName := ⟨RX3, "takeBack", "(LMovedStalls$Roads;)V"⟩
abbrev cX3_stateAt : ByteArray := prog_5_method_4_code
def yX3_stateAt : MethodName := ⟨RX3, "stateAt", "(I)LMovedStalls$Roads;"⟩
abbrev cX3_dropOldest : ByteArray := prog_5_method_5_code
def yX3_dropOldest : MethodName := ⟨RX3, "dropOldest", "()V"⟩
def RX4 : String := "MovedStalls$Pad"
def TX4 : u_T := fun k => match k with
  | 0 => ("MovedStalls$Pad", "signs", "[I", true)
  | _ => ("MovedStalls$Pad", "length", "I", false)
def tyX4 : Nat → FieldType := fun k => match k with
  | 0 => .array .int
  | _ => .int
abbrev wsX40 : List Cond := u_ws RX4 TX4 2
theorem nmX4 : ∀ a, a < 2 → ∀ b, b < 2 → a ≠ b → (TX4 a).2.1 ≠ (TX4 b).2.1 := by decide +kernel
theorem tyX4_ok : ∀ k, k < 2 → parseFieldDescriptor (TX4 k).2.2.1 = some (tyX4 k) := by decide +kernel
abbrev cX4_init : ByteArray := prog_6_method_1_code
def yX4_init : MethodName := ⟨RX4, "<init>", "()V"⟩
abbrev cX4_add : ByteArray := prog_6_method_2_code
def yX4_add : MethodName := ⟨RX4, "add", "(I)V"⟩
abbrev cX4_signAt : ByteArray := prog_6_method_3_code
def yX4_signAt : MethodName := ⟨RX4, "signAt", "(I)I"⟩
abbrev cX4_parts : ByteArray := prog_6_method_4_code
def yX4_parts : MethodName := ⟨RX4, "parts", "(I)I"⟩
abbrev cX4_faultAsTours : ByteArray := prog_6_method_5_code
def yX4_faultAsTours : MethodName := ⟨RX4, "faultAsTours", "()I"⟩
abbrev cX4_readTourSign : ByteArray := prog_6_method_6_code
def yX4_readTourSign : MethodName := ⟨RX4, "readTourSign", "(II)I"⟩
abbrev cX4_faultAsLetters : ByteArray := prog_6_method_7_code
def yX4_faultAsLetters : MethodName := ⟨RX4, "faultAsLetters", "()I"⟩
abbrev cX4_fitsLetters : ByteArray := prog_6_method_8_code
def yX4_fitsLetters : MethodName := ⟨RX4, "fitsLetters", "(I)Z"⟩
abbrev cX4_isTown : ByteArray := prog_6_method_9_code
def yX4_isTown : MethodName := ⟨RX4, "isTown", "(I)Z"⟩
def RX5 : String := "MovedStalls$Roads"
def TX5 : u_T := fun k => match k with
  | 0 => ("MovedStalls$Roads", "stalls", "[I", true)
  | 1 => ("MovedStalls$Roads", "carriers", "[LMovedStalls$Carrier;", true)
  | 2 => ("MovedStalls$Roads", "bundles", "[LMovedStalls$Bundle;", true)
  | 3 => ("MovedStalls$Roads", "carrierCount", "I", false)
  | 4 => ("MovedStalls$Roads", "bundleCount", "I", false)
  | 5 => ("MovedStalls$Roads", "today", "I", false)
  | 6 => ("MovedStalls$Roads", "load", "I", false)
  | 7 => ("MovedStalls$Roads", "lot", "I", false)
  | 8 => ("MovedStalls$Roads", "posted", "I", false)
  | 9 => ("MovedStalls$Roads", "arrivals", "I", false)
  | 10 => ("MovedStalls$Roads", "forgotten", "I", false)
  | _ => ("MovedStalls$Roads", "changes", "I", false)
def tyX5 : Nat → FieldType := fun k => match k with
  | 0 => .array .int
  | 1 => .array (.object "MovedStalls$Carrier")
  | 2 => .array (.object "MovedStalls$Bundle")
  | 3 => .int
  | 4 => .int
  | 5 => .int
  | 6 => .int
  | 7 => .int
  | 8 => .int
  | 9 => .int
  | 10 => .int
  | _ => .int
abbrev wsX50 : List Cond := u_ws RX5 TX5 12
theorem nmX5 : ∀ a, a < 12 → ∀ b, b < 12 → a ≠ b → (TX5 a).2.1 ≠ (TX5 b).2.1 := by decide +kernel
theorem tyX5_ok : ∀ k, k < 12 → parseFieldDescriptor (TX5 k).2.2.1 = some (tyX5 k) := by decide +kernel
abbrev cX5_init : ByteArray := prog_7_method_1_code
def yX5_init : MethodName := ⟨RX5, "<init>", "()V"⟩
abbrev cX5_copyFrom : ByteArray := prog_7_method_2_code
def yX5_copyFrom : MethodName := ⟨RX5, "copyFrom", "(LMovedStalls$Roads;)V"⟩
abbrev cX5_copyCarrier : ByteArray := prog_7_method_3_code
def yX5_copyCarrier : MethodName := ⟨RX5, "copyCarrier", "(LMovedStalls$Carrier;LMovedStalls$Carrier;)V"⟩
abbrev cX5_copyBundle : ByteArray := prog_7_method_4_code
def yX5_copyBundle : MethodName := ⟨RX5, "copyBundle", "(LMovedStalls$Bundle;LMovedStalls$Bundle;)V"⟩
abbrev cX5_hasCarrier : ByteArray := prog_7_method_5_code
def yX5_hasCarrier : MethodName := ⟨RX5, "hasCarrier", "(I)Z"⟩
abbrev cX5_carrierAt : ByteArray := prog_7_method_6_code
def yX5_carrierAt : MethodName := ⟨RX5, "carrierAt", "(I)LMovedStalls$Carrier;"⟩
abbrev cX5_bundleAt : ByteArray := prog_7_method_7_code
def yX5_bundleAt : MethodName := ⟨RX5, "bundleAt", "(I)LMovedStalls$Bundle;"⟩
abbrev cX5_addCarrier : ByteArray := prog_7_method_8_code
def yX5_addCarrier : MethodName := ⟨RX5, "addCarrier", "()LMovedStalls$Carrier;"⟩
abbrev cX5_addBundle : ByteArray := prog_7_method_9_code
def yX5_addBundle : MethodName := ⟨RX5, "addBundle", "(III)V"⟩
abbrev cX5_removeBundle : ByteArray := prog_7_method_10_code
def yX5_removeBundle : MethodName := ⟨RX5, "removeBundle", "(I)V"⟩
abbrev cX5_moveStall : ByteArray := prog_7_method_11_code
def yX5_moveStall : MethodName := ⟨RX5, "moveStall", "(II)V"⟩
abbrev cX5_stallOn : ByteArray := prog_7_method_12_code
def yX5_stallOn : MethodName := ⟨RX5, "stallOn", "(I)I"⟩
abbrev cX5_townOf : ByteArray := prog_7_method_13_code
def yX5_townOf : MethodName := ⟨RX5, "townOf", "(II)I"⟩
abbrev cX5_carriersIn : ByteArray := prog_7_method_14_code
def yX5_carriersIn : MethodName := ⟨RX5, "carriersIn", "(II)I"⟩
abbrev cX5_illToday : ByteArray := prog_7_method_15_code
def yX5_illToday : MethodName := ⟨RX5, "illToday", "()I"⟩
abbrev cX5_bundlesWith : ByteArray := prog_7_method_16_code
def yX5_bundlesWith : MethodName := ⟨RX5, "bundlesWith", "(I)I"⟩
abbrev cX5_isFull : ByteArray := prog_7_method_17_code
def yX5_isFull : MethodName := ⟨RX5, "isFull", "(I)Z"⟩
abbrev cX5_lyingBundles : ByteArray := prog_7_method_18_code
def yX5_lyingBundles : MethodName := ⟨RX5, "lyingBundles", "()I"⟩
abbrev cX5_arrivedBundles : ByteArray := prog_7_method_19_code
def yX5_arrivedBundles : MethodName := ⟨RX5, "arrivedBundles", "()I"⟩
abbrev cX5_brokenBundles : ByteArray := prog_7_method_20_code
def yX5_brokenBundles : MethodName := ⟨RX5, "brokenBundles", "()I"⟩
abbrev cX5_passDay : ByteArray := prog_7_method_21_code
def yX5_passDay : MethodName := ⟨RX5, "passDay", "(LMovedStalls$Foresight;)V"⟩
abbrev cX5_moveOn : ByteArray := prog_7_method_22_code
def yX5_moveOn : MethodName := ⟨RX5, "moveOn", "(LMovedStalls$Bundle;LMovedStalls$Foresight;)V"⟩
abbrev cX5_takersOf : ByteArray := prog_7_method_23_code
def yX5_takersOf : MethodName := ⟨RX5, "takersOf", "(LMovedStalls$Bundle;)I"⟩
abbrev cX5_changeHands : ByteArray := prog_7_method_24_code
def yX5_changeHands : MethodName := ⟨RX5, "changeHands", "(LMovedStalls$Bundle;I)V"⟩
def RX6 : String := "MovedStalls"
def TX6 : u_T := fun k => match k with
  | 0 => ("MovedStalls", "now", "LMovedStalls$Roads;", true)
  | 1 => ("MovedStalls", "trial", "LMovedStalls$Roads;", true)
  | 2 => ("MovedStalls", "snapshot", "LMovedStalls$Roads;", true)
  | 3 => ("MovedStalls", "history", "LMovedStalls$History;", true)
  | 4 => ("MovedStalls", "pad", "LMovedStalls$Pad;", true)
  | 5 => ("MovedStalls", "foresight", "LMovedStalls$Foresight;", true)
  | _ => ("MovedStalls", "saved", "Z", false)
def tyX6 : Nat → FieldType := fun k => match k with
  | 0 => .object "MovedStalls$Roads"
  | 1 => .object "MovedStalls$Roads"
  | 2 => .object "MovedStalls$Roads"
  | 3 => .object "MovedStalls$History"
  | 4 => .object "MovedStalls$Pad"
  | 5 => .object "MovedStalls$Foresight"
  | _ => .boolean
abbrev wsX60 : List Cond := u_ws RX6 TX6 7
theorem nmX6 : ∀ a, a < 7 → ∀ b, b < 7 → a ≠ b → (TX6 a).2.1 ≠ (TX6 b).2.1 := by decide +kernel
theorem tyX6_ok : ∀ k, k < 7 → parseFieldDescriptor (TX6 k).2.2.1 = some (tyX6 k) := by decide +kernel
abbrev cX6_init : ByteArray := prog_1_method_1_code
def yX6_init : MethodName := ⟨RX6, "<init>", "()V"⟩
abbrev cX6_stall : ByteArray := prog_1_method_2_code
def yX6_stall : MethodName := ⟨RX6, "stall", "(II)I"⟩
abbrev cX6_ill : ByteArray := prog_1_method_3_code
def yX6_ill : MethodName := ⟨RX6, "ill", "(II)I"⟩
abbrev cX6_rough : ByteArray := prog_1_method_4_code
def yX6_rough : MethodName := ⟨RX6, "rough", "(II)I"⟩
abbrev cX6_load : ByteArray := prog_1_method_5_code
def yX6_load : MethodName := ⟨RX6, "load", "(I)I"⟩
abbrev cX6_post : ByteArray := prog_1_method_6_code
def yX6_post : MethodName := ⟨RX6, "post", "(II)I"⟩
abbrev cX6_forget : ByteArray := prog_1_method_7_code
def yX6_forget : MethodName := ⟨RX6, "forget", "(I)I"⟩
abbrev cX6_pass : ByteArray := prog_1_method_8_code
def yX6_pass : MethodName := ⟨RX6, "pass", "(I)I"⟩
abbrev cX6_append : ByteArray := prog_1_method_9_code
def yX6_append : MethodName := ⟨RX6, "append", "(I)I"⟩
abbrev cX6_clear : ByteArray := prog_1_method_10_code
def yX6_clear : MethodName := ⟨RX6, "clear", "()I"⟩
abbrev cX6_fault : ByteArray := prog_1_method_11_code
def yX6_fault : MethodName := ⟨RX6, "fault", "(I)I"⟩
abbrev cX6_tours : ByteArray := prog_1_method_12_code
def yX6_tours : MethodName := ⟨RX6, "tours", "()I"⟩
abbrev cX6_letters : ByteArray := prog_1_method_13_code
def yX6_letters : MethodName := ⟨RX6, "letters", "()I"⟩
abbrev cX6_where : ByteArray := prog_1_method_14_code
def yX6_where : MethodName := ⟨RX6, "where", "(II)I"⟩
abbrev cX6_carrier : ByteArray := prog_1_method_15_code
def yX6_carrier : MethodName := ⟨RX6, "carrier", "(II)I"⟩
abbrev cX6_bundle : ByteArray := prog_1_method_16_code
def yX6_bundle : MethodName := ⟨RX6, "bundle", "(II)I"⟩
abbrev cX6_arrival : ByteArray := prog_1_method_17_code
def yX6_arrival : MethodName := ⟨RX6, "arrival", "(II)I"⟩
abbrev cX6_meeting : ByteArray := prog_1_method_18_code
def yX6_meeting : MethodName := ⟨RX6, "meeting", "(IIZ)I"⟩
abbrev cX6_count : ByteArray := prog_1_method_19_code
def yX6_count : MethodName := ⟨RX6, "count", "(I)I"⟩
abbrev cX6_lateness : ByteArray := prog_1_method_20_code
def yX6_lateness : MethodName := ⟨RX6, "lateness", "()D"⟩
abbrev cX6_ifPosted : ByteArray := prog_1_method_21_code
def yX6_ifPosted : MethodName := ⟨RX6, "ifPosted", "(III)I"⟩
abbrev cX6_bestDay : ByteArray := prog_1_method_22_code
def yX6_bestDay : MethodName := ⟨RX6, "bestDay", "(II)I"⟩
abbrev cX6_bestTown : ByteArray := prog_1_method_23_code
def yX6_bestTown : MethodName := ⟨RX6, "bestTown", "(I)I"⟩
abbrev cX6_ifPassed : ByteArray := prog_1_method_24_code
def yX6_ifPassed : MethodName := ⟨RX6, "ifPassed", "(II)I"⟩
abbrev cX6_undo : ByteArray := prog_1_method_25_code
def yX6_undo : MethodName := ⟨RX6, "undo", "()I"⟩
abbrev cX6_save : ByteArray := prog_1_method_26_code
def yX6_save : MethodName := ⟨RX6, "save", "()I"⟩
abbrev cX6_restore : ByteArray := prog_1_method_27_code
def yX6_restore : MethodName := ⟨RX6, "restore", "()I"⟩
abbrev cX6_isWeekday : ByteArray := prog_1_method_28_code
def yX6_isWeekday : MethodName := ⟨RX6, "isWeekday", "(I)Z"⟩
abbrev cX6_areTwoTowns : ByteArray := prog_1_method_29_code
def yX6_areTwoTowns : MethodName := ⟨RX6, "areTwoTowns", "(II)Z"⟩
abbrev cX6_stallToday : ByteArray := prog_1_method_30_code
def yX6_stallToday : MethodName := ⟨RX6, "stallToday", "()I"⟩
abbrev cX6_shiftedDelayOf : ByteArray := prog_1_method_31_code
def yX6_shiftedDelayOf : MethodName := ⟨RX6, "shiftedDelayOf", "(LMovedStalls$Bundle;)I"⟩
abbrev cX6_delayOf : ByteArray := prog_1_method_32_code
def yX6_delayOf : MethodName := ⟨RX6, "delayOf", "(LMovedStalls$Bundle;)I"⟩
abbrev cX6_addCarriersOfPad : ByteArray := prog_1_method_33_code
def yX6_addCarriersOfPad : MethodName := ⟨RX6, "addCarriersOfPad", "()V"⟩
def RX7 : String := "MovedStallsModel"
def TX7 : u_T := fun k => match k with
  | 0 => ("MovedStallsModel", "s", "[I", true)
  | 1 => ("MovedStallsModel", "aside", "[I", true)
  | 2 => ("MovedStallsModel", "past", "[I", true)
  | 3 => ("MovedStallsModel", "known", "I", false)
  | 4 => ("MovedStallsModel", "kept", "[I", true)
  | 5 => ("MovedStallsModel", "isKept", "Z", false)
  | 6 => ("MovedStallsModel", "pad", "[I", true)
  | 7 => ("MovedStallsModel", "length", "I", false)
  | 8 => ("MovedStallsModel", "spot", "I", false)
  | 9 => ("MovedStallsModel", "isForm", "Z", false)
  | 10 => ("MovedStallsModel", "reads", "I", false)
  | _ => ("MovedStallsModel", "read", "[I", true)
def tyX7 : Nat → FieldType := fun k => match k with
  | 0 => .array .int
  | 1 => .array .int
  | 2 => .array .int
  | 3 => .int
  | 4 => .array .int
  | 5 => .boolean
  | 6 => .array .int
  | 7 => .int
  | 8 => .int
  | 9 => .boolean
  | 10 => .int
  | _ => .array .int
abbrev wsX70 : List Cond := u_ws RX7 TX7 12
theorem nmX7 : ∀ a, a < 12 → ∀ b, b < 12 → a ≠ b → (TX7 a).2.1 ≠ (TX7 b).2.1 := by decide +kernel
theorem tyX7_ok : ∀ k, k < 12 → parseFieldDescriptor (TX7 k).2.2.1 = some (tyX7 k) := by decide +kernel
abbrev cX7_init : ByteArray := prog_9_method_1_code
def yX7_init : MethodName := ⟨RX7, "<init>", "()V"⟩
abbrev cX7_in : ByteArray := prog_9_method_3_code
def yX7_in : MethodName := ⟨RX7, "in", "(III)Z"⟩
abbrev cX7_copies : ByteArray := prog_9_method_4_code
def yX7_copies : MethodName := ⟨RX7, "copies", "([II[II)V"⟩
abbrev cX7_records : ByteArray := prog_9_method_5_code
def yX7_records : MethodName := ⟨RX7, "records", "()V"⟩
abbrev cX7_isCarrier : ByteArray := prog_9_method_6_code
def yX7_isCarrier : MethodName := ⟨RX7, "isCarrier", "(I)Z"⟩
abbrev cX7_isBundle : ByteArray := prog_9_method_7_code
def yX7_isBundle : MethodName := ⟨RX7, "isBundle", "(I)Z"⟩
abbrev cX7_isTown : ByteArray := prog_9_method_8_code
def yX7_isTown : MethodName := ⟨RX7, "isTown", "(I)Z"⟩
abbrev cX7_ofCarrier : ByteArray := prog_9_method_9_code
def yX7_ofCarrier : MethodName := ⟨RX7, "ofCarrier", "(II)I"⟩
abbrev cX7_addsCarrier : ByteArray := prog_9_method_10_code
def yX7_addsCarrier : MethodName := ⟨RX7, "addsCarrier", "(III)V"⟩
abbrev cX7_of : ByteArray := prog_9_method_11_code
def yX7_of : MethodName := ⟨RX7, "of", "(II)I"⟩
abbrev cX7_lays : ByteArray := prog_9_method_12_code
def yX7_lays : MethodName := ⟨RX7, "lays", "(III)V"⟩
abbrev cX7_townOf : ByteArray := prog_9_method_13_code
def yX7_townOf : MethodName := ⟨RX7, "townOf", "(II)I"⟩
abbrev cX7_stallOn : ByteArray := prog_9_method_14_code
def yX7_stallOn : MethodName := ⟨RX7, "stallOn", "(I)I"⟩
abbrev cX7_has : ByteArray := prog_9_method_15_code
def yX7_has : MethodName := ⟨RX7, "has", "(I)I"⟩
abbrev cX7_thereOn : ByteArray := prog_9_method_16_code
def yX7_thereOn : MethodName := ⟨RX7, "thereOn", "(II)I"⟩
abbrev cX7_arrivalOf : ByteArray := prog_9_method_17_code
def yX7_arrivalOf : MethodName := ⟨RX7, "arrivalOf", "(IIII)I"⟩
abbrev cX7_arrivalBehind : ByteArray := prog_9_method_18_code
def yX7_arrivalBehind : MethodName := ⟨RX7, "arrivalBehind", "(II)I"⟩
abbrev cX7_arrivalNow : ByteArray := prog_9_method_19_code
def yX7_arrivalNow : MethodName := ⟨RX7, "arrivalNow", "(I)I"⟩
abbrev cX7_orNone : ByteArray := prog_9_method_20_code
def yX7_orNone : MethodName := ⟨RX7, "orNone", "(I)I"⟩
abbrev cX7_goPost : ByteArray := prog_9_method_21_code
def yX7_goPost : MethodName := ⟨RX7, "goPost", "(II)I"⟩
abbrev cX7_changes : ByteArray := prog_9_method_22_code
def yX7_changes : MethodName := ⟨RX7, "changes", "(II)V"⟩
abbrev cX7_goesOn : ByteArray := prog_9_method_23_code
def yX7_goesOn : MethodName := ⟨RX7, "goesOn", "(I)V"⟩
abbrev cX7_goDay : ByteArray := prog_9_method_24_code
def yX7_goDay : MethodName := ⟨RX7, "goDay", "()I"⟩
abbrev cX7_goPass : ByteArray := prog_9_method_25_code
def yX7_goPass : MethodName := ⟨RX7, "goPass", "(I)I"⟩
abbrev cX7_stall : ByteArray := prog_9_method_26_code
def yX7_stall : MethodName := ⟨RX7, "stall", "(II)I"⟩
abbrev cX7_ill : ByteArray := prog_9_method_27_code
def yX7_ill : MethodName := ⟨RX7, "ill", "(II)I"⟩
abbrev cX7_rough : ByteArray := prog_9_method_28_code
def yX7_rough : MethodName := ⟨RX7, "rough", "(II)I"⟩
abbrev cX7_load : ByteArray := prog_9_method_29_code
def yX7_load : MethodName := ⟨RX7, "load", "(I)I"⟩
abbrev cX7_isWay : ByteArray := prog_9_method_30_code
def yX7_isWay : MethodName := ⟨RX7, "isWay", "(II)Z"⟩
abbrev cX7_post : ByteArray := prog_9_method_31_code
def yX7_post : MethodName := ⟨RX7, "post", "(II)I"⟩
abbrev cX7_forget : ByteArray := prog_9_method_32_code
def yX7_forget : MethodName := ⟨RX7, "forget", "(I)I"⟩
abbrev cX7_pass : ByteArray := prog_9_method_33_code
def yX7_pass : MethodName := ⟨RX7, "pass", "(I)I"⟩
abbrev cX7_append : ByteArray := prog_9_method_34_code
def yX7_append : MethodName := ⟨RX7, "append", "(I)I"⟩
abbrev cX7_clear : ByteArray := prog_9_method_35_code
def yX7_clear : MethodName := ⟨RX7, "clear", "()I"⟩
abbrev cX7_here : ByteArray := prog_9_method_36_code
def yX7_here : MethodName := ⟨RX7, "here", "()I"⟩
abbrev cX7_takes : ByteArray := prog_9_method_37_code
def yX7_takes : MethodName := ⟨RX7, "takes", "(Z)V"⟩
abbrev cX7_takesDigit : ByteArray := prog_9_method_38_code
def yX7_takesDigit : MethodName := ⟨RX7, "takesDigit", "(I)I"⟩
abbrev cX7_takesTour : ByteArray := prog_9_method_39_code
def yX7_takesTour : MethodName := ⟨RX7, "takesTour", "()V"⟩
abbrev cX7_takesLetter : ByteArray := prog_9_method_40_code
def yX7_takesLetter : MethodName := ⟨RX7, "takesLetter", "()V"⟩
abbrev cX7_isText : ByteArray := prog_9_method_41_code
def yX7_isText : MethodName := ⟨RX7, "isText", "(Z)Z"⟩
abbrev cX7_fault : ByteArray := prog_9_method_42_code
def yX7_fault : MethodName := ⟨RX7, "fault", "(I)I"⟩
abbrev cX7_tours : ByteArray := prog_9_method_43_code
def yX7_tours : MethodName := ⟨RX7, "tours", "()I"⟩
abbrev cX7_letters : ByteArray := prog_9_method_44_code
def yX7_letters : MethodName := ⟨RX7, "letters", "()I"⟩
abbrev cX7_where : ByteArray := prog_9_method_45_code
def yX7_where : MethodName := ⟨RX7, "where", "(II)I"⟩
abbrev cX7_carrier : ByteArray := prog_9_method_46_code
def yX7_carrier : MethodName := ⟨RX7, "carrier", "(II)I"⟩
abbrev cX7_hasDelay : ByteArray := prog_9_method_47_code
def yX7_hasDelay : MethodName := ⟨RX7, "hasDelay", "(I)Z"⟩
abbrev cX7_delayOf : ByteArray := prog_9_method_48_code
def yX7_delayOf : MethodName := ⟨RX7, "delayOf", "(I)I"⟩
abbrev cX7_less : ByteArray := prog_9_method_49_code
def yX7_less : MethodName := ⟨RX7, "less", "(I)I"⟩
abbrev cX7_bundle : ByteArray := prog_9_method_50_code
def yX7_bundle : MethodName := ⟨RX7, "bundle", "(II)I"⟩
abbrev cX7_arrival : ByteArray := prog_9_method_51_code
def yX7_arrival : MethodName := ⟨RX7, "arrival", "(II)I"⟩
abbrev cX7_meeting : ByteArray := prog_9_method_52_code
def yX7_meeting : MethodName := ⟨RX7, "meeting", "(IIZ)I"⟩
abbrev cX7_illOnes : ByteArray := prog_9_method_53_code
def yX7_illOnes : MethodName := ⟨RX7, "illOnes", "()I"⟩
abbrev cX7_bundlesBy : ByteArray := prog_9_method_54_code
def yX7_bundlesBy : MethodName := ⟨RX7, "bundlesBy", "(I)I"⟩
abbrev cX7_count : ByteArray := prog_9_method_55_code
def yX7_count : MethodName := ⟨RX7, "count", "(I)I"⟩
abbrev cX7_lateness : ByteArray := prog_9_method_56_code
def yX7_lateness : MethodName := ⟨RX7, "lateness", "()D"⟩
abbrev cX7_ifPosted : ByteArray := prog_9_method_57_code
def yX7_ifPosted : MethodName := ⟨RX7, "ifPosted", "(III)I"⟩
abbrev cX7_bestDay : ByteArray := prog_9_method_58_code
def yX7_bestDay : MethodName := ⟨RX7, "bestDay", "(II)I"⟩
abbrev cX7_bestTown : ByteArray := prog_9_method_59_code
def yX7_bestTown : MethodName := ⟨RX7, "bestTown", "(I)I"⟩
abbrev cX7_ifPassed : ByteArray := prog_9_method_60_code
def yX7_ifPassed : MethodName := ⟨RX7, "ifPassed", "(II)I"⟩
abbrev cX7_undo : ByteArray := prog_9_method_61_code
def yX7_undo : MethodName := ⟨RX7, "undo", "()I"⟩
abbrev cX7_save : ByteArray := prog_9_method_62_code
def yX7_save : MethodName := ⟨RX7, "save", "()I"⟩
abbrev cX7_restore : ByteArray := prog_9_method_63_code
def yX7_restore : MethodName := ⟨RX7, "restore", "()I"⟩
def RJ9 : String := "java/lang/Math"
abbrev cJ9_min_7cf53 : ByteArray := prog_10_method_69_code
def yJ9_min_7cf53 : MethodName := ⟨RJ9, "min", "(II)I"⟩
def RJ7 : String := "java/util/Arrays"
abbrev cJ7_fill_53178 : ByteArray := prog_11_method_103_code
def yJ7_fill_53178 : MethodName := ⟨RJ7, "fill", "([II)V"⟩
def RL : String := "MovedStallsLaw"
abbrev cL_law : ByteArray := code
def yL_law : MethodName := ⟨RL, "law", "([I)Z"⟩
abbrev vwCl : List vw_C := [(RX0, TX0, 8), (RX1, TX1, 6), (RX2, TX2, 4), (RX3, TX3, 2), (RX4, TX4, 2), (RX5, TX5, 12), (RX6, TX6, 7), (RX7, TX7, 12)]
end
section
/-! the small heap: what the cells that the law makes hold; a cell is a number, a reference is a number or none -/
abbrev mv_Hp : Type := List (Nat × Nat) × Nat × (Nat → Nat → Int32) × (Nat → Nat → Option Nat)
abbrev mv_M (α : Type) : Type := mv_Hp → Option (α × mv_Hp)
def mv_pu {α : Type} (a : α) : mv_M α := fun h => some (a, h)
def mv_fl {α : Type} : mv_M α := fun _ => none
def mv_bd {α β : Type} (f : mv_M α) (g : α → mv_M β) : mv_M β := fun h => match f h with
  | none => none
  | some q => g q.1 q.2
def mv_u2 {α : Type} (f : Nat → Nat → α) (i k : Nat) (v : α) : Nat → Nat → α := fun a b => if a = i then (if b = k then v else f a b) else f a b
def mv_u1 {α : Type} (f : Nat → Nat → α) (i : Nat) (v : α) : Nat → Nat → α := fun a b => if a = i then v else f a b
/-- an int field (class c of n slots, slot k); a reference field; their writes; a boolean's -/
def mv_gI (c n k : Nat) (r : Option Nat) : mv_M Int32 := fun h => match r with
  | none => none
  | some i => if h.1[i]? = some (c, n) then some (h.2.2.1 i k, h) else none
def mv_gR (c n k : Nat) (r : Option Nat) : mv_M (Option Nat) := fun h => match r with
  | none => none
  | some i => if h.1[i]? = some (c, n) then some (h.2.2.2 i k, h) else none
def mv_sI (c n k : Nat) (r : Option Nat) (v : Int32) : mv_M Unit := fun h => match r with
  | none => none
  | some i => if h.1[i]? = some (c, n) then some ((), (h.1, h.2.1, mv_u2 h.2.2.1 i k v, h.2.2.2)) else none
def mv_sZ (c n k : Nat) (r : Option Nat) (v : Int32) : mv_M Unit := fun h => match r with
  | none => none
  | some i => if h.1[i]? = some (c, n) ∧ (v = 0 ∨ v = 1) then some ((), (h.1, h.2.1, mv_u2 h.2.2.1 i k v, h.2.2.2)) else none
def mv_sR (c n k : Nat) (r : Option Nat) (v : Option Nat) : mv_M Unit := fun h => match r with
  | none => none
  | some i => if h.1[i]? = some (c, n) then some ((), (h.1, h.2.1, h.2.2.1, mv_u2 h.2.2.2 i k v)) else none
/-- the receiver of a call: of class c -/
def mv_rc (c n : Nat) (r : Option Nat) : mv_M Nat := fun h => match r with
  | none => none
  | some i => if h.1[i]? = some (c, n) then some (i, h) else none
/-- arrays: kind 8 of ints, 9 .. 11 of references -/
def mv_aL (r : Option Nat) : mv_M Int32 := fun h => match r with
  | none => none
  | some i => match h.1[i]? with
    | none => none
    | some q => if 8 ≤ q.1 ∧ q.1 < 12 then some (Int32.ofNat q.2, h) else none
def mv_aI (r : Option Nat) (j : Int32) : mv_M Int32 := fun h => match r with
  | none => none
  | some i => match h.1[i]? with
    | none => none
    | some q => if q.1 = 8 ∧ ¬ (j < 0 ∨ q.2 ≤ j.toNatClampNeg) then some (h.2.2.1 i j.toNatClampNeg, h) else none
def mv_aS (r : Option Nat) (j v : Int32) : mv_M Unit := fun h => match r with
  | none => none
  | some i => match h.1[i]? with
    | none => none
    | some q => if q.1 = 8 ∧ ¬ (j < 0 ∨ q.2 ≤ j.toNatClampNeg) then some ((), (h.1, h.2.1, mv_u2 h.2.2.1 i j.toNatClampNeg v, h.2.2.2)) else none
def mv_aR (t : Nat) (r : Option Nat) (j : Int32) : mv_M (Option Nat) := fun h => match r with
  | none => none
  | some i => match h.1[i]? with
    | none => none
    | some q => if q.1 = 8 + t ∧ ¬ (j < 0 ∨ q.2 ≤ j.toNatClampNeg) then some (h.2.2.2 i j.toNatClampNeg, h) else none
def mv_aT (t c n : Nat) (r : Option Nat) (j : Int32) (v : Option Nat) : mv_M Unit := fun h => match r with
  | none => none
  | some i => match h.1[i]? with
    | none => none
    | some q => match v with
      | none => none
      | some x => if q.1 = 8 + t ∧ ¬ (j < 0 ∨ q.2 ≤ j.toNatClampNeg) ∧ h.1[x]? = some (c, n) then some ((), (h.1, h.2.1, h.2.2.1, mv_u2 h.2.2.2 i j.toNatClampNeg (some x))) else none
/-- a new cell of kind c and n slots -/
def mv_nw (c n : Nat) : mv_M (Option Nat) := fun h => some (some h.1.length, (h.1 ++ [(c, n)], h.2.1 + n, mv_u1 h.2.2.1 h.1.length 0, mv_u1 h.2.2.2 h.1.length none))
def mv_nA (c : Nat) (x : Int32) : mv_M (Option Nat) := fun h => if x < 0 ∨ 65536 < x.toNatClampNeg then none else mv_nw c x.toNatClampNeg h
def mv_rz (x : Int32) : mv_M Int32 := if x = 0 ∨ x = 1 then mv_pu x else mv_fl
def mv_rm (x y : Int32) : mv_M Int32 := if y = 0 then mv_fl else mv_pu (x - x / y * y)
def mv_dd (x y : UInt64) : mv_M UInt64 := if FP.ddiv x y &&& 0x7fffffffffffffff ≤ 0x7ff0000000000000 then mv_pu (FP.ddiv x y) else mv_fl
/-- which slots of a class hold references -/
def mv_rs (c k : Nat) : Bool := match c with
  | 1 => k == 0
  | 2 => k == 0
  | 3 => k == 0
  | 4 => k == 0
  | 5 => k == 0 || k == 1 || k == 2
  | 6 => k == 0 || k == 1 || k == 2 || k == 3 || k == 4 || k == 5
  | 7 => k == 0 || k == 1 || k == 2 || k == 4 || k == 6 || k == 11
  | _ => false
/-- it only grows -/
def mv_Gr {α : Type} (f : mv_M α) : Prop := ∀ h v h', f h = some (v, h') → h.1.length ≤ h'.1.length ∧ h.2.1 ≤ h'.2.1
abbrev mv_vr (N0 : Nat) (r : Option Nat) : Value := va_rf (r.map (fun i => N0 + i))
def mv_cE (N0 : Nat) (dA : Nat → ClassId) (h : mv_Hp) (i : Nat) (q : Nat × Nat) : va_E :=
  if q.1 < 8 then .inr (q.1, (List.range q.2).map (fun k => if mv_rs q.1 k = true then mv_vr N0 (h.2.2.2 i k) else .int (h.2.2.1 i k)))
  else if q.1 = 8 then .inl (dA 0, q.2, .inl (h.2.2.1 i)) else .inl (dA (q.1 - 8), q.2, .inr (.inr (.inr (.inr (fun k => (h.2.2.2 i k).map (fun i => N0 + i))))))
def mv_ws (N0 : Nat) (dA : Nat → ClassId) (h : mv_Hp) : va_W := (List.range h.1.length).map fun i => (N0 + i, mv_cE N0 dA h i (h.1.getD i (0, 0)))
def mv_ty (dA : Nat → ClassId) : List (ClassId × FieldType) := [(dA 0, .int), (dA 1, .object RX5), (dA 2, .object RX1), (dA 3, .object RX0)]
theorem mv_ws_get {N0 : Nat} {dA : Nat → ClassId} {h : mv_Hp} {i : Nat} {q : Nat × Nat} (hq : h.1[i]? = some q) : (mv_ws N0 dA h)[i]? = some (N0 + i, mv_cE N0 dA h i q) := by
  have hl : i < h.1.length := (List.getElem?_eq_some_iff.mp hq).1
  unfold mv_ws
  rw [List.getElem?_map, List.getElem?_range hl]
  simp [List.getD, hq]
theorem mv_ws_len {N0 : Nat} {dA : Nat → ClassId} {h : mv_Hp} : (mv_ws N0 dA h).length = h.1.length := by simp [mv_ws]
theorem mv_ws_of {N0 : Nat} {dA : Nat → ClassId} {h : mv_Hp} {i : Nat} {e : Nat × va_E} (he : (mv_ws N0 dA h)[i]? = some e) : ∃ q, h.1[i]? = some q ∧ e = (N0 + i, mv_cE N0 dA h i q) := by
  have hl : i < h.1.length := by
    have := (List.getElem?_eq_some_iff.mp he).1
    rwa [mv_ws_len] at this
  refine ⟨h.1[i], List.getElem?_eq_getElem hl, ?_⟩
  have h1 := mv_ws_get (N0 := N0) (dA := dA) (List.getElem?_eq_getElem hl)
  rw [h1] at he
  exact (Option.some.inj he).symm
theorem mv_ws_D (N0 : Nat) (dA : Nat → ClassId) (h : mv_Hp) : va_D (fun q : Nat => N0 ≤ q) (mv_ws N0 dA h) := by
  refine ⟨fun i j p q hi hj e => ?_, fun k q hk => ?_⟩
  · obtain ⟨a, -, rfl⟩ := mv_ws_of hi
    obtain ⟨b, -, rfl⟩ := mv_ws_of hj
    have e1 : N0 + i = N0 + j := e
    omega
  · obtain ⟨a, -, rfl⟩ := mv_ws_of hk
    exact Nat.le_add_right _ _
theorem mv_ws_set {N0 : Nat} {dA : Nat → ClassId} {h h' : mv_Hp} {i : Nat} {q : Nat × Nat} {e : va_E} (hk : h'.1 = h.1) (hq : h.1[i]? = some q) (he : mv_cE N0 dA h' i q = e) (ho : ∀ j q, j ≠ i → mv_cE N0 dA h' j q = mv_cE N0 dA h j q) : (mv_ws N0 dA h).set i (N0 + i, e) = mv_ws N0 dA h' := by
  apply List.ext_getElem?
  intro j
  by_cases hj : j < h.1.length
  · have hj2 := List.getElem?_eq_getElem hj
    rw [mv_ws_get (h := h') (q := h.1[j]) (by rw [hk]; exact hj2)]
    by_cases e1 : i = j
    · subst e1
      rw [List.getElem?_set_self (by rw [mv_ws_len]; exact hj)]
      rw [hq] at hj2
      rw [← Option.some.inj hj2, he]
    · rw [List.getElem?_set_ne e1, mv_ws_get hj2, ho j _ (fun z => e1 z.symm)]
  · rw [List.getElem?_eq_none (by rw [List.length_set, mv_ws_len]; omega), List.getElem?_eq_none (by rw [mv_ws_len, hk]; omega)]
theorem mv_ws_push {N0 : Nat} {dA : Nat → ClassId} {h h' : mv_Hp} {q : Nat × Nat} {e : va_E} (hk : h'.1 = h.1 ++ [q]) (he : mv_cE N0 dA h' h.1.length q = e) (ho : ∀ j q, j ≠ h.1.length → mv_cE N0 dA h' j q = mv_cE N0 dA h j q) : mv_ws N0 dA h ++ [(N0 + h.1.length, e)] = mv_ws N0 dA h' := by
  apply List.ext_getElem?
  intro j
  by_cases hj : j < h.1.length
  · have hj2 := List.getElem?_eq_getElem hj
    rw [List.getElem?_append_left (by rw [mv_ws_len]; exact hj), mv_ws_get hj2, mv_ws_get (h := h') (q := h.1[j]) (by rw [hk, List.getElem?_append_left hj]; exact hj2), ho j _ (by omega)]
  · by_cases e1 : j = h.1.length
    · subst e1
      rw [mv_ws_get (h := h') (q := q) (by rw [hk]; simp), he]
      rw [List.getElem?_append_right (by rw [mv_ws_len]; exact Nat.le_refl _), mv_ws_len]
      simp
    · rw [List.getElem?_eq_none (by simp [mv_ws_len]; omega), List.getElem?_eq_none (by rw [mv_ws_len, hk]; simp; omega)]

/-- the words of members of nest mates -/
def mv_nest : List Cond := [.methodLinkNest "MovedStalls$Roads" 34 ⟨"MovedStalls$Carrier", "<init>", "()V"⟩ "MovedStalls", .fieldLinkNest "MovedStalls$Roads" 92 "MovedStalls$Carrier" "tour" "[I" "MovedStalls", .fieldLinkNest "MovedStalls$Roads" 86 "MovedStalls$Carrier" "length" "I" "MovedStalls", .fieldLinkNest "MovedStalls" 140 "MovedStalls$Carrier" "length" "I" "MovedStalls", .fieldLinkNest "MovedStalls" 72 "MovedStalls$Carrier" "roughness" "I" "MovedStalls", .fieldLinkNest "MovedStalls$Roads" 149 "MovedStalls$Carrier" "roughness" "I" "MovedStalls", .fieldLinkNest "MovedStalls" 67 "MovedStalls$Carrier" "aboutAgain" "I" "MovedStalls", .fieldLinkNest "MovedStalls$Roads" 89 "MovedStalls$Carrier" "aboutAgain" "I" "MovedStalls", .fieldLinkNest "MovedStalls" 147 "MovedStalls$Carrier" "changes" "I" "MovedStalls", .fieldLinkNest "MovedStalls$Roads" 148 "MovedStalls$Carrier" "changes" "I" "MovedStalls", .fieldLinkNest "MovedStalls" 150 "MovedStalls$Carrier" "broken" "I" "MovedStalls", .fieldLinkNest "MovedStalls$Roads" 152 "MovedStalls$Carrier" "broken" "I" "MovedStalls", .methodLinkNest "MovedStalls$Roads" 35 ⟨"MovedStalls$Bundle", "<init>", "()V"⟩ "MovedStalls", .fieldLinkNest "MovedStalls$Foresight" 32 "MovedStalls$Bundle" "to" "I" "MovedStalls", .fieldLinkNest "MovedStalls" 153 "MovedStalls$Bundle" "to" "I" "MovedStalls", .fieldLinkNest "MovedStalls$Roads" 120 "MovedStalls$Bundle" "to" "I" "MovedStalls", .fieldLinkNest "MovedStalls$Foresight" 29 "MovedStalls$Bundle" "town" "I" "MovedStalls", .fieldLinkNest "MovedStalls" 158 "MovedStalls$Bundle" "town" "I" "MovedStalls", .fieldLinkNest "MovedStalls$Roads" 106 "MovedStalls$Bundle" "town" "I" "MovedStalls", .fieldLinkNest "MovedStalls$Foresight" 61 "MovedStalls$Bundle" "hand" "I" "MovedStalls", .fieldLinkNest "MovedStalls$Roads" 99 "MovedStalls$Bundle" "hand" "I" "MovedStalls", .fieldLinkNest "MovedStalls" 161 "MovedStalls$Bundle" "hand" "I" "MovedStalls", .fieldLinkNest "MovedStalls$Foresight" 24 "MovedStalls$Bundle" "arrivedOn" "I" "MovedStalls", .fieldLinkNest "MovedStalls" 164 "MovedStalls$Bundle" "arrivedOn" "I" "MovedStalls", .fieldLinkNest "MovedStalls$Roads" 109 "MovedStalls$Bundle" "arrivedOn" "I" "MovedStalls", .fieldLinkNest "MovedStalls" 167 "MovedStalls$Bundle" "promise" "I" "MovedStalls", .fieldLinkNest "MovedStalls" 174 "MovedStalls$Bundle" "broken" "Z" "MovedStalls", .fieldLinkNest "MovedStalls$Roads" 112 "MovedStalls$Bundle" "broken" "Z" "MovedStalls", .fieldLinkNest "MovedStalls" 177 "MovedStalls$Bundle" "changes" "I" "MovedStalls", .fieldLinkNest "MovedStalls$Roads" 147 "MovedStalls$Bundle" "changes" "I" "MovedStalls", .fieldLinkNest "MovedStalls" 178 "MovedStalls$Bundle" "postedOn" "I" "MovedStalls", .fieldLinkNest "MovedStalls" 121 "MovedStalls$Roads" "carrierCount" "I" "MovedStalls", .fieldLinkNest "MovedStalls$Foresight" 50 "MovedStalls$Roads" "bundleCount" "I" "MovedStalls", .fieldLinkNest "MovedStalls" 82 "MovedStalls$Roads" "bundleCount" "I" "MovedStalls", .fieldLinkNest "MovedStalls$Foresight" 35 "MovedStalls$Roads" "today" "I" "MovedStalls", .fieldLinkNest "MovedStalls" 63 "MovedStalls$Roads" "today" "I" "MovedStalls", .fieldLinkNest "MovedStalls" 75 "MovedStalls$Roads" "load" "I" "MovedStalls", .fieldLinkNest "MovedStalls" 210 "MovedStalls$Roads" "lot" "I" "MovedStalls", .fieldLinkNest "MovedStalls" 203 "MovedStalls$Roads" "posted" "I" "MovedStalls", .fieldLinkNest "MovedStalls" 101 "MovedStalls$Roads" "arrivals" "I" "MovedStalls", .fieldLinkNest "MovedStalls" 206 "MovedStalls$Roads" "forgotten" "I" "MovedStalls", .fieldLinkNest "MovedStalls" 209 "MovedStalls$Roads" "changes" "I" "MovedStalls", .fieldLinkNest "MovedStalls" 213 "MovedStalls$History" "length" "I" "MovedStalls", .methodLinkNest "MovedStalls" 31 ⟨"MovedStalls$Pad", "<init>", "()V"⟩ "MovedStalls", .fieldLinkNest "MovedStalls" 108 "MovedStalls$Pad" "length" "I" "MovedStalls", .methodLinkNest "MovedStalls" 38 ⟨"MovedStalls$Foresight", "<init>", "()V"⟩ "MovedStalls", .fieldLinkNest "MovedStalls" 224 "MovedStalls$Foresight" "found" "I" "MovedStalls", .fieldLinkNest "MovedStalls" 227 "MovedStalls$Foresight" "sum" "I" "MovedStalls"]
def mv_isN : Cond → Bool
  | .fieldLinkNest _ _ _ _ _ _ => true
  | .methodLinkNest _ _ _ _ => true
  | _ => false
theorem mv_nest_all : mv_nest.all mv_isN = true := by decide +kernel
theorem mv_isN_same {w : Cond} (hw : mv_isN w = true) {u U : State} (h : u.vm = U.vm) (hZ : va_Nw w u) : va_Nw w U := by
  cases w <;> first | exact va_Nw.same rfl h hZ | (cases hw; done)
theorem mv_isN_warm {w : Cond} (hw : mv_isN w = true) {s U : State} (hW : s.WarmedH U.vm) (hZ : va_Nw w s) : va_Nw w U := by
  cases w <;> first | exact va_Nw.warmF hW hZ | exact va_Nw.warmM hW hZ | (cases hw; done)
def mv_NW (U : State) : Prop := (∀ w ∈ mv_nest, va_Nw w U) ∧ va_AO RX5 U ∧ va_AO RX1 U ∧ va_AO RX0 U
theorem mv_NW.same {u U : State} (h : u.vm = U.vm) (hN : mv_NW u) : mv_NW U := ⟨fun w hw => mv_isN_same (List.all_eq_true.mp mv_nest_all w hw) h (hN.1 w hw), hN.2.1.moved (by rw [h]; exact Vm.Alike.refl _), hN.2.2.1.moved (by rw [h]; exact Vm.Alike.refl _), hN.2.2.2.moved (by rw [h]; exact Vm.Alike.refl _)⟩
theorem mv_NW.warm {s U : State} (hW : s.WarmedH U.vm) (hN : mv_NW s) : mv_NW U := ⟨fun w hw => mv_isN_warm (List.all_eq_true.mp mv_nest_all w hw) hW (hN.1 w hw), hN.2.1.moved hW.alike, hN.2.2.1.moved hW.alike, hN.2.2.2.moved hW.alike⟩
def mv_wA : List Cond := lw_tbl.filter goodWord
theorem mv_wA_of {w : Cond} (h : w ∈ lw_tbl) (hg : goodWord w = true) : w ∈ mv_wA := List.mem_filter.mpr ⟨h, hg⟩
theorem mv_t1 {w : Cond} (h : w ∈ tables_1_1) : w ∈ lw_tbl := List.mem_append_right _ (List.mem_append_left _ h)
theorem mv_t2 {w : Cond} (h : w ∈ tables_1_2) : w ∈ lw_tbl := List.mem_append_right _ (List.mem_append_right _ (List.mem_append_left _ h))
theorem mv_t3 {w : Cond} (h : w ∈ tables_1_3) : w ∈ lw_tbl := List.mem_append_right _ (List.mem_append_right _ (List.mem_append_right _ (List.mem_append_left _ h)))
theorem mv_t4 {w : Cond} (h : w ∈ tables_1_4) : w ∈ lw_tbl := List.mem_append_right _ (List.mem_append_right _ (List.mem_append_right _ (List.mem_append_right _ h)))
theorem mv_ts {w : Cond} (h : w ∈ k2_sels lw_privs) : w ∈ lw_tbl := List.mem_append_left _ h
theorem mv_good : mv_wA.all goodWord = true := List.all_eq_true.mpr fun w h => (List.mem_filter.mp h).2
/-- what stays in a method: the machine, its code, its words, the classes -/
def mv_Cx (N0 : Nat) (D : va_G) (dA : Nat → ClassId) (own : String) (cc : ByteArray) (nL : Nat) (ret : Option FieldType) (ini : Bool) (p : Program) (s : State) (m : MethodId) (args : Array Value) (meth : Method) (c : Code) (n0 : Nat) : Prop :=
  p.tables.exec = Jvm.exec ∧ c.code = cc ∧ c.maxLocals = nL ∧ s.vm.findClass own = some m.cls ∧ (∀ w ∈ mv_wA, w.before args s = true) ∧ meth.sig.returnType = ret ∧ meth.locks = false ∧ (ini = true → meth.name = "<init>") ∧ va_K D vwCl (mv_ty dA) s ∧ mv_NW s ∧ s.heap.size = N0 + n0
def mv_Pc (N0 : Nat) (D : va_G) (dA : Nat → ClassId) (av : List Value) (h : mv_Hp) : Array Value → State → Prop := fun a U => a = av.toArray ∧ U.heap.size = N0 + h.1.length ∧ va_P D vwCl (mv_ws N0 dA h) U.heap ∧ va_K D vwCl (mv_ty dA) U ∧ mv_NW U
def mv_Qc {α : Type} (N0 : Nat) (D : va_G) (dA : Nat → ClassId) (rv : α → Option Value) (v : α) (h' : mv_Hp) : Array Value → State → Outcome → State → Prop := fun _ st o t => o = .returned (rv v) ∧ va_P D vwCl (mv_ws N0 dA h') t.heap ∧ va_F (fun q : Nat => N0 ≤ q) st t
/-- the walk from pc on does what f says -/
def mv_Sw (l : Launch) (N0 : Nat) (D : va_G) (dA : Nat → ClassId) (own : String) (cc : ByteArray) (nL fr lo : Nat) (ret : Option FieldType) (ini : Bool) {α : Type} (rv : α → Option Value) (pc : Nat) (L : List (Nat × Value)) (st : List Value) (f : mv_M α) : Prop :=
  ∀ (p : Program) (e : Env) (s : State) (m : MethodId) (args : Array Value) (below : List Frame) (meth : Method) (c : Code) (n0 s0 : Nat), mv_Cx N0 D dA own cc nL ret ini p s m args meth c n0 →
    ∀ (h : mv_Hp) (H : Heap) (locs : List Loc) (ls : Array Slot) (v : α) (h' : mv_Hp), n0 ≤ h.1.length → s0 ≤ h.2.1 → va_P D vwCl (mv_ws N0 dA h) H → va_S (fun q : Nat => N0 ≤ q) s.heap H locs → lv_has ls nL L → (∀ q ∈ L, q.2.category = 1) → f h = some (v, h') →
      W p l e { frames := fr, cells := h'.1.length - n0, slots := h'.2.1 - s0, locals := lo } s m args below meth c H locs (h.1.length - n0) (h.2.1 - s0) (MQ below (mv_Qc N0 D dA rv v h') args s (h'.1.length - n0) (h'.2.1 - s0) (fun q : Nat => N0 ≤ q)) (F0 m pc ls st)
def mv_Sim (l : Launch) (N0 : Nat) (D : va_G) (dA : Nat → ClassId) (own : String) (cc : ByteArray) (nL fr lo : Nat) (ret : Option FieldType) (ini : Bool) {α : Type} (rv : α → Option Value) (pc : Nat) (L : List (Nat × Value)) (st : List Value) (f : mv_M α) : Prop :=
  mv_Gr f ∧ mv_Sw l N0 D dA own cc nL fr lo ret ini rv pc L st f
/-- a whole method -/
def mv_SimM (l : Launch) (N0 : Nat) (D : va_G) (dA : Nat → ClassId) (y : MethodName) (cc : ByteArray) (nL : Nat) (ret : Option FieldType) (fr lo : Nat) {α : Type} (rv : α → Option Value) (av : List Value) (f : mv_M α) : Prop :=
  mv_Gr f ∧ ∀ (h : mv_Hp) (v : α) (h' : mv_Hp), f h = some (v, h') → Met l y (.code y cc nL ret :: mv_wA) { frames := fr, cells := h'.1.length - h.1.length, slots := h'.2.1 - h.2.1, locals := lo } (mv_Pc N0 D dA av h) (mv_Qc N0 D dA rv v h') (h'.1.length - h.1.length) (h'.2.1 - h.2.1) (fun q : Nat => N0 ≤ q)
def mv_rI : Int32 → Option Value := fun x => some (.int x)
def mv_rV : Unit → Option Value := fun _ => none
def mv_rR (N0 : Nat) : Option Nat → Option Value := fun r => some (mv_vr N0 r)
def mv_rD : UInt64 → Option Value := fun x => some (.double x)
theorem mv_cat (N0 : Nat) (r : Option Nat) : (mv_vr N0 r).category = 1 := by cases r <;> rfl
theorem mv_Gr.pu {α : Type} (a : α) : mv_Gr (mv_pu a) := fun h v h' e => by cases e; exact ⟨Nat.le_refl _, Nat.le_refl _⟩
theorem mv_Gr.fl {α : Type} : mv_Gr (mv_fl : mv_M α) := fun h v h' e => by cases e
theorem mv_Gr.bd {α β : Type} {f : mv_M α} {g : α → mv_M β} (hf : mv_Gr f) (hg : ∀ a, mv_Gr (g a)) : mv_Gr (mv_bd f g) := fun h v h' e => by
  unfold mv_bd at e
  cases h1 : f h with
  | none => rw [h1] at e; cases e
  | some q =>
    rw [h1] at e
    have a1 := hf h q.1 q.2 h1
    have a2 := hg q.1 q.2 v h' e
    exact ⟨Nat.le_trans a1.1 a2.1, Nat.le_trans a1.2 a2.2⟩
theorem mv_Gr.ite {α : Type} {c : Prop} [Decidable c] {f g : mv_M α} (hf : mv_Gr f) (hg : mv_Gr g) : mv_Gr (if c then f else g) := by
  by_cases h : c
  · rw [if_pos h]; exact hf
  · rw [if_neg h]; exact hg
/-- a read: the heap stays -/
theorem mv_Gr.rd {α : Type} {f : mv_M α} (hf : ∀ h v h', f h = some (v, h') → h'.1 = h.1 ∧ h'.2.1 = h.2.1) : mv_Gr f := fun h v h' e => by
  obtain ⟨a, b⟩ := hf h v h' e
  exact ⟨by rw [a]; exact Nat.le_refl _, by rw [b]; exact Nat.le_refl _⟩
theorem mv_gI_of {c n k : Nat} {r : Option Nat} {h : mv_Hp} {v : Int32} {h' : mv_Hp} (e : mv_gI c n k r h = some (v, h')) : ∃ i, r = some i ∧ h.1[i]? = some (c, n) ∧ v = h.2.2.1 i k ∧ h = h' := by
  cases r with
  | none => cases e
  | some i =>
    unfold mv_gI at e
    dsimp only at e
    split at e
    · next q => cases e; exact ⟨i, rfl, q, rfl, rfl⟩
    · cases e
theorem mv_gR_of {c n k : Nat} {r : Option Nat} {h : mv_Hp} {v : Option Nat} {h' : mv_Hp} (e : mv_gR c n k r h = some (v, h')) : ∃ i, r = some i ∧ h.1[i]? = some (c, n) ∧ v = h.2.2.2 i k ∧ h = h' := by
  cases r with
  | none => cases e
  | some i =>
    unfold mv_gR at e
    dsimp only at e
    split at e
    · next q => cases e; exact ⟨i, rfl, q, rfl, rfl⟩
    · cases e
theorem mv_rc_of {c n : Nat} {r : Option Nat} {h : mv_Hp} {v : Nat} {h' : mv_Hp} (e : mv_rc c n r h = some (v, h')) : r = some v ∧ h.1[v]? = some (c, n) ∧ h = h' := by
  cases r with
  | none => cases e
  | some i =>
    unfold mv_rc at e
    dsimp only at e
    split at e
    · next q => cases e; exact ⟨rfl, q, rfl⟩
    · cases e
theorem mv_sI_of {c n k : Nat} {r : Option Nat} {x : Int32} {h : mv_Hp} {v : Unit} {h' : mv_Hp} (e : mv_sI c n k r x h = some (v, h')) : ∃ i, r = some i ∧ h.1[i]? = some (c, n) ∧ h' = (h.1, h.2.1, mv_u2 h.2.2.1 i k x, h.2.2.2) := by
  cases r with
  | none => cases e
  | some i =>
    unfold mv_sI at e
    dsimp only at e
    split at e
    · next q => cases e; exact ⟨i, rfl, q, rfl⟩
    · cases e
theorem mv_sZ_of {c n k : Nat} {r : Option Nat} {x : Int32} {h : mv_Hp} {v : Unit} {h' : mv_Hp} (e : mv_sZ c n k r x h = some (v, h')) : ∃ i, r = some i ∧ h.1[i]? = some (c, n) ∧ (x = 0 ∨ x = 1) ∧ h' = (h.1, h.2.1, mv_u2 h.2.2.1 i k x, h.2.2.2) := by
  cases r with
  | none => cases e
  | some i =>
    unfold mv_sZ at e
    dsimp only at e
    split at e
    · next q => cases e; exact ⟨i, rfl, q.1, q.2, rfl⟩
    · cases e
theorem mv_sR_of {c n k : Nat} {r x : Option Nat} {h : mv_Hp} {v : Unit} {h' : mv_Hp} (e : mv_sR c n k r x h = some (v, h')) : ∃ i, r = some i ∧ h.1[i]? = some (c, n) ∧ h' = (h.1, h.2.1, h.2.2.1, mv_u2 h.2.2.2 i k x) := by
  cases r with
  | none => cases e
  | some i =>
    unfold mv_sR at e
    dsimp only at e
    split at e
    · next q => cases e; exact ⟨i, rfl, q, rfl⟩
    · cases e
theorem mv_aL_of {r : Option Nat} {h : mv_Hp} {v : Int32} {h' : mv_Hp} (e : mv_aL r h = some (v, h')) : ∃ i q, r = some i ∧ h.1[i]? = some q ∧ 8 ≤ q.1 ∧ q.1 < 12 ∧ v = Int32.ofNat q.2 ∧ h = h' := by
  cases r with
  | none => cases e
  | some i =>
    unfold mv_aL at e
    dsimp only at e
    split at e
    · cases e
    · next q hq =>
      split at e
      · next hc => cases e; exact ⟨i, q, rfl, hq, hc.1, hc.2, rfl, rfl⟩
      · cases e
theorem mv_aI_of {r : Option Nat} {j : Int32} {h : mv_Hp} {v : Int32} {h' : mv_Hp} (e : mv_aI r j h = some (v, h')) : ∃ i n, r = some i ∧ h.1[i]? = some (8, n) ∧ vp_in j n ∧ v = h.2.2.1 i j.toNatClampNeg ∧ h = h' := by
  cases r with
  | none => cases e
  | some i =>
    unfold mv_aI at e
    dsimp only at e
    split at e
    · cases e
    · next q hq =>
      split at e
      · next hc => cases e; obtain ⟨a, n⟩ := q; obtain ⟨rfl, h2⟩ := hc; exact ⟨i, n, rfl, hq, h2, rfl, rfl⟩
      · cases e
theorem mv_aS_of {r : Option Nat} {j x : Int32} {h : mv_Hp} {v : Unit} {h' : mv_Hp} (e : mv_aS r j x h = some (v, h')) : ∃ i n, r = some i ∧ h.1[i]? = some (8, n) ∧ vp_in j n ∧ h' = (h.1, h.2.1, mv_u2 h.2.2.1 i j.toNatClampNeg x, h.2.2.2) := by
  cases r with
  | none => cases e
  | some i =>
    unfold mv_aS at e
    dsimp only at e
    split at e
    · cases e
    · next q hq =>
      split at e
      · next hc => cases e; obtain ⟨a, n⟩ := q; obtain ⟨rfl, h2⟩ := hc; exact ⟨i, n, rfl, hq, h2, rfl⟩
      · cases e
theorem mv_aR_of {t : Nat} {r : Option Nat} {j : Int32} {h : mv_Hp} {v : Option Nat} {h' : mv_Hp} (e : mv_aR t r j h = some (v, h')) : ∃ i n, r = some i ∧ h.1[i]? = some (8 + t, n) ∧ vp_in j n ∧ v = h.2.2.2 i j.toNatClampNeg ∧ h = h' := by
  cases r with
  | none => cases e
  | some i =>
    unfold mv_aR at e
    dsimp only at e
    split at e
    · cases e
    · next q hq =>
      split at e
      · next hc => cases e; obtain ⟨a, n⟩ := q; obtain ⟨h1, h2⟩ := hc; cases h1; exact ⟨i, n, rfl, hq, h2, rfl, rfl⟩
      · cases e
theorem mv_aT_of {t c k : Nat} {r x : Option Nat} {j : Int32} {h : mv_Hp} {v : Unit} {h' : mv_Hp} (e : mv_aT t c k r j x h = some (v, h')) : ∃ i n y, r = some i ∧ x = some y ∧ h.1[i]? = some (8 + t, n) ∧ vp_in j n ∧ h.1[y]? = some (c, k) ∧ h' = (h.1, h.2.1, h.2.2.1, mv_u2 h.2.2.2 i j.toNatClampNeg (some y)) := by
  cases r with
  | none => cases e
  | some i =>
    unfold mv_aT at e
    dsimp only at e
    split at e
    · cases e
    · next q hq =>
      cases x with
      | none => cases e
      | some y =>
        dsimp only at e
        split at e
        · next hc => cases e; obtain ⟨a, n⟩ := q; obtain ⟨h1, h2, h3⟩ := hc; cases h1; exact ⟨i, n, y, rfl, rfl, hq, h2, h3, rfl⟩
        · cases e
theorem mv_nA_of {c : Nat} {x : Int32} {h : mv_Hp} {v : Option Nat} {h' : mv_Hp} (e : mv_nA c x h = some (v, h')) : ¬ x < 0 ∧ x.toNatClampNeg ≤ 65536 ∧ mv_nw c x.toNatClampNeg h = some (v, h') := by
  unfold mv_nA at e
  split at e
  · cases e
  · next q => exact ⟨fun z => q (Or.inl z), Nat.le_of_not_lt (fun z => q (Or.inr z)), e⟩
theorem mv_bd_of {α β : Type} {f : mv_M α} {g : α → mv_M β} {h : mv_Hp} {v : β} {h' : mv_Hp} (e : mv_bd f g h = some (v, h')) : ∃ a h1, f h = some (a, h1) ∧ g a h1 = some (v, h') := by
  unfold mv_bd at e
  cases h1 : f h with
  | none => rw [h1] at e; cases e
  | some q => rw [h1] at e; exact ⟨q.1, q.2, rfl, e⟩
theorem mv_Gr.gI {c n k : Nat} {r : Option Nat} : mv_Gr (mv_gI c n k r) := .rd fun h v h' e => by obtain ⟨i, -, -, -, rfl⟩ := mv_gI_of e; exact ⟨rfl, rfl⟩
theorem mv_Gr.gR {c n k : Nat} {r : Option Nat} : mv_Gr (mv_gR c n k r) := .rd fun h v h' e => by obtain ⟨i, -, -, -, rfl⟩ := mv_gR_of e; exact ⟨rfl, rfl⟩
theorem mv_Gr.rc {c n : Nat} {r : Option Nat} : mv_Gr (mv_rc c n r) := .rd fun h v h' e => by obtain ⟨-, -, rfl⟩ := mv_rc_of e; exact ⟨rfl, rfl⟩
theorem mv_Gr.sI {c n k : Nat} {r : Option Nat} {x : Int32} : mv_Gr (mv_sI c n k r x) := .rd fun h v h' e => by obtain ⟨i, -, -, rfl⟩ := mv_sI_of e; exact ⟨rfl, rfl⟩
theorem mv_Gr.sZ {c n k : Nat} {r : Option Nat} {x : Int32} : mv_Gr (mv_sZ c n k r x) := .rd fun h v h' e => by obtain ⟨i, -, -, -, rfl⟩ := mv_sZ_of e; exact ⟨rfl, rfl⟩
theorem mv_Gr.sR {c n k : Nat} {r x : Option Nat} : mv_Gr (mv_sR c n k r x) := .rd fun h v h' e => by obtain ⟨i, -, -, rfl⟩ := mv_sR_of e; exact ⟨rfl, rfl⟩
theorem mv_Gr.aL {r : Option Nat} : mv_Gr (mv_aL r) := .rd fun h v h' e => by obtain ⟨i, q, -, -, -, -, -, rfl⟩ := mv_aL_of e; exact ⟨rfl, rfl⟩
theorem mv_Gr.aI {r : Option Nat} {j : Int32} : mv_Gr (mv_aI r j) := .rd fun h v h' e => by obtain ⟨i, n, -, -, -, -, rfl⟩ := mv_aI_of e; exact ⟨rfl, rfl⟩
theorem mv_Gr.aS {r : Option Nat} {j x : Int32} : mv_Gr (mv_aS r j x) := .rd fun h v h' e => by obtain ⟨i, n, -, -, -, rfl⟩ := mv_aS_of e; exact ⟨rfl, rfl⟩
theorem mv_Gr.aR {t : Nat} {r : Option Nat} {j : Int32} : mv_Gr (mv_aR t r j) := .rd fun h v h' e => by obtain ⟨i, n, -, -, -, -, rfl⟩ := mv_aR_of e; exact ⟨rfl, rfl⟩
theorem mv_Gr.aT {t c k : Nat} {r x : Option Nat} {j : Int32} : mv_Gr (mv_aT t c k r j x) := .rd fun h v h' e => by obtain ⟨i, n, y, -, -, -, -, -, rfl⟩ := mv_aT_of e; exact ⟨rfl, rfl⟩
theorem mv_Gr.nw {c n : Nat} : mv_Gr (mv_nw c n) := fun h v h' e => by cases e; exact ⟨by simp, Nat.le_add_right _ _⟩
theorem mv_Gr.nA {c : Nat} {x : Int32} : mv_Gr (mv_nA c x) := fun h v h' e => mv_Gr.nw h v h' (mv_nA_of e).2.2
theorem mv_Gr.rm {x y : Int32} : mv_Gr (mv_rm x y) := by unfold mv_rm; exact mv_Gr.ite mv_Gr.fl (mv_Gr.pu _)
theorem mv_Gr.dd {x y : UInt64} : mv_Gr (mv_dd x y) := by unfold mv_dd; exact mv_Gr.ite (mv_Gr.pu _) mv_Gr.fl
theorem mv_Gr.rz {x : Int32} : mv_Gr (mv_rz x) := by unfold mv_rz; exact mv_Gr.ite (mv_Gr.pu _) mv_Gr.fl
end
section
section MVR
variable {l : Launch} {N0 : Nat} {D : va_G} {dA : Nat → ClassId} {own : String} {cc : ByteArray} {nL fr lo : Nat} {ret : Option FieldType} {ini : Bool} {α : Type} {rv : α → Option Value} {pc q : Nat} {L : List (Nat × Value)} {st : List Value} {f : mv_M α}
theorem mv_fl_sim : mv_Sim l N0 D dA own cc nL fr lo ret ini rv pc L st (mv_fl : mv_M α) := ⟨mv_Gr.fl, fun p e s m args below meth c n0 s0 hC h H locs ls v h' g1 g2 hP hS hl hq hf => by cases hf⟩

theorem mv_iconst {n : Int} {v : Int32} (hdg : decode cc pc = .ok (.iconst n, 1)) (hv : Int32.ofInt n = v) (hp : pc + 1 = q) (kk : mv_Sim l N0 D dA own cc nL fr lo ret ini rv q L (.int v :: st) f) : mv_Sim l N0 D dA own cc nL fr lo ret ini rv pc L st f := by
  subst hp
  exact ⟨kk.1, fun p e s m args below meth c n0 s0 hC h H locs ls v h' g1 g2 hP hS hl hq hf => lv_iconst hC.1 hC.2.1 hdg hv (kk.2 p e s m args below meth c n0 s0 hC h H locs ls v h' g1 g2 hP hS hl hq hf)⟩

theorem mv_bipush {n : Int} {v : Int32} (hdg : decode cc pc = .ok (.bipush n, 2)) (hv : (Int8.ofInt n).toInt32 = v) (hp : pc + 2 = q) (kk : mv_Sim l N0 D dA own cc nL fr lo ret ini rv q L (.int v :: st) f) : mv_Sim l N0 D dA own cc nL fr lo ret ini rv pc L st f := by
  subst hp
  exact ⟨kk.1, fun p e s m args below meth c n0 s0 hC h H locs ls v h' g1 g2 hP hS hl hq hf => lv_bipush hC.1 hC.2.1 hdg hv (kk.2 p e s m args below meth c n0 s0 hC h H locs ls v h' g1 g2 hP hS hl hq hf)⟩

theorem mv_sipush {n : Int} {v : Int32} (hdg : decode cc pc = .ok (.sipush n, 3)) (hv : (Int16.ofInt n).toInt32 = v) (hp : pc + 3 = q) (kk : mv_Sim l N0 D dA own cc nL fr lo ret ini rv q L (.int v :: st) f) : mv_Sim l N0 D dA own cc nL fr lo ret ini rv pc L st f := by
  subst hp
  exact ⟨kk.1, fun p e s m args below meth c n0 s0 hC h H locs ls v h' g1 g2 hP hS hl hq hf => lv_sipush hC.1 hC.2.1 hdg hv (kk.2 p e s m args below meth c n0 s0 hC h H locs ls v h' g1 g2 hP hS hl hq hf)⟩

theorem mv_ldc {idx : Nat} {v : Int32} (hdg : decode cc pc = .ok (.ldc idx, 2)) (hw : Cond.constant own idx v ∈ mv_wA) (hp : pc + 2 = q) (kk : mv_Sim l N0 D dA own cc nL fr lo ret ini rv q L (.int v :: st) f) : mv_Sim l N0 D dA own cc nL fr lo ret ini rv pc L st f := by
  subst hp
  exact ⟨kk.1, fun p e s m args below meth c n0 s0 hC h H locs ls v h' g1 g2 hP hS hl hq hf => lv_ldc hC.1 hC.2.1 hC.2.2.2.1 (hC.2.2.2.2.1 _ hw) hdg (kk.2 p e s m args below meth c n0 s0 hC h H locs ls v h' g1 g2 hP hS hl hq hf)⟩

theorem mv_iload_n {k : Fin 4} {i : Nat} {x : Int32} (j : Nat) (hdg : decode cc pc = .ok (.iload_n k, 1)) (hi : (k : Nat) = i) (hj : L[j]? = some (i, .int x)) (hp : pc + 1 = q) (kk : mv_Sim l N0 D dA own cc nL fr lo ret ini rv q L (.int x :: st) f) : mv_Sim l N0 D dA own cc nL fr lo ret ini rv pc L st f := by
  subst hp
  exact ⟨kk.1, fun p e s m args below meth c n0 s0 hC h H locs ls v h' g1 g2 hP hS hl hq hf => lv_iload_n hC.1 hC.2.1 hdg hi (lv_at hl j hj) (kk.2 p e s m args below meth c n0 s0 hC h H locs ls v h' g1 g2 hP hS hl hq hf)⟩

theorem mv_iload {i : Nat} {x : Int32} (j : Nat) (hdg : decode cc pc = .ok (.iload i, 2)) (hj : L[j]? = some (i, .int x)) (hp : pc + 2 = q) (kk : mv_Sim l N0 D dA own cc nL fr lo ret ini rv q L (.int x :: st) f) : mv_Sim l N0 D dA own cc nL fr lo ret ini rv pc L st f := by
  subst hp
  exact ⟨kk.1, fun p e s m args below meth c n0 s0 hC h H locs ls v h' g1 g2 hP hS hl hq hf => lv_iload hC.1 hC.2.1 hdg (lv_at hl j hj) (kk.2 p e s m args below meth c n0 s0 hC h H locs ls v h' g1 g2 hP hS hl hq hf)⟩

theorem mv_aload_n {k : Fin 4} {i : Nat} {r : Option Nat} (j : Nat) (hdg : decode cc pc = .ok (.aload_n k, 1)) (hi : (k : Nat) = i) (hj : L[j]? = some (i, mv_vr N0 r)) (hp : pc + 1 = q) (kk : mv_Sim l N0 D dA own cc nL fr lo ret ini rv q L (mv_vr N0 r :: st) f) : mv_Sim l N0 D dA own cc nL fr lo ret ini rv pc L st f := by
  subst hp
  cases r with
  | none => exact ⟨kk.1, fun p e s m args below meth c n0 s0 hC h H locs ls v h' g1 g2 hP hS hl hq hf => lv_aload_nN hC.1 hC.2.1 hdg hi (lv_at hl j hj) (kk.2 p e s m args below meth c n0 s0 hC h H locs ls v h' g1 g2 hP hS hl hq hf)⟩
  | some a => exact ⟨kk.1, fun p e s m args below meth c n0 s0 hC h H locs ls v h' g1 g2 hP hS hl hq hf => lv_aload_n hC.1 hC.2.1 hdg hi (lv_at hl j hj) (kk.2 p e s m args below meth c n0 s0 hC h H locs ls v h' g1 g2 hP hS hl hq hf)⟩

theorem mv_aload {i : Nat} {r : Option Nat} (j : Nat) (hdg : decode cc pc = .ok (.aload i, 2)) (hj : L[j]? = some (i, mv_vr N0 r)) (hp : pc + 2 = q) (kk : mv_Sim l N0 D dA own cc nL fr lo ret ini rv q L (mv_vr N0 r :: st) f) : mv_Sim l N0 D dA own cc nL fr lo ret ini rv pc L st f := by
  subst hp
  cases r with
  | none => exact ⟨kk.1, fun p e s m args below meth c n0 s0 hC h H locs ls v h' g1 g2 hP hS hl hq hf => lv_aloadN hC.1 hC.2.1 hdg (lv_at hl j hj) (kk.2 p e s m args below meth c n0 s0 hC h H locs ls v h' g1 g2 hP hS hl hq hf)⟩
  | some a => exact ⟨kk.1, fun p e s m args below meth c n0 s0 hC h H locs ls v h' g1 g2 hP hS hl hq hf => lv_aload hC.1 hC.2.1 hdg (lv_at hl j hj) (kk.2 p e s m args below meth c n0 s0 hC h H locs ls v h' g1 g2 hP hS hl hq hf)⟩

theorem mv_iadd {x y : Int32} (hdg : decode cc pc = .ok (.iadd, 1))  (hp : pc + 1 = q) (kk : mv_Sim l N0 D dA own cc nL fr lo ret ini rv q L (.int (x + y) :: st) f) : mv_Sim l N0 D dA own cc nL fr lo ret ini rv pc L (.int y :: .int x :: st) f := by
  subst hp
  exact ⟨kk.1, fun p e s m args below meth c n0 s0 hC h H locs ls v h' g1 g2 hP hS hl hq hf => lv_iadd hC.1 hC.2.1 hdg (kk.2 p e s m args below meth c n0 s0 hC h H locs ls v h' g1 g2 hP hS hl hq hf)⟩

theorem mv_isub {x y : Int32} (hdg : decode cc pc = .ok (.isub, 1))  (hp : pc + 1 = q) (kk : mv_Sim l N0 D dA own cc nL fr lo ret ini rv q L (.int (x - y) :: st) f) : mv_Sim l N0 D dA own cc nL fr lo ret ini rv pc L (.int y :: .int x :: st) f := by
  subst hp
  exact ⟨kk.1, fun p e s m args below meth c n0 s0 hC h H locs ls v h' g1 g2 hP hS hl hq hf => lv_isub hC.1 hC.2.1 hdg (kk.2 p e s m args below meth c n0 s0 hC h H locs ls v h' g1 g2 hP hS hl hq hf)⟩

theorem mv_imul {x y : Int32} (hdg : decode cc pc = .ok (.imul, 1))  (hp : pc + 1 = q) (kk : mv_Sim l N0 D dA own cc nL fr lo ret ini rv q L (.int (x * y) :: st) f) : mv_Sim l N0 D dA own cc nL fr lo ret ini rv pc L (.int y :: .int x :: st) f := by
  subst hp
  exact ⟨kk.1, fun p e s m args below meth c n0 s0 hC h H locs ls v h' g1 g2 hP hS hl hq hf => lv_imul hC.1 hC.2.1 hdg (kk.2 p e s m args below meth c n0 s0 hC h H locs ls v h' g1 g2 hP hS hl hq hf)⟩

theorem mv_iand {x y : Int32} (hdg : decode cc pc = .ok (.iand, 1))  (hp : pc + 1 = q) (kk : mv_Sim l N0 D dA own cc nL fr lo ret ini rv q L (.int (x &&& y) :: st) f) : mv_Sim l N0 D dA own cc nL fr lo ret ini rv pc L (.int y :: .int x :: st) f := by
  subst hp
  exact ⟨kk.1, fun p e s m args below meth c n0 s0 hC h H locs ls v h' g1 g2 hP hS hl hq hf => lv_iand hC.1 hC.2.1 hdg (kk.2 p e s m args below meth c n0 s0 hC h H locs ls v h' g1 g2 hP hS hl hq hf)⟩

theorem mv_ior {x y : Int32} (hdg : decode cc pc = .ok (.ior, 1))  (hp : pc + 1 = q) (kk : mv_Sim l N0 D dA own cc nL fr lo ret ini rv q L (.int (x ||| y) :: st) f) : mv_Sim l N0 D dA own cc nL fr lo ret ini rv pc L (.int y :: .int x :: st) f := by
  subst hp
  exact ⟨kk.1, fun p e s m args below meth c n0 s0 hC h H locs ls v h' g1 g2 hP hS hl hq hf => lv_ior hC.1 hC.2.1 hdg (kk.2 p e s m args below meth c n0 s0 hC h H locs ls v h' g1 g2 hP hS hl hq hf)⟩

theorem mv_ixor {x y : Int32} (hdg : decode cc pc = .ok (.ixor, 1))  (hp : pc + 1 = q) (kk : mv_Sim l N0 D dA own cc nL fr lo ret ini rv q L (.int (x ^^^ y) :: st) f) : mv_Sim l N0 D dA own cc nL fr lo ret ini rv pc L (.int y :: .int x :: st) f := by
  subst hp
  exact ⟨kk.1, fun p e s m args below meth c n0 s0 hC h H locs ls v h' g1 g2 hP hS hl hq hf => lv_ixor hC.1 hC.2.1 hdg (kk.2 p e s m args below meth c n0 s0 hC h H locs ls v h' g1 g2 hP hS hl hq hf)⟩

theorem mv_ishl {x y : Int32} (hdg : decode cc pc = .ok (.ishl, 1))  (hp : pc + 1 = q) (kk : mv_Sim l N0 D dA own cc nL fr lo ret ini rv q L (.int (x <<< (y &&& 31)) :: st) f) : mv_Sim l N0 D dA own cc nL fr lo ret ini rv pc L (.int y :: .int x :: st) f := by
  subst hp
  exact ⟨kk.1, fun p e s m args below meth c n0 s0 hC h H locs ls v h' g1 g2 hP hS hl hq hf => lv_ishl hC.1 hC.2.1 hdg (kk.2 p e s m args below meth c n0 s0 hC h H locs ls v h' g1 g2 hP hS hl hq hf)⟩

theorem mv_ishr {x y : Int32} (hdg : decode cc pc = .ok (.ishr, 1))  (hp : pc + 1 = q) (kk : mv_Sim l N0 D dA own cc nL fr lo ret ini rv q L (.int (x >>> (y &&& 31)) :: st) f) : mv_Sim l N0 D dA own cc nL fr lo ret ini rv pc L (.int y :: .int x :: st) f := by
  subst hp
  exact ⟨kk.1, fun p e s m args below meth c n0 s0 hC h H locs ls v h' g1 g2 hP hS hl hq hf => lv_ishr hC.1 hC.2.1 hdg (kk.2 p e s m args below meth c n0 s0 hC h H locs ls v h' g1 g2 hP hS hl hq hf)⟩

theorem mv_dup {va : Value} (hdg : decode cc pc = .ok (.dup, 1)) (hva : va.category = 1) (hp : pc + 1 = q) (kk : mv_Sim l N0 D dA own cc nL fr lo ret ini rv q L (va :: va :: st) f) : mv_Sim l N0 D dA own cc nL fr lo ret ini rv pc L (va :: st) f := by
  subst hp
  exact ⟨kk.1, fun p e s m args below meth c n0 s0 hC h H locs ls v h' g1 g2 hP hS hl hq hf => lv_dup hC.1 hC.2.1 hdg hva (kk.2 p e s m args below meth c n0 s0 hC h H locs ls v h' g1 g2 hP hS hl hq hf)⟩

theorem mv_dup2 {va vb : Value} (hdg : decode cc pc = .ok (.dup2, 1)) (hva : va.category = 1) (hvb : vb.category = 1) (hp : pc + 1 = q) (kk : mv_Sim l N0 D dA own cc nL fr lo ret ini rv q L (va :: vb :: va :: vb :: st) f) : mv_Sim l N0 D dA own cc nL fr lo ret ini rv pc L (va :: vb :: st) f := by
  subst hp
  exact ⟨kk.1, fun p e s m args below meth c n0 s0 hC h H locs ls v h' g1 g2 hP hS hl hq hf => lv_dup2_11 hC.1 hC.2.1 hdg hva hvb (kk.2 p e s m args below meth c n0 s0 hC h H locs ls v h' g1 g2 hP hS hl hq hf)⟩

theorem mv_null  (hdg : decode cc pc = .ok (.aconst_null, 1))  (hp : pc + 1 = q) (kk : mv_Sim l N0 D dA own cc nL fr lo ret ini rv q L (mv_vr N0 none :: st) f) : mv_Sim l N0 D dA own cc nL fr lo ret ini rv pc L st f := by
  subst hp
  exact ⟨kk.1, fun p e s m args below meth c n0 s0 hC h H locs ls v h' g1 g2 hP hS hl hq hf => lv_null hC.1 hC.2.1 hdg (kk.2 p e s m args below meth c n0 s0 hC h H locs ls v h' g1 g2 hP hS hl hq hf)⟩

theorem mv_i2d {x : Int32} (hdg : decode cc pc = .ok (.i2d, 1))  (hp : pc + 1 = q) (kk : mv_Sim l N0 D dA own cc nL fr lo ret ini rv q L (.double (FP.i2d x) :: st) f) : mv_Sim l N0 D dA own cc nL fr lo ret ini rv pc L (.int x :: st) f := by
  subst hp
  exact ⟨kk.1, fun p e s m args below meth c n0 s0 hC h H locs ls v h' g1 g2 hP hS hl hq hf => lv_i2d hC.1 hC.2.1 hdg (kk.2 p e s m args below meth c n0 s0 hC h H locs ls v h' g1 g2 hP hS hl hq hf)⟩

theorem mv_dconst0  (hdg : decode cc pc = .ok (.dconst 0, 1))  (hp : pc + 1 = q) (kk : mv_Sim l N0 D dA own cc nL fr lo ret ini rv q L (.double FP.dconst0 :: st) f) : mv_Sim l N0 D dA own cc nL fr lo ret ini rv pc L st f := by
  subst hp
  exact ⟨kk.1, fun p e s m args below meth c n0 s0 hC h H locs ls v h' g1 g2 hP hS hl hq hf => lv_dconst0 hC.1 hC.2.1 hdg (kk.2 p e s m args below meth c n0 s0 hC h H locs ls v h' g1 g2 hP hS hl hq hf)⟩

theorem mv_goto {off : Int} (hdg : decode cc pc = .ok (.goto off, 3)) (ht : (pc : Int) + off = (q : Int)) (kk : mv_Sim l N0 D dA own cc nL fr lo ret ini rv q L st f) : mv_Sim l N0 D dA own cc nL fr lo ret ini rv pc L st f :=
  ⟨kk.1, fun p e s m args below meth c n0 s0 hC h H locs ls v h' g1 g2 hP hS hl hq hf => lv_goto hC.1 hC.2.1 hdg ht (kk.2 p e s m args below meth c n0 s0 hC h H locs ls v h' g1 g2 hP hS hl hq hf)⟩
theorem mv_sub {L' : List (Nat × Value)} (ks : List Nat) (hL : lv_pick L ks = L') (kk : mv_Sim l N0 D dA own cc nL fr lo ret ini rv pc L' st f) : mv_Sim l N0 D dA own cc nL fr lo ret ini rv pc L st f :=
  ⟨kk.1, fun p e s m args below meth c n0 s0 hC h H locs ls v h' g1 g2 hP hS hl hq hf => kk.2 p e s m args below meth c n0 s0 hC h H locs ls v h' g1 g2 hP hS (lv_sub hl ks hL) (fun z hz => by rw [← hL] at hz; obtain ⟨k, -, hk⟩ := List.mem_filterMap.mp hz; exact hq z (List.mem_of_getElem? hk)) hf⟩
theorem mv_let {x : Int32} {g : Int32 → mv_M α} (kk : ∀ y, mv_Sim l N0 D dA own cc nL fr lo ret ini rv pc L (.int y :: st) (g y)) : mv_Sim l N0 D dA own cc nL fr lo ret ini rv pc L (.int x :: st) (mv_bd (mv_pu x) g) :=
  ⟨mv_Gr.bd (mv_Gr.pu _) (fun a => (kk a).1), fun p e s m args below meth c n0 s0 hC h H locs ls v h' g1 g2 hP hS hl hq hf => (kk x).2 p e s m args below meth c n0 s0 hC h H locs ls v h' g1 g2 hP hS hl hq hf⟩
theorem mv_ite {cd : Prop} [Decidable cd] {f g : mv_M α} (k1 : cd → mv_Sim l N0 D dA own cc nL fr lo ret ini rv pc L st f) (k2 : ¬ cd → mv_Sim l N0 D dA own cc nL fr lo ret ini rv pc L st g) : mv_Sim l N0 D dA own cc nL fr lo ret ini rv pc L st (if cd then f else g) := by
  by_cases z : cd
  · rw [if_pos z]; exact k1 z
  · rw [if_neg z]; exact k2 z
theorem mv_store {ls' : Array Slot} {i : Nat} {x : Value} (ks : List Nat) (h : lv_has ls' nL ((i, x) :: L.filter (fun q => !(q.1 == i) && !(q.1 + 1 == i && q.2.category == 2)))) (hq : ∀ q ∈ L, q.2.category = 1) (hks : ks.all (fun j => match L[j]? with | some q => !(q.1 == i) | none => true) = true) : lv_has ls' nL ((i, x) :: lv_pick L ks) := by
  refine ⟨h.1, h.2.1, fun z hz => ?_⟩
  rcases List.mem_cons.mp hz with rfl | hz
  · exact h.2.2 _ List.mem_cons_self
  · obtain ⟨k, hk, hk2⟩ := List.mem_filterMap.mp hz
    have hm := List.mem_of_getElem? hk2
    have h1 := List.all_eq_true.mp hks k hk
    rw [hk2] at h1
    refine h.2.2 z (List.mem_cons_of_mem _ (List.mem_filter.mpr ⟨hm, ?_⟩))
    have h2 := hq z hm
    simp only [h2]
    simpa using h1
theorem mv_storeq {i : Nat} {x : Value} (ks : List Nat) (hx : x.category = 1) (hq : ∀ q ∈ L, q.2.category = 1) : ∀ q ∈ (i, x) :: lv_pick L ks, q.2.category = 1 := by
  intro z hz
  rcases List.mem_cons.mp hz with rfl | hz
  · exact hx
  · obtain ⟨k, -, hk2⟩ := List.mem_filterMap.mp hz
    exact hq z (List.mem_of_getElem? hk2)

theorem mv_istore_n {k : Fin 4} {i : Nat} {x : Int32} {L' : List (Nat × Value)} (ks : List Nat) (hdg : decode cc pc = .ok (.istore_n k, 1)) (hi : (k : Nat) = i) (hn : i < nL) (hks : ks.all (fun j => match L[j]? with | some q => !(q.1 == i) | none => true) = true) (hL : (i, .int x) :: lv_pick L ks = L') (hp : pc + 1 = q) (kk : mv_Sim l N0 D dA own cc nL fr lo ret ini rv q L' st f) : mv_Sim l N0 D dA own cc nL fr lo ret ini rv pc L (.int x :: st) f := by
  subst hp
  subst hL
  exact ⟨kk.1, fun p e s m args below meth c n0 s0 hC h H locs ls v h' g1 g2 hP hS hl hq hf => lv_istore_n hC.1 hC.2.1 hdg hi hl hn rfl (fun ls hl => kk.2 p e s m args below meth c n0 s0 hC h H locs ls v h' g1 g2 hP hS (mv_store ks hl hq hks) (mv_storeq ks rfl hq) hf)⟩

theorem mv_istore {i : Nat} {x : Int32} {L' : List (Nat × Value)} (ks : List Nat) (hdg : decode cc pc = .ok (.istore i, 2)) (hn : i < nL) (hks : ks.all (fun j => match L[j]? with | some q => !(q.1 == i) | none => true) = true) (hL : (i, .int x) :: lv_pick L ks = L') (hp : pc + 2 = q) (kk : mv_Sim l N0 D dA own cc nL fr lo ret ini rv q L' st f) : mv_Sim l N0 D dA own cc nL fr lo ret ini rv pc L (.int x :: st) f := by
  subst hp
  subst hL
  exact ⟨kk.1, fun p e s m args below meth c n0 s0 hC h H locs ls v h' g1 g2 hP hS hl hq hf => lv_istore hC.1 hC.2.1 hdg hl hn rfl (fun ls hl => kk.2 p e s m args below meth c n0 s0 hC h H locs ls v h' g1 g2 hP hS (mv_store ks hl hq hks) (mv_storeq ks rfl hq) hf)⟩

theorem mv_astore_n {k : Fin 4} {i : Nat} {r : Option Nat} {L' : List (Nat × Value)} (ks : List Nat) (hdg : decode cc pc = .ok (.astore_n k, 1)) (hi : (k : Nat) = i) (hn : i < nL) (hks : ks.all (fun j => match L[j]? with | some q => !(q.1 == i) | none => true) = true) (hL : (i, mv_vr N0 r) :: lv_pick L ks = L') (hp : pc + 1 = q) (kk : mv_Sim l N0 D dA own cc nL fr lo ret ini rv q L' st f) : mv_Sim l N0 D dA own cc nL fr lo ret ini rv pc L (mv_vr N0 r :: st) f := by
  subst hp
  subst hL
  cases r with
  | none => exact ⟨kk.1, fun p e s m args below meth c n0 s0 hC h H locs ls v h' g1 g2 hP hS hl hq hf => lv_astore_nN hC.1 hC.2.1 hdg hi hl hn rfl (fun ls hl => kk.2 p e s m args below meth c n0 s0 hC h H locs ls v h' g1 g2 hP hS (mv_store ks hl hq hks) (mv_storeq ks rfl hq) hf)⟩
  | some a => exact ⟨kk.1, fun p e s m args below meth c n0 s0 hC h H locs ls v h' g1 g2 hP hS hl hq hf => lv_astore_n hC.1 hC.2.1 hdg hi hl hn rfl (fun ls hl => kk.2 p e s m args below meth c n0 s0 hC h H locs ls v h' g1 g2 hP hS (mv_store ks hl hq hks) (mv_storeq ks rfl hq) hf)⟩

theorem mv_astore {i : Nat} {r : Option Nat} {L' : List (Nat × Value)} (ks : List Nat) (hdg : decode cc pc = .ok (.astore i, 2)) (hn : i < nL) (hks : ks.all (fun j => match L[j]? with | some q => !(q.1 == i) | none => true) = true) (hL : (i, mv_vr N0 r) :: lv_pick L ks = L') (hp : pc + 2 = q) (kk : mv_Sim l N0 D dA own cc nL fr lo ret ini rv q L' st f) : mv_Sim l N0 D dA own cc nL fr lo ret ini rv pc L (mv_vr N0 r :: st) f := by
  subst hp
  subst hL
  cases r with
  | none => exact ⟨kk.1, fun p e s m args below meth c n0 s0 hC h H locs ls v h' g1 g2 hP hS hl hq hf => lv_astoreN hC.1 hC.2.1 hdg hl hn rfl (fun ls hl => kk.2 p e s m args below meth c n0 s0 hC h H locs ls v h' g1 g2 hP hS (mv_store ks hl hq hks) (mv_storeq ks rfl hq) hf)⟩
  | some a => exact ⟨kk.1, fun p e s m args below meth c n0 s0 hC h H locs ls v h' g1 g2 hP hS hl hq hf => lv_astore hC.1 hC.2.1 hdg hl hn rfl (fun ls hl => kk.2 p e s m args below meth c n0 s0 hC h H locs ls v h' g1 g2 hP hS (mv_store ks hl hq hks) (mv_storeq ks rfl hq) hf)⟩

theorem mv_iinc {i : Nat} {n : Int} {x y : Int32} {L' : List (Nat × Value)} (j : Nat) (ks : List Nat) (hdg : decode cc pc = .ok (.iinc i n, 3)) (hj : L[j]? = some (i, .int x)) (hv : x + Int32.ofInt n = y) (hn : i < nL) (hks : ks.all (fun j => match L[j]? with | some q => !(q.1 == i) | none => true) = true) (hL : (i, .int y) :: lv_pick L ks = L') (hp : pc + 3 = q) (kk : mv_Sim l N0 D dA own cc nL fr lo ret ini rv q L' st f) : mv_Sim l N0 D dA own cc nL fr lo ret ini rv pc L st f := by
  subst hp
  subst hL
  exact ⟨kk.1, fun p e s m args below meth c n0 s0 hC h H locs ls v h' g1 g2 hP hS hl hq hf => lv_iinc hC.1 hC.2.1 hdg hl hj hv hn rfl (fun ls hl => kk.2 p e s m args below meth c n0 s0 hC h H locs ls v h' g1 g2 hP hS (mv_store ks hl hq hks) (mv_storeq ks rfl hq) hf)⟩

theorem mv_if_eq {x : Int32} {off : Int} {tgt : Nat} {f1 f2 : mv_M α} (hdg : decode cc pc = .ok (.ifCond .eq off, 3)) (ht : (pc : Int) + off = (tgt : Int)) (hp : pc + 3 = q) (k1 : mv_Sim l N0 D dA own cc nL fr lo ret ini rv tgt L st f1) (k2 : mv_Sim l N0 D dA own cc nL fr lo ret ini rv q L st f2) : mv_Sim l N0 D dA own cc nL fr lo ret ini rv pc L (.int x :: st) (if x = 0 then f1 else f2) := by
  subst hp
  exact ⟨mv_Gr.ite k1.1 k2.1, fun p e s m args below meth c n0 s0 hC h H locs ls v h' g1 g2 hP hS hl hq hf => lv_if_eq hC.1 hC.2.1 hdg ht (fun z => k1.2 p e s m args below meth c n0 s0 hC h H locs ls v h' g1 g2 hP hS hl hq (by rw [if_pos z] at hf; exact hf)) (fun z => k2.2 p e s m args below meth c n0 s0 hC h H locs ls v h' g1 g2 hP hS hl hq (by rw [if_neg z] at hf; exact hf))⟩

theorem mv_icmp_eq {x y : Int32} {off : Int} {tgt : Nat} {f1 f2 : mv_M α} (hdg : decode cc pc = .ok (.if_icmp .eq off, 3)) (ht : (pc : Int) + off = (tgt : Int)) (hp : pc + 3 = q) (k1 : mv_Sim l N0 D dA own cc nL fr lo ret ini rv tgt L st f1) (k2 : mv_Sim l N0 D dA own cc nL fr lo ret ini rv q L st f2) : mv_Sim l N0 D dA own cc nL fr lo ret ini rv pc L (.int y :: .int x :: st) (if x = y then f1 else f2) := by
  subst hp
  exact ⟨mv_Gr.ite k1.1 k2.1, fun p e s m args below meth c n0 s0 hC h H locs ls v h' g1 g2 hP hS hl hq hf => lv_icmp_eq hC.1 hC.2.1 hdg ht (fun z => k1.2 p e s m args below meth c n0 s0 hC h H locs ls v h' g1 g2 hP hS hl hq (by rw [if_pos z] at hf; exact hf)) (fun z => k2.2 p e s m args below meth c n0 s0 hC h H locs ls v h' g1 g2 hP hS hl hq (by rw [if_neg z] at hf; exact hf))⟩

theorem mv_if_ne {x : Int32} {off : Int} {tgt : Nat} {f1 f2 : mv_M α} (hdg : decode cc pc = .ok (.ifCond .ne off, 3)) (ht : (pc : Int) + off = (tgt : Int)) (hp : pc + 3 = q) (k1 : mv_Sim l N0 D dA own cc nL fr lo ret ini rv tgt L st f1) (k2 : mv_Sim l N0 D dA own cc nL fr lo ret ini rv q L st f2) : mv_Sim l N0 D dA own cc nL fr lo ret ini rv pc L (.int x :: st) (if x = 0 then f2 else f1) := by
  subst hp
  exact ⟨mv_Gr.ite k2.1 k1.1, fun p e s m args below meth c n0 s0 hC h H locs ls v h' g1 g2 hP hS hl hq hf => lv_if_ne hC.1 hC.2.1 hdg ht (fun z => k1.2 p e s m args below meth c n0 s0 hC h H locs ls v h' g1 g2 hP hS hl hq (by rw [if_neg z] at hf; exact hf)) (fun z => k2.2 p e s m args below meth c n0 s0 hC h H locs ls v h' g1 g2 hP hS hl hq (by rw [if_pos z] at hf; exact hf))⟩

theorem mv_icmp_ne {x y : Int32} {off : Int} {tgt : Nat} {f1 f2 : mv_M α} (hdg : decode cc pc = .ok (.if_icmp .ne off, 3)) (ht : (pc : Int) + off = (tgt : Int)) (hp : pc + 3 = q) (k1 : mv_Sim l N0 D dA own cc nL fr lo ret ini rv tgt L st f1) (k2 : mv_Sim l N0 D dA own cc nL fr lo ret ini rv q L st f2) : mv_Sim l N0 D dA own cc nL fr lo ret ini rv pc L (.int y :: .int x :: st) (if x = y then f2 else f1) := by
  subst hp
  exact ⟨mv_Gr.ite k2.1 k1.1, fun p e s m args below meth c n0 s0 hC h H locs ls v h' g1 g2 hP hS hl hq hf => lv_icmp_ne hC.1 hC.2.1 hdg ht (fun z => k1.2 p e s m args below meth c n0 s0 hC h H locs ls v h' g1 g2 hP hS hl hq (by rw [if_neg z] at hf; exact hf)) (fun z => k2.2 p e s m args below meth c n0 s0 hC h H locs ls v h' g1 g2 hP hS hl hq (by rw [if_pos z] at hf; exact hf))⟩

theorem mv_if_lt {x : Int32} {off : Int} {tgt : Nat} {f1 f2 : mv_M α} (hdg : decode cc pc = .ok (.ifCond .lt off, 3)) (ht : (pc : Int) + off = (tgt : Int)) (hp : pc + 3 = q) (k1 : mv_Sim l N0 D dA own cc nL fr lo ret ini rv tgt L st f1) (k2 : mv_Sim l N0 D dA own cc nL fr lo ret ini rv q L st f2) : mv_Sim l N0 D dA own cc nL fr lo ret ini rv pc L (.int x :: st) (if x < 0 then f1 else f2) := by
  subst hp
  exact ⟨mv_Gr.ite k1.1 k2.1, fun p e s m args below meth c n0 s0 hC h H locs ls v h' g1 g2 hP hS hl hq hf => lv_if_lt hC.1 hC.2.1 hdg ht (fun z => k1.2 p e s m args below meth c n0 s0 hC h H locs ls v h' g1 g2 hP hS hl hq (by rw [if_pos z] at hf; exact hf)) (fun z => k2.2 p e s m args below meth c n0 s0 hC h H locs ls v h' g1 g2 hP hS hl hq (by rw [if_neg z] at hf; exact hf))⟩

theorem mv_icmp_lt {x y : Int32} {off : Int} {tgt : Nat} {f1 f2 : mv_M α} (hdg : decode cc pc = .ok (.if_icmp .lt off, 3)) (ht : (pc : Int) + off = (tgt : Int)) (hp : pc + 3 = q) (k1 : mv_Sim l N0 D dA own cc nL fr lo ret ini rv tgt L st f1) (k2 : mv_Sim l N0 D dA own cc nL fr lo ret ini rv q L st f2) : mv_Sim l N0 D dA own cc nL fr lo ret ini rv pc L (.int y :: .int x :: st) (if x < y then f1 else f2) := by
  subst hp
  exact ⟨mv_Gr.ite k1.1 k2.1, fun p e s m args below meth c n0 s0 hC h H locs ls v h' g1 g2 hP hS hl hq hf => lv_icmp_lt hC.1 hC.2.1 hdg ht (fun z => k1.2 p e s m args below meth c n0 s0 hC h H locs ls v h' g1 g2 hP hS hl hq (by rw [if_pos z] at hf; exact hf)) (fun z => k2.2 p e s m args below meth c n0 s0 hC h H locs ls v h' g1 g2 hP hS hl hq (by rw [if_neg z] at hf; exact hf))⟩

theorem mv_if_ge {x : Int32} {off : Int} {tgt : Nat} {f1 f2 : mv_M α} (hdg : decode cc pc = .ok (.ifCond .ge off, 3)) (ht : (pc : Int) + off = (tgt : Int)) (hp : pc + 3 = q) (k1 : mv_Sim l N0 D dA own cc nL fr lo ret ini rv tgt L st f1) (k2 : mv_Sim l N0 D dA own cc nL fr lo ret ini rv q L st f2) : mv_Sim l N0 D dA own cc nL fr lo ret ini rv pc L (.int x :: st) (if 0 ≤ x then f1 else f2) := by
  subst hp
  exact ⟨mv_Gr.ite k1.1 k2.1, fun p e s m args below meth c n0 s0 hC h H locs ls v h' g1 g2 hP hS hl hq hf => lv_if_ge hC.1 hC.2.1 hdg ht (fun z => k1.2 p e s m args below meth c n0 s0 hC h H locs ls v h' g1 g2 hP hS hl hq (by rw [if_pos z] at hf; exact hf)) (fun z => k2.2 p e s m args below meth c n0 s0 hC h H locs ls v h' g1 g2 hP hS hl hq (by rw [if_neg z] at hf; exact hf))⟩

theorem mv_icmp_ge {x y : Int32} {off : Int} {tgt : Nat} {f1 f2 : mv_M α} (hdg : decode cc pc = .ok (.if_icmp .ge off, 3)) (ht : (pc : Int) + off = (tgt : Int)) (hp : pc + 3 = q) (k1 : mv_Sim l N0 D dA own cc nL fr lo ret ini rv tgt L st f1) (k2 : mv_Sim l N0 D dA own cc nL fr lo ret ini rv q L st f2) : mv_Sim l N0 D dA own cc nL fr lo ret ini rv pc L (.int y :: .int x :: st) (if y ≤ x then f1 else f2) := by
  subst hp
  exact ⟨mv_Gr.ite k1.1 k2.1, fun p e s m args below meth c n0 s0 hC h H locs ls v h' g1 g2 hP hS hl hq hf => lv_icmp_ge hC.1 hC.2.1 hdg ht (fun z => k1.2 p e s m args below meth c n0 s0 hC h H locs ls v h' g1 g2 hP hS hl hq (by rw [if_pos z] at hf; exact hf)) (fun z => k2.2 p e s m args below meth c n0 s0 hC h H locs ls v h' g1 g2 hP hS hl hq (by rw [if_neg z] at hf; exact hf))⟩

theorem mv_if_gt {x : Int32} {off : Int} {tgt : Nat} {f1 f2 : mv_M α} (hdg : decode cc pc = .ok (.ifCond .gt off, 3)) (ht : (pc : Int) + off = (tgt : Int)) (hp : pc + 3 = q) (k1 : mv_Sim l N0 D dA own cc nL fr lo ret ini rv tgt L st f1) (k2 : mv_Sim l N0 D dA own cc nL fr lo ret ini rv q L st f2) : mv_Sim l N0 D dA own cc nL fr lo ret ini rv pc L (.int x :: st) (if 0 < x then f1 else f2) := by
  subst hp
  exact ⟨mv_Gr.ite k1.1 k2.1, fun p e s m args below meth c n0 s0 hC h H locs ls v h' g1 g2 hP hS hl hq hf => lv_if_gt hC.1 hC.2.1 hdg ht (fun z => k1.2 p e s m args below meth c n0 s0 hC h H locs ls v h' g1 g2 hP hS hl hq (by rw [if_pos z] at hf; exact hf)) (fun z => k2.2 p e s m args below meth c n0 s0 hC h H locs ls v h' g1 g2 hP hS hl hq (by rw [if_neg z] at hf; exact hf))⟩

theorem mv_icmp_gt {x y : Int32} {off : Int} {tgt : Nat} {f1 f2 : mv_M α} (hdg : decode cc pc = .ok (.if_icmp .gt off, 3)) (ht : (pc : Int) + off = (tgt : Int)) (hp : pc + 3 = q) (k1 : mv_Sim l N0 D dA own cc nL fr lo ret ini rv tgt L st f1) (k2 : mv_Sim l N0 D dA own cc nL fr lo ret ini rv q L st f2) : mv_Sim l N0 D dA own cc nL fr lo ret ini rv pc L (.int y :: .int x :: st) (if y < x then f1 else f2) := by
  subst hp
  exact ⟨mv_Gr.ite k1.1 k2.1, fun p e s m args below meth c n0 s0 hC h H locs ls v h' g1 g2 hP hS hl hq hf => lv_icmp_gt hC.1 hC.2.1 hdg ht (fun z => k1.2 p e s m args below meth c n0 s0 hC h H locs ls v h' g1 g2 hP hS hl hq (by rw [if_pos z] at hf; exact hf)) (fun z => k2.2 p e s m args below meth c n0 s0 hC h H locs ls v h' g1 g2 hP hS hl hq (by rw [if_neg z] at hf; exact hf))⟩

theorem mv_if_le {x : Int32} {off : Int} {tgt : Nat} {f1 f2 : mv_M α} (hdg : decode cc pc = .ok (.ifCond .le off, 3)) (ht : (pc : Int) + off = (tgt : Int)) (hp : pc + 3 = q) (k1 : mv_Sim l N0 D dA own cc nL fr lo ret ini rv tgt L st f1) (k2 : mv_Sim l N0 D dA own cc nL fr lo ret ini rv q L st f2) : mv_Sim l N0 D dA own cc nL fr lo ret ini rv pc L (.int x :: st) (if x ≤ 0 then f1 else f2) := by
  subst hp
  exact ⟨mv_Gr.ite k1.1 k2.1, fun p e s m args below meth c n0 s0 hC h H locs ls v h' g1 g2 hP hS hl hq hf => lv_if_le hC.1 hC.2.1 hdg ht (fun z => k1.2 p e s m args below meth c n0 s0 hC h H locs ls v h' g1 g2 hP hS hl hq (by rw [if_pos z] at hf; exact hf)) (fun z => k2.2 p e s m args below meth c n0 s0 hC h H locs ls v h' g1 g2 hP hS hl hq (by rw [if_neg z] at hf; exact hf))⟩

theorem mv_icmp_le {x y : Int32} {off : Int} {tgt : Nat} {f1 f2 : mv_M α} (hdg : decode cc pc = .ok (.if_icmp .le off, 3)) (ht : (pc : Int) + off = (tgt : Int)) (hp : pc + 3 = q) (k1 : mv_Sim l N0 D dA own cc nL fr lo ret ini rv tgt L st f1) (k2 : mv_Sim l N0 D dA own cc nL fr lo ret ini rv q L st f2) : mv_Sim l N0 D dA own cc nL fr lo ret ini rv pc L (.int y :: .int x :: st) (if x ≤ y then f1 else f2) := by
  subst hp
  exact ⟨mv_Gr.ite k1.1 k2.1, fun p e s m args below meth c n0 s0 hC h H locs ls v h' g1 g2 hP hS hl hq hf => lv_icmp_le hC.1 hC.2.1 hdg ht (fun z => k1.2 p e s m args below meth c n0 s0 hC h H locs ls v h' g1 g2 hP hS hl hq (by rw [if_pos z] at hf; exact hf)) (fun z => k2.2 p e s m args below meth c n0 s0 hC h H locs ls v h' g1 g2 hP hS hl hq (by rw [if_neg z] at hf; exact hf))⟩

theorem mv_ifnull {r : Option Nat} {off : Int} {tgt : Nat} {f1 f2 : mv_M α} (hdg : decode cc pc = .ok (.ifnull off, 3)) (ht : (pc : Int) + off = (tgt : Int)) (hp : pc + 3 = q) (k1 : mv_Sim l N0 D dA own cc nL fr lo ret ini rv tgt L st f1) (k2 : mv_Sim l N0 D dA own cc nL fr lo ret ini rv q L st f2) : mv_Sim l N0 D dA own cc nL fr lo ret ini rv pc L (mv_vr N0 r :: st) (if r = none then f1 else f2) := by
  subst hp
  cases r with
  | none => rw [if_pos rfl]; exact ⟨k1.1, fun p e s m args below meth c n0 s0 hC h H locs ls v h' g1 g2 hP hS hl hq hf => lv_ifnullN hC.1 hC.2.1 hdg ht (k1.2 p e s m args below meth c n0 s0 hC h H locs ls v h' g1 g2 hP hS hl hq hf)⟩
  | some a => rw [if_neg (fun z => by cases z)]; exact ⟨k2.1, fun p e s m args below meth c n0 s0 hC h H locs ls v h' g1 g2 hP hS hl hq hf => lv_ifnull hC.1 hC.2.1 hdg (k2.2 p e s m args below meth c n0 s0 hC h H locs ls v h' g1 g2 hP hS hl hq hf)⟩
theorem mv_ifnonnull {r : Option Nat} {off : Int} {tgt : Nat} {f1 f2 : mv_M α} (hdg : decode cc pc = .ok (.ifnonnull off, 3)) (ht : (pc : Int) + off = (tgt : Int)) (hp : pc + 3 = q) (k1 : mv_Sim l N0 D dA own cc nL fr lo ret ini rv tgt L st f1) (k2 : mv_Sim l N0 D dA own cc nL fr lo ret ini rv q L st f2) : mv_Sim l N0 D dA own cc nL fr lo ret ini rv pc L (mv_vr N0 r :: st) (if r = none then f2 else f1) := by
  subst hp
  cases r with
  | none => rw [if_pos rfl]; exact ⟨k2.1, fun p e s m args below meth c n0 s0 hC h H locs ls v h' g1 g2 hP hS hl hq hf => lv_ifnonnullN hC.1 hC.2.1 hdg (k2.2 p e s m args below meth c n0 s0 hC h H locs ls v h' g1 g2 hP hS hl hq hf)⟩
  | some a => rw [if_neg (fun z => by cases z)]; exact ⟨k1.1, fun p e s m args below meth c n0 s0 hC h H locs ls v h' g1 g2 hP hS hl hq hf => lv_ifnonnull hC.1 hC.2.1 hdg ht (k1.2 p e s m args below meth c n0 s0 hC h H locs ls v h' g1 g2 hP hS hl hq hf)⟩
theorem mv_tabIn {x : Int32} {dflt b1 b2 : Int} {offs : Array Int} {len : Nat} {off : Int} (hdg : decode cc pc = .ok (.tableswitch dflt b1 b2 offs, len)) (h1 : ¬ x.toInt < b1) (h2 : ¬ b2 < x.toInt) (ho : offs[(x.toInt - b1).toNat]? = some off) (ht : (pc : Int) + off = (q : Int)) (kk : mv_Sim l N0 D dA own cc nL fr lo ret ini rv q L st f) : mv_Sim l N0 D dA own cc nL fr lo ret ini rv pc L (.int x :: st) f :=
  ⟨kk.1, fun p e s m args below meth c n0 s0 hC h H locs ls v h' g1 g2 hP hS hl hq hf => lv_tableIn hC.1 hC.2.1 hdg h1 h2 ho ht (kk.2 p e s m args below meth c n0 s0 hC h H locs ls v h' g1 g2 hP hS hl hq hf)⟩
theorem mv_tabOut {x : Int32} {dflt b1 b2 : Int} {offs : Array Int} {len : Nat} (hdg : decode cc pc = .ok (.tableswitch dflt b1 b2 offs, len)) (h1 : x.toInt < b1 ∨ b2 < x.toInt) (ht : (pc : Int) + dflt = (q : Int)) (kk : mv_Sim l N0 D dA own cc nL fr lo ret ini rv q L st f) : mv_Sim l N0 D dA own cc nL fr lo ret ini rv pc L (.int x :: st) f :=
  ⟨kk.1, fun p e s m args below meth c n0 s0 hC h H locs ls v h' g1 g2 hP hS hl hq hf => lv_tableOut hC.1 hC.2.1 hdg h1 ht (kk.2 p e s m args below meth c n0 s0 hC h H locs ls v h' g1 g2 hP hS hl hq hf)⟩
theorem mv_irem {x y : Int32} {g : Int32 → mv_M α} (hdg : decode cc pc = .ok (.irem, 1)) (hp : pc + 1 = q) (kk : ∀ z, mv_Sim l N0 D dA own cc nL fr lo ret ini rv q L (.int z :: st) (g z)) : mv_Sim l N0 D dA own cc nL fr lo ret ini rv pc L (.int y :: .int x :: st) (mv_bd (mv_rm x y) g) := by
  subst hp
  refine ⟨mv_Gr.bd mv_Gr.rm (fun a => (kk a).1), fun p e s m args below meth c n0 s0 hC h H locs ls v h' g1 g2 hP hS hl hq hf => ?_⟩
  by_cases hy : y = 0
  · unfold mv_rm at hf; rw [if_pos hy] at hf; cases hf
  · unfold mv_rm at hf; rw [if_neg hy] at hf
    exact lv_irem hC.1 hC.2.1 hdg hy ((kk _).2 p e s m args below meth c n0 s0 hC h H locs ls v h' g1 g2 hP hS hl hq hf)
theorem mv_ddiv {x y : UInt64} {g : UInt64 → mv_M α} (hdg : decode cc pc = .ok (.ddiv, 1)) (hp : pc + 1 = q) (kk : ∀ z, mv_Sim l N0 D dA own cc nL fr lo ret ini rv q L (.double z :: st) (g z)) : mv_Sim l N0 D dA own cc nL fr lo ret ini rv pc L (.double y :: .double x :: st) (mv_bd (mv_dd x y) g) := by
  subst hp
  refine ⟨mv_Gr.bd mv_Gr.dd (fun a => (kk a).1), fun p e s m args below meth c n0 s0 hC h H locs ls v h' g1 g2 hP hS hl hq hf => ?_⟩
  by_cases hy : FP.ddiv x y &&& 0x7fffffffffffffff ≤ 0x7ff0000000000000
  · unfold mv_dd at hf; rw [if_pos hy] at hf
    exact lv_ddiv hC.1 hC.2.1 hdg hy ((kk _).2 p e s m args below meth c n0 s0 hC h H locs ls v h' g1 g2 hP hS hl hq hf)
  · unfold mv_dd at hf; rw [if_neg hy] at hf; cases hf

theorem mv_Qc_of {v : α} {h : mv_Hp} {H : Heap} {s t : State} {a : Array Value} {locs : List Loc} (hP : va_P D vwCl (mv_ws N0 dA h) H) (hS : va_S (fun q : Nat => N0 ≤ q) s.heap H locs) (ht : t.heap = H) : mv_Qc N0 D dA rv v h a s (.returned (rv v)) t := ⟨rfl, by rw [ht]; exact hP, hS.F ht⟩

theorem mv_iret {x : Int32} (hdg : decode cc pc = .ok (.ireturn, 1)) : mv_Sim l N0 D dA own cc nL fr lo (some .int) ini (mv_rI) pc L [.int x] (mv_pu x) :=
  ⟨mv_Gr.pu _, fun p e s m args below meth c n0 s0 hC h H locs ls v h' g1 g2 hP hS hl hq hf => by cases hf; exact W.iret hC.1 hC.2.1 hC.2.2.2.2.2.1 (fun t ht _ => mv_Qc_of (rv := mv_rI) hP hS ht) hS.2.2 hdg hC.2.2.2.2.2.2.1⟩
theorem mv_zret {x : Int32} (hdg : decode cc pc = .ok (.ireturn, 1)) : mv_Sim l N0 D dA own cc nL fr lo (some .boolean) ini (mv_rI) pc L [.int x] (mv_rz x) := by
  refine ⟨mv_Gr.rz, fun p e s m args below meth c n0 s0 hC h H locs ls v h' g1 g2 hP hS hl hq hf => ?_⟩
  unfold mv_rz at hf
  by_cases hx : x = 0 ∨ x = 1
  · rw [if_pos hx] at hf
    cases hf
    exact W.zret hC.1 hC.2.1 hC.2.2.2.2.2.1 (by rcases hx with rfl | rfl <;> rfl) (fun t ht _ => mv_Qc_of (rv := mv_rI) hP hS ht) hS.2.2 hdg hC.2.2.2.2.2.2.1
  · rw [if_neg hx] at hf; cases hf
theorem mv_vret (hdg : decode cc pc = .ok (.return_, 1)) : mv_Sim l N0 D dA own cc nL fr lo (none) ini (mv_rV) pc L [] (mv_pu ()) :=
  ⟨mv_Gr.pu _, fun p e s m args below meth c n0 s0 hC h H locs ls v h' g1 g2 hP hS hl hq hf => by cases hf; exact W.vret hC.1 hC.2.1 hC.2.2.2.2.2.1 (fun t ht _ => mv_Qc_of (rv := mv_rV) hP hS ht) hS.2.2 hdg hC.2.2.2.2.2.2.1⟩
theorem mv_aret {r : Option Nat} {C : String} (hdg : decode cc pc = .ok (.areturn, 1)) : mv_Sim l N0 D dA own cc nL fr lo (some (.object C)) ini (mv_rR N0) pc L [mv_vr N0 r] (mv_pu r) :=
  ⟨mv_Gr.pu _, fun p e s m args below meth c n0 s0 hC h H locs ls v h' g1 g2 hP hS hl hq hf => by cases hf; exact W.aret hC.1 hC.2.1 hC.2.2.2.2.2.1 (Or.inl ⟨C, rfl⟩) (by cases r with | none => exact Or.inl rfl | some a => exact Or.inr ⟨_, rfl⟩) (fun t ht _ => mv_Qc_of (rv := mv_rR N0) hP hS ht) hS.2.2 hdg hC.2.2.2.2.2.2.1⟩
theorem mv_dret {x : UInt64} (hdg : decode cc pc = .ok (.dreturn, 1)) : mv_Sim l N0 D dA own cc nL fr lo (some .double) ini (mv_rD) pc L [.double x] (mv_pu x) :=
  ⟨mv_Gr.pu _, fun p e s m args below meth c n0 s0 hC h H locs ls v h' g1 g2 hP hS hl hq hf => by cases hf; exact W.dret hC.1 hC.2.1 hC.2.2.2.2.2.1 (fun t ht _ => mv_Qc_of (rv := mv_rD) hP hS ht) hS.2.2 hdg hC.2.2.2.2.2.2.1⟩
theorem mv_objInit {idx i : Nat} (hdg : decode cc pc = .ok (.invokespecial idx, 3)) (hw : Cond.methodLink own idx objectInit ∈ mv_wA ∧ Cond.instanceMethod objectInit ∈ mv_wA ∧ Cond.code objectInit ⟨#[0xb1]⟩ 1 none ∈ mv_wA) (hR : 1 ≤ fr ∧ 12 ≤ lo) (hp : pc + 3 = q) (kk : mv_Sim l N0 D dA own cc nL fr lo ret ini rv q L [] f) : mv_Sim l N0 D dA own cc nL fr lo ret ini rv pc L [mv_vr N0 (some i)] f := by
  subst hp
  refine ⟨kk.1, fun p e s m args below meth c n0 s0 hC h H locs ls v h' g1 g2 hP hS hl hq hf => ?_⟩
  exact W.objInit hC.1 hC.2.1 hC.2.2.2.1 (hC.2.2.2.2.1 _ hw.1) (hC.2.2.2.2.1 _ hw.2.1) (hC.2.2.2.2.1 _ hw.2.2) rfl (by rw [hC.2.2.1]; exact hl.1) rfl hdg hR.1 hR.2 (kk.2 p e s m args below meth c n0 s0 hC h H locs ls v h' g1 g2 hP hS hl hq hf)

/-- a field of a class: slot k of n -/
def mv_Fd (ci n k : Nat) (C : String) (T : u_T) (ty : Nat → FieldType) (rf : Bool) : Prop := vwCl[ci]? = some (C, T, n) ∧ ci < 8 ∧ k < n ∧ mv_rs ci k = rf ∧ (T k).1 = C ∧ (∀ w ∈ u_ws C T n, w ∈ mv_wA) ∧ (∀ k, k < n → parseFieldDescriptor (T k).2.2.1 = some (ty k)) ∧ (∀ a, a < n → ∀ b, b < n → a ≠ b → (T a).2.1 ≠ (T b).2.1)
def mv_lk (own : String) (idx k : Nat) (C : String) (T : u_T) : Prop := Cond.fieldLink own idx C (T k).2.1 (T k).2.2.1 ∈ mv_wA ∨ ∃ host, Cond.fieldLinkNest own idx C (T k).2.1 (T k).2.2.1 host ∈ mv_nest
def mv_fs (N0 : Nat) (h : mv_Hp) (i ci n : Nat) : List Value := (List.range n).map (fun k => if mv_rs ci k = true then mv_vr N0 (h.2.2.2 i k) else .int (h.2.2.1 i k))
theorem mv_cE_o {h : mv_Hp} {i ci n : Nat} (hci : ci < 8) : mv_cE N0 dA h i (ci, n) = .inr (ci, mv_fs N0 h i ci n) := by unfold mv_cE; rw [if_pos hci]; rfl
theorem mv_fs_get {h : mv_Hp} {i ci n k : Nat} (hk : k < n) : (mv_fs N0 h i ci n)[k]? = some (if mv_rs ci k = true then mv_vr N0 (h.2.2.2 i k) else .int (h.2.2.1 i k)) := by
  unfold mv_fs
  rw [List.getElem?_map, List.getElem?_range hk]
  rfl
theorem mv_u2_ne {β : Type} {F : Nat → Nat → β} {i k j : Nat} {x : β} (h : j ≠ i) : mv_u2 F i k x j = F j := by funext b; unfold mv_u2; rw [if_neg h]
theorem mv_u1_ne {β : Type} {F : Nat → Nat → β} {i j : Nat} {x : β} (h : j ≠ i) : mv_u1 F i x j = F j := by funext b; unfold mv_u1; rw [if_neg h]
theorem mv_cE_congr {h h' : mv_Hp} {j : Nat} {z : Nat × Nat} (h1 : h'.2.2.1 j = h.2.2.1 j) (h2 : h'.2.2.2 j = h.2.2.2 j) : mv_cE N0 dA h' j z = mv_cE N0 dA h j z := by unfold mv_cE; rw [h1, h2]
theorem mv_fs_setI {h : mv_Hp} {i ci n k : Nat} {x : Int32} (hr : mv_rs ci k = false) (hk : k < n) : (mv_fs N0 h i ci n).set k (.int x) = mv_fs N0 (h.1, h.2.1, mv_u2 h.2.2.1 i k x, h.2.2.2) i ci n := by
  apply List.ext_getElem?
  intro j
  by_cases hj : j < n
  · by_cases e : k = j
    · subst e
      rw [List.getElem?_set_self (by simp [mv_fs]; exact hj), mv_fs_get hj, if_neg (by rw [hr]; decide)]
      simp [mv_u2]
    · rw [List.getElem?_set_ne e, mv_fs_get hj, mv_fs_get hj]
      simp [mv_u2, show ¬ j = k from fun z => e z.symm]
  · rw [List.getElem?_eq_none (by simp [mv_fs]; omega), List.getElem?_eq_none (by simp [mv_fs]; omega)]
theorem mv_fs_setR {h : mv_Hp} {i ci n k : Nat} {x : Option Nat} (hr : mv_rs ci k = true) (hk : k < n) : (mv_fs N0 h i ci n).set k (mv_vr N0 x) = mv_fs N0 (h.1, h.2.1, h.2.2.1, mv_u2 h.2.2.2 i k x) i ci n := by
  apply List.ext_getElem?
  intro j
  by_cases hj : j < n
  · by_cases e : k = j
    · subst e
      rw [List.getElem?_set_self (by simp [mv_fs]; exact hj), mv_fs_get hj, if_pos hr]
      simp [mv_u2]
    · rw [List.getElem?_set_ne e, mv_fs_get hj, mv_fs_get hj]
      simp [mv_u2, show ¬ j = k from fun z => e z.symm]
  · rw [List.getElem?_eq_none (by simp [mv_fs]; omega), List.getElem?_eq_none (by simp [mv_fs]; omega)]
theorem mv_ws_o {h : mv_Hp} {i ci n : Nat} (hq : h.1[i]? = some (ci, n)) (hci : ci < 8) : (mv_ws N0 dA h)[i]? = some (N0 + i, .inr (ci, mv_fs N0 h i ci n)) := by rw [mv_ws_get hq, mv_cE_o hci]
theorem mv_ws_a {h : mv_Hp} {i n : Nat} (hq : h.1[i]? = some (8, n)) : (mv_ws N0 dA h)[i]? = some (N0 + i, .inl (dA 0, n, .inl (h.2.2.1 i))) := by rw [mv_ws_get hq]; rfl
theorem mv_ws_r {h : mv_Hp} {i n t : Nat} (ht : 1 ≤ t) (hq : h.1[i]? = some (8 + t, n)) : (mv_ws N0 dA h)[i]? = some (N0 + i, .inl (dA t, n, .inr (.inr (.inr (.inr (fun k => (h.2.2.2 i k).map (fun i => N0 + i))))))) := by
  rw [mv_ws_get hq]
  unfold mv_cE
  rw [if_neg (by omega), if_neg (by show ¬ 8 + t = 8; omega)]
  simp

theorem mv_getI {ci n k idx : Nat} {r : Option Nat} {C : String} {T : u_T} {ty : Nat → FieldType} {g : Int32 → mv_M α} (hF : mv_Fd ci n k C T ty false) (hw : mv_lk own idx k C T) (hdg : decode cc pc = .ok (.getfield idx, 3)) (hp : pc + 3 = q) (kk : ∀ x, mv_Sim l N0 D dA own cc nL fr lo ret ini rv q L (.int x :: st) (g x)) : mv_Sim l N0 D dA own cc nL fr lo ret ini rv pc L (mv_vr N0 r :: st) (mv_bd (mv_gI ci n k r) g) := by
  subst hp
  refine ⟨mv_Gr.bd mv_Gr.gI (fun a => (kk a).1), fun p e s m args below meth c n0 s0 hC h H locs ls v h' g1 g2 hP hS hl hq hf => ?_⟩
  obtain ⟨a, h1, e1, e2⟩ := mv_bd_of hf
  obtain ⟨i, rfl, hi, rfl, rfl⟩ := mv_gI_of e1
  obtain ⟨hc, hci, hk, hr, hT, hin, -, -⟩ := hF
  have hv := mv_fs_get (N0 := N0) (h := h) (i := i) (ci := ci) hk
  rw [if_neg (by rw [hr]; decide)] at hv
  rcases hw with hw | ⟨host, hw⟩
  · exact va_get (D := D) hC.1 hC.2.1 hC.2.2.2.2.1 hin hC.2.2.2.1 hC.2.2.2.2.2.2.2.2.1 hP i (mv_ws_o hi hci) hc k hk (hC.2.2.2.2.1 _ hw) (fun x hx => by rw [hT] at hx; exact hx) hv hdg ((kk _).2 p e s m args below meth c n0 s0 hC h H locs ls v h' g1 g2 hP hS hl hq e2)
  · exact va_getN (D := D) hC.1 hC.2.1 hC.2.2.2.2.1 hin hC.2.2.2.1 hC.2.2.2.2.2.2.2.2.1 hP i (mv_ws_o hi hci) hc k hk (va_Nw.use rfl (hC.2.2.2.2.2.2.2.2.2.1.1 _ hw)) (fun x hx => by rw [hT] at hx; exact hx) hv hdg ((kk _).2 p e s m args below meth c n0 s0 hC h H locs ls v h' g1 g2 hP hS hl hq e2)
theorem mv_getR {ci n k idx : Nat} {r : Option Nat} {C : String} {T : u_T} {ty : Nat → FieldType} {g : Option Nat → mv_M α} (hF : mv_Fd ci n k C T ty true) (hw : mv_lk own idx k C T) (hdg : decode cc pc = .ok (.getfield idx, 3)) (hp : pc + 3 = q) (kk : ∀ x, mv_Sim l N0 D dA own cc nL fr lo ret ini rv q L (mv_vr N0 x :: st) (g x)) : mv_Sim l N0 D dA own cc nL fr lo ret ini rv pc L (mv_vr N0 r :: st) (mv_bd (mv_gR ci n k r) g) := by
  subst hp
  refine ⟨mv_Gr.bd mv_Gr.gR (fun a => (kk a).1), fun p e s m args below meth c n0 s0 hC h H locs ls v h' g1 g2 hP hS hl hq hf => ?_⟩
  obtain ⟨a, h1, e1, e2⟩ := mv_bd_of hf
  obtain ⟨i, rfl, hi, rfl, rfl⟩ := mv_gR_of e1
  obtain ⟨hc, hci, hk, hr, hT, hin, -, -⟩ := hF
  have hv := mv_fs_get (N0 := N0) (h := h) (i := i) (ci := ci) hk
  rw [if_pos hr] at hv
  rcases hw with hw | ⟨host, hw⟩
  · exact va_get (D := D) hC.1 hC.2.1 hC.2.2.2.2.1 hin hC.2.2.2.1 hC.2.2.2.2.2.2.2.2.1 hP i (mv_ws_o hi hci) hc k hk (hC.2.2.2.2.1 _ hw) (fun x hx => by rw [hT] at hx; exact hx) hv hdg ((kk _).2 p e s m args below meth c n0 s0 hC h H locs ls v h' g1 g2 hP hS hl hq e2)
  · exact va_getN (D := D) hC.1 hC.2.1 hC.2.2.2.2.1 hin hC.2.2.2.1 hC.2.2.2.2.2.2.2.2.1 hP i (mv_ws_o hi hci) hc k hk (va_Nw.use rfl (hC.2.2.2.2.2.2.2.2.2.1.1 _ hw)) (fun x hx => by rw [hT] at hx; exact hx) hv hdg ((kk _).2 p e s m args below meth c n0 s0 hC h H locs ls v h' g1 g2 hP hS hl hq e2)
theorem mv_ws_putI {h : mv_Hp} {i ci n k : Nat} {x : Int32} (hi : h.1[i]? = some (ci, n)) (hci : ci < 8) (hr : mv_rs ci k = false) (hk : k < n) : (mv_ws N0 dA h).set i (N0 + i, .inr (ci, (mv_fs N0 h i ci n).set k (.int x))) = mv_ws N0 dA (h.1, h.2.1, mv_u2 h.2.2.1 i k x, h.2.2.2) :=
  mv_ws_set (h' := (h.1, h.2.1, mv_u2 h.2.2.1 i k x, h.2.2.2)) rfl hi (by rw [mv_cE_o hci, mv_fs_setI hr hk]) (fun j z hj => mv_cE_congr (mv_u2_ne hj) rfl)
theorem mv_ws_putR {h : mv_Hp} {i ci n k : Nat} {x : Option Nat} (hi : h.1[i]? = some (ci, n)) (hci : ci < 8) (hr : mv_rs ci k = true) (hk : k < n) : (mv_ws N0 dA h).set i (N0 + i, .inr (ci, (mv_fs N0 h i ci n).set k (mv_vr N0 x))) = mv_ws N0 dA (h.1, h.2.1, h.2.2.1, mv_u2 h.2.2.2 i k x) :=
  mv_ws_set (h' := (h.1, h.2.1, h.2.2.1, mv_u2 h.2.2.2 i k x)) rfl hi (by rw [mv_cE_o hci, mv_fs_setR hr hk]) (fun j z hj => mv_cE_congr rfl (mv_u2_ne hj))

theorem mv_putI {ci n k idx : Nat} {r : Option Nat} {x : Int32} {C : String} {T : u_T} {ty : Nat → FieldType} {g : Unit → mv_M α} (hF : mv_Fd ci n k C T ty false) (hfin : (T k).2.2.2 = false) (hd : parseFieldDescriptor (T k).2.2.1 = some .int) (hw : mv_lk own idx k C T) (hdg : decode cc pc = .ok (.putfield idx, 3)) (hp : pc + 3 = q) (kk : mv_Sim l N0 D dA own cc nL fr lo ret ini rv q L st (g ())) : mv_Sim l N0 D dA own cc nL fr lo ret ini rv pc L (.int x :: mv_vr N0 r :: st) (mv_bd (mv_sI ci n k r x) g) := by
  subst hp
  refine ⟨mv_Gr.bd mv_Gr.sI (fun _ => kk.1), fun p e s m args below meth c n0 s0 hC h H locs ls v h' g1 g2 hP hS hl hq hf => ?_⟩
  obtain ⟨a, h1, e1, e2⟩ := mv_bd_of hf
  obtain ⟨i, rfl, hi, rfl⟩ := mv_sI_of e1
  obtain ⟨hc, hci, hk, hr, hT, hin, hty, hnm⟩ := hF
  have hlen : k < (mv_fs N0 h i ci n).length := by simp [mv_fs]; exact hk
  rcases hw with hw | ⟨host, hw⟩
  · exact va_put (D := D) hC.1 hC.2.1 hC.2.2.2.2.1 hin ty hty hnm hC.2.2.2.1 hC.2.2.2.2.2.2.2.2.1 hP (mv_ws_D N0 dA h) hS i (mv_ws_o hi hci) hc k hk (hC.2.2.2.2.1 _ hw) (fun x hx => by rw [hT] at hx; exact hx) hfin hd rfl rfl hlen hdg (fun H1 locs1 hP1 _ hS1 => by rw [mv_ws_putI hi hci hr hk] at hP1; exact kk.2 p e s m args below meth c n0 s0 hC (h.1, h.2.1, mv_u2 h.2.2.1 i k x, h.2.2.2) H1 locs1 ls v h' g1 g2 hP1 hS1 hl hq e2)
  · exact va_putN (D := D) hC.1 hC.2.1 hC.2.2.2.2.1 hin ty hty hnm hC.2.2.2.1 hC.2.2.2.2.2.2.2.2.1 hP (mv_ws_D N0 dA h) hS i (mv_ws_o hi hci) hc k hk (va_Nw.use rfl (hC.2.2.2.2.2.2.2.2.2.1.1 _ hw)) (fun x hx => by rw [hT] at hx; exact hx) hfin hd rfl rfl hlen hdg (fun H1 locs1 hP1 _ hS1 => by rw [mv_ws_putI hi hci hr hk] at hP1; exact kk.2 p e s m args below meth c n0 s0 hC (h.1, h.2.1, mv_u2 h.2.2.1 i k x, h.2.2.2) H1 locs1 ls v h' g1 g2 hP1 hS1 hl hq e2)

theorem mv_putZ {ci n k idx : Nat} {r : Option Nat} {x : Int32} {C : String} {T : u_T} {ty : Nat → FieldType} {g : Unit → mv_M α} (hF : mv_Fd ci n k C T ty false) (hfin : (T k).2.2.2 = false) (hd : parseFieldDescriptor (T k).2.2.1 = some .boolean) (hw : mv_lk own idx k C T) (hdg : decode cc pc = .ok (.putfield idx, 3)) (hp : pc + 3 = q) (kk : mv_Sim l N0 D dA own cc nL fr lo ret ini rv q L st (g ())) : mv_Sim l N0 D dA own cc nL fr lo ret ini rv pc L (.int x :: mv_vr N0 r :: st) (mv_bd (mv_sZ ci n k r x) g) := by
  subst hp
  refine ⟨mv_Gr.bd mv_Gr.sZ (fun _ => kk.1), fun p e s m args below meth c n0 s0 hC h H locs ls v h' g1 g2 hP hS hl hq hf => ?_⟩
  obtain ⟨a, h1, e1, e2⟩ := mv_bd_of hf
  obtain ⟨i, rfl, hi, hz, rfl⟩ := mv_sZ_of e1
  obtain ⟨hc, hci, hk, hr, hT, hin, hty, hnm⟩ := hF
  have hlen : k < (mv_fs N0 h i ci n).length := by simp [mv_fs]; exact hk
  rcases hw with hw | ⟨host, hw⟩
  · exact va_put (D := D) hC.1 hC.2.1 hC.2.2.2.2.1 hin ty hty hnm hC.2.2.2.1 hC.2.2.2.2.2.2.2.2.1 hP (mv_ws_D N0 dA h) hS i (mv_ws_o hi hci) hc k hk (hC.2.2.2.2.1 _ hw) (fun x hx => by rw [hT] at hx; exact hx) hfin hd (by rcases hz with rfl | rfl <;> rfl) (by rcases hz with rfl | rfl <;> rfl) hlen hdg (fun H1 locs1 hP1 _ hS1 => by rw [mv_ws_putI hi hci hr hk] at hP1; exact kk.2 p e s m args below meth c n0 s0 hC (h.1, h.2.1, mv_u2 h.2.2.1 i k x, h.2.2.2) H1 locs1 ls v h' g1 g2 hP1 hS1 hl hq e2)
  · exact va_putN (D := D) hC.1 hC.2.1 hC.2.2.2.2.1 hin ty hty hnm hC.2.2.2.1 hC.2.2.2.2.2.2.2.2.1 hP (mv_ws_D N0 dA h) hS i (mv_ws_o hi hci) hc k hk (va_Nw.use rfl (hC.2.2.2.2.2.2.2.2.2.1.1 _ hw)) (fun x hx => by rw [hT] at hx; exact hx) hfin hd (by rcases hz with rfl | rfl <;> rfl) (by rcases hz with rfl | rfl <;> rfl) hlen hdg (fun H1 locs1 hP1 _ hS1 => by rw [mv_ws_putI hi hci hr hk] at hP1; exact kk.2 p e s m args below meth c n0 s0 hC (h.1, h.2.1, mv_u2 h.2.2.1 i k x, h.2.2.2) H1 locs1 ls v h' g1 g2 hP1 hS1 hl hq e2)

theorem mv_upd_cE {h : mv_Hp} {i j n : Nat} {x : Int32} : mv_cE N0 dA (h.1, h.2.1, mv_u2 h.2.2.1 i j x, h.2.2.2) i (8, n) = .inl (dA 0, n, .inl (upd (h.2.2.1 i) j x)) := by
  have e : mv_u2 h.2.2.1 i j x i = upd (h.2.2.1 i) j x := by funext b; simp [mv_u2, upd]
  unfold mv_cE
  rw [if_neg (show ¬ (8 : Nat) < 8 by decide), if_pos rfl, ← e]
theorem mv_up_cE {h : mv_Hp} {i j n t y : Nat} (ht : 1 ≤ t) : mv_cE N0 dA (h.1, h.2.1, h.2.2.1, mv_u2 h.2.2.2 i j (some y)) i (8 + t, n) = .inl (dA t, n, .inr (.inr (.inr (.inr (va_up (fun k => (h.2.2.2 i k).map (fun i => N0 + i)) j (some (N0 + y))))))) := by
  have e : (fun k => (mv_u2 h.2.2.2 i j (some y) i k).map (fun i => N0 + i)) = va_up (fun k => (h.2.2.2 i k).map (fun i => N0 + i)) j (some (N0 + y)) := by
    funext b
    by_cases hb : b = j
    · simp [mv_u2, va_up, hb]
    · simp [mv_u2, va_up, hb]
  unfold mv_cE
  rw [if_neg (by omega), if_neg (by show ¬ 8 + t = 8; omega), ← e]
  simp

theorem mv_putR {ci n k idx : Nat} {r x : Option Nat} {C : String} {T : u_T} {ty : Nat → FieldType} {t : FieldType} {g : Unit → mv_M α} (hF : mv_Fd ci n k C T ty true) (hfin : (T k).2.2.2 = true) (hd : parseFieldDescriptor (T k).2.2.1 = some t) (ht : (∃ N, t = .object N) ∨ ∃ u, t = .array u) (hini : ini = true) (hC0 : C = own) (hw : Cond.fieldLink own idx C (T k).2.1 (T k).2.2.1 ∈ mv_wA) (hdg : decode cc pc = .ok (.putfield idx, 3)) (hp : pc + 3 = q) (kk : mv_Sim l N0 D dA own cc nL fr lo ret ini rv q L st (g ())) : mv_Sim l N0 D dA own cc nL fr lo ret ini rv pc L (mv_vr N0 x :: mv_vr N0 r :: st) (mv_bd (mv_sR ci n k r x) g) := by
  subst hp
  refine ⟨mv_Gr.bd mv_Gr.sR (fun _ => kk.1), fun p e s m args below meth c n0 s0 hC h H locs ls v h' g1 g2 hP hS hl hq hf => ?_⟩
  obtain ⟨a, h1, e1, e2⟩ := mv_bd_of hf
  obtain ⟨i, rfl, hi, rfl⟩ := mv_sR_of e1
  obtain ⟨hc, hci, hk, hr, hT, hin, hty, hnm⟩ := hF
  have hlen : k < (mv_fs N0 h i ci n).length := by simp [mv_fs]; exact hk
  have hn1 : narrow t (mv_vr N0 x) = mv_vr N0 x := by rcases ht with ⟨N, rfl⟩ | ⟨u, rfl⟩ <;> cases x <;> rfl
  have hn2 : fits t (mv_vr N0 x) = true := by rcases ht with ⟨N, rfl⟩ | ⟨u, rfl⟩ <;> cases x <;> rfl
  exact va_putF (D := D) hC.1 hC.2.1 hC.2.2.2.2.1 hin ty hty hnm hC.2.2.2.1 hC.2.2.2.2.2.2.2.2.1 hP (mv_ws_D N0 dA h) hS i (mv_ws_o hi hci) hc k hk (hC.2.2.2.2.1 _ hw) (fun x hx => by rw [hT] at hx; exact hx) hfin (hC.2.2.2.2.2.2.2.1 hini) (hT.trans hC0) hd hn1 hn2 hlen hdg (fun H1 locs1 hP1 _ hS1 => by rw [mv_ws_putR hi hci hr hk] at hP1; exact kk.2 p e s m args below meth c n0 s0 hC (h.1, h.2.1, h.2.2.1, mv_u2 h.2.2.2 i k x) H1 locs1 ls v h' g1 g2 hP1 hS1 hl hq e2)
theorem mv_alen {r : Option Nat} {g : Int32 → mv_M α} (hdg : decode cc pc = .ok (.arraylength, 1)) (hp : pc + 1 = q) (kk : ∀ x, mv_Sim l N0 D dA own cc nL fr lo ret ini rv q L (.int x :: st) (g x)) : mv_Sim l N0 D dA own cc nL fr lo ret ini rv pc L (mv_vr N0 r :: st) (mv_bd (mv_aL r) g) := by
  subst hp
  refine ⟨mv_Gr.bd mv_Gr.aL (fun a => (kk a).1), fun p e s m args below meth c n0 s0 hC h H locs ls v h' g1 g2 hP hS hl hq hf => ?_⟩
  obtain ⟨a, h1, e1, e2⟩ := mv_bd_of hf
  obtain ⟨i, z, rfl, hi, h8, h12, rfl, rfl⟩ := mv_aL_of e1
  have hK := hC.2.2.2.2.2.2.2.2.1
  obtain ⟨t, n⟩ := z
  have h8' : 8 ≤ t := h8
  have h12' : t < 12 := h12
  rcases (show t = 8 ∨ t = 8 + 1 ∨ t = 8 + 2 ∨ t = 8 + 3 by omega) with rfl | rfl | rfl | rfl
  · exact va_alen hC.1 hC.2.1 hK hP i 0 (mv_ws_a hi) rfl rfl hdg ((kk _).2 p e s m args below meth c n0 s0 hC h H locs ls v h' g1 g2 hP hS hl hq e2)
  · exact va_alen hC.1 hC.2.1 hK hP i 1 (mv_ws_r (by omega) hi) rfl rfl hdg ((kk _).2 p e s m args below meth c n0 s0 hC h H locs ls v h' g1 g2 hP hS hl hq e2)
  · exact va_alen hC.1 hC.2.1 hK hP i 2 (mv_ws_r (by omega) hi) rfl rfl hdg ((kk _).2 p e s m args below meth c n0 s0 hC h H locs ls v h' g1 g2 hP hS hl hq e2)
  · exact va_alen hC.1 hC.2.1 hK hP i 3 (mv_ws_r (by omega) hi) rfl rfl hdg ((kk _).2 p e s m args below meth c n0 s0 hC h H locs ls v h' g1 g2 hP hS hl hq e2)
theorem mv_iald {r : Option Nat} {j : Int32} {g : Int32 → mv_M α} (hdg : decode cc pc = .ok (.iaload, 1)) (hp : pc + 1 = q) (kk : ∀ x, mv_Sim l N0 D dA own cc nL fr lo ret ini rv q L (.int x :: st) (g x)) : mv_Sim l N0 D dA own cc nL fr lo ret ini rv pc L (.int j :: mv_vr N0 r :: st) (mv_bd (mv_aI r j) g) := by
  subst hp
  refine ⟨mv_Gr.bd mv_Gr.aI (fun a => (kk a).1), fun p e s m args below meth c n0 s0 hC h H locs ls v h' g1 g2 hP hS hl hq hf => ?_⟩
  obtain ⟨a, h1, e1, e2⟩ := mv_bd_of hf
  obtain ⟨i, n, rfl, hi, hin, rfl, rfl⟩ := mv_aI_of e1
  exact va_iald hC.1 hC.2.1 hC.2.2.2.2.2.2.2.2.1 hP i 0 (mv_ws_a hi) rfl hin hdg ((kk _).2 p e s m args below meth c n0 s0 hC h H locs ls v h' g1 g2 hP hS hl hq e2)
theorem mv_iast {r : Option Nat} {j x : Int32} {g : Unit → mv_M α} (hdg : decode cc pc = .ok (.iastore, 1)) (hp : pc + 1 = q) (kk : mv_Sim l N0 D dA own cc nL fr lo ret ini rv q L st (g ())) : mv_Sim l N0 D dA own cc nL fr lo ret ini rv pc L (.int x :: .int j :: mv_vr N0 r :: st) (mv_bd (mv_aS r j x) g) := by
  subst hp
  refine ⟨mv_Gr.bd mv_Gr.aS (fun _ => kk.1), fun p e s m args below meth c n0 s0 hC h H locs ls v h' g1 g2 hP hS hl hq hf => ?_⟩
  obtain ⟨a, h1, e1, e2⟩ := mv_bd_of hf
  obtain ⟨i, n, rfl, hi, hin, rfl⟩ := mv_aS_of e1
  refine va_iast hC.1 hC.2.1 hC.2.2.2.2.2.2.2.2.1 hP (mv_ws_D N0 dA h) hS i 0 (mv_ws_a hi) rfl hin hdg (fun H1 locs1 hP1 _ hS1 => ?_)
  rw [mv_ws_set (h := h) (h' := (h.1, h.2.1, mv_u2 h.2.2.1 i j.toNatClampNeg x, h.2.2.2)) rfl hi (by
    exact mv_upd_cE) (fun j z hj => mv_cE_congr (mv_u2_ne hj) rfl)] at hP1
  exact kk.2 p e s m args below meth c n0 s0 hC (h.1, h.2.1, mv_u2 h.2.2.1 i j.toNatClampNeg x, h.2.2.2) H1 locs1 ls v h' g1 g2 hP1 hS1 hl hq e2

theorem mv_aald {t : Nat} {E : String} {r : Option Nat} {j : Int32} {g : Option Nat → mv_M α} (ht : ∀ dA, (mv_ty dA)[t]? = some (dA t, .object E)) (ht1 : 1 ≤ t) (hdg : decode cc pc = .ok (.aaload, 1)) (hp : pc + 1 = q) (kk : ∀ x, mv_Sim l N0 D dA own cc nL fr lo ret ini rv q L (mv_vr N0 x :: st) (g x)) : mv_Sim l N0 D dA own cc nL fr lo ret ini rv pc L (.int j :: mv_vr N0 r :: st) (mv_bd (mv_aR t r j) g) := by
  subst hp
  refine ⟨mv_Gr.bd mv_Gr.aR (fun a => (kk a).1), fun p e s m args below meth c n0 s0 hC h H locs ls v h' g1 g2 hP hS hl hq hf => ?_⟩
  obtain ⟨a, h1, e1, e2⟩ := mv_bd_of hf
  obtain ⟨i, n, rfl, hi, hin, rfl, rfl⟩ := mv_aR_of e1
  exact va_aldq hC.1 hC.2.1 hC.2.2.2.2.2.2.2.2.1 hP i t (mv_ws_r ht1 hi) (ht dA) hin hdg ((kk _).2 p e s m args below meth c n0 s0 hC h H locs ls v h' g1 g2 hP hS hl hq e2)
theorem mv_aast {t ci n : Nat} {C : String} {T : u_T} {r x : Option Nat} {j : Int32} {g : Unit → mv_M α} (ht : ∀ dA, (mv_ty dA)[t]? = some (dA t, .object C)) (ht1 : 1 ≤ t) (hc : vwCl[ci]? = some (C, T, n)) (hci : ci < 8) (hdg : decode cc pc = .ok (.aastore, 1)) (hp : pc + 1 = q) (kk : mv_Sim l N0 D dA own cc nL fr lo ret ini rv q L st (g ())) : mv_Sim l N0 D dA own cc nL fr lo ret ini rv pc L (mv_vr N0 x :: .int j :: mv_vr N0 r :: st) (mv_bd (mv_aT t ci n r j x) g) := by
  subst hp
  refine ⟨mv_Gr.bd mv_Gr.aT (fun _ => kk.1), fun p e s m args below meth c n0 s0 hC h H locs ls v h' g1 g2 hP hS hl hq hf => ?_⟩
  obtain ⟨a, h1, e1, e2⟩ := mv_bd_of hf
  obtain ⟨i, n2, y, rfl, rfl, hi, hin, hy, rfl⟩ := mv_aT_of e1
  refine va_astq (r := (C, T, n)) hC.1 hC.2.1 hC.2.2.2.2.2.2.2.2.1 hP (mv_ws_D N0 dA h) hS i t y ci (mv_ws_r ht1 hi) (ht dA) (mv_ws_o hy hci) hc hin hdg (fun H1 locs1 hP1 _ hS1 => ?_)
  rw [mv_ws_set (h := h) (h' := (h.1, h.2.1, h.2.2.1, mv_u2 h.2.2.2 i j.toNatClampNeg (some y))) rfl hi (mv_up_cE ht1) (fun j z hj => mv_cE_congr rfl (mv_u2_ne hj))] at hP1
  exact kk.2 p e s m args below meth c n0 s0 hC (h.1, h.2.1, h.2.2.1, mv_u2 h.2.2.2 i j.toNatClampNeg (some y)) H1 locs1 ls v h' g1 g2 hP1 hS1 hl hq e2

theorem mv_bound {p : Program} {e : Env} {R : Room} {s : State} {m : MethodId} {args : Array Value} {below : List Frame} {meth : Method} {c : Code} {H : Heap} {locs : List Loc} {cells slots : Nat} {Q : State → Prop} {g : JFrame} (kk : H.size ≤ s.heap.size + cells → W p l e R s m args below meth c H locs cells slots Q g) : W p l e R s m args below meth c H locs cells slots Q g := fun T hT X => kk (by rw [← hT]; exact X.heapSize) T hT X
theorem mv_size {s : State} {h : mv_Hp} {H : Heap} {locs : List Loc} {n0 : Nat} (hz : s.heap.size = N0 + n0) (g1 : n0 ≤ h.1.length) (hP : va_P D vwCl (mv_ws N0 dA h) H) (hS : va_S (fun q : Nat => N0 ≤ q) s.heap H locs) (hb : H.size ≤ s.heap.size + (h.1.length - n0)) : H.size = N0 + h.1.length := by
  have h1 := hS.1
  by_cases h0 : h.1.length = 0
  · omega
  · have hlt : h.1.length - 1 < h.1.length := by omega
    have h2 := (hP (h.1.length - 1) _ (mv_ws_get (List.getElem?_eq_getElem hlt))).lt
    have h3 : N0 + (h.1.length - 1) < H.size := h2
    omega
theorem mv_fresh {h : mv_Hp} {a B : Nat} {e : va_E} (hD : va_D (fun q : Nat => N0 ≤ q) (mv_ws N0 dA h ++ [(a, e)])) (hb : a < B) (hB : B = N0 + h.1.length + 1) : a = N0 + h.1.length := by
  have hl : (mv_ws N0 dA h ++ [(a, e)])[h.1.length]? = some (a, e) := by
    rw [List.getElem?_append_right (by rw [mv_ws_len]; exact Nat.le_refl _), mv_ws_len]; simp
  have h1 : N0 ≤ a := hD.2 _ _ hl
  rcases Nat.lt_or_ge a (N0 + h.1.length) with hlt | hge
  · exfalso
    have hk : a - N0 < h.1.length := by omega
    have h2 := mv_ws_get (N0 := N0) (dA := dA) (List.getElem?_eq_getElem hk)
    have h3 : (mv_ws N0 dA h ++ [(a, e)])[a - N0]? = some (N0 + (a - N0), mv_cE N0 dA h (a - N0) h.1[a - N0]) := by
      rw [List.getElem?_append_left (by rw [mv_ws_len]; exact hk)]; exact h2
    have h4 := hD.1 _ _ _ _ hl h3 (by show a = N0 + (a - N0); omega)
    omega
  · omega
theorem mv_ws_new {h : mv_Hp} {c n : Nat} {e : va_E} (he : mv_cE N0 dA (h.1 ++ [(c, n)], h.2.1 + n, mv_u1 h.2.2.1 h.1.length 0, mv_u1 h.2.2.2 h.1.length none) h.1.length (c, n) = e) : mv_ws N0 dA h ++ [(N0 + h.1.length, e)] = mv_ws N0 dA (h.1 ++ [(c, n)], h.2.1 + n, mv_u1 h.2.2.1 h.1.length 0, mv_u1 h.2.2.2 h.1.length none) :=
  mv_ws_push rfl he (fun j z hj => mv_cE_congr (mv_u1_ne hj) (mv_u1_ne hj))
theorem mv_new {ci n idx : Nat} {C : String} {T : u_T} {ty : Nat → FieldType} {g : Option Nat → mv_M α} (hc : vwCl[ci]? = some (C, T, n)) (hci : ci < 8) (hin : ∀ w ∈ u_ws C T n, w ∈ mv_wA) (hty : ∀ k, k < n → parseFieldDescriptor (T k).2.2.1 = some (ty k)) (hdf : ∀ k, k < n → defaultValue (ty k) = if mv_rs ci k = true then .null else .int 0) (hw : Cond.classLink own idx C ∈ mv_wA ∧ Cond.instantiable C n ∈ mv_wA ∧ Cond.initialized C ∈ mv_wA) (hdg : decode cc pc = .ok (.new idx, 3)) (hp : pc + 3 = q) (kk : ∀ x, mv_Sim l N0 D dA own cc nL fr lo ret ini rv q L (mv_vr N0 x :: st) (g x)) : mv_Sim l N0 D dA own cc nL fr lo ret ini rv pc L st (mv_bd (mv_nw ci n) g) := by
  subst hp
  refine ⟨mv_Gr.bd mv_Gr.nw (fun a => (kk a).1), fun p e s m args below meth c n0 s0 hC h H locs ls v h' g1 g2 hP hS hl hq hf => ?_⟩
  obtain ⟨a, h1, e1, e2⟩ := mv_bd_of hf
  have hg := (kk a).1 h1 v h' e2
  cases e1
  have hg1 : h.1.length + 1 ≤ h'.1.length := by have := hg.1; simpa using this
  have hg2 : h.2.1 + n ≤ h'.2.1 := hg.2
  have hz := hC.2.2.2.2.2.2.2.2.2.2
  refine va_new (D := D) hC.1 hC.2.1 hC.2.2.2.2.1 hin ty hty hC.2.2.2.1 (hC.2.2.2.2.1 _ hw.1) (hC.2.2.2.2.1 _ hw.2.1) (hC.2.2.2.2.1 _ hw.2.2) hC.2.2.2.2.2.2.2.2.1 hP (mv_ws_D N0 dA h) hS (fun q hq => by rw [hz] at hq; exact Nat.le_trans (Nat.le_add_right _ _) hq) hc (fs := mv_fs N0 (h.1 ++ [(ci, n)], h.2.1 + n, mv_u1 h.2.2.1 h.1.length 0, mv_u1 h.2.2.2 h.1.length none) h.1.length ci n) (fun k hk => ?_) (by show h.1.length - n0 + 1 ≤ h'.1.length - n0; omega) (by show h.2.1 - s0 + n ≤ h'.2.1 - s0; omega) hdg (fun a H1 hP1 hD1 hS1 => ?_)
  · rw [hdf k hk]
    simp only [vp_V, List.getD, mv_fs_get hk, Option.getD_some]
    by_cases hr : mv_rs ci k = true
    · simp [hr, mv_u1, mv_vr, va_rf]
    · simp [hr, mv_u1]
  · refine mv_bound (fun hb => ?_)
    have hlt := (hP1 h.1.length _ (by rw [List.getElem?_append_right (by rw [mv_ws_len]; exact Nat.le_refl _), mv_ws_len]; simp; rfl)).lt
    have ha : a = N0 + h.1.length := mv_fresh hD1 (B := N0 + h.1.length + 1) (by have h5 : a < H1.size := hlt; omega) rfl
    subst ha
    rw [mv_ws_new (mv_cE_o hci)] at hP1
    have e3 : h.1.length - n0 + 1 = (h.1 ++ [(ci, n)]).length - n0 := by simp; omega
    have e4 : h.2.1 - s0 + n = (h.2.1 + n) - s0 := by omega
    rw [e3, e4]
    exact (kk _).2 p e s m args below meth c n0 s0 hC _ H1 locs ls v h' (by show n0 ≤ (h.1 ++ [(ci, n)]).length; simp; omega) (by show s0 ≤ h.2.1 + n; omega) hP1 hS1 hl hq e2
theorem mv_newa {x : Int32} {g : Option Nat → mv_M α} (hw : Cond.arrayClass .int ∈ mv_wA) (hdg : decode cc pc = .ok (.newarray .int, 2)) (hp : pc + 2 = q) (kk : ∀ x, mv_Sim l N0 D dA own cc nL fr lo ret ini rv q L (mv_vr N0 x :: st) (g x)) : mv_Sim l N0 D dA own cc nL fr lo ret ini rv pc L (.int x :: st) (mv_bd (mv_nA 8 x) g) := by
  subst hp
  refine ⟨mv_Gr.bd mv_Gr.nA (fun a => (kk a).1), fun p e s m args below meth c n0 s0 hC h H locs ls v h' g1 g2 hP hS hl hq hf => ?_⟩
  obtain ⟨a, h1, e1, e2⟩ := mv_bd_of hf
  have hg := (kk a).1 h1 v h' e2
  obtain ⟨hx0, hx1, e1⟩ := mv_nA_of e1
  generalize hN : x.toNatClampNeg = n at hx1 e1
  cases e1
  have hg1 : h.1.length + 1 ≤ h'.1.length := by have := hg.1; simpa using this
  have hg2 : h.2.1 + n ≤ h'.2.1 := hg.2
  have hz := hC.2.2.2.2.2.2.2.2.2.2
  have hK := hC.2.2.2.2.2.2.2.2.1
  refine va_newa (D := D) (atype := .int) (ty := .int) (a0 := (n, .inl (fun _ => 0))) hC.1 hC.2.1 (hC.2.2.2.2.1 _ hw) rfl hK hP (mv_ws_D N0 dA h) hS (fun q hq => by rw [hz] at hq; exact Nat.le_trans (Nat.le_add_right _ _) hq) (fun cA => rfl) hx0 hN (by show n * 4 ≤ _; omega) (by show h.1.length - n0 + 1 ≤ h'.1.length - n0; omega) (by show h.2.1 - s0 + n ≤ h'.2.1 - s0; omega) hdg (fun a cA H1 hK1 hP1 hD1 hS1 => ?_)
  have hcA : cA = dA 0 := by
    have h5 := (hK1.2 4 (cA, .int) rfl).2
    have h6 := (hK.2 0 (dA 0, .int) rfl).2
    exact Option.some.inj (Eq.trans (Eq.symm h5) h6)
  subst hcA
  refine mv_bound (fun hb => ?_)
  have hlt := (hP1 h.1.length _ (by rw [List.getElem?_append_right (by rw [mv_ws_len]; exact Nat.le_refl _), mv_ws_len]; simp; rfl)).lt
  have ha : a = N0 + h.1.length := mv_fresh hD1 (B := N0 + h.1.length + 1) (by have h5 : a < H1.size := hlt; omega) rfl
  subst ha
  rw [mv_ws_new (c := 8) (n := n) (by
    unfold mv_cE
    rw [if_neg (show ¬ (8 : Nat) < 8 by decide), if_pos rfl]
    have e5 : mv_u1 h.2.2.1 h.1.length (0 : Int32) h.1.length = fun _ => 0 := by funext b; simp [mv_u1]
    simp only [e5])] at hP1
  have e3 : h.1.length - n0 + 1 = (h.1 ++ [(8, n)]).length - n0 := by simp; omega
  have e4 : h.2.1 - s0 + n = (h.2.1 + n) - s0 := by omega
  rw [e3, e4]
  exact (kk _).2 p e s m args below meth c n0 s0 hC _ H1 locs ls v h' (by show n0 ≤ (h.1 ++ [(8, n)]).length; simp; omega) (by show s0 ≤ h.2.1 + n; omega) hP1 hS1 hl hq e2
theorem mv_newq {t idx : Nat} {C : String} {x : Int32} {g : Option Nat → mv_M α} (ht : ∀ dA, (mv_ty dA)[t]? = some (dA t, .object C)) (ht1 : 1 ≤ t) (hO : ∀ s, mv_NW s → va_AO C s) (hw : Cond.classLink own idx C ∈ mv_wA) (hdg : decode cc pc = .ok (.anewarray idx, 3)) (hp : pc + 3 = q) (kk : ∀ x, mv_Sim l N0 D dA own cc nL fr lo ret ini rv q L (mv_vr N0 x :: st) (g x)) : mv_Sim l N0 D dA own cc nL fr lo ret ini rv pc L (.int x :: st) (mv_bd (mv_nA (8 + t) x) g) := by
  subst hp
  refine ⟨mv_Gr.bd mv_Gr.nA (fun a => (kk a).1), fun p e s m args below meth c n0 s0 hC h H locs ls v h' g1 g2 hP hS hl hq hf => ?_⟩
  obtain ⟨a, h1, e1, e2⟩ := mv_bd_of hf
  have hg := (kk a).1 h1 v h' e2
  obtain ⟨hx0, hx1, e1⟩ := mv_nA_of e1
  generalize hN : x.toNatClampNeg = n at hx1 e1
  cases e1
  have hg1 : h.1.length + 1 ≤ h'.1.length := by have := hg.1; simpa using this
  have hg2 : h.2.1 + n ≤ h'.2.1 := hg.2
  have hz := hC.2.2.2.2.2.2.2.2.2.2
  have hK := hC.2.2.2.2.2.2.2.2.1
  refine va_newq (D := D) hC.1 hC.2.1 hC.2.2.2.1 (hC.2.2.2.2.1 _ hw) (hO s hC.2.2.2.2.2.2.2.2.2.1) hK hP (mv_ws_D N0 dA h) hS (fun q hq => by rw [hz] at hq; exact Nat.le_trans (Nat.le_add_right _ _) hq) hx0 hN (by omega) (by show h.1.length - n0 + 1 ≤ h'.1.length - n0; omega) (by show h.2.1 - s0 + n ≤ h'.2.1 - s0; omega) hdg (fun a cA H1 hK1 hP1 hD1 hS1 => ?_)
  have hcA : cA = dA t := by
    obtain ⟨_, _, -, -, -, h5⟩ := (hK1.2 4 (cA, .object C) rfl).2
    obtain ⟨_, _, -, -, -, h6⟩ := (hK.2 t (dA t, .object C) (ht dA)).2
    exact Option.some.inj (Eq.trans (Eq.symm h5) h6)
  subst hcA
  refine mv_bound (fun hb => ?_)
  have hlt := (hP1 h.1.length _ (by rw [List.getElem?_append_right (by rw [mv_ws_len]; exact Nat.le_refl _), mv_ws_len]; simp; rfl)).lt
  have ha : a = N0 + h.1.length := mv_fresh hD1 (B := N0 + h.1.length + 1) (by have h5 : a < H1.size := hlt; omega) rfl
  subst ha
  rw [mv_ws_new (c := 8 + t) (n := n) (by
    unfold mv_cE
    rw [if_neg (by omega), if_neg (by show ¬ 8 + t = 8; omega)]
    have e5 : mv_u1 h.2.2.2 h.1.length (none : Option Nat) h.1.length = fun _ => none := by funext b; simp [mv_u1]
    simp [e5])] at hP1
  have e3 : h.1.length - n0 + 1 = (h.1 ++ [(8 + t, n)]).length - n0 := by simp; omega
  have e4 : h.2.1 - s0 + n = (h.2.1 + n) - s0 := by omega
  rw [e3, e4]
  exact (kk _).2 p e s m args below meth c n0 s0 hC _ H1 locs ls v h' (by show n0 ≤ (h.1 ++ [(8 + t, n)]).length; simp; omega) (by show s0 ≤ h.2.1 + n; omega) hP1 hS1 hl hq e2

theorem mv_goodIn {y : MethodName} {cb : ByteArray} {k : Nat} {rt : Option FieldType} (h : Cond.code y cb k rt ∈ mv_wA) : GoodIn mv_wA (.code y cb k rt :: mv_wA) := fun w hw => by
  have hm : w ∈ mv_wA := (List.mem_cons.mp hw).elim (fun e => by rw [e]; exact h) id
  exact ⟨hm, good_of_word (List.all_eq_true.mp mv_good w hm)⟩
theorem mv_blind {av : List Value} {h : mv_Hp} : FrameBlind (mv_Pc N0 D dA av h) := fun a U g mk z => ⟨z.1, z.2.1, z.2.2.1, va_K.moved (u := U) (U := U.calling g mk a) (Vm.Alike.refl U.vm) z.2.2.2.1, mv_NW.same (u := U) (U := U.calling g mk a) rfl z.2.2.2.2⟩
theorem mv_ofRun {p : Program} {e : Env} {R : Room} {s : State} {m : MethodId} {args : Array Value} {below : List Frame} {meth : Method} {c : Code} {H : Heap} {locs : List Loc} {Q : State → Prop} {n0 s0 : Nat} {β : Type} {rv' : β → Option Value} {b : β} {h h1 : mv_Hp} {a : Array Value} {ls : Array Slot} {rest st0 : List Value} (g1 : n0 ≤ h.1.length) (g2 : s0 ≤ h.2.1) (k1 : h.1.length ≤ h1.1.length) (k2 : h.2.1 ≤ h1.2.1)
    (hr : va_Run p l e R s m args below meth c H locs (h.1.length - n0) (h.2.1 - s0) (h1.1.length - h.1.length) (h1.2.1 - h.2.1) (F0 m pc ls st0) rest (mv_Qc N0 D dA rv' b h1 a) (fun q : Nat => N0 ≤ q)) (hS : va_S (fun q : Nat => N0 ≤ q) s.heap H locs)
    (kk : ∀ (H1 : Heap) (locs1 : List Loc), va_P D vwCl (mv_ws N0 dA h1) H1 → va_S (fun q : Nat => N0 ≤ q) s.heap H1 locs1 → W p l e R s m args below meth c H1 locs1 (h1.1.length - n0) (h1.2.1 - s0) Q (F0 m (pc + 3) ls ((rv' b).toList ++ rest))) :
    W p l e R s m args below meth c H locs (h.1.length - n0) (h.2.1 - s0) Q (F0 m pc ls st0) := by
  intro T hT X
  obtain ⟨v', st₀, t, T', L1, h0, X', hL, e1, e2, ⟨hv, hp, hz, hk⟩, st⟩ := hr T hT X
  have hv2 : v' = rv' b := Outcome.returned.inj hv
  subst hv2
  rw [h0] at hz hk
  have e3 : h.1.length - n0 + (h1.1.length - h.1.length) = h1.1.length - n0 := by omega
  have e4 : h.2.1 - s0 + (h1.2.1 - h.2.1) = h1.2.1 - s0 := by omega
  rw [e3, e4] at X'
  obtain ⟨t2, a1, b1⟩ := kk T'.heap (locs ++ L1) (by rw [e1]; exact hp) ⟨Nat.le_trans hS.1 (by rw [e1]; exact hz), fun q h1 h2 => by rw [e1, hk q (Nat.lt_of_lt_of_le h1 hS.1) h2]; exact hS.2.1 q h1 h2, fun q hq => (List.mem_append.mp hq).elim (hS.2.2 q) (fun h => hL q h)⟩ T' rfl X'
  exact ⟨t2, st t2 a1, b1⟩
theorem mv_cs {st : List Value} (h1 : st.length ≤ 8) (h : ∀ v ∈ st, v.category = 1) : (st.map fun v => v.category).sum ≤ 8 := by
  have e : ∀ st : List Value, (∀ v ∈ st, v.category = 1) → (st.map fun v => v.category).sum = st.length := by
    intro st
    induction st with
    | nil => intro _; rfl
    | cons a t ih => intro h; simp only [List.map_cons, List.sum_cons, List.length_cons, ih (fun v hv => h v (List.mem_cons_of_mem _ hv)), h a List.mem_cons_self]; omega
  rw [e st h]; exact h1
def mv_nm (y : MethodName) (n : Nat) : Prop := y.cls ≠ "java/lang/invoke/MethodHandle" ∧ y.cls ≠ "java/lang/invoke/VarHandle" ∧ (parseMethodDescriptor y.desc).map (fun d => d.parameters.length) = some n
def mv_wV (own : String) (idx : Nat) (C : String) (y : MethodName) (cb : ByteArray) (k : Nat) (rt : Option FieldType) (n : Nat) : Prop := Cond.methodLink own idx y ∈ mv_wA ∧ Cond.instanceMethod y ∈ mv_wA ∧ Cond.selects C y y ∈ mv_wA ∧ Cond.initialized y.cls ∈ mv_wA ∧ Cond.code y cb k rt ∈ mv_wA ∧ mv_nm y n
def mv_wS (own : String) (idx : Nat) (y : MethodName) (cb : ByteArray) (k : Nat) (rt : Option FieldType) (n : Nat) : Prop := Cond.methodLink own idx y ∈ mv_wA ∧ Cond.static y ∈ mv_wA ∧ Cond.initialized y.cls ∈ mv_wA ∧ Cond.code y cb k rt ∈ mv_wA ∧ mv_nm y n
def mv_wI (own : String) (idx : Nat) (y : MethodName) (cb : ByteArray) (k n : Nat) : Prop := (Cond.methodLink own idx y ∈ mv_wA ∨ ∃ host, Cond.methodLinkNest own idx y host ∈ mv_nest) ∧ Cond.instanceMethod y ∈ mv_wA ∧ Cond.initialized y.cls ∈ mv_wA ∧ Cond.code y cb k none ∈ mv_wA ∧ y.name = "<init>" ∧ mv_nm y n
/-- the walk behind a call, for any room and end -/
theorem mv_wcallV {p : Program} {e : Env} {R : Room} {s : State} {m : MethodId} {args : Array Value} {below : List Frame} {meth : Method} {c : Code} {H : Heap} {locs : List Loc} {Q : State → Prop} {n0 s0 : Nat} {β : Type} {rv' : β → Option Value} {b : β} {h h1 : mv_Hp} {ls : Array Slot} {stk : List Value} {y : MethodName} {cb : ByteArray} {kL fr' lo' ci n idx i : Nat} {rt : Option FieldType} {C : String} {T : u_T} {gf : mv_M β} (As : List Value) (hC : mv_Cx N0 D dA own cc nL ret ini p s m args meth c n0)
    (hM : mv_SimM l N0 D dA y cb kL rt fr' lo' rv' (.ref (N0 + i) :: As) gf) (hc : vwCl[ci]? = some (C, T, n)) (hci : ci < 8) (hw : mv_wV own idx C y cb kL rt As.length) (hR : fr' + 1 ≤ R.frames ∧ 8 + (kL + 11) + lo' ≤ R.locals) (hRc : h1.1.length - n0 ≤ R.cells ∧ h1.2.1 - s0 ≤ R.slots) (hst : stk = As.reverse ++ .ref (N0 + i) :: st) (hcat : (st.map fun v => v.category).sum ≤ 8) (hdg : decode cc pc = .ok (.invokevirtual idx, 3))
    (g1 : n0 ≤ h.1.length) (g2 : s0 ≤ h.2.1) (hP : va_P D vwCl (mv_ws N0 dA h) H) (hS : va_S (fun q : Nat => N0 ≤ q) s.heap H locs) (hsz : ls.size = nL) (hi : h.1[i]? = some (ci, n)) (hg : gf h = some (b, h1))
    (kk : ∀ (H1 : Heap) (locs1 : List Loc), va_P D vwCl (mv_ws N0 dA h1) H1 → va_S (fun q : Nat => N0 ≤ q) s.heap H1 locs1 → W p l e R s m args below meth c H1 locs1 (h1.1.length - n0) (h1.2.1 - s0) Q (F0 m (pc + 3) ls ((rv' b).toList ++ st))) :
    W p l e R s m args below meth c H locs (h.1.length - n0) (h.2.1 - s0) Q (F0 m pc ls stk) := by
  obtain ⟨hx, hb, hml, hown, hts, -, -, -, hK, hNW, hz⟩ := hC
  obtain ⟨w1, w2, w3, w4, w5, w6⟩ := hw
  have hgr := hM.1 h b h1 hg
  refine mv_bound (fun hbd => ?_)
  have hsize := mv_size hz g1 hP hS hbd
  refine mv_ofRun g1 g2 hgr.1 hgr.2 (va_runV (As := As) (rest := st) ⟨hx, hb, hml, hown, hts⟩ (hM.2 h b h1 hg) ⟨callB_of As.length hts (mv_goodIn w5) rfl rfl rfl (hts _ w4) (hts _ w1) w6 hR, hts _ w2, hts _ w3⟩ ⟨mv_blind, va_recv hK hP hc (mv_ws_o hi hci), fun U hU hW => ⟨rfl, by rw [hU]; exact hsize, by rw [hU]; exact hP, va_K.moved hW.alike hK, mv_NW.warm hW hNW⟩⟩ rfl rfl hsz hst (lv_room hcat) hdg ⟨by omega, by omega⟩) hS kk
theorem mv_wcallS {p : Program} {e : Env} {R : Room} {s : State} {m : MethodId} {args : Array Value} {below : List Frame} {meth : Method} {c : Code} {H : Heap} {locs : List Loc} {Q : State → Prop} {n0 s0 : Nat} {β : Type} {rv' : β → Option Value} {b : β} {h h1 : mv_Hp} {ls : Array Slot} {stk : List Value} {y : MethodName} {cb : ByteArray} {kL fr' lo' idx : Nat} {rt : Option FieldType} {gf : mv_M β} (As : List Value) (hC : mv_Cx N0 D dA own cc nL ret ini p s m args meth c n0)
    (hM : mv_SimM l N0 D dA y cb kL rt fr' lo' rv' As gf) (hw : mv_wS own idx y cb kL rt As.length) (hR : fr' + 1 ≤ R.frames ∧ 8 + (kL + 11) + lo' ≤ R.locals) (hRc : h1.1.length - n0 ≤ R.cells ∧ h1.2.1 - s0 ≤ R.slots) (hst : stk = As.reverse ++ st) (hcat : (st.map fun v => v.category).sum ≤ 8) (hdg : decode cc pc = .ok (.invokestatic idx, 3))
    (g1 : n0 ≤ h.1.length) (g2 : s0 ≤ h.2.1) (hP : va_P D vwCl (mv_ws N0 dA h) H) (hS : va_S (fun q : Nat => N0 ≤ q) s.heap H locs) (hsz : ls.size = nL) (hg : gf h = some (b, h1))
    (kk : ∀ (H1 : Heap) (locs1 : List Loc), va_P D vwCl (mv_ws N0 dA h1) H1 → va_S (fun q : Nat => N0 ≤ q) s.heap H1 locs1 → W p l e R s m args below meth c H1 locs1 (h1.1.length - n0) (h1.2.1 - s0) Q (F0 m (pc + 3) ls ((rv' b).toList ++ st))) :
    W p l e R s m args below meth c H locs (h.1.length - n0) (h.2.1 - s0) Q (F0 m pc ls stk) := by
  obtain ⟨hx, hb, hml, hown, hts, -, -, -, hK, hNW, hz⟩ := hC
  obtain ⟨w1, w2, w4, w5, w6⟩ := hw
  have hgr := hM.1 h b h1 hg
  refine mv_bound (fun hbd => ?_)
  have hsize := mv_size hz g1 hP hS hbd
  refine mv_ofRun g1 g2 hgr.1 hgr.2 (va_runS (As := As) (rest := st) ⟨hx, hb, hml, hown, hts⟩ (hM.2 h b h1 hg) ⟨callB_of As.length hts (mv_goodIn w5) rfl rfl rfl (hts _ w4) (hts _ w1) w6 hR, hts _ w2⟩ ⟨mv_blind, fun U hU hW => ⟨rfl, by rw [hU]; exact hsize, by rw [hU]; exact hP, va_K.moved hW.alike hK, mv_NW.warm hW hNW⟩⟩ rfl rfl hsz hst (lv_room hcat) hdg ⟨by omega, by omega⟩) hS kk
theorem mv_wcallI {p : Program} {e : Env} {R : Room} {s : State} {m : MethodId} {args : Array Value} {below : List Frame} {meth : Method} {c : Code} {H : Heap} {locs : List Loc} {Q : State → Prop} {n0 s0 : Nat} {b : Unit} {h h1 : mv_Hp} {ls : Array Slot} {stk : List Value} {y : MethodName} {cb : ByteArray} {kL fr' lo' idx i : Nat} {gf : mv_M Unit} (As : List Value) (hC : mv_Cx N0 D dA own cc nL ret ini p s m args meth c n0)
    (hM : mv_SimM l N0 D dA y cb kL none fr' lo' mv_rV (.ref (N0 + i) :: As) gf) (hw : mv_wI own idx y cb kL As.length) (hR : fr' + 1 ≤ R.frames ∧ 8 + (kL + 11) + lo' ≤ R.locals) (hRc : h1.1.length - n0 ≤ R.cells ∧ h1.2.1 - s0 ≤ R.slots) (hst : stk = As.reverse ++ .ref (N0 + i) :: st) (hcat : (st.map fun v => v.category).sum ≤ 8) (hdg : decode cc pc = .ok (.invokespecial idx, 3))
    (g1 : n0 ≤ h.1.length) (g2 : s0 ≤ h.2.1) (hP : va_P D vwCl (mv_ws N0 dA h) H) (hS : va_S (fun q : Nat => N0 ≤ q) s.heap H locs) (hsz : ls.size = nL) (hg : gf h = some (b, h1))
    (kk : ∀ (H1 : Heap) (locs1 : List Loc), va_P D vwCl (mv_ws N0 dA h1) H1 → va_S (fun q : Nat => N0 ≤ q) s.heap H1 locs1 → W p l e R s m args below meth c H1 locs1 (h1.1.length - n0) (h1.2.1 - s0) Q (F0 m (pc + 3) ls st)) :
    W p l e R s m args below meth c H locs (h.1.length - n0) (h.2.1 - s0) Q (F0 m pc ls stk) := by
  obtain ⟨hx, hb, hml, hown, hts, -, -, -, hK, hNW, hz⟩ := hC
  obtain ⟨w1, w2, w4, w5, w6, w7⟩ := hw
  have hgr := hM.1 h b h1 hg
  refine mv_bound (fun hbd => ?_)
  have hsize := mv_size hz g1 hP hS hbd
  rcases w1 with w1 | ⟨host, w1⟩
  · exact mv_ofRun g1 g2 hgr.1 hgr.2 (va_runI (As := As) (rest := st) ⟨hx, hb, hml, hown, hts⟩ (hM.2 h b h1 hg) ⟨callB_of As.length hts (mv_goodIn w5) rfl rfl rfl (hts _ w4) (hts _ w1) w7 hR, w6, hts _ w2⟩ ⟨mv_blind, fun U hU hW => ⟨rfl, by rw [hU]; exact hsize, by rw [hU]; exact hP, va_K.moved hW.alike hK, mv_NW.warm hW hNW⟩⟩ rfl rfl hsz hst (lv_room hcat) hdg ⟨by omega, by omega⟩) hS kk
  · exact mv_ofRun g1 g2 hgr.1 hgr.2 (va_runIN (host := host) (As := As) (rest := st) ⟨hx, hb, hml, hown, hts⟩ (hM.2 h b h1 hg) ⟨va_cnB As.length hts (mv_goodIn w5) rfl rfl rfl (hNW.1 _ w1) (hts _ w4) w7 hR, w6, hts _ w2⟩ ⟨mv_blind, fun U hU hW => ⟨rfl, by rw [hU]; exact hsize, by rw [hU]; exact hP, va_K.moved hW.alike hK, mv_NW.warm hW hNW⟩⟩ rfl rfl hsz hst (lv_room hcat) hdg ⟨by omega, by omega⟩) hS kk
theorem mv_callV {β : Type} {rv' : β → Option Value} {gf : Nat → mv_M β} {g : β → mv_M α} {stk : List Value} {y : MethodName} {cb : ByteArray} {kL fr' lo' ci n idx : Nat} {rt : Option FieldType} {C : String} {T : u_T} {r : Option Nat} (As : List Value) (hM : ∀ i, mv_SimM l N0 D dA y cb kL rt fr' lo' rv' (.ref (N0 + i) :: As) (gf i)) (hc : vwCl[ci]? = some (C, T, n)) (hci : ci < 8) (hw : mv_wV own idx C y cb kL rt As.length) (hR : fr' + 1 ≤ fr ∧ 8 + (kL + 11) + lo' ≤ lo) (hst : stk = As.reverse ++ mv_vr N0 r :: st) (hcat : (st.map fun v => v.category).sum ≤ 8) (hdg : decode cc pc = .ok (.invokevirtual idx, 3)) (hp : pc + 3 = q) (kk : ∀ b, mv_Sim l N0 D dA own cc nL fr lo ret ini rv q L ((rv' b).toList ++ st) (g b)) : mv_Sim l N0 D dA own cc nL fr lo ret ini rv pc L stk (mv_bd (mv_rc ci n r) fun i => mv_bd (gf i) g) := by
  subst hp
  refine ⟨mv_Gr.bd mv_Gr.rc (fun i => mv_Gr.bd (hM i).1 (fun a => (kk a).1)), fun p e s m args below meth c n0 s0 hC h H locs ls v h' g1 g2 hP hS hl hq hf => ?_⟩
  obtain ⟨i, h0, e1, e2⟩ := mv_bd_of hf
  obtain ⟨rfl, hi, rfl⟩ := mv_rc_of e1
  obtain ⟨b, h1, e3, e4⟩ := mv_bd_of e2
  have k1 := (hM i).1 _ _ _ e3
  have k2 := (kk b).1 _ _ _ e4
  exact mv_wcallV As hC (hM i) hc hci hw hR ⟨by show h1.1.length - n0 ≤ h'.1.length - n0; omega, by show h1.2.1 - s0 ≤ h'.2.1 - s0; omega⟩ hst hcat hdg g1 g2 hP hS hl.1 hi e3 (fun H1 locs1 hP1 hS1 => (kk b).2 p e s m args below meth c n0 s0 hC h1 H1 locs1 ls v h' (by omega) (by omega) hP1 hS1 hl hq e4)
theorem mv_callS {β : Type} {rv' : β → Option Value} {gf : mv_M β} {g : β → mv_M α} {stk : List Value} {y : MethodName} {cb : ByteArray} {kL fr' lo' idx : Nat} {rt : Option FieldType} (As : List Value) (hM : mv_SimM l N0 D dA y cb kL rt fr' lo' rv' As gf) (hw : mv_wS own idx y cb kL rt As.length) (hR : fr' + 1 ≤ fr ∧ 8 + (kL + 11) + lo' ≤ lo) (hst : stk = As.reverse ++ st) (hcat : (st.map fun v => v.category).sum ≤ 8) (hdg : decode cc pc = .ok (.invokestatic idx, 3)) (hp : pc + 3 = q) (kk : ∀ b, mv_Sim l N0 D dA own cc nL fr lo ret ini rv q L ((rv' b).toList ++ st) (g b)) : mv_Sim l N0 D dA own cc nL fr lo ret ini rv pc L stk (mv_bd gf g) := by
  subst hp
  refine ⟨mv_Gr.bd hM.1 (fun a => (kk a).1), fun p e s m args below meth c n0 s0 hC h H locs ls v h' g1 g2 hP hS hl hq hf => ?_⟩
  obtain ⟨b, h1, e3, e4⟩ := mv_bd_of hf
  have k1 := hM.1 _ _ _ e3
  have k2 := (kk b).1 _ _ _ e4
  exact mv_wcallS As hC hM hw hR ⟨by show h1.1.length - n0 ≤ h'.1.length - n0; omega, by show h1.2.1 - s0 ≤ h'.2.1 - s0; omega⟩ hst hcat hdg g1 g2 hP hS hl.1 e3 (fun H1 locs1 hP1 hS1 => (kk b).2 p e s m args below meth c n0 s0 hC h1 H1 locs1 ls v h' (by omega) (by omega) hP1 hS1 hl hq e4)
theorem mv_callI {gf : Nat → mv_M Unit} {g : Unit → mv_M α} {stk : List Value} {y : MethodName} {cb : ByteArray} {kL fr' lo' ci n idx : Nat} {r : Option Nat} (As : List Value) (hM : ∀ i, mv_SimM l N0 D dA y cb kL none fr' lo' mv_rV (.ref (N0 + i) :: As) (gf i)) (hw : mv_wI own idx y cb kL As.length) (hR : fr' + 1 ≤ fr ∧ 8 + (kL + 11) + lo' ≤ lo) (hst : stk = As.reverse ++ mv_vr N0 r :: st) (hcat : (st.map fun v => v.category).sum ≤ 8) (hdg : decode cc pc = .ok (.invokespecial idx, 3)) (hp : pc + 3 = q) (kk : mv_Sim l N0 D dA own cc nL fr lo ret ini rv q L st (g ())) : mv_Sim l N0 D dA own cc nL fr lo ret ini rv pc L stk (mv_bd (mv_rc ci n r) fun i => mv_bd (gf i) g) := by
  subst hp
  refine ⟨mv_Gr.bd mv_Gr.rc (fun i => mv_Gr.bd (hM i).1 (fun a => kk.1)), fun p e s m args below meth c n0 s0 hC h H locs ls v h' g1 g2 hP hS hl hq hf => ?_⟩
  obtain ⟨i, h0, e1, e2⟩ := mv_bd_of hf
  obtain ⟨rfl, hi, rfl⟩ := mv_rc_of e1
  obtain ⟨b, h1, e3, e4⟩ := mv_bd_of e2
  have k1 := (hM i).1 _ _ _ e3
  have k2 := kk.1 _ _ _ e4
  exact mv_wcallI As hC (hM i) hw hR ⟨by show h1.1.length - n0 ≤ h'.1.length - n0; omega, by show h1.2.1 - s0 ≤ h'.2.1 - s0; omega⟩ hst hcat hdg g1 g2 hP hS hl.1 e3 (fun H1 locs1 hP1 hS1 => kk.2 p e s m args below meth c n0 s0 hC h1 H1 locs1 ls v h' (by omega) (by omega) hP1 hS1 hl hq e4)
theorem mv_SimM_of {y : MethodName} {av : List Value} {L0 : List (Nat × Value)} (ini : Bool) (hy : plainName y.cls = true) (hn : (lg_sl av).length ≤ nL) (hL : lv_args 0 av = L0) (hcat : ∀ q ∈ L0, q.2.category = 1) (hini : ini = true → y.name = "<init>") (hs : mv_Sim l N0 D dA y.cls cc nL fr lo ret ini rv 0 L0 [] f) : mv_SimM l N0 D dA y cc nL ret fr lo rv av f := by
  refine ⟨hs.1, fun h v h' hf => ?_⟩
  refine Met.ofW (cc := cc) (maxL := nL) (ret := ret) hy rfl ?_
  intro p e s m args below meth c s₁ B hml hv
  obtain ⟨rfl, hsz, hP, hK, hNW⟩ := hv
  have hts := atoms_spec (ws := .code y cc nL ret :: mv_wA) B.pre
  have hl := lv_entry av (n := nL) hn
  rw [hL] at hl
  have key := hs.2 p e s m av.toArray below meth c h.1.length h.2.1 ⟨B.exec, B.bytes, hml, findClass_of_methodNamed B.named, fun w hw => hts w (List.mem_cons_of_mem _ hw), B.returns, B.notSynchronized, fun hi => (name_of_methodNamed B.named B.method).1.trans (hini hi), hK, hNW, hsz⟩ h s.heap [] _ v h' (Nat.le_refl _) (Nat.le_refl _) hP va_S.rf hl hcat hf
  rw [Nat.sub_self, Nat.sub_self] at key
  rw [lg_entry_eq]
  exact key
end MVR
end
