section
-- ===== PART A: goes FIRST, ahead of the names: the tables' words, and 'selects' of the private methods out of them =====
/-- a private method of a class that the tables say can be made, by its rows of tables_1 -/
def lw_okq (q : MethodName × Nat) : Prop := (q.1.cls ≠ "java/lang/invoke/MethodHandle" ∧ q.1.cls ≠ "java/lang/invoke/VarHandle") ∧ Cond.instantiable q.1.cls q.2 ∈ tables_1 ∧ Cond.privateMethod q.1 ∈ tables_1 ∧ Cond.instanceMethod q.1 ∈ tables_1
theorem lw_p0 : lw_okq (⟨"GrainReceipts$State", "freePlace", "()LGrainReceipts$Receipt;"⟩, 11) := ⟨⟨by decide +kernel, by decide +kernel⟩, List.mem_of_getElem? (i := 58) (by decide +kernel), List.mem_of_getElem? (i := 197) (by decide +kernel), List.mem_of_getElem? (i := 198) (by decide +kernel)⟩
theorem lw_p1 : lw_okq (⟨"GrainReceipts$State", "roomIn", "(I)I"⟩, 11) := ⟨⟨by decide +kernel, by decide +kernel⟩, List.mem_of_getElem? (i := 58) (by decide +kernel), List.mem_of_getElem? (i := 205) (by decide +kernel), List.mem_of_getElem? (i := 206) (by decide +kernel)⟩
theorem lw_p2 : lw_okq (⟨"GrainReceipts$State", "fillBins", "(II)V"⟩, 11) := ⟨⟨by decide +kernel, by decide +kernel⟩, List.mem_of_getElem? (i := 58) (by decide +kernel), List.mem_of_getElem? (i := 210) (by decide +kernel), List.mem_of_getElem? (i := 211) (by decide +kernel)⟩
theorem lw_p3 : lw_okq (⟨"GrainReceipts$State", "nextNumber", "()I"⟩, 11) := ⟨⟨by decide +kernel, by decide +kernel⟩, List.mem_of_getElem? (i := 58) (by decide +kernel), List.mem_of_getElem? (i := 217) (by decide +kernel), List.mem_of_getElem? (i := 218) (by decide +kernel)⟩
theorem lw_p4 : lw_okq (⟨"GrainReceipts", "recorded", "(I)I"⟩, 5) := ⟨⟨by decide +kernel, by decide +kernel⟩, List.mem_of_getElem? (i := 11) (by decide +kernel), List.mem_of_getElem? (i := 222) (by decide +kernel), List.mem_of_getElem? (i := 223) (by decide +kernel)⟩
theorem lw_p5 : lw_okq (⟨"GrainReceipts", "recordSpare", "()V"⟩, 5) := ⟨⟨by decide +kernel, by decide +kernel⟩, List.mem_of_getElem? (i := 11) (by decide +kernel), List.mem_of_getElem? (i := 231) (by decide +kernel), List.mem_of_getElem? (i := 232) (by decide +kernel)⟩
theorem lw_p6 : lw_okq (⟨"GrainReceipts$State", "find", "(I)LGrainReceipts$Receipt;"⟩, 11) := ⟨⟨by decide +kernel, by decide +kernel⟩, List.mem_of_getElem? (i := 58) (by decide +kernel), List.mem_of_getElem? (i := 243) (by decide +kernel), List.mem_of_getElem? (i := 244) (by decide +kernel)⟩
theorem lw_p7 : lw_okq (⟨"GrainReceipts$State", "splitLoan", "(LGrainReceipts$Receipt;LGrainReceipts$Receipt;)V"⟩, 11) := ⟨⟨by decide +kernel, by decide +kernel⟩, List.mem_of_getElem? (i := 58) (by decide +kernel), List.mem_of_getElem? (i := 248) (by decide +kernel), List.mem_of_getElem? (i := 249) (by decide +kernel)⟩
theorem lw_p8 : lw_okq (⟨"GrainReceipts$State", "takeOut", "(II)I"⟩, 11) := ⟨⟨by decide +kernel, by decide +kernel⟩, List.mem_of_getElem? (i := 58) (by decide +kernel), List.mem_of_getElem? (i := 291) (by decide +kernel), List.mem_of_getElem? (i := 292) (by decide +kernel)⟩
theorem lw_p9 : lw_okq (⟨"GrainReceipts$State", "greatestLoan", "(LGrainReceipts$Receipt;)I"⟩, 11) := ⟨⟨by decide +kernel, by decide +kernel⟩, List.mem_of_getElem? (i := 58) (by decide +kernel), List.mem_of_getElem? (i := 306) (by decide +kernel), List.mem_of_getElem? (i := 307) (by decide +kernel)⟩
theorem lw_p10 : lw_okq (⟨"GrainReceipts$State", "worth", "(LGrainReceipts$Receipt;)I"⟩, 11) := ⟨⟨by decide +kernel, by decide +kernel⟩, List.mem_of_getElem? (i := 58) (by decide +kernel), List.mem_of_getElem? (i := 310) (by decide +kernel), List.mem_of_getElem? (i := 311) (by decide +kernel)⟩
theorem lw_p11 : lw_okq (⟨"GrainReceipts$State", "addMoney", "(II)V"⟩, 11) := ⟨⟨by decide +kernel, by decide +kernel⟩, List.mem_of_getElem? (i := 58) (by decide +kernel), List.mem_of_getElem? (i := 314) (by decide +kernel), List.mem_of_getElem? (i := 315) (by decide +kernel)⟩
theorem lw_p12 : lw_okq (⟨"GrainReceipts$State", "moneyOf", "(I)I"⟩, 11) := ⟨⟨by decide +kernel, by decide +kernel⟩, List.mem_of_getElem? (i := 58) (by decide +kernel), List.mem_of_getElem? (i := 318) (by decide +kernel), List.mem_of_getElem? (i := 319) (by decide +kernel)⟩
theorem lw_p13 : lw_okq (⟨"GrainReceipts$State", "isLoanTooHigh", "(LGrainReceipts$Receipt;)Z"⟩, 11) := ⟨⟨by decide +kernel, by decide +kernel⟩, List.mem_of_getElem? (i := 58) (by decide +kernel), List.mem_of_getElem? (i := 331) (by decide +kernel), List.mem_of_getElem? (i := 332) (by decide +kernel)⟩
theorem lw_p14 : lw_okq (⟨"GrainReceipts$State", "callLimit", "(I)I"⟩, 11) := ⟨⟨by decide +kernel, by decide +kernel⟩, List.mem_of_getElem? (i := 58) (by decide +kernel), List.mem_of_getElem? (i := 335) (by decide +kernel), List.mem_of_getElem? (i := 336) (by decide +kernel)⟩
theorem lw_p15 : lw_okq (⟨"GrainReceipts$State", "wouldBeCalled", "(LGrainReceipts$Receipt;II)Z"⟩, 11) := ⟨⟨by decide +kernel, by decide +kernel⟩, List.mem_of_getElem? (i := 58) (by decide +kernel), List.mem_of_getElem? (i := 355) (by decide +kernel), List.mem_of_getElem? (i := 356) (by decide +kernel)⟩
def lw_privs_1 : List (MethodName × Nat) := [(⟨"GrainReceipts$State", "freePlace", "()LGrainReceipts$Receipt;"⟩, 11), (⟨"GrainReceipts$State", "roomIn", "(I)I"⟩, 11), (⟨"GrainReceipts$State", "fillBins", "(II)V"⟩, 11), (⟨"GrainReceipts$State", "nextNumber", "()I"⟩, 11), (⟨"GrainReceipts", "recorded", "(I)I"⟩, 5), (⟨"GrainReceipts", "recordSpare", "()V"⟩, 5), (⟨"GrainReceipts$State", "find", "(I)LGrainReceipts$Receipt;"⟩, 11), (⟨"GrainReceipts$State", "splitLoan", "(LGrainReceipts$Receipt;LGrainReceipts$Receipt;)V"⟩, 11), (⟨"GrainReceipts$State", "takeOut", "(II)I"⟩, 11), (⟨"GrainReceipts$State", "greatestLoan", "(LGrainReceipts$Receipt;)I"⟩, 11), (⟨"GrainReceipts$State", "worth", "(LGrainReceipts$Receipt;)I"⟩, 11), (⟨"GrainReceipts$State", "addMoney", "(II)V"⟩, 11), (⟨"GrainReceipts$State", "moneyOf", "(I)I"⟩, 11), (⟨"GrainReceipts$State", "isLoanTooHigh", "(LGrainReceipts$Receipt;)Z"⟩, 11), (⟨"GrainReceipts$State", "callLimit", "(I)I"⟩, 11), (⟨"GrainReceipts$State", "wouldBeCalled", "(LGrainReceipts$Receipt;II)Z"⟩, 11)]
theorem lw_r1 : ∀ q ∈ lw_privs_1, lw_okq q := List.forall_mem_cons.mpr ⟨lw_p0, List.forall_mem_cons.mpr ⟨lw_p1, List.forall_mem_cons.mpr ⟨lw_p2, List.forall_mem_cons.mpr ⟨lw_p3, List.forall_mem_cons.mpr ⟨lw_p4, List.forall_mem_cons.mpr ⟨lw_p5, List.forall_mem_cons.mpr ⟨lw_p6, List.forall_mem_cons.mpr ⟨lw_p7, List.forall_mem_cons.mpr ⟨lw_p8, List.forall_mem_cons.mpr ⟨lw_p9, List.forall_mem_cons.mpr ⟨lw_p10, List.forall_mem_cons.mpr ⟨lw_p11, List.forall_mem_cons.mpr ⟨lw_p12, List.forall_mem_cons.mpr ⟨lw_p13, List.forall_mem_cons.mpr ⟨lw_p14, List.forall_mem_cons.mpr ⟨lw_p15, fun _ h => absurd h List.not_mem_nil⟩⟩⟩⟩⟩⟩⟩⟩⟩⟩⟩⟩⟩⟩⟩⟩
theorem lw_p16 : lw_okq (⟨"GrainReceipts$State", "passDay", "()V"⟩, 11) := ⟨⟨by decide +kernel, by decide +kernel⟩, List.mem_of_getElem? (i := 58) (by decide +kernel), List.mem_of_getElem? (i := 371) (by decide +kernel), List.mem_of_getElem? (i := 372) (by decide +kernel)⟩
theorem lw_p17 : lw_okq (⟨"GrainReceipts$State", "seize", "(LGrainReceipts$Receipt;)V"⟩, 11) := ⟨⟨by decide +kernel, by decide +kernel⟩, List.mem_of_getElem? (i := 58) (by decide +kernel), List.mem_of_getElem? (i := 375) (by decide +kernel), List.mem_of_getElem? (i := 376) (by decide +kernel)⟩
theorem lw_p18 : lw_okq (⟨"GrainReceipts$State", "greatestLoss", "(LGrainReceipts$Bin;)I"⟩, 11) := ⟨⟨by decide +kernel, by decide +kernel⟩, List.mem_of_getElem? (i := 58) (by decide +kernel), List.mem_of_getElem? (i := 390) (by decide +kernel), List.mem_of_getElem? (i := 391) (by decide +kernel)⟩
theorem lw_p19 : lw_okq (⟨"GrainReceipts$State", "surplus", "(I)I"⟩, 11) := ⟨⟨by decide +kernel, by decide +kernel⟩, List.mem_of_getElem? (i := 58) (by decide +kernel), List.mem_of_getElem? (i := 394) (by decide +kernel), List.mem_of_getElem? (i := 395) (by decide +kernel)⟩
theorem lw_p20 : lw_okq (⟨"GrainReceipts$State", "grainOf", "(II)I"⟩, 11) := ⟨⟨by decide +kernel, by decide +kernel⟩, List.mem_of_getElem? (i := 58) (by decide +kernel), List.mem_of_getElem? (i := 398) (by decide +kernel), List.mem_of_getElem? (i := 399) (by decide +kernel)⟩
theorem lw_p21 : lw_okq (⟨"GrainReceipts$State", "receiptsOf", "(II)I"⟩, 11) := ⟨⟨by decide +kernel, by decide +kernel⟩, List.mem_of_getElem? (i := 58) (by decide +kernel), List.mem_of_getElem? (i := 402) (by decide +kernel), List.mem_of_getElem? (i := 403) (by decide +kernel)⟩
theorem lw_p22 : lw_okq (⟨"GrainReceipts$State", "loanRatioBits", "(LGrainReceipts$Receipt;)I"⟩, 11) := ⟨⟨by decide +kernel, by decide +kernel⟩, List.mem_of_getElem? (i := 58) (by decide +kernel), List.mem_of_getElem? (i := 441) (by decide +kernel), List.mem_of_getElem? (i := 442) (by decide +kernel)⟩
theorem lw_p23 : lw_okq (⟨"GrainReceipts$State", "receiptsBelow", "(I)I"⟩, 11) := ⟨⟨by decide +kernel, by decide +kernel⟩, List.mem_of_getElem? (i := 58) (by decide +kernel), List.mem_of_getElem? (i := 458) (by decide +kernel), List.mem_of_getElem? (i := 459) (by decide +kernel)⟩
theorem lw_p24 : lw_okq (⟨"GrainReceipts$State", "priceOf", "(I)I"⟩, 11) := ⟨⟨by decide +kernel, by decide +kernel⟩, List.mem_of_getElem? (i := 58) (by decide +kernel), List.mem_of_getElem? (i := 486) (by decide +kernel), List.mem_of_getElem? (i := 487) (by decide +kernel)⟩
theorem lw_p25 : lw_okq (⟨"GrainReceipts$Script", "readOrder", "()Z"⟩, 8) := ⟨⟨by decide +kernel, by decide +kernel⟩, List.mem_of_getElem? (i := 19) (by decide +kernel), List.mem_of_getElem? (i := 541) (by decide +kernel), List.mem_of_getElem? (i := 542) (by decide +kernel)⟩
theorem lw_p26 : lw_okq (⟨"GrainReceipts$Script", "characterAt", "(I)C"⟩, 8) := ⟨⟨by decide +kernel, by decide +kernel⟩, List.mem_of_getElem? (i := 19) (by decide +kernel), List.mem_of_getElem? (i := 545) (by decide +kernel), List.mem_of_getElem? (i := 546) (by decide +kernel)⟩
theorem lw_p27 : lw_okq (⟨"GrainReceipts$Script", "readNumber", "()I"⟩, 8) := ⟨⟨by decide +kernel, by decide +kernel⟩, List.mem_of_getElem? (i := 19) (by decide +kernel), List.mem_of_getElem? (i := 555) (by decide +kernel), List.mem_of_getElem? (i := 556) (by decide +kernel)⟩
theorem lw_p28 : lw_okq (⟨"GrainReceipts$Script", "setFault", "(III)V"⟩, 8) := ⟨⟨by decide +kernel, by decide +kernel⟩, List.mem_of_getElem? (i := 19) (by decide +kernel), List.mem_of_getElem? (i := 559) (by decide +kernel), List.mem_of_getElem? (i := 560) (by decide +kernel)⟩
theorem lw_p29 : lw_okq (⟨"GrainReceipts$Script", "doOrder", "(LGrainReceipts$State;C)I"⟩, 8) := ⟨⟨by decide +kernel, by decide +kernel⟩, List.mem_of_getElem? (i := 19) (by decide +kernel), List.mem_of_getElem? (i := 563) (by decide +kernel), List.mem_of_getElem? (i := 564) (by decide +kernel)⟩
theorem lw_p30 : lw_okq (⟨"GrainReceiptsModel", "begins", "()V"⟩, 12) := ⟨⟨by decide +kernel, by decide +kernel⟩, List.mem_of_getElem? (i := 578) (by decide +kernel), List.mem_of_getElem? (i := 625) (by decide +kernel), List.mem_of_getElem? (i := 626) (by decide +kernel)⟩
theorem lw_p31 : lw_okq (⟨"GrainReceiptsModel", "stores", "(III)I"⟩, 12) := ⟨⟨by decide +kernel, by decide +kernel⟩, List.mem_of_getElem? (i := 578) (by decide +kernel), List.mem_of_getElem? (i := 629) (by decide +kernel), List.mem_of_getElem? (i := 630) (by decide +kernel)⟩
def lw_privs_2 : List (MethodName × Nat) := [(⟨"GrainReceipts$State", "passDay", "()V"⟩, 11), (⟨"GrainReceipts$State", "seize", "(LGrainReceipts$Receipt;)V"⟩, 11), (⟨"GrainReceipts$State", "greatestLoss", "(LGrainReceipts$Bin;)I"⟩, 11), (⟨"GrainReceipts$State", "surplus", "(I)I"⟩, 11), (⟨"GrainReceipts$State", "grainOf", "(II)I"⟩, 11), (⟨"GrainReceipts$State", "receiptsOf", "(II)I"⟩, 11), (⟨"GrainReceipts$State", "loanRatioBits", "(LGrainReceipts$Receipt;)I"⟩, 11), (⟨"GrainReceipts$State", "receiptsBelow", "(I)I"⟩, 11), (⟨"GrainReceipts$State", "priceOf", "(I)I"⟩, 11), (⟨"GrainReceipts$Script", "readOrder", "()Z"⟩, 8), (⟨"GrainReceipts$Script", "characterAt", "(I)C"⟩, 8), (⟨"GrainReceipts$Script", "readNumber", "()I"⟩, 8), (⟨"GrainReceipts$Script", "setFault", "(III)V"⟩, 8), (⟨"GrainReceipts$Script", "doOrder", "(LGrainReceipts$State;C)I"⟩, 8), (⟨"GrainReceiptsModel", "begins", "()V"⟩, 12), (⟨"GrainReceiptsModel", "stores", "(III)I"⟩, 12)]
theorem lw_r2 : ∀ q ∈ lw_privs_2, lw_okq q := List.forall_mem_cons.mpr ⟨lw_p16, List.forall_mem_cons.mpr ⟨lw_p17, List.forall_mem_cons.mpr ⟨lw_p18, List.forall_mem_cons.mpr ⟨lw_p19, List.forall_mem_cons.mpr ⟨lw_p20, List.forall_mem_cons.mpr ⟨lw_p21, List.forall_mem_cons.mpr ⟨lw_p22, List.forall_mem_cons.mpr ⟨lw_p23, List.forall_mem_cons.mpr ⟨lw_p24, List.forall_mem_cons.mpr ⟨lw_p25, List.forall_mem_cons.mpr ⟨lw_p26, List.forall_mem_cons.mpr ⟨lw_p27, List.forall_mem_cons.mpr ⟨lw_p28, List.forall_mem_cons.mpr ⟨lw_p29, List.forall_mem_cons.mpr ⟨lw_p30, List.forall_mem_cons.mpr ⟨lw_p31, fun _ h => absurd h List.not_mem_nil⟩⟩⟩⟩⟩⟩⟩⟩⟩⟩⟩⟩⟩⟩⟩⟩
theorem lw_p32 : lw_okq (⟨"GrainReceiptsModel", "room", "(I)I"⟩, 12) := ⟨⟨by decide +kernel, by decide +kernel⟩, List.mem_of_getElem? (i := 578) (by decide +kernel), List.mem_of_getElem? (i := 637) (by decide +kernel), List.mem_of_getElem? (i := 638) (by decide +kernel)⟩
theorem lw_p33 : lw_okq (⟨"GrainReceiptsModel", "grade", "(I)I"⟩, 12) := ⟨⟨by decide +kernel, by decide +kernel⟩, List.mem_of_getElem? (i := 578) (by decide +kernel), List.mem_of_getElem? (i := 641) (by decide +kernel), List.mem_of_getElem? (i := 642) (by decide +kernel)⟩
theorem lw_p34 : lw_okq (⟨"GrainReceiptsModel", "amount", "(I)I"⟩, 12) := ⟨⟨by decide +kernel, by decide +kernel⟩, List.mem_of_getElem? (i := 578) (by decide +kernel), List.mem_of_getElem? (i := 645) (by decide +kernel), List.mem_of_getElem? (i := 646) (by decide +kernel)⟩
theorem lw_p35 : lw_okq (⟨"GrainReceiptsModel", "moves", "(II)V"⟩, 12) := ⟨⟨by decide +kernel, by decide +kernel⟩, List.mem_of_getElem? (i := 578) (by decide +kernel), List.mem_of_getElem? (i := 650) (by decide +kernel), List.mem_of_getElem? (i := 651) (by decide +kernel)⟩
theorem lw_p36 : lw_okq (⟨"GrainReceiptsModel", "makes", "(III)I"⟩, 12) := ⟨⟨by decide +kernel, by decide +kernel⟩, List.mem_of_getElem? (i := 578) (by decide +kernel), List.mem_of_getElem? (i := 654) (by decide +kernel), List.mem_of_getElem? (i := 655) (by decide +kernel)⟩
theorem lw_p37 : lw_okq (⟨"GrainReceiptsModel", "lays", "(III)V"⟩, 12) := ⟨⟨by decide +kernel, by decide +kernel⟩, List.mem_of_getElem? (i := 578) (by decide +kernel), List.mem_of_getElem? (i := 658) (by decide +kernel), List.mem_of_getElem? (i := 659) (by decide +kernel)⟩
theorem lw_p38 : lw_okq (⟨"GrainReceiptsModel", "frees", "(I)V"⟩, 12) := ⟨⟨by decide +kernel, by decide +kernel⟩, List.mem_of_getElem? (i := 578) (by decide +kernel), List.mem_of_getElem? (i := 662) (by decide +kernel), List.mem_of_getElem? (i := 663) (by decide +kernel)⟩
theorem lw_p39 : lw_okq (⟨"GrainReceiptsModel", "of", "(II)I"⟩, 12) := ⟨⟨by decide +kernel, by decide +kernel⟩, List.mem_of_getElem? (i := 578) (by decide +kernel), List.mem_of_getElem? (i := 666) (by decide +kernel), List.mem_of_getElem? (i := 667) (by decide +kernel)⟩
theorem lw_p40 : lw_okq (⟨"GrainReceiptsModel", "acted", "(I)I"⟩, 12) := ⟨⟨by decide +kernel, by decide +kernel⟩, List.mem_of_getElem? (i := 578) (by decide +kernel), List.mem_of_getElem? (i := 670) (by decide +kernel), List.mem_of_getElem? (i := 671) (by decide +kernel)⟩
theorem lw_p41 : lw_okq (⟨"GrainReceiptsModel", "returns", "()V"⟩, 12) := ⟨⟨by decide +kernel, by decide +kernel⟩, List.mem_of_getElem? (i := 578) (by decide +kernel), List.mem_of_getElem? (i := 674) (by decide +kernel), List.mem_of_getElem? (i := 675) (by decide +kernel)⟩
theorem lw_p42 : lw_okq (⟨"GrainReceiptsModel", "splits", "(II)I"⟩, 12) := ⟨⟨by decide +kernel, by decide +kernel⟩, List.mem_of_getElem? (i := 578) (by decide +kernel), List.mem_of_getElem? (i := 682) (by decide +kernel), List.mem_of_getElem? (i := 683) (by decide +kernel)⟩
theorem lw_p43 : lw_okq (⟨"GrainReceiptsModel", "placeOf", "(I)I"⟩, 12) := ⟨⟨by decide +kernel, by decide +kernel⟩, List.mem_of_getElem? (i := 578) (by decide +kernel), List.mem_of_getElem? (i := 686) (by decide +kernel), List.mem_of_getElem? (i := 687) (by decide +kernel)⟩
theorem lw_p44 : lw_okq (⟨"GrainReceiptsModel", "joins", "(II)I"⟩, 12) := ⟨⟨by decide +kernel, by decide +kernel⟩, List.mem_of_getElem? (i := 578) (by decide +kernel), List.mem_of_getElem? (i := 695) (by decide +kernel), List.mem_of_getElem? (i := 696) (by decide +kernel)⟩
theorem lw_p45 : lw_okq (⟨"GrainReceiptsModel", "isPledged", "(I)Z"⟩, 12) := ⟨⟨by decide +kernel, by decide +kernel⟩, List.mem_of_getElem? (i := 578) (by decide +kernel), List.mem_of_getElem? (i := 699) (by decide +kernel), List.mem_of_getElem? (i := 700) (by decide +kernel)⟩
theorem lw_p46 : lw_okq (⟨"GrainReceiptsModel", "removes", "(I)V"⟩, 12) := ⟨⟨by decide +kernel, by decide +kernel⟩, List.mem_of_getElem? (i := 578) (by decide +kernel), List.mem_of_getElem? (i := 703) (by decide +kernel), List.mem_of_getElem? (i := 704) (by decide +kernel)⟩
theorem lw_p47 : lw_okq (⟨"GrainReceiptsModel", "delivers", "(I)I"⟩, 12) := ⟨⟨by decide +kernel, by decide +kernel⟩, List.mem_of_getElem? (i := 578) (by decide +kernel), List.mem_of_getElem? (i := 715) (by decide +kernel), List.mem_of_getElem? (i := 716) (by decide +kernel)⟩
def lw_privs_3 : List (MethodName × Nat) := [(⟨"GrainReceiptsModel", "room", "(I)I"⟩, 12), (⟨"GrainReceiptsModel", "grade", "(I)I"⟩, 12), (⟨"GrainReceiptsModel", "amount", "(I)I"⟩, 12), (⟨"GrainReceiptsModel", "moves", "(II)V"⟩, 12), (⟨"GrainReceiptsModel", "makes", "(III)I"⟩, 12), (⟨"GrainReceiptsModel", "lays", "(III)V"⟩, 12), (⟨"GrainReceiptsModel", "frees", "(I)V"⟩, 12), (⟨"GrainReceiptsModel", "of", "(II)I"⟩, 12), (⟨"GrainReceiptsModel", "acted", "(I)I"⟩, 12), (⟨"GrainReceiptsModel", "returns", "()V"⟩, 12), (⟨"GrainReceiptsModel", "splits", "(II)I"⟩, 12), (⟨"GrainReceiptsModel", "placeOf", "(I)I"⟩, 12), (⟨"GrainReceiptsModel", "joins", "(II)I"⟩, 12), (⟨"GrainReceiptsModel", "isPledged", "(I)Z"⟩, 12), (⟨"GrainReceiptsModel", "removes", "(I)V"⟩, 12), (⟨"GrainReceiptsModel", "delivers", "(I)I"⟩, 12)]
theorem lw_r3 : ∀ q ∈ lw_privs_3, lw_okq q := List.forall_mem_cons.mpr ⟨lw_p32, List.forall_mem_cons.mpr ⟨lw_p33, List.forall_mem_cons.mpr ⟨lw_p34, List.forall_mem_cons.mpr ⟨lw_p35, List.forall_mem_cons.mpr ⟨lw_p36, List.forall_mem_cons.mpr ⟨lw_p37, List.forall_mem_cons.mpr ⟨lw_p38, List.forall_mem_cons.mpr ⟨lw_p39, List.forall_mem_cons.mpr ⟨lw_p40, List.forall_mem_cons.mpr ⟨lw_p41, List.forall_mem_cons.mpr ⟨lw_p42, List.forall_mem_cons.mpr ⟨lw_p43, List.forall_mem_cons.mpr ⟨lw_p44, List.forall_mem_cons.mpr ⟨lw_p45, List.forall_mem_cons.mpr ⟨lw_p46, List.forall_mem_cons.mpr ⟨lw_p47, fun _ h => absurd h List.not_mem_nil⟩⟩⟩⟩⟩⟩⟩⟩⟩⟩⟩⟩⟩⟩⟩⟩
theorem lw_p48 : lw_okq (⟨"GrainReceiptsModel", "pledges", "(III)I"⟩, 12) := ⟨⟨by decide +kernel, by decide +kernel⟩, List.mem_of_getElem? (i := 578) (by decide +kernel), List.mem_of_getElem? (i := 723) (by decide +kernel), List.mem_of_getElem? (i := 724) (by decide +kernel)⟩
theorem lw_p49 : lw_okq (⟨"GrainReceiptsModel", "share", "(II)I"⟩, 12) := ⟨⟨by decide +kernel, by decide +kernel⟩, List.mem_of_getElem? (i := 578) (by decide +kernel), List.mem_of_getElem? (i := 727) (by decide +kernel), List.mem_of_getElem? (i := 728) (by decide +kernel)⟩
theorem lw_p50 : lw_okq (⟨"GrainReceiptsModel", "worth", "(I)I"⟩, 12) := ⟨⟨by decide +kernel, by decide +kernel⟩, List.mem_of_getElem? (i := 578) (by decide +kernel), List.mem_of_getElem? (i := 731) (by decide +kernel), List.mem_of_getElem? (i := 732) (by decide +kernel)⟩
theorem lw_p51 : lw_okq (⟨"GrainReceiptsModel", "repays", "(II)I"⟩, 12) := ⟨⟨by decide +kernel, by decide +kernel⟩, List.mem_of_getElem? (i := 578) (by decide +kernel), List.mem_of_getElem? (i := 739) (by decide +kernel), List.mem_of_getElem? (i := 740) (by decide +kernel)⟩
theorem lw_p52 : lw_okq (⟨"GrainReceiptsModel", "isAbove", "(I)Z"⟩, 12) := ⟨⟨by decide +kernel, by decide +kernel⟩, List.mem_of_getElem? (i := 578) (by decide +kernel), List.mem_of_getElem? (i := 743) (by decide +kernel), List.mem_of_getElem? (i := 744) (by decide +kernel)⟩
theorem lw_p53 : lw_okq (⟨"GrainReceiptsModel", "prices", "(II)I"⟩, 12) := ⟨⟨by decide +kernel, by decide +kernel⟩, List.mem_of_getElem? (i := 578) (by decide +kernel), List.mem_of_getElem? (i := 751) (by decide +kernel), List.mem_of_getElem? (i := 752) (by decide +kernel)⟩
theorem lw_p54 : lw_okq (⟨"GrainReceiptsModel", "calls", "(I)I"⟩, 12) := ⟨⟨by decide +kernel, by decide +kernel⟩, List.mem_of_getElem? (i := 578) (by decide +kernel), List.mem_of_getElem? (i := 759) (by decide +kernel), List.mem_of_getElem? (i := 760) (by decide +kernel)⟩
theorem lw_p55 : lw_okq (⟨"GrainReceiptsModel", "wouldCall", "(II)Z"⟩, 12) := ⟨⟨by decide +kernel, by decide +kernel⟩, List.mem_of_getElem? (i := 578) (by decide +kernel), List.mem_of_getElem? (i := 763) (by decide +kernel), List.mem_of_getElem? (i := 764) (by decide +kernel)⟩
theorem lw_p56 : lw_okq (⟨"GrainReceiptsModel", "lets", "(I)I"⟩, 12) := ⟨⟨by decide +kernel, by decide +kernel⟩, List.mem_of_getElem? (i := 578) (by decide +kernel), List.mem_of_getElem? (i := 771) (by decide +kernel), List.mem_of_getElem? (i := 772) (by decide +kernel)⟩
theorem lw_p57 : lw_okq (⟨"GrainReceiptsModel", "day", "()V"⟩, 12) := ⟨⟨by decide +kernel, by decide +kernel⟩, List.mem_of_getElem? (i := 578) (by decide +kernel), List.mem_of_getElem? (i := 775) (by decide +kernel), List.mem_of_getElem? (i := 776) (by decide +kernel)⟩
theorem lw_p58 : lw_okq (⟨"GrainReceiptsModel", "seizes", "(I)V"⟩, 12) := ⟨⟨by decide +kernel, by decide +kernel⟩, List.mem_of_getElem? (i := 578) (by decide +kernel), List.mem_of_getElem? (i := 779) (by decide +kernel), List.mem_of_getElem? (i := 780) (by decide +kernel)⟩
theorem lw_p59 : lw_okq (⟨"GrainReceiptsModel", "areCovered", "()Z"⟩, 12) := ⟨⟨by decide +kernel, by decide +kernel⟩, List.mem_of_getElem? (i := 578) (by decide +kernel), List.mem_of_getElem? (i := 787) (by decide +kernel), List.mem_of_getElem? (i := 788) (by decide +kernel)⟩
theorem lw_p60 : lw_okq (⟨"GrainReceiptsModel", "surplus", "(I)I"⟩, 12) := ⟨⟨by decide +kernel, by decide +kernel⟩, List.mem_of_getElem? (i := 578) (by decide +kernel), List.mem_of_getElem? (i := 791) (by decide +kernel), List.mem_of_getElem? (i := 792) (by decide +kernel)⟩
theorem lw_p61 : lw_okq (⟨"GrainReceiptsModel", "inBins", "(I)I"⟩, 12) := ⟨⟨by decide +kernel, by decide +kernel⟩, List.mem_of_getElem? (i := 578) (by decide +kernel), List.mem_of_getElem? (i := 795) (by decide +kernel), List.mem_of_getElem? (i := 796) (by decide +kernel)⟩
theorem lw_p62 : lw_okq (⟨"GrainReceiptsModel", "inReceipts", "(I)I"⟩, 12) := ⟨⟨by decide +kernel, by decide +kernel⟩, List.mem_of_getElem? (i := 578) (by decide +kernel), List.mem_of_getElem? (i := 799) (by decide +kernel), List.mem_of_getElem? (i := 800) (by decide +kernel)⟩
theorem lw_p63 : lw_okq (⟨"GrainReceiptsModel", "bits", "(I)I"⟩, 12) := ⟨⟨by decide +kernel, by decide +kernel⟩, List.mem_of_getElem? (i := 578) (by decide +kernel), List.mem_of_getElem? (i := 816) (by decide +kernel), List.mem_of_getElem? (i := 817) (by decide +kernel)⟩
def lw_privs_4 : List (MethodName × Nat) := [(⟨"GrainReceiptsModel", "pledges", "(III)I"⟩, 12), (⟨"GrainReceiptsModel", "share", "(II)I"⟩, 12), (⟨"GrainReceiptsModel", "worth", "(I)I"⟩, 12), (⟨"GrainReceiptsModel", "repays", "(II)I"⟩, 12), (⟨"GrainReceiptsModel", "isAbove", "(I)Z"⟩, 12), (⟨"GrainReceiptsModel", "prices", "(II)I"⟩, 12), (⟨"GrainReceiptsModel", "calls", "(I)I"⟩, 12), (⟨"GrainReceiptsModel", "wouldCall", "(II)Z"⟩, 12), (⟨"GrainReceiptsModel", "lets", "(I)I"⟩, 12), (⟨"GrainReceiptsModel", "day", "()V"⟩, 12), (⟨"GrainReceiptsModel", "seizes", "(I)V"⟩, 12), (⟨"GrainReceiptsModel", "areCovered", "()Z"⟩, 12), (⟨"GrainReceiptsModel", "surplus", "(I)I"⟩, 12), (⟨"GrainReceiptsModel", "inBins", "(I)I"⟩, 12), (⟨"GrainReceiptsModel", "inReceipts", "(I)I"⟩, 12), (⟨"GrainReceiptsModel", "bits", "(I)I"⟩, 12)]
theorem lw_r4 : ∀ q ∈ lw_privs_4, lw_okq q := List.forall_mem_cons.mpr ⟨lw_p48, List.forall_mem_cons.mpr ⟨lw_p49, List.forall_mem_cons.mpr ⟨lw_p50, List.forall_mem_cons.mpr ⟨lw_p51, List.forall_mem_cons.mpr ⟨lw_p52, List.forall_mem_cons.mpr ⟨lw_p53, List.forall_mem_cons.mpr ⟨lw_p54, List.forall_mem_cons.mpr ⟨lw_p55, List.forall_mem_cons.mpr ⟨lw_p56, List.forall_mem_cons.mpr ⟨lw_p57, List.forall_mem_cons.mpr ⟨lw_p58, List.forall_mem_cons.mpr ⟨lw_p59, List.forall_mem_cons.mpr ⟨lw_p60, List.forall_mem_cons.mpr ⟨lw_p61, List.forall_mem_cons.mpr ⟨lw_p62, List.forall_mem_cons.mpr ⟨lw_p63, fun _ h => absurd h List.not_mem_nil⟩⟩⟩⟩⟩⟩⟩⟩⟩⟩⟩⟩⟩⟩⟩⟩
theorem lw_p64 : lw_okq (⟨"GrainReceiptsModel", "couldLose", "(I)I"⟩, 12) := ⟨⟨by decide +kernel, by decide +kernel⟩, List.mem_of_getElem? (i := 578) (by decide +kernel), List.mem_of_getElem? (i := 838) (by decide +kernel), List.mem_of_getElem? (i := 839) (by decide +kernel)⟩
theorem lw_p65 : lw_okq (⟨"GrainReceiptsModel", "wouldFallTo", "(II)Z"⟩, 12) := ⟨⟨by decide +kernel, by decide +kernel⟩, List.mem_of_getElem? (i := 578) (by decide +kernel), List.mem_of_getElem? (i := 858) (by decide +kernel), List.mem_of_getElem? (i := 859) (by decide +kernel)⟩
theorem lw_p66 : lw_okq (⟨"GrainReceiptsModel", "sumOf", "(I)I"⟩, 12) := ⟨⟨by decide +kernel, by decide +kernel⟩, List.mem_of_getElem? (i := 578) (by decide +kernel), List.mem_of_getElem? (i := 866) (by decide +kernel), List.mem_of_getElem? (i := 867) (by decide +kernel)⟩
theorem lw_p67 : lw_okq (⟨"GrainReceiptsModel", "does", "()Z"⟩, 12) := ⟨⟨by decide +kernel, by decide +kernel⟩, List.mem_of_getElem? (i := 578) (by decide +kernel), List.mem_of_getElem? (i := 886) (by decide +kernel), List.mem_of_getElem? (i := 887) (by decide +kernel)⟩
theorem lw_p68 : lw_okq (⟨"GrainReceiptsModel", "here", "()I"⟩, 12) := ⟨⟨by decide +kernel, by decide +kernel⟩, List.mem_of_getElem? (i := 578) (by decide +kernel), List.mem_of_getElem? (i := 890) (by decide +kernel), List.mem_of_getElem? (i := 891) (by decide +kernel)⟩
theorem lw_p69 : lw_okq (⟨"GrainReceiptsModel", "takesSign", "(I)V"⟩, 12) := ⟨⟨by decide +kernel, by decide +kernel⟩, List.mem_of_getElem? (i := 578) (by decide +kernel), List.mem_of_getElem? (i := 897) (by decide +kernel), List.mem_of_getElem? (i := 898) (by decide +kernel)⟩
theorem lw_p70 : lw_okq (⟨"GrainReceiptsModel", "number", "()I"⟩, 12) := ⟨⟨by decide +kernel, by decide +kernel⟩, List.mem_of_getElem? (i := 578) (by decide +kernel), List.mem_of_getElem? (i := 901) (by decide +kernel), List.mem_of_getElem? (i := 902) (by decide +kernel)⟩
theorem lw_p71 : lw_okq (⟨"GrainReceiptsModel", "isDigit", "()Z"⟩, 12) := ⟨⟨by decide +kernel, by decide +kernel⟩, List.mem_of_getElem? (i := 578) (by decide +kernel), List.mem_of_getElem? (i := 905) (by decide +kernel), List.mem_of_getElem? (i := 906) (by decide +kernel)⟩
theorem lw_p72 : lw_okq (⟨"GrainReceiptsModel", "called", "(I)I"⟩, 12) := ⟨⟨by decide +kernel, by decide +kernel⟩, List.mem_of_getElem? (i := 578) (by decide +kernel), List.mem_of_getElem? (i := 909) (by decide +kernel), List.mem_of_getElem? (i := 910) (by decide +kernel)⟩
def lw_privs_5 : List (MethodName × Nat) := [(⟨"GrainReceiptsModel", "couldLose", "(I)I"⟩, 12), (⟨"GrainReceiptsModel", "wouldFallTo", "(II)Z"⟩, 12), (⟨"GrainReceiptsModel", "sumOf", "(I)I"⟩, 12), (⟨"GrainReceiptsModel", "does", "()Z"⟩, 12), (⟨"GrainReceiptsModel", "here", "()I"⟩, 12), (⟨"GrainReceiptsModel", "takesSign", "(I)V"⟩, 12), (⟨"GrainReceiptsModel", "number", "()I"⟩, 12), (⟨"GrainReceiptsModel", "isDigit", "()Z"⟩, 12), (⟨"GrainReceiptsModel", "called", "(I)I"⟩, 12)]
theorem lw_r5 : ∀ q ∈ lw_privs_5, lw_okq q := List.forall_mem_cons.mpr ⟨lw_p64, List.forall_mem_cons.mpr ⟨lw_p65, List.forall_mem_cons.mpr ⟨lw_p66, List.forall_mem_cons.mpr ⟨lw_p67, List.forall_mem_cons.mpr ⟨lw_p68, List.forall_mem_cons.mpr ⟨lw_p69, List.forall_mem_cons.mpr ⟨lw_p70, List.forall_mem_cons.mpr ⟨lw_p71, List.forall_mem_cons.mpr ⟨lw_p72, fun _ h => absurd h List.not_mem_nil⟩⟩⟩⟩⟩⟩⟩⟩⟩
def lw_privs : List (MethodName × Nat) := lw_privs_1 ++ (lw_privs_2 ++ (lw_privs_3 ++ (lw_privs_4 ++ (lw_privs_5))))
def lw_tbl : List Cond := k2_sels lw_privs ++ tables_1
theorem lw_privs_ok : ∀ q ∈ lw_privs, lw_okq q := by
  show ∀ q ∈ lw_privs_1 ++ (lw_privs_2 ++ (lw_privs_3 ++ (lw_privs_4 ++ (lw_privs_5)))), lw_okq q
  exact List.forall_mem_append.mpr ⟨lw_r1, List.forall_mem_append.mpr ⟨lw_r2, List.forall_mem_append.mpr ⟨lw_r3, List.forall_mem_append.mpr ⟨lw_r4, lw_r5⟩⟩⟩⟩
/-- the streams that the claim lets the run draw from -/
abbrev lw_cs : List Choice := [Jvm.Choice.named "NaN.bits"]
theorem lw_bits : nanBits ∈ lw_cs := by first | decide | exact List.mem_cons_self | simp [lw_cs, nanBits]
end
section
def RX0 : String := "GrainReceipts$Bin"
def TX0 : u_T := fun k => match k with
  | 0 => ("GrainReceipts$Bin", "grade", "I", false)
  | _ => ("GrainReceipts$Bin", "amount", "I", false)
def tyX0 : Nat → FieldType := fun k => match k with
  | 0 => .int
  | _ => .int
abbrev wsX00 : List Cond := u_ws RX0 TX0 2
theorem nmX0 : ∀ a, a < 2 → ∀ b, b < 2 → a ≠ b → (TX0 a).2.1 ≠ (TX0 b).2.1 := by decide +kernel
theorem tyX0_ok : ∀ k, k < 2 → parseFieldDescriptor (TX0 k).2.2.1 = some (tyX0 k) := by decide +kernel
abbrev cX0_init : ByteArray := prog_2_method_1_code
def yX0_init : MethodName := ⟨RX0, "<init>", "()V"⟩
abbrev cX0_copyFrom : ByteArray := prog_2_method_2_code
def yX0_copyFrom : MethodName := ⟨RX0, "copyFrom", "(LGrainReceipts$Bin;)V"⟩
def RX1 : String := "GrainReceipts$Receipt"
def TX1 : u_T := fun k => match k with
  | 0 => ("GrainReceipts$Receipt", "number", "I", false)
  | 1 => ("GrainReceipts$Receipt", "owner", "I", false)
  | 2 => ("GrainReceipts$Receipt", "grade", "I", false)
  | 3 => ("GrainReceipts$Receipt", "amount", "I", false)
  | 4 => ("GrainReceipts$Receipt", "lender", "I", false)
  | 5 => ("GrainReceipts$Receipt", "loan", "I", false)
  | _ => ("GrainReceipts$Receipt", "daysLeft", "I", false)
def tyX1 : Nat → FieldType := fun k => match k with
  | 0 => .int
  | 1 => .int
  | 2 => .int
  | 3 => .int
  | 4 => .int
  | 5 => .int
  | _ => .int
abbrev wsX10 : List Cond := u_ws RX1 TX1 7
theorem nmX1 : ∀ a, a < 7 → ∀ b, b < 7 → a ≠ b → (TX1 a).2.1 ≠ (TX1 b).2.1 := by decide +kernel
theorem tyX1_ok : ∀ k, k < 7 → parseFieldDescriptor (TX1 k).2.2.1 = some (tyX1 k) := by decide +kernel
abbrev cX1_init : ByteArray := prog_3_method_1_code
def yX1_init : MethodName := ⟨RX1, "<init>", "()V"⟩
abbrev cX1_isUsed : ByteArray := prog_3_method_2_code
def yX1_isUsed : MethodName := ⟨RX1, "isUsed", "()Z"⟩
abbrev cX1_isPledged : ByteArray := prog_3_method_3_code
def yX1_isPledged : MethodName := ⟨RX1, "isPledged", "()Z"⟩
abbrev cX1_isCalled : ByteArray := prog_3_method_4_code
def yX1_isCalled : MethodName := ⟨RX1, "isCalled", "()Z"⟩
abbrev cX1_use : ByteArray := prog_3_method_5_code
def yX1_use : MethodName := ⟨RX1, "use", "(IIII)V"⟩
abbrev cX1_free : ByteArray := prog_3_method_6_code
def yX1_free : MethodName := ⟨RX1, "free", "()V"⟩
abbrev cX1_endPledge : ByteArray := prog_3_method_7_code
def yX1_endPledge : MethodName := ⟨RX1, "endPledge", "()V"⟩
abbrev cX1_copyFrom : ByteArray := prog_3_method_8_code
def yX1_copyFrom : MethodName := ⟨RX1, "copyFrom", "(LGrainReceipts$Receipt;)V"⟩
def RX2 : String := "GrainReceipts$Script"
def TX2 : u_T := fun k => match k with
  | 0 => ("GrainReceipts$Script", "characters", "[C", true)
  | 1 => ("GrainReceipts$Script", "numbers", "[I", true)
  | 2 => ("GrainReceipts$Script", "length", "I", false)
  | 3 => ("GrainReceipts$Script", "next", "I", false)
  | 4 => ("GrainReceipts$Script", "ordersDone", "I", false)
  | 5 => ("GrainReceipts$Script", "faultPosition", "I", false)
  | 6 => ("GrainReceipts$Script", "faultReason", "I", false)
  | _ => ("GrainReceipts$Script", "faultCause", "I", false)
def tyX2 : Nat → FieldType := fun k => match k with
  | 0 => .array .char
  | 1 => .array .int
  | 2 => .int
  | 3 => .int
  | 4 => .int
  | 5 => .int
  | 6 => .int
  | _ => .int
abbrev wsX20 : List Cond := u_ws RX2 TX2 8
theorem nmX2 : ∀ a, a < 8 → ∀ b, b < 8 → a ≠ b → (TX2 a).2.1 ≠ (TX2 b).2.1 := by decide +kernel
theorem tyX2_ok : ∀ k, k < 8 → parseFieldDescriptor (TX2 k).2.2.1 = some (tyX2 k) := by decide +kernel
abbrev cX2_init : ByteArray := prog_4_method_1_code
def yX2_init : MethodName := ⟨RX2, "<init>", "()V"⟩
abbrev cX2_append : ByteArray := prog_4_method_2_code
def yX2_append : MethodName := ⟨RX2, "append", "(I)I"⟩
abbrev cX2_doOrders : ByteArray := prog_4_method_3_code
def yX2_doOrders : MethodName := ⟨RX2, "doOrders", "(LGrainReceipts$State;)V"⟩
abbrev cX2_setFault : ByteArray := prog_4_method_4_code
def yX2_setFault : MethodName := ⟨RX2, "setFault", "(III)V"⟩
abbrev cX2_doOrder : ByteArray := prog_4_method_5_code
def yX2_doOrder : MethodName := ⟨RX2, "doOrder", "(LGrainReceipts$State;C)I"⟩
abbrev cX2_readOrder : ByteArray := prog_4_method_6_code
def yX2_readOrder : MethodName := ⟨RX2, "readOrder", "()Z"⟩
abbrev cX2_readNumber : ByteArray := prog_4_method_7_code
def yX2_readNumber : MethodName := ⟨RX2, "readNumber", "()I"⟩
abbrev cX2_characterAt : ByteArray := prog_4_method_8_code
def yX2_characterAt : MethodName := ⟨RX2, "characterAt", "(I)C"⟩
abbrev cX2_numbersBehind : ByteArray := prog_4_method_9_code
def yX2_numbersBehind : MethodName := ⟨RX2, "numbersBehind", "(C)I"⟩
abbrev cX2_isDigit : ByteArray := prog_4_method_10_code
def yX2_isDigit : MethodName := ⟨RX2, "isDigit", "(C)Z"⟩
def RX3 : String := "GrainReceipts$State"
def TX3 : u_T := fun k => match k with
  | 0 => ("GrainReceipts$State", "bins", "[LGrainReceipts$Bin;", true)
  | 1 => ("GrainReceipts$State", "receipts", "[LGrainReceipts$Receipt;", true)
  | 2 => ("GrainReceipts$State", "prices", "[I", true)
  | 3 => ("GrainReceipts$State", "settings", "[I", true)
  | 4 => ("GrainReceipts$State", "money", "[I", true)
  | 5 => ("GrainReceipts$State", "seizedLoans", "[I", true)
  | 6 => ("GrainReceipts$State", "day", "I", false)
  | 7 => ("GrainReceipts$State", "receiptsMade", "I", false)
  | 8 => ("GrainReceipts$State", "receiptsSeized", "I", false)
  | 9 => ("GrainReceipts$State", "amountDelivered", "I", false)
  | _ => ("GrainReceipts$State", "amountLost", "I", false)
def tyX3 : Nat → FieldType := fun k => match k with
  | 0 => .array (.object "GrainReceipts$Bin")
  | 1 => .array (.object "GrainReceipts$Receipt")
  | 2 => .array .int
  | 3 => .array .int
  | 4 => .array .int
  | 5 => .array .int
  | 6 => .int
  | 7 => .int
  | 8 => .int
  | 9 => .int
  | _ => .int
abbrev wsX30 : List Cond := u_ws RX3 TX3 11
theorem nmX3 : ∀ a, a < 11 → ∀ b, b < 11 → a ≠ b → (TX3 a).2.1 ≠ (TX3 b).2.1 := by decide +kernel
theorem tyX3_ok : ∀ k, k < 11 → parseFieldDescriptor (TX3 k).2.2.1 = some (tyX3 k) := by decide +kernel
abbrev cX3_init : ByteArray := prog_5_method_1_code
def yX3_init : MethodName := ⟨RX3, "<init>", "()V"⟩
abbrev cX3_copyFrom : ByteArray := prog_5_method_2_code
def yX3_copyFrom : MethodName := ⟨RX3, "copyFrom", "(LGrainReceipts$State;)V"⟩
abbrev cX3_storeGrain : ByteArray := prog_5_method_3_code
def yX3_storeGrain : MethodName := ⟨RX3, "storeGrain", "(III)I"⟩
abbrev cX3_splitOff : ByteArray := prog_5_method_4_code
def yX3_splitOff : MethodName := ⟨RX3, "splitOff", "(II)I"⟩
abbrev cX3_joinInto : ByteArray := prog_5_method_5_code
def yX3_joinInto : MethodName := ⟨RX3, "joinInto", "(II)I"⟩
abbrev cX3_handOn : ByteArray := prog_5_method_6_code
def yX3_handOn : MethodName := ⟨RX3, "handOn", "(II)I"⟩
abbrev cX3_deliverGrain : ByteArray := prog_5_method_7_code
def yX3_deliverGrain : MethodName := ⟨RX3, "deliverGrain", "(I)I"⟩
abbrev cX3_pledgeTo : ByteArray := prog_5_method_8_code
def yX3_pledgeTo : MethodName := ⟨RX3, "pledgeTo", "(III)I"⟩
abbrev cX3_payBack : ByteArray := prog_5_method_9_code
def yX3_payBack : MethodName := ⟨RX3, "payBack", "(II)I"⟩
abbrev cX3_changePrice : ByteArray := prog_5_method_10_code
def yX3_changePrice : MethodName := ⟨RX3, "changePrice", "(II)I"⟩
abbrev cX3_callLoans : ByteArray := prog_5_method_11_code
def yX3_callLoans : MethodName := ⟨RX3, "callLoans", "(I)I"⟩
abbrev cX3_passDays : ByteArray := prog_5_method_12_code
def yX3_passDays : MethodName := ⟨RX3, "passDays", "(I)I"⟩
abbrev cX3_loseGrain : ByteArray := prog_5_method_13_code
def yX3_loseGrain : MethodName := ⟨RX3, "loseGrain", "(II)I"⟩
abbrev cX3_regradeBin : ByteArray := prog_5_method_14_code
def yX3_regradeBin : MethodName := ⟨RX3, "regradeBin", "(II)I"⟩
abbrev cX3_changeSetting : ByteArray := prog_5_method_15_code
def yX3_changeSetting : MethodName := ⟨RX3, "changeSetting", "(II)I"⟩
abbrev cX3_tellReceipt : ByteArray := prog_5_method_16_code
def yX3_tellReceipt : MethodName := ⟨RX3, "tellReceipt", "(II)I"⟩
abbrev cX3_numberAt : ByteArray := prog_5_method_17_code
def yX3_numberAt : MethodName := ⟨RX3, "numberAt", "(I)I"⟩
abbrev cX3_tellBin : ByteArray := prog_5_method_18_code
def yX3_tellBin : MethodName := ⟨RX3, "tellBin", "(II)I"⟩
abbrev cX3_tellGrade : ByteArray := prog_5_method_19_code
def yX3_tellGrade : MethodName := ⟨RX3, "tellGrade", "(II)I"⟩
abbrev cX3_tellOwner : ByteArray := prog_5_method_20_code
def yX3_tellOwner : MethodName := ⟨RX3, "tellOwner", "(II)I"⟩
abbrev cX3_tellLender : ByteArray := prog_5_method_21_code
def yX3_tellLender : MethodName := ⟨RX3, "tellLender", "(II)I"⟩
abbrev cX3_greatestCallingPrice : ByteArray := prog_5_method_22_code
def yX3_greatestCallingPrice : MethodName := ⟨RX3, "greatestCallingPrice", "(I)I"⟩
abbrev cX3_tellNumber : ByteArray := prog_5_method_23_code
def yX3_tellNumber : MethodName := ⟨RX3, "tellNumber", "(I)I"⟩
abbrev cX3_grainOf : ByteArray := prog_5_method_24_code
def yX3_grainOf : MethodName := ⟨RX3, "grainOf", "(II)I"⟩
abbrev cX3_roomIn : ByteArray := prog_5_method_25_code
def yX3_roomIn : MethodName := ⟨RX3, "roomIn", "(I)I"⟩
abbrev cX3_surplus : ByteArray := prog_5_method_26_code
def yX3_surplus : MethodName := ⟨RX3, "surplus", "(I)I"⟩
abbrev cX3_greatestLoss : ByteArray := prog_5_method_27_code
def yX3_greatestLoss : MethodName := ⟨RX3, "greatestLoss", "(LGrainReceipts$Bin;)I"⟩
abbrev cX3_fillBins : ByteArray := prog_5_method_28_code
def yX3_fillBins : MethodName := ⟨RX3, "fillBins", "(II)V"⟩
abbrev cX3_takeOut : ByteArray := prog_5_method_29_code
def yX3_takeOut : MethodName := ⟨RX3, "takeOut", "(II)I"⟩
abbrev cX3_find : ByteArray := prog_5_method_30_code
def yX3_find : MethodName := ⟨RX3, "find", "(I)LGrainReceipts$Receipt;"⟩
abbrev cX3_freePlace : ByteArray := prog_5_method_31_code
def yX3_freePlace : MethodName := ⟨RX3, "freePlace", "()LGrainReceipts$Receipt;"⟩
abbrev cX3_nextNumber : ByteArray := prog_5_method_32_code
def yX3_nextNumber : MethodName := ⟨RX3, "nextNumber", "()I"⟩
abbrev cX3_receiptsBelow : ByteArray := prog_5_method_33_code
def yX3_receiptsBelow : MethodName := ⟨RX3, "receiptsBelow", "(I)I"⟩
abbrev cX3_receiptsOf : ByteArray := prog_5_method_34_code
def yX3_receiptsOf : MethodName := ⟨RX3, "receiptsOf", "(II)I"⟩
abbrev cX3_priceOf : ByteArray := prog_5_method_35_code
def yX3_priceOf : MethodName := ⟨RX3, "priceOf", "(I)I"⟩
abbrev cX3_moneyOf : ByteArray := prog_5_method_36_code
def yX3_moneyOf : MethodName := ⟨RX3, "moneyOf", "(I)I"⟩
abbrev cX3_addMoney : ByteArray := prog_5_method_37_code
def yX3_addMoney : MethodName := ⟨RX3, "addMoney", "(II)V"⟩
abbrev cX3_worth : ByteArray := prog_5_method_38_code
def yX3_worth : MethodName := ⟨RX3, "worth", "(LGrainReceipts$Receipt;)I"⟩
abbrev cX3_greatestLoan : ByteArray := prog_5_method_39_code
def yX3_greatestLoan : MethodName := ⟨RX3, "greatestLoan", "(LGrainReceipts$Receipt;)I"⟩
abbrev cX3_callLimit : ByteArray := prog_5_method_40_code
def yX3_callLimit : MethodName := ⟨RX3, "callLimit", "(I)I"⟩
abbrev cX3_isLoanTooHigh : ByteArray := prog_5_method_41_code
def yX3_isLoanTooHigh : MethodName := ⟨RX3, "isLoanTooHigh", "(LGrainReceipts$Receipt;)Z"⟩
abbrev cX3_wouldBeCalled : ByteArray := prog_5_method_42_code
def yX3_wouldBeCalled : MethodName := ⟨RX3, "wouldBeCalled", "(LGrainReceipts$Receipt;II)Z"⟩
abbrev cX3_loanRatioBits : ByteArray := prog_5_method_43_code
def yX3_loanRatioBits : MethodName := ⟨RX3, "loanRatioBits", "(LGrainReceipts$Receipt;)I"⟩
abbrev cX3_splitLoan : ByteArray := prog_5_method_44_code
def yX3_splitLoan : MethodName := ⟨RX3, "splitLoan", "(LGrainReceipts$Receipt;LGrainReceipts$Receipt;)V"⟩
abbrev cX3_passDay : ByteArray := prog_5_method_45_code
def yX3_passDay : MethodName := ⟨RX3, "passDay", "()V"⟩
abbrev cX3_seize : ByteArray := prog_5_method_46_code
def yX3_seize : MethodName := ⟨RX3, "seize", "(LGrainReceipts$Receipt;)V"⟩
def RX4 : String := "GrainReceipts"
def TX4 : u_T := fun k => match k with
  | 0 => ("GrainReceipts", "script", "LGrainReceipts$Script;", true)
  | 1 => ("GrainReceipts", "history", "[LGrainReceipts$State;", true)
  | 2 => ("GrainReceipts", "historyLength", "I", false)
  | 3 => ("GrainReceipts", "now", "LGrainReceipts$State;", false)
  | _ => ("GrainReceipts", "spare", "LGrainReceipts$State;", false)
def tyX4 : Nat → FieldType := fun k => match k with
  | 0 => .object "GrainReceipts$Script"
  | 1 => .array (.object "GrainReceipts$State")
  | 2 => .int
  | 3 => .object "GrainReceipts$State"
  | _ => .object "GrainReceipts$State"
abbrev wsX40 : List Cond := u_ws RX4 TX4 5
theorem nmX4 : ∀ a, a < 5 → ∀ b, b < 5 → a ≠ b → (TX4 a).2.1 ≠ (TX4 b).2.1 := by decide +kernel
theorem tyX4_ok : ∀ k, k < 5 → parseFieldDescriptor (TX4 k).2.2.1 = some (tyX4 k) := by decide +kernel
abbrev cX4_init : ByteArray := prog_1_method_1_code
def yX4_init : MethodName := ⟨RX4, "<init>", "()V"⟩
abbrev cX4_store : ByteArray := prog_1_method_2_code
def yX4_store : MethodName := ⟨RX4, "store", "(III)I"⟩
abbrev cX4_split : ByteArray := prog_1_method_3_code
def yX4_split : MethodName := ⟨RX4, "split", "(II)I"⟩
abbrev cX4_join : ByteArray := prog_1_method_4_code
def yX4_join : MethodName := ⟨RX4, "join", "(II)I"⟩
abbrev cX4_hand : ByteArray := prog_1_method_5_code
def yX4_hand : MethodName := ⟨RX4, "hand", "(II)I"⟩
abbrev cX4_deliver : ByteArray := prog_1_method_6_code
def yX4_deliver : MethodName := ⟨RX4, "deliver", "(I)I"⟩
abbrev cX4_pledge : ByteArray := prog_1_method_7_code
def yX4_pledge : MethodName := ⟨RX4, "pledge", "(III)I"⟩
abbrev cX4_repay : ByteArray := prog_1_method_8_code
def yX4_repay : MethodName := ⟨RX4, "repay", "(II)I"⟩
abbrev cX4_price : ByteArray := prog_1_method_9_code
def yX4_price : MethodName := ⟨RX4, "price", "(II)I"⟩
abbrev cX4_call : ByteArray := prog_1_method_10_code
def yX4_call : MethodName := ⟨RX4, "call", "(I)I"⟩
abbrev cX4_pass : ByteArray := prog_1_method_11_code
def yX4_pass : MethodName := ⟨RX4, "pass", "(I)I"⟩
abbrev cX4_lose : ByteArray := prog_1_method_12_code
def yX4_lose : MethodName := ⟨RX4, "lose", "(II)I"⟩
abbrev cX4_regrade : ByteArray := prog_1_method_13_code
def yX4_regrade : MethodName := ⟨RX4, "regrade", "(II)I"⟩
abbrev cX4_set : ByteArray := prog_1_method_14_code
def yX4_set : MethodName := ⟨RX4, "set", "(II)I"⟩
abbrev cX4_receiptOf : ByteArray := prog_1_method_15_code
def yX4_receiptOf : MethodName := ⟨RX4, "receiptOf", "(II)I"⟩
abbrev cX4_receipt : ByteArray := prog_1_method_16_code
def yX4_receipt : MethodName := ⟨RX4, "receipt", "(I)I"⟩
abbrev cX4_binOf : ByteArray := prog_1_method_17_code
def yX4_binOf : MethodName := ⟨RX4, "binOf", "(II)I"⟩
abbrev cX4_gradeOf : ByteArray := prog_1_method_18_code
def yX4_gradeOf : MethodName := ⟨RX4, "gradeOf", "(II)I"⟩
abbrev cX4_ownerOf : ByteArray := prog_1_method_19_code
def yX4_ownerOf : MethodName := ⟨RX4, "ownerOf", "(II)I"⟩
abbrev cX4_lenderOf : ByteArray := prog_1_method_20_code
def yX4_lenderOf : MethodName := ⟨RX4, "lenderOf", "(II)I"⟩
abbrev cX4_fallTo : ByteArray := prog_1_method_21_code
def yX4_fallTo : MethodName := ⟨RX4, "fallTo", "(I)I"⟩
abbrev cX4_count : ByteArray := prog_1_method_22_code
def yX4_count : MethodName := ⟨RX4, "count", "(I)I"⟩
abbrev cX4_undo : ByteArray := prog_1_method_23_code
def yX4_undo : MethodName := ⟨RX4, "undo", "()I"⟩
abbrev cX4_type : ByteArray := prog_1_method_24_code
def yX4_type : MethodName := ⟨RX4, "type", "(I)I"⟩
abbrev cX4_clearText : ByteArray := prog_1_method_25_code
def yX4_clearText : MethodName := ⟨RX4, "clearText", "()I"⟩
abbrev cX4_fault : ByteArray := prog_1_method_26_code
def yX4_fault : MethodName := ⟨RX4, "fault", "(I)I"⟩
abbrev cX4_play : ByteArray := prog_1_method_27_code
def yX4_play : MethodName := ⟨RX4, "play", "()I"⟩
abbrev cX4_recorded : ByteArray := prog_1_method_28_code
def yX4_recorded : MethodName := ⟨RX4, "recorded", "(I)I"⟩
abbrev cX4_recordSpare : ByteArray := prog_1_method_29_code
def yX4_recordSpare : MethodName := ⟨RX4, "recordSpare", "()V"⟩
abbrev cX4_isError : ByteArray := prog_1_method_30_code
def yX4_isError : MethodName := ⟨RX4, "isError", "(I)Z"⟩
abbrev cX4_isGrade : ByteArray := prog_1_method_31_code
def yX4_isGrade : MethodName := ⟨RX4, "isGrade", "(I)Z"⟩
abbrev cX4_isBin : ByteArray := prog_1_method_32_code
def yX4_isBin : MethodName := ⟨RX4, "isBin", "(I)Z"⟩
abbrev cX4_isOwner : ByteArray := prog_1_method_33_code
def yX4_isOwner : MethodName := ⟨RX4, "isOwner", "(I)Z"⟩
abbrev cX4_isLender : ByteArray := prog_1_method_34_code
def yX4_isLender : MethodName := ⟨RX4, "isLender", "(I)Z"⟩
abbrev cX4_isSetting : ByteArray := prog_1_method_35_code
def yX4_isSetting : MethodName := ⟨RX4, "isSetting", "(I)Z"⟩
abbrev cX4_bitsOf : ByteArray := prog_1_method_36_code
def yX4_bitsOf : MethodName := ⟨RX4, "bitsOf", "(F)I"⟩
def RX5 : String := "GrainReceiptsModel"
def TX5 : u_T := fun k => match k with
  | 0 => ("GrainReceiptsModel", "s", "[I", true)
  | 1 => ("GrainReceiptsModel", "begun", "[I", true)
  | 2 => ("GrainReceiptsModel", "past", "[I", true)
  | 3 => ("GrainReceiptsModel", "states", "I", false)
  | 4 => ("GrainReceiptsModel", "text", "[I", true)
  | 5 => ("GrainReceiptsModel", "length", "I", false)
  | 6 => ("GrainReceiptsModel", "at", "I", false)
  | 7 => ("GrainReceiptsModel", "from", "I", false)
  | 8 => ("GrainReceiptsModel", "done", "I", false)
  | 9 => ("GrainReceiptsModel", "told", "I", false)
  | 10 => ("GrainReceiptsModel", "isForm", "Z", false)
  | _ => ("GrainReceiptsModel", "numbers", "[I", true)
def tyX5 : Nat → FieldType := fun k => match k with
  | 0 => .array .int
  | 1 => .array .int
  | 2 => .array .int
  | 3 => .int
  | 4 => .array .int
  | 5 => .int
  | 6 => .int
  | 7 => .int
  | 8 => .int
  | 9 => .int
  | 10 => .boolean
  | _ => .array .int
abbrev wsX50 : List Cond := u_ws RX5 TX5 12
theorem nmX5 : ∀ a, a < 12 → ∀ b, b < 12 → a ≠ b → (TX5 a).2.1 ≠ (TX5 b).2.1 := by decide +kernel
theorem tyX5_ok : ∀ k, k < 12 → parseFieldDescriptor (TX5 k).2.2.1 = some (tyX5 k) := by decide +kernel
abbrev cX5_init : ByteArray := prog_7_method_1_code
def yX5_init : MethodName := ⟨RX5, "<init>", "()V"⟩
abbrev cX5_in : ByteArray := prog_7_method_3_code
def yX5_in : MethodName := ⟨RX5, "in", "(III)Z"⟩
abbrev cX5_begins : ByteArray := prog_7_method_4_code
def yX5_begins : MethodName := ⟨RX5, "begins", "()V"⟩
abbrev cX5_returns : ByteArray := prog_7_method_5_code
def yX5_returns : MethodName := ⟨RX5, "returns", "()V"⟩
abbrev cX5_acted : ByteArray := prog_7_method_6_code
def yX5_acted : MethodName := ⟨RX5, "acted", "(I)I"⟩
abbrev cX5_of : ByteArray := prog_7_method_7_code
def yX5_of : MethodName := ⟨RX5, "of", "(II)I"⟩
abbrev cX5_lays : ByteArray := prog_7_method_8_code
def yX5_lays : MethodName := ⟨RX5, "lays", "(III)V"⟩
abbrev cX5_placeOf : ByteArray := prog_7_method_9_code
def yX5_placeOf : MethodName := ⟨RX5, "placeOf", "(I)I"⟩
abbrev cX5_makes : ByteArray := prog_7_method_10_code
def yX5_makes : MethodName := ⟨RX5, "makes", "(III)I"⟩
abbrev cX5_frees : ByteArray := prog_7_method_11_code
def yX5_frees : MethodName := ⟨RX5, "frees", "(I)V"⟩
abbrev cX5_removes : ByteArray := prog_7_method_12_code
def yX5_removes : MethodName := ⟨RX5, "removes", "(I)V"⟩
abbrev cX5_isPledged : ByteArray := prog_7_method_13_code
def yX5_isPledged : MethodName := ⟨RX5, "isPledged", "(I)Z"⟩
abbrev cX5_worth : ByteArray := prog_7_method_14_code
def yX5_worth : MethodName := ⟨RX5, "worth", "(I)I"⟩
abbrev cX5_share : ByteArray := prog_7_method_15_code
def yX5_share : MethodName := ⟨RX5, "share", "(II)I"⟩
abbrev cX5_isAbove : ByteArray := prog_7_method_16_code
def yX5_isAbove : MethodName := ⟨RX5, "isAbove", "(I)Z"⟩
abbrev cX5_grade : ByteArray := prog_7_method_17_code
def yX5_grade : MethodName := ⟨RX5, "grade", "(I)I"⟩
abbrev cX5_amount : ByteArray := prog_7_method_18_code
def yX5_amount : MethodName := ⟨RX5, "amount", "(I)I"⟩
abbrev cX5_moves : ByteArray := prog_7_method_19_code
def yX5_moves : MethodName := ⟨RX5, "moves", "(II)V"⟩
abbrev cX5_inBins : ByteArray := prog_7_method_20_code
def yX5_inBins : MethodName := ⟨RX5, "inBins", "(I)I"⟩
abbrev cX5_inReceipts : ByteArray := prog_7_method_21_code
def yX5_inReceipts : MethodName := ⟨RX5, "inReceipts", "(I)I"⟩
abbrev cX5_room : ByteArray := prog_7_method_22_code
def yX5_room : MethodName := ⟨RX5, "room", "(I)I"⟩
abbrev cX5_surplus : ByteArray := prog_7_method_23_code
def yX5_surplus : MethodName := ⟨RX5, "surplus", "(I)I"⟩
abbrev cX5_areCovered : ByteArray := prog_7_method_24_code
def yX5_areCovered : MethodName := ⟨RX5, "areCovered", "()Z"⟩
abbrev cX5_stores : ByteArray := prog_7_method_25_code
def yX5_stores : MethodName := ⟨RX5, "stores", "(III)I"⟩
abbrev cX5_splits : ByteArray := prog_7_method_26_code
def yX5_splits : MethodName := ⟨RX5, "splits", "(II)I"⟩
abbrev cX5_joins : ByteArray := prog_7_method_27_code
def yX5_joins : MethodName := ⟨RX5, "joins", "(II)I"⟩
abbrev cX5_delivers : ByteArray := prog_7_method_28_code
def yX5_delivers : MethodName := ⟨RX5, "delivers", "(I)I"⟩
abbrev cX5_pledges : ByteArray := prog_7_method_29_code
def yX5_pledges : MethodName := ⟨RX5, "pledges", "(III)I"⟩
abbrev cX5_repays : ByteArray := prog_7_method_30_code
def yX5_repays : MethodName := ⟨RX5, "repays", "(II)I"⟩
abbrev cX5_prices : ByteArray := prog_7_method_31_code
def yX5_prices : MethodName := ⟨RX5, "prices", "(II)I"⟩
abbrev cX5_wouldCall : ByteArray := prog_7_method_32_code
def yX5_wouldCall : MethodName := ⟨RX5, "wouldCall", "(II)Z"⟩
abbrev cX5_calls : ByteArray := prog_7_method_33_code
def yX5_calls : MethodName := ⟨RX5, "calls", "(I)I"⟩
abbrev cX5_seizes : ByteArray := prog_7_method_34_code
def yX5_seizes : MethodName := ⟨RX5, "seizes", "(I)V"⟩
abbrev cX5_day : ByteArray := prog_7_method_35_code
def yX5_day : MethodName := ⟨RX5, "day", "()V"⟩
abbrev cX5_lets : ByteArray := prog_7_method_36_code
def yX5_lets : MethodName := ⟨RX5, "lets", "(I)I"⟩
abbrev cX5_store : ByteArray := prog_7_method_37_code
def yX5_store : MethodName := ⟨RX5, "store", "(III)I"⟩
abbrev cX5_split : ByteArray := prog_7_method_38_code
def yX5_split : MethodName := ⟨RX5, "split", "(II)I"⟩
abbrev cX5_join : ByteArray := prog_7_method_39_code
def yX5_join : MethodName := ⟨RX5, "join", "(II)I"⟩
abbrev cX5_hand : ByteArray := prog_7_method_40_code
def yX5_hand : MethodName := ⟨RX5, "hand", "(II)I"⟩
abbrev cX5_deliver : ByteArray := prog_7_method_41_code
def yX5_deliver : MethodName := ⟨RX5, "deliver", "(I)I"⟩
abbrev cX5_pledge : ByteArray := prog_7_method_42_code
def yX5_pledge : MethodName := ⟨RX5, "pledge", "(III)I"⟩
abbrev cX5_repay : ByteArray := prog_7_method_43_code
def yX5_repay : MethodName := ⟨RX5, "repay", "(II)I"⟩
abbrev cX5_price : ByteArray := prog_7_method_44_code
def yX5_price : MethodName := ⟨RX5, "price", "(II)I"⟩
abbrev cX5_call : ByteArray := prog_7_method_45_code
def yX5_call : MethodName := ⟨RX5, "call", "(I)I"⟩
abbrev cX5_pass : ByteArray := prog_7_method_46_code
def yX5_pass : MethodName := ⟨RX5, "pass", "(I)I"⟩
abbrev cX5_lose : ByteArray := prog_7_method_47_code
def yX5_lose : MethodName := ⟨RX5, "lose", "(II)I"⟩
abbrev cX5_regrade : ByteArray := prog_7_method_48_code
def yX5_regrade : MethodName := ⟨RX5, "regrade", "(II)I"⟩
abbrev cX5_set : ByteArray := prog_7_method_49_code
def yX5_set : MethodName := ⟨RX5, "set", "(II)I"⟩
abbrev cX5_bits : ByteArray := prog_7_method_50_code
def yX5_bits : MethodName := ⟨RX5, "bits", "(I)I"⟩
abbrev cX5_receiptOf : ByteArray := prog_7_method_51_code
def yX5_receiptOf : MethodName := ⟨RX5, "receiptOf", "(II)I"⟩
abbrev cX5_receipt : ByteArray := prog_7_method_52_code
def yX5_receipt : MethodName := ⟨RX5, "receipt", "(I)I"⟩
abbrev cX5_couldLose : ByteArray := prog_7_method_53_code
def yX5_couldLose : MethodName := ⟨RX5, "couldLose", "(I)I"⟩
abbrev cX5_binOf : ByteArray := prog_7_method_54_code
def yX5_binOf : MethodName := ⟨RX5, "binOf", "(II)I"⟩
abbrev cX5_gradeOf : ByteArray := prog_7_method_55_code
def yX5_gradeOf : MethodName := ⟨RX5, "gradeOf", "(II)I"⟩
abbrev cX5_ownerOf : ByteArray := prog_7_method_56_code
def yX5_ownerOf : MethodName := ⟨RX5, "ownerOf", "(II)I"⟩
abbrev cX5_lenderOf : ByteArray := prog_7_method_57_code
def yX5_lenderOf : MethodName := ⟨RX5, "lenderOf", "(II)I"⟩
abbrev cX5_wouldFallTo : ByteArray := prog_7_method_58_code
def yX5_wouldFallTo : MethodName := ⟨RX5, "wouldFallTo", "(II)Z"⟩
abbrev cX5_fallTo : ByteArray := prog_7_method_59_code
def yX5_fallTo : MethodName := ⟨RX5, "fallTo", "(I)I"⟩
abbrev cX5_sumOf : ByteArray := prog_7_method_60_code
def yX5_sumOf : MethodName := ⟨RX5, "sumOf", "(I)I"⟩
abbrev cX5_count : ByteArray := prog_7_method_61_code
def yX5_count : MethodName := ⟨RX5, "count", "(I)I"⟩
abbrev cX5_undo : ByteArray := prog_7_method_62_code
def yX5_undo : MethodName := ⟨RX5, "undo", "()I"⟩
abbrev cX5_type : ByteArray := prog_7_method_63_code
def yX5_type : MethodName := ⟨RX5, "type", "(I)I"⟩
abbrev cX5_clearText : ByteArray := prog_7_method_64_code
def yX5_clearText : MethodName := ⟨RX5, "clearText", "()I"⟩
abbrev cX5_here : ByteArray := prog_7_method_65_code
def yX5_here : MethodName := ⟨RX5, "here", "()I"⟩
abbrev cX5_isDigit : ByteArray := prog_7_method_66_code
def yX5_isDigit : MethodName := ⟨RX5, "isDigit", "()Z"⟩
abbrev cX5_takesSign : ByteArray := prog_7_method_67_code
def yX5_takesSign : MethodName := ⟨RX5, "takesSign", "(I)V"⟩
abbrev cX5_number : ByteArray := prog_7_method_68_code
def yX5_number : MethodName := ⟨RX5, "number", "()I"⟩
abbrev cX5_wants : ByteArray := prog_7_method_69_code
def yX5_wants : MethodName := ⟨RX5, "wants", "(I)I"⟩
abbrev cX5_called : ByteArray := prog_7_method_70_code
def yX5_called : MethodName := ⟨RX5, "called", "(I)I"⟩
abbrev cX5_does : ByteArray := prog_7_method_71_code
def yX5_does : MethodName := ⟨RX5, "does", "()Z"⟩
abbrev cX5_fault : ByteArray := prog_7_method_72_code
def yX5_fault : MethodName := ⟨RX5, "fault", "(I)I"⟩
abbrev cX5_play : ByteArray := prog_7_method_73_code
def yX5_play : MethodName := ⟨RX5, "play", "()I"⟩
def RJxf58ca : String := "java/lang/Float"
def TJxf58ca : u_T := fun k => match k with
  | _ => ("", "", "", false)
def tyJxf58ca : Nat → FieldType := fun k => match k with
  | _ => .int
abbrev wsJxf58ca0 : List Cond := u_ws RJxf58ca TJxf58ca 0
theorem nmJxf58ca : ∀ a, a < 0 → ∀ b, b < 0 → a ≠ b → (TJxf58ca a).2.1 ≠ (TJxf58ca b).2.1 := by decide +kernel
theorem tyJxf58ca_ok : ∀ k, k < 0 → parseFieldDescriptor (TJxf58ca k).2.2.1 = some (tyJxf58ca k) := by decide +kernel
abbrev cJxf58ca_isNaN_12338 : ByteArray := prog_8_method_6_code
def yJxf58ca_isNaN_12338 : MethodName := ⟨RJxf58ca, "isNaN", "(F)Z"⟩
abbrev cJxf58ca_floatToIntBits_5c35a : ByteArray := prog_8_method_24_code
def yJxf58ca_floatToIntBits_5c35a : MethodName := ⟨RJxf58ca, "floatToIntBits", "(F)I"⟩
def RJ9 : String := "java/lang/Math"
def TJ9 : u_T := fun k => match k with
  | _ => ("", "", "", false)
def tyJ9 : Nat → FieldType := fun k => match k with
  | _ => .int
abbrev wsJ90 : List Cond := u_ws RJ9 TJ9 0
theorem nmJ9 : ∀ a, a < 0 → ∀ b, b < 0 → a ≠ b → (TJ9 a).2.1 ≠ (TJ9 b).2.1 := by decide +kernel
theorem tyJ9_ok : ∀ k, k < 0 → parseFieldDescriptor (TJ9 k).2.2.1 = some (tyJ9 k) := by decide +kernel
abbrev cJ9_max_7cf53 : ByteArray := prog_9_method_65_code
def yJ9_max_7cf53 : MethodName := ⟨RJ9, "max", "(II)I"⟩
abbrev cJ9_min_7cf53 : ByteArray := prog_9_method_69_code
def yJ9_min_7cf53 : MethodName := ⟨RJ9, "min", "(II)I"⟩
def RJ10 : String := "java/lang/System"
def TJ10 : u_T := fun k => match k with
  | _ => ("", "", "", false)
def tyJ10 : Nat → FieldType := fun k => match k with
  | _ => .int
abbrev wsJ100 : List Cond := u_ws RJ10 TJ10 0
theorem nmJ10 : ∀ a, a < 0 → ∀ b, b < 0 → a ≠ b → (TJ10 a).2.1 ≠ (TJ10 b).2.1 := by decide +kernel
theorem tyJ10_ok : ∀ k, k < 0 → parseFieldDescriptor (TJ10 k).2.2.1 = some (tyJ10 k) := by decide +kernel
def RL : String := "GrainReceiptsLaw"
abbrev cL_law : ByteArray := code
def yL_law : MethodName := ⟨RL, "law", "([I)Z"⟩
abbrev vwCl : List vw_C := [(RX0, TX0, 2), (RX1, TX1, 7), (RX2, TX2, 8), (RX3, TX3, 11), (RX4, TX4, 5), (RX5, TX5, 12)]
end
section
theorem dX0_init_0 : decode cX0_init 0 = .ok (.aload_n 0, 1) := by decide +kernel
theorem dX0_init_1 : decode cX0_init 1 = .ok (.invokespecial 1, 3) := by decide +kernel
theorem dX0_init_4 : decode cX0_init 4 = .ok (.return_, 1) := by decide +kernel
theorem dX0_copyFrom_0 : decode cX0_copyFrom 0 = .ok (.aload_n 0, 1) := by decide +kernel
theorem dX0_copyFrom_1 : decode cX0_copyFrom 1 = .ok (.aload_n 1, 1) := by decide +kernel
theorem dX0_copyFrom_2 : decode cX0_copyFrom 2 = .ok (.getfield 7, 3) := by decide +kernel
theorem dX0_copyFrom_5 : decode cX0_copyFrom 5 = .ok (.putfield 7, 3) := by decide +kernel
theorem dX0_copyFrom_8 : decode cX0_copyFrom 8 = .ok (.aload_n 0, 1) := by decide +kernel
theorem dX0_copyFrom_9 : decode cX0_copyFrom 9 = .ok (.aload_n 1, 1) := by decide +kernel
theorem dX0_copyFrom_10 : decode cX0_copyFrom 10 = .ok (.getfield 13, 3) := by decide +kernel
theorem dX0_copyFrom_13 : decode cX0_copyFrom 13 = .ok (.putfield 13, 3) := by decide +kernel
theorem dX0_copyFrom_16 : decode cX0_copyFrom 16 = .ok (.return_, 1) := by decide +kernel
theorem dX1_init_0 : decode cX1_init 0 = .ok (.aload_n 0, 1) := by decide +kernel
theorem dX1_init_1 : decode cX1_init 1 = .ok (.invokespecial 3, 3) := by decide +kernel
theorem dX1_init_4 : decode cX1_init 4 = .ok (.aload_n 0, 1) := by decide +kernel
theorem dX1_init_5 : decode cX1_init 5 = .ok (.iconst (-1), 1) := by decide +kernel
theorem dX1_init_6 : decode cX1_init 6 = .ok (.putfield 9, 3) := by decide +kernel
theorem dX1_init_9 : decode cX1_init 9 = .ok (.aload_n 0, 1) := by decide +kernel
theorem dX1_init_10 : decode cX1_init 10 = .ok (.iconst (-1), 1) := by decide +kernel
theorem dX1_init_11 : decode cX1_init 11 = .ok (.putfield 15, 3) := by decide +kernel
theorem dX1_init_14 : decode cX1_init 14 = .ok (.return_, 1) := by decide +kernel
theorem dX1_isUsed_0 : decode cX1_isUsed 0 = .ok (.aload_n 0, 1) := by decide +kernel
theorem dX1_isUsed_1 : decode cX1_isUsed 1 = .ok (.getfield 9, 3) := by decide +kernel
theorem dX1_isUsed_4 : decode cX1_isUsed 4 = .ok (.iconst (-1), 1) := by decide +kernel
theorem dX1_isUsed_5 : decode cX1_isUsed 5 = .ok (.if_icmp .eq 7, 3) := by decide +kernel
theorem dX1_isUsed_8 : decode cX1_isUsed 8 = .ok (.iconst 1, 1) := by decide +kernel
theorem dX1_isUsed_9 : decode cX1_isUsed 9 = .ok (.goto 4, 3) := by decide +kernel
theorem dX1_isUsed_12 : decode cX1_isUsed 12 = .ok (.iconst 0, 1) := by decide +kernel
theorem dX1_isUsed_13 : decode cX1_isUsed 13 = .ok (.ireturn, 1) := by decide +kernel
theorem dX1_isPledged_0 : decode cX1_isPledged 0 = .ok (.aload_n 0, 1) := by decide +kernel
theorem dX1_isPledged_1 : decode cX1_isPledged 1 = .ok (.getfield 15, 3) := by decide +kernel
theorem dX1_isPledged_4 : decode cX1_isPledged 4 = .ok (.iconst (-1), 1) := by decide +kernel
theorem dX1_isPledged_5 : decode cX1_isPledged 5 = .ok (.if_icmp .eq 7, 3) := by decide +kernel
theorem dX1_isPledged_8 : decode cX1_isPledged 8 = .ok (.iconst 1, 1) := by decide +kernel
theorem dX1_isPledged_9 : decode cX1_isPledged 9 = .ok (.goto 4, 3) := by decide +kernel
theorem dX1_isPledged_12 : decode cX1_isPledged 12 = .ok (.iconst 0, 1) := by decide +kernel
theorem dX1_isPledged_13 : decode cX1_isPledged 13 = .ok (.ireturn, 1) := by decide +kernel
theorem dX1_isCalled_0 : decode cX1_isCalled 0 = .ok (.aload_n 0, 1) := by decide +kernel
theorem dX1_isCalled_1 : decode cX1_isCalled 1 = .ok (.getfield 18, 3) := by decide +kernel
theorem dX1_isCalled_4 : decode cX1_isCalled 4 = .ok (.ifCond .le 7, 3) := by decide +kernel
theorem dX1_isCalled_7 : decode cX1_isCalled 7 = .ok (.iconst 1, 1) := by decide +kernel
theorem dX1_isCalled_8 : decode cX1_isCalled 8 = .ok (.goto 4, 3) := by decide +kernel
theorem dX1_isCalled_11 : decode cX1_isCalled 11 = .ok (.iconst 0, 1) := by decide +kernel
theorem dX1_isCalled_12 : decode cX1_isCalled 12 = .ok (.ireturn, 1) := by decide +kernel
theorem dX1_use_0 : decode cX1_use 0 = .ok (.aload_n 0, 1) := by decide +kernel
theorem dX1_use_1 : decode cX1_use 1 = .ok (.iload_n 1, 1) := by decide +kernel
theorem dX1_use_2 : decode cX1_use 2 = .ok (.putfield 9, 3) := by decide +kernel
theorem dX1_use_5 : decode cX1_use 5 = .ok (.aload_n 0, 1) := by decide +kernel
theorem dX1_use_6 : decode cX1_use 6 = .ok (.iload_n 2, 1) := by decide +kernel
theorem dX1_use_7 : decode cX1_use 7 = .ok (.putfield 21, 3) := by decide +kernel
theorem dX1_use_10 : decode cX1_use 10 = .ok (.aload_n 0, 1) := by decide +kernel
theorem dX1_use_11 : decode cX1_use 11 = .ok (.iload_n 3, 1) := by decide +kernel
theorem dX1_use_12 : decode cX1_use 12 = .ok (.putfield 24, 3) := by decide +kernel
theorem dX1_use_15 : decode cX1_use 15 = .ok (.aload_n 0, 1) := by decide +kernel
theorem dX1_use_16 : decode cX1_use 16 = .ok (.iload 4, 2) := by decide +kernel
theorem dX1_use_18 : decode cX1_use 18 = .ok (.putfield 27, 3) := by decide +kernel
theorem dX1_use_21 : decode cX1_use 21 = .ok (.return_, 1) := by decide +kernel
theorem dX1_free_0 : decode cX1_free 0 = .ok (.aload_n 0, 1) := by decide +kernel
theorem dX1_free_1 : decode cX1_free 1 = .ok (.iconst (-1), 1) := by decide +kernel
theorem dX1_free_2 : decode cX1_free 2 = .ok (.iconst 0, 1) := by decide +kernel
theorem dX1_free_3 : decode cX1_free 3 = .ok (.iconst 0, 1) := by decide +kernel
theorem dX1_free_4 : decode cX1_free 4 = .ok (.iconst 0, 1) := by decide +kernel
theorem dX1_free_5 : decode cX1_free 5 = .ok (.invokevirtual 30, 3) := by decide +kernel
theorem dX1_free_8 : decode cX1_free 8 = .ok (.aload_n 0, 1) := by decide +kernel
theorem dX1_free_9 : decode cX1_free 9 = .ok (.invokevirtual 34, 3) := by decide +kernel
theorem dX1_free_12 : decode cX1_free 12 = .ok (.return_, 1) := by decide +kernel
theorem dX1_endPledge_0 : decode cX1_endPledge 0 = .ok (.aload_n 0, 1) := by decide +kernel
theorem dX1_endPledge_1 : decode cX1_endPledge 1 = .ok (.iconst (-1), 1) := by decide +kernel
theorem dX1_endPledge_2 : decode cX1_endPledge 2 = .ok (.putfield 15, 3) := by decide +kernel
theorem dX1_endPledge_5 : decode cX1_endPledge 5 = .ok (.aload_n 0, 1) := by decide +kernel
theorem dX1_endPledge_6 : decode cX1_endPledge 6 = .ok (.iconst 0, 1) := by decide +kernel
theorem dX1_endPledge_7 : decode cX1_endPledge 7 = .ok (.putfield 37, 3) := by decide +kernel
theorem dX1_endPledge_10 : decode cX1_endPledge 10 = .ok (.aload_n 0, 1) := by decide +kernel
theorem dX1_endPledge_11 : decode cX1_endPledge 11 = .ok (.iconst 0, 1) := by decide +kernel
theorem dX1_endPledge_12 : decode cX1_endPledge 12 = .ok (.putfield 18, 3) := by decide +kernel
theorem dX1_endPledge_15 : decode cX1_endPledge 15 = .ok (.return_, 1) := by decide +kernel
theorem dX1_copyFrom_0 : decode cX1_copyFrom 0 = .ok (.aload_n 0, 1) := by decide +kernel
theorem dX1_copyFrom_1 : decode cX1_copyFrom 1 = .ok (.aload_n 1, 1) := by decide +kernel
theorem dX1_copyFrom_2 : decode cX1_copyFrom 2 = .ok (.getfield 9, 3) := by decide +kernel
theorem dX1_copyFrom_5 : decode cX1_copyFrom 5 = .ok (.aload_n 1, 1) := by decide +kernel
theorem dX1_copyFrom_6 : decode cX1_copyFrom 6 = .ok (.getfield 21, 3) := by decide +kernel
theorem dX1_copyFrom_9 : decode cX1_copyFrom 9 = .ok (.aload_n 1, 1) := by decide +kernel
theorem dX1_copyFrom_10 : decode cX1_copyFrom 10 = .ok (.getfield 24, 3) := by decide +kernel
theorem dX1_copyFrom_13 : decode cX1_copyFrom 13 = .ok (.aload_n 1, 1) := by decide +kernel
theorem dX1_copyFrom_14 : decode cX1_copyFrom 14 = .ok (.getfield 27, 3) := by decide +kernel
theorem dX1_copyFrom_17 : decode cX1_copyFrom 17 = .ok (.invokevirtual 30, 3) := by decide +kernel
theorem dX1_copyFrom_20 : decode cX1_copyFrom 20 = .ok (.aload_n 0, 1) := by decide +kernel
theorem dX1_copyFrom_21 : decode cX1_copyFrom 21 = .ok (.aload_n 1, 1) := by decide +kernel
theorem dX1_copyFrom_22 : decode cX1_copyFrom 22 = .ok (.getfield 15, 3) := by decide +kernel
theorem dX1_copyFrom_25 : decode cX1_copyFrom 25 = .ok (.putfield 15, 3) := by decide +kernel
theorem dX1_copyFrom_28 : decode cX1_copyFrom 28 = .ok (.aload_n 0, 1) := by decide +kernel
theorem dX1_copyFrom_29 : decode cX1_copyFrom 29 = .ok (.aload_n 1, 1) := by decide +kernel
theorem dX1_copyFrom_30 : decode cX1_copyFrom 30 = .ok (.getfield 37, 3) := by decide +kernel
theorem dX1_copyFrom_33 : decode cX1_copyFrom 33 = .ok (.putfield 37, 3) := by decide +kernel
theorem dX1_copyFrom_36 : decode cX1_copyFrom 36 = .ok (.aload_n 0, 1) := by decide +kernel
theorem dX1_copyFrom_37 : decode cX1_copyFrom 37 = .ok (.aload_n 1, 1) := by decide +kernel
theorem dX1_copyFrom_38 : decode cX1_copyFrom 38 = .ok (.getfield 18, 3) := by decide +kernel
theorem dX1_copyFrom_41 : decode cX1_copyFrom 41 = .ok (.putfield 18, 3) := by decide +kernel
theorem dX1_copyFrom_44 : decode cX1_copyFrom 44 = .ok (.return_, 1) := by decide +kernel
theorem dX2_init_0 : decode cX2_init 0 = .ok (.aload_n 0, 1) := by decide +kernel
theorem dX2_init_1 : decode cX2_init 1 = .ok (.invokespecial 3, 3) := by decide +kernel
theorem dX2_init_4 : decode cX2_init 4 = .ok (.aload_n 0, 1) := by decide +kernel
theorem dX2_init_5 : decode cX2_init 5 = .ok (.bipush 60, 2) := by decide +kernel
theorem dX2_init_7 : decode cX2_init 7 = .ok (.newarray .char, 2) := by decide +kernel
theorem dX2_init_9 : decode cX2_init 9 = .ok (.putfield 9, 3) := by decide +kernel
theorem dX2_init_12 : decode cX2_init 12 = .ok (.aload_n 0, 1) := by decide +kernel
theorem dX2_init_13 : decode cX2_init 13 = .ok (.iconst 3, 1) := by decide +kernel
theorem dX2_init_14 : decode cX2_init 14 = .ok (.newarray .int, 2) := by decide +kernel
theorem dX2_init_16 : decode cX2_init 16 = .ok (.putfield 15, 3) := by decide +kernel
theorem dX2_init_19 : decode cX2_init 19 = .ok (.return_, 1) := by decide +kernel
theorem dX2_append_0 : decode cX2_append 0 = .ok (.iload_n 1, 1) := by decide +kernel
theorem dX2_append_1 : decode cX2_append 1 = .ok (.bipush 32, 2) := by decide +kernel
theorem dX2_append_3 : decode cX2_append 3 = .ok (.if_icmp .lt 9, 3) := by decide +kernel
theorem dX2_append_6 : decode cX2_append 6 = .ok (.iload_n 1, 1) := by decide +kernel
theorem dX2_append_7 : decode cX2_append 7 = .ok (.bipush 126, 2) := by decide +kernel
theorem dX2_append_9 : decode cX2_append 9 = .ok (.if_icmp .le 6, 3) := by decide +kernel
theorem dX2_append_12 : decode cX2_append 12 = .ok (.ldc 19, 2) := by decide +kernel
theorem dX2_append_14 : decode cX2_append 14 = .ok (.ireturn, 1) := by decide +kernel
theorem dX2_append_15 : decode cX2_append 15 = .ok (.aload_n 0, 1) := by decide +kernel
theorem dX2_append_16 : decode cX2_append 16 = .ok (.getfield 20, 3) := by decide +kernel
theorem dX2_append_19 : decode cX2_append 19 = .ok (.ifCond .lt 12, 3) := by decide +kernel
theorem dX2_append_22 : decode cX2_append 22 = .ok (.aload_n 0, 1) := by decide +kernel
theorem dX2_append_23 : decode cX2_append 23 = .ok (.getfield 20, 3) := by decide +kernel
theorem dX2_append_26 : decode cX2_append 26 = .ok (.bipush 60, 2) := by decide +kernel
theorem dX2_append_28 : decode cX2_append 28 = .ok (.if_icmp .lt 6, 3) := by decide +kernel
theorem dX2_append_31 : decode cX2_append 31 = .ok (.ldc 24, 2) := by decide +kernel
theorem dX2_append_33 : decode cX2_append 33 = .ok (.ireturn, 1) := by decide +kernel
theorem dX2_append_34 : decode cX2_append 34 = .ok (.aload_n 0, 1) := by decide +kernel
theorem dX2_append_35 : decode cX2_append 35 = .ok (.getfield 9, 3) := by decide +kernel
theorem dX2_append_38 : decode cX2_append 38 = .ok (.aload_n 0, 1) := by decide +kernel
theorem dX2_append_39 : decode cX2_append 39 = .ok (.getfield 20, 3) := by decide +kernel
theorem dX2_append_42 : decode cX2_append 42 = .ok (.iload_n 1, 1) := by decide +kernel
theorem dX2_append_43 : decode cX2_append 43 = .ok (.i2c, 1) := by decide +kernel
theorem dX2_append_44 : decode cX2_append 44 = .ok (.castore, 1) := by decide +kernel
theorem dX2_append_45 : decode cX2_append 45 = .ok (.aload_n 0, 1) := by decide +kernel
theorem dX2_append_46 : decode cX2_append 46 = .ok (.dup, 1) := by decide +kernel
theorem dX2_append_47 : decode cX2_append 47 = .ok (.getfield 20, 3) := by decide +kernel
theorem dX2_append_50 : decode cX2_append 50 = .ok (.iconst 1, 1) := by decide +kernel
theorem dX2_append_51 : decode cX2_append 51 = .ok (.iadd, 1) := by decide +kernel
theorem dX2_append_52 : decode cX2_append 52 = .ok (.putfield 20, 3) := by decide +kernel
theorem dX2_append_55 : decode cX2_append 55 = .ok (.aload_n 0, 1) := by decide +kernel
theorem dX2_append_56 : decode cX2_append 56 = .ok (.getfield 20, 3) := by decide +kernel
theorem dX2_append_59 : decode cX2_append 59 = .ok (.ireturn, 1) := by decide +kernel
theorem dX2_doOrders_0 : decode cX2_doOrders 0 = .ok (.aload_n 0, 1) := by decide +kernel
theorem dX2_doOrders_1 : decode cX2_doOrders 1 = .ok (.iconst 0, 1) := by decide +kernel
theorem dX2_doOrders_2 : decode cX2_doOrders 2 = .ok (.putfield 25, 3) := by decide +kernel
theorem dX2_doOrders_5 : decode cX2_doOrders 5 = .ok (.aload_n 0, 1) := by decide +kernel
theorem dX2_doOrders_6 : decode cX2_doOrders 6 = .ok (.iconst 0, 1) := by decide +kernel
theorem dX2_doOrders_7 : decode cX2_doOrders 7 = .ok (.putfield 28, 3) := by decide +kernel
theorem dX2_doOrders_10 : decode cX2_doOrders 10 = .ok (.aload_n 0, 1) := by decide +kernel
theorem dX2_doOrders_11 : decode cX2_doOrders 11 = .ok (.iconst 0, 1) := by decide +kernel
theorem dX2_doOrders_12 : decode cX2_doOrders 12 = .ok (.putfield 31, 3) := by decide +kernel
theorem dX2_doOrders_15 : decode cX2_doOrders 15 = .ok (.iconst 0, 1) := by decide +kernel
theorem dX2_doOrders_16 : decode cX2_doOrders 16 = .ok (.istore_n 2, 1) := by decide +kernel
theorem dX2_doOrders_17 : decode cX2_doOrders 17 = .ok (.iload_n 2, 1) := by decide +kernel
theorem dX2_doOrders_18 : decode cX2_doOrders 18 = .ok (.bipush 60, 2) := by decide +kernel
theorem dX2_doOrders_20 : decode cX2_doOrders 20 = .ok (.if_icmp .ge 84, 3) := by decide +kernel
theorem dX2_doOrders_23 : decode cX2_doOrders 23 = .ok (.aload_n 0, 1) := by decide +kernel
theorem dX2_doOrders_24 : decode cX2_doOrders 24 = .ok (.getfield 31, 3) := by decide +kernel
theorem dX2_doOrders_27 : decode cX2_doOrders 27 = .ok (.aload_n 0, 1) := by decide +kernel
theorem dX2_doOrders_28 : decode cX2_doOrders 28 = .ok (.getfield 20, 3) := by decide +kernel
theorem dX2_doOrders_31 : decode cX2_doOrders 31 = .ok (.if_icmp .ge 73, 3) := by decide +kernel
theorem dX2_doOrders_34 : decode cX2_doOrders 34 = .ok (.aload_n 0, 1) := by decide +kernel
theorem dX2_doOrders_35 : decode cX2_doOrders 35 = .ok (.getfield 31, 3) := by decide +kernel
theorem dX2_doOrders_38 : decode cX2_doOrders 38 = .ok (.istore_n 3, 1) := by decide +kernel
theorem dX2_doOrders_39 : decode cX2_doOrders 39 = .ok (.aload_n 0, 1) := by decide +kernel
theorem dX2_doOrders_40 : decode cX2_doOrders 40 = .ok (.invokevirtual 34, 3) := by decide +kernel
theorem dX2_doOrders_43 : decode cX2_doOrders 43 = .ok (.ifCond .ne 16, 3) := by decide +kernel
theorem dX2_doOrders_46 : decode cX2_doOrders 46 = .ok (.aload_n 0, 1) := by decide +kernel
theorem dX2_doOrders_47 : decode cX2_doOrders 47 = .ok (.iload_n 3, 1) := by decide +kernel
theorem dX2_doOrders_48 : decode cX2_doOrders 48 = .ok (.iconst 1, 1) := by decide +kernel
theorem dX2_doOrders_49 : decode cX2_doOrders 49 = .ok (.aload_n 0, 1) := by decide +kernel
theorem dX2_doOrders_50 : decode cX2_doOrders 50 = .ok (.getfield 31, 3) := by decide +kernel
theorem dX2_doOrders_53 : decode cX2_doOrders 53 = .ok (.iload_n 3, 1) := by decide +kernel
theorem dX2_doOrders_54 : decode cX2_doOrders 54 = .ok (.isub, 1) := by decide +kernel
theorem dX2_doOrders_55 : decode cX2_doOrders 55 = .ok (.invokevirtual 38, 3) := by decide +kernel
theorem dX2_doOrders_58 : decode cX2_doOrders 58 = .ok (.return_, 1) := by decide +kernel
theorem dX2_doOrders_59 : decode cX2_doOrders 59 = .ok (.aload_n 0, 1) := by decide +kernel
theorem dX2_doOrders_60 : decode cX2_doOrders 60 = .ok (.aload_n 1, 1) := by decide +kernel
theorem dX2_doOrders_61 : decode cX2_doOrders 61 = .ok (.aload_n 0, 1) := by decide +kernel
theorem dX2_doOrders_62 : decode cX2_doOrders 62 = .ok (.iload_n 3, 1) := by decide +kernel
theorem dX2_doOrders_63 : decode cX2_doOrders 63 = .ok (.invokevirtual 42, 3) := by decide +kernel
theorem dX2_doOrders_66 : decode cX2_doOrders 66 = .ok (.invokevirtual 46, 3) := by decide +kernel
theorem dX2_doOrders_69 : decode cX2_doOrders 69 = .ok (.istore 4, 2) := by decide +kernel
theorem dX2_doOrders_71 : decode cX2_doOrders 71 = .ok (.iload 4, 2) := by decide +kernel
theorem dX2_doOrders_73 : decode cX2_doOrders 73 = .ok (.invokestatic 50, 3) := by decide +kernel
theorem dX2_doOrders_76 : decode cX2_doOrders 76 = .ok (.ifCond .eq 12, 3) := by decide +kernel
theorem dX2_doOrders_79 : decode cX2_doOrders 79 = .ok (.aload_n 0, 1) := by decide +kernel
theorem dX2_doOrders_80 : decode cX2_doOrders 80 = .ok (.iload_n 3, 1) := by decide +kernel
theorem dX2_doOrders_81 : decode cX2_doOrders 81 = .ok (.iconst 2, 1) := by decide +kernel
theorem dX2_doOrders_82 : decode cX2_doOrders 82 = .ok (.iload 4, 2) := by decide +kernel
theorem dX2_doOrders_84 : decode cX2_doOrders 84 = .ok (.invokevirtual 38, 3) := by decide +kernel
theorem dX2_doOrders_87 : decode cX2_doOrders 87 = .ok (.return_, 1) := by decide +kernel
theorem dX2_doOrders_88 : decode cX2_doOrders 88 = .ok (.aload_n 0, 1) := by decide +kernel
theorem dX2_doOrders_89 : decode cX2_doOrders 89 = .ok (.dup, 1) := by decide +kernel
theorem dX2_doOrders_90 : decode cX2_doOrders 90 = .ok (.getfield 25, 3) := by decide +kernel
theorem dX2_doOrders_93 : decode cX2_doOrders 93 = .ok (.iconst 1, 1) := by decide +kernel
theorem dX2_doOrders_94 : decode cX2_doOrders 94 = .ok (.iadd, 1) := by decide +kernel
theorem dX2_doOrders_95 : decode cX2_doOrders 95 = .ok (.putfield 25, 3) := by decide +kernel
theorem dX2_doOrders_98 : decode cX2_doOrders 98 = .ok (.iinc 2 1, 3) := by decide +kernel
theorem dX2_doOrders_101 : decode cX2_doOrders 101 = .ok (.goto (-84), 3) := by decide +kernel
theorem dX2_doOrders_104 : decode cX2_doOrders 104 = .ok (.return_, 1) := by decide +kernel
theorem dX2_setFault_0 : decode cX2_setFault 0 = .ok (.aload_n 0, 1) := by decide +kernel
theorem dX2_setFault_1 : decode cX2_setFault 1 = .ok (.iload_n 1, 1) := by decide +kernel
theorem dX2_setFault_2 : decode cX2_setFault 2 = .ok (.putfield 54, 3) := by decide +kernel
theorem dX2_setFault_5 : decode cX2_setFault 5 = .ok (.aload_n 0, 1) := by decide +kernel
theorem dX2_setFault_6 : decode cX2_setFault 6 = .ok (.iload_n 2, 1) := by decide +kernel
theorem dX2_setFault_7 : decode cX2_setFault 7 = .ok (.putfield 28, 3) := by decide +kernel
theorem dX2_setFault_10 : decode cX2_setFault 10 = .ok (.aload_n 0, 1) := by decide +kernel
theorem dX2_setFault_11 : decode cX2_setFault 11 = .ok (.iload_n 3, 1) := by decide +kernel
theorem dX2_setFault_12 : decode cX2_setFault 12 = .ok (.putfield 57, 3) := by decide +kernel
theorem dX2_setFault_15 : decode cX2_setFault 15 = .ok (.return_, 1) := by decide +kernel
theorem dX2_doOrder_0 : decode cX2_doOrder 0 = .ok (.iload_n 2, 1) := by decide +kernel
theorem dX2_doOrder_1 : decode cX2_doOrder 1 = .ok (.tableswitch 183 99 116 #[150, 161, 183, 183, 183, 183, 183, 183, 183, 110, 183, 183, 183, 133, 183, 183, 87, 172], 87) := by decide +kernel
theorem dX2_doOrder_88 : decode cX2_doOrder 88 = .ok (.aload_n 1, 1) := by decide +kernel
theorem dX2_doOrder_89 : decode cX2_doOrder 89 = .ok (.aload_n 0, 1) := by decide +kernel
theorem dX2_doOrder_90 : decode cX2_doOrder 90 = .ok (.getfield 15, 3) := by decide +kernel
theorem dX2_doOrder_93 : decode cX2_doOrder 93 = .ok (.iconst 0, 1) := by decide +kernel
theorem dX2_doOrder_94 : decode cX2_doOrder 94 = .ok (.iaload, 1) := by decide +kernel
theorem dX2_doOrder_95 : decode cX2_doOrder 95 = .ok (.aload_n 0, 1) := by decide +kernel
theorem dX2_doOrder_96 : decode cX2_doOrder 96 = .ok (.getfield 15, 3) := by decide +kernel
theorem dX2_doOrder_99 : decode cX2_doOrder 99 = .ok (.iconst 1, 1) := by decide +kernel
theorem dX2_doOrder_100 : decode cX2_doOrder 100 = .ok (.iaload, 1) := by decide +kernel
theorem dX2_doOrder_101 : decode cX2_doOrder 101 = .ok (.aload_n 0, 1) := by decide +kernel
theorem dX2_doOrder_102 : decode cX2_doOrder 102 = .ok (.getfield 15, 3) := by decide +kernel
theorem dX2_doOrder_105 : decode cX2_doOrder 105 = .ok (.iconst 2, 1) := by decide +kernel
theorem dX2_doOrder_106 : decode cX2_doOrder 106 = .ok (.iaload, 1) := by decide +kernel
theorem dX2_doOrder_107 : decode cX2_doOrder 107 = .ok (.invokevirtual 60, 3) := by decide +kernel
theorem dX2_doOrder_110 : decode cX2_doOrder 110 = .ok (.ireturn, 1) := by decide +kernel
theorem dX2_doOrder_111 : decode cX2_doOrder 111 = .ok (.aload_n 1, 1) := by decide +kernel
theorem dX2_doOrder_112 : decode cX2_doOrder 112 = .ok (.aload_n 0, 1) := by decide +kernel
theorem dX2_doOrder_113 : decode cX2_doOrder 113 = .ok (.getfield 15, 3) := by decide +kernel
theorem dX2_doOrder_116 : decode cX2_doOrder 116 = .ok (.iconst 0, 1) := by decide +kernel
theorem dX2_doOrder_117 : decode cX2_doOrder 117 = .ok (.iaload, 1) := by decide +kernel
theorem dX2_doOrder_118 : decode cX2_doOrder 118 = .ok (.aload_n 0, 1) := by decide +kernel
theorem dX2_doOrder_119 : decode cX2_doOrder 119 = .ok (.getfield 15, 3) := by decide +kernel
theorem dX2_doOrder_122 : decode cX2_doOrder 122 = .ok (.iconst 1, 1) := by decide +kernel
theorem dX2_doOrder_123 : decode cX2_doOrder 123 = .ok (.iaload, 1) := by decide +kernel
theorem dX2_doOrder_124 : decode cX2_doOrder 124 = .ok (.aload_n 0, 1) := by decide +kernel
theorem dX2_doOrder_125 : decode cX2_doOrder 125 = .ok (.getfield 15, 3) := by decide +kernel
theorem dX2_doOrder_128 : decode cX2_doOrder 128 = .ok (.iconst 2, 1) := by decide +kernel
theorem dX2_doOrder_129 : decode cX2_doOrder 129 = .ok (.iaload, 1) := by decide +kernel
theorem dX2_doOrder_130 : decode cX2_doOrder 130 = .ok (.invokevirtual 66, 3) := by decide +kernel
theorem dX2_doOrder_133 : decode cX2_doOrder 133 = .ok (.ireturn, 1) := by decide +kernel
theorem dX2_doOrder_134 : decode cX2_doOrder 134 = .ok (.aload_n 1, 1) := by decide +kernel
theorem dX2_doOrder_135 : decode cX2_doOrder 135 = .ok (.aload_n 0, 1) := by decide +kernel
theorem dX2_doOrder_136 : decode cX2_doOrder 136 = .ok (.getfield 15, 3) := by decide +kernel
theorem dX2_doOrder_139 : decode cX2_doOrder 139 = .ok (.iconst 0, 1) := by decide +kernel
theorem dX2_doOrder_140 : decode cX2_doOrder 140 = .ok (.iaload, 1) := by decide +kernel
theorem dX2_doOrder_141 : decode cX2_doOrder 141 = .ok (.aload_n 0, 1) := by decide +kernel
theorem dX2_doOrder_142 : decode cX2_doOrder 142 = .ok (.getfield 15, 3) := by decide +kernel
theorem dX2_doOrder_145 : decode cX2_doOrder 145 = .ok (.iconst 1, 1) := by decide +kernel
theorem dX2_doOrder_146 : decode cX2_doOrder 146 = .ok (.iaload, 1) := by decide +kernel
theorem dX2_doOrder_147 : decode cX2_doOrder 147 = .ok (.invokevirtual 69, 3) := by decide +kernel
theorem dX2_doOrder_150 : decode cX2_doOrder 150 = .ok (.ireturn, 1) := by decide +kernel
theorem dX2_doOrder_151 : decode cX2_doOrder 151 = .ok (.aload_n 1, 1) := by decide +kernel
theorem dX2_doOrder_152 : decode cX2_doOrder 152 = .ok (.aload_n 0, 1) := by decide +kernel
theorem dX2_doOrder_153 : decode cX2_doOrder 153 = .ok (.getfield 15, 3) := by decide +kernel
theorem dX2_doOrder_156 : decode cX2_doOrder 156 = .ok (.iconst 0, 1) := by decide +kernel
theorem dX2_doOrder_157 : decode cX2_doOrder 157 = .ok (.iaload, 1) := by decide +kernel
theorem dX2_doOrder_158 : decode cX2_doOrder 158 = .ok (.invokevirtual 73, 3) := by decide +kernel
theorem dX2_doOrder_161 : decode cX2_doOrder 161 = .ok (.ireturn, 1) := by decide +kernel
theorem dX2_doOrder_162 : decode cX2_doOrder 162 = .ok (.aload_n 1, 1) := by decide +kernel
theorem dX2_doOrder_163 : decode cX2_doOrder 163 = .ok (.aload_n 0, 1) := by decide +kernel
theorem dX2_doOrder_164 : decode cX2_doOrder 164 = .ok (.getfield 15, 3) := by decide +kernel
theorem dX2_doOrder_167 : decode cX2_doOrder 167 = .ok (.iconst 0, 1) := by decide +kernel
theorem dX2_doOrder_168 : decode cX2_doOrder 168 = .ok (.iaload, 1) := by decide +kernel
theorem dX2_doOrder_169 : decode cX2_doOrder 169 = .ok (.invokevirtual 77, 3) := by decide +kernel
theorem dX2_doOrder_172 : decode cX2_doOrder 172 = .ok (.ireturn, 1) := by decide +kernel
theorem dX2_doOrder_173 : decode cX2_doOrder 173 = .ok (.aload_n 1, 1) := by decide +kernel
theorem dX2_doOrder_174 : decode cX2_doOrder 174 = .ok (.aload_n 0, 1) := by decide +kernel
theorem dX2_doOrder_175 : decode cX2_doOrder 175 = .ok (.getfield 15, 3) := by decide +kernel
theorem dX2_doOrder_178 : decode cX2_doOrder 178 = .ok (.iconst 0, 1) := by decide +kernel
theorem dX2_doOrder_179 : decode cX2_doOrder 179 = .ok (.iaload, 1) := by decide +kernel
theorem dX2_doOrder_180 : decode cX2_doOrder 180 = .ok (.invokevirtual 80, 3) := by decide +kernel
theorem dX2_doOrder_183 : decode cX2_doOrder 183 = .ok (.ireturn, 1) := by decide +kernel
theorem dX2_doOrder_184 : decode cX2_doOrder 184 = .ok (.ldc 19, 2) := by decide +kernel
theorem dX2_doOrder_186 : decode cX2_doOrder 186 = .ok (.ireturn, 1) := by decide +kernel
theorem dX2_readOrder_0 : decode cX2_readOrder 0 = .ok (.aload_n 0, 1) := by decide +kernel
theorem dX2_readOrder_1 : decode cX2_readOrder 1 = .ok (.aload_n 0, 1) := by decide +kernel
theorem dX2_readOrder_2 : decode cX2_readOrder 2 = .ok (.getfield 31, 3) := by decide +kernel
theorem dX2_readOrder_5 : decode cX2_readOrder 5 = .ok (.invokevirtual 42, 3) := by decide +kernel
theorem dX2_readOrder_8 : decode cX2_readOrder 8 = .ok (.invokestatic 83, 3) := by decide +kernel
theorem dX2_readOrder_11 : decode cX2_readOrder 11 = .ok (.istore_n 1, 1) := by decide +kernel
theorem dX2_readOrder_12 : decode cX2_readOrder 12 = .ok (.iload_n 1, 1) := by decide +kernel
theorem dX2_readOrder_13 : decode cX2_readOrder 13 = .ok (.ifCond .ne 5, 3) := by decide +kernel
theorem dX2_readOrder_16 : decode cX2_readOrder 16 = .ok (.iconst 0, 1) := by decide +kernel
theorem dX2_readOrder_17 : decode cX2_readOrder 17 = .ok (.ireturn, 1) := by decide +kernel
theorem dX2_readOrder_18 : decode cX2_readOrder 18 = .ok (.aload_n 0, 1) := by decide +kernel
theorem dX2_readOrder_19 : decode cX2_readOrder 19 = .ok (.dup, 1) := by decide +kernel
theorem dX2_readOrder_20 : decode cX2_readOrder 20 = .ok (.getfield 31, 3) := by decide +kernel
theorem dX2_readOrder_23 : decode cX2_readOrder 23 = .ok (.iconst 1, 1) := by decide +kernel
theorem dX2_readOrder_24 : decode cX2_readOrder 24 = .ok (.iadd, 1) := by decide +kernel
theorem dX2_readOrder_25 : decode cX2_readOrder 25 = .ok (.putfield 31, 3) := by decide +kernel
theorem dX2_readOrder_28 : decode cX2_readOrder 28 = .ok (.iconst 0, 1) := by decide +kernel
theorem dX2_readOrder_29 : decode cX2_readOrder 29 = .ok (.istore_n 2, 1) := by decide +kernel
theorem dX2_readOrder_30 : decode cX2_readOrder 30 = .ok (.iload_n 2, 1) := by decide +kernel
theorem dX2_readOrder_31 : decode cX2_readOrder 31 = .ok (.iload_n 1, 1) := by decide +kernel
theorem dX2_readOrder_32 : decode cX2_readOrder 32 = .ok (.if_icmp .ge 77, 3) := by decide +kernel
theorem dX2_readOrder_35 : decode cX2_readOrder 35 = .ok (.iload_n 2, 1) := by decide +kernel
theorem dX2_readOrder_36 : decode cX2_readOrder 36 = .ok (.iconst 3, 1) := by decide +kernel
theorem dX2_readOrder_37 : decode cX2_readOrder 37 = .ok (.if_icmp .ge 72, 3) := by decide +kernel
theorem dX2_readOrder_40 : decode cX2_readOrder 40 = .ok (.aload_n 0, 1) := by decide +kernel
theorem dX2_readOrder_41 : decode cX2_readOrder 41 = .ok (.aload_n 0, 1) := by decide +kernel
theorem dX2_readOrder_42 : decode cX2_readOrder 42 = .ok (.getfield 31, 3) := by decide +kernel
theorem dX2_readOrder_45 : decode cX2_readOrder 45 = .ok (.invokevirtual 42, 3) := by decide +kernel
theorem dX2_readOrder_48 : decode cX2_readOrder 48 = .ok (.invokestatic 87, 3) := by decide +kernel
theorem dX2_readOrder_51 : decode cX2_readOrder 51 = .ok (.ifCond .ne 5, 3) := by decide +kernel
theorem dX2_readOrder_54 : decode cX2_readOrder 54 = .ok (.iconst 0, 1) := by decide +kernel
theorem dX2_readOrder_55 : decode cX2_readOrder 55 = .ok (.ireturn, 1) := by decide +kernel
theorem dX2_readOrder_56 : decode cX2_readOrder 56 = .ok (.aload_n 0, 1) := by decide +kernel
theorem dX2_readOrder_57 : decode cX2_readOrder 57 = .ok (.getfield 15, 3) := by decide +kernel
theorem dX2_readOrder_60 : decode cX2_readOrder 60 = .ok (.iload_n 2, 1) := by decide +kernel
theorem dX2_readOrder_61 : decode cX2_readOrder 61 = .ok (.aload_n 0, 1) := by decide +kernel
theorem dX2_readOrder_62 : decode cX2_readOrder 62 = .ok (.invokevirtual 91, 3) := by decide +kernel
theorem dX2_readOrder_65 : decode cX2_readOrder 65 = .ok (.iastore, 1) := by decide +kernel
theorem dX2_readOrder_66 : decode cX2_readOrder 66 = .ok (.aload_n 0, 1) := by decide +kernel
theorem dX2_readOrder_67 : decode cX2_readOrder 67 = .ok (.aload_n 0, 1) := by decide +kernel
theorem dX2_readOrder_68 : decode cX2_readOrder 68 = .ok (.getfield 31, 3) := by decide +kernel
theorem dX2_readOrder_71 : decode cX2_readOrder 71 = .ok (.invokevirtual 42, 3) := by decide +kernel
theorem dX2_readOrder_74 : decode cX2_readOrder 74 = .ok (.iload_n 2, 1) := by decide +kernel
theorem dX2_readOrder_75 : decode cX2_readOrder 75 = .ok (.iconst 1, 1) := by decide +kernel
theorem dX2_readOrder_76 : decode cX2_readOrder 76 = .ok (.iadd, 1) := by decide +kernel
theorem dX2_readOrder_77 : decode cX2_readOrder 77 = .ok (.iload_n 1, 1) := by decide +kernel
theorem dX2_readOrder_78 : decode cX2_readOrder 78 = .ok (.if_icmp .ge 8, 3) := by decide +kernel
theorem dX2_readOrder_81 : decode cX2_readOrder 81 = .ok (.bipush 44, 2) := by decide +kernel
theorem dX2_readOrder_83 : decode cX2_readOrder 83 = .ok (.goto 5, 3) := by decide +kernel
theorem dX2_readOrder_86 : decode cX2_readOrder 86 = .ok (.bipush 59, 2) := by decide +kernel
theorem dX2_readOrder_88 : decode cX2_readOrder 88 = .ok (.if_icmp .eq 5, 3) := by decide +kernel
theorem dX2_readOrder_91 : decode cX2_readOrder 91 = .ok (.iconst 0, 1) := by decide +kernel
theorem dX2_readOrder_92 : decode cX2_readOrder 92 = .ok (.ireturn, 1) := by decide +kernel
theorem dX2_readOrder_93 : decode cX2_readOrder 93 = .ok (.aload_n 0, 1) := by decide +kernel
theorem dX2_readOrder_94 : decode cX2_readOrder 94 = .ok (.dup, 1) := by decide +kernel
theorem dX2_readOrder_95 : decode cX2_readOrder 95 = .ok (.getfield 31, 3) := by decide +kernel
theorem dX2_readOrder_98 : decode cX2_readOrder 98 = .ok (.iconst 1, 1) := by decide +kernel
theorem dX2_readOrder_99 : decode cX2_readOrder 99 = .ok (.iadd, 1) := by decide +kernel
theorem dX2_readOrder_100 : decode cX2_readOrder 100 = .ok (.putfield 31, 3) := by decide +kernel
theorem dX2_readOrder_103 : decode cX2_readOrder 103 = .ok (.iinc 2 1, 3) := by decide +kernel
theorem dX2_readOrder_106 : decode cX2_readOrder 106 = .ok (.goto (-76), 3) := by decide +kernel
theorem dX2_readOrder_109 : decode cX2_readOrder 109 = .ok (.iconst 1, 1) := by decide +kernel
theorem dX2_readOrder_110 : decode cX2_readOrder 110 = .ok (.ireturn, 1) := by decide +kernel
theorem dX2_readNumber_0 : decode cX2_readNumber 0 = .ok (.iconst 0, 1) := by decide +kernel
theorem dX2_readNumber_1 : decode cX2_readNumber 1 = .ok (.istore_n 1, 1) := by decide +kernel
theorem dX2_readNumber_2 : decode cX2_readNumber 2 = .ok (.iconst 0, 1) := by decide +kernel
theorem dX2_readNumber_3 : decode cX2_readNumber 3 = .ok (.istore_n 2, 1) := by decide +kernel
theorem dX2_readNumber_4 : decode cX2_readNumber 4 = .ok (.iload_n 2, 1) := by decide +kernel
theorem dX2_readNumber_5 : decode cX2_readNumber 5 = .ok (.bipush 6, 2) := by decide +kernel
theorem dX2_readNumber_7 : decode cX2_readNumber 7 = .ok (.if_icmp .ge 50, 3) := by decide +kernel
theorem dX2_readNumber_10 : decode cX2_readNumber 10 = .ok (.aload_n 0, 1) := by decide +kernel
theorem dX2_readNumber_11 : decode cX2_readNumber 11 = .ok (.aload_n 0, 1) := by decide +kernel
theorem dX2_readNumber_12 : decode cX2_readNumber 12 = .ok (.getfield 31, 3) := by decide +kernel
theorem dX2_readNumber_15 : decode cX2_readNumber 15 = .ok (.invokevirtual 42, 3) := by decide +kernel
theorem dX2_readNumber_18 : decode cX2_readNumber 18 = .ok (.invokestatic 87, 3) := by decide +kernel
theorem dX2_readNumber_21 : decode cX2_readNumber 21 = .ok (.ifCond .eq 36, 3) := by decide +kernel
theorem dX2_readNumber_24 : decode cX2_readNumber 24 = .ok (.iload_n 1, 1) := by decide +kernel
theorem dX2_readNumber_25 : decode cX2_readNumber 25 = .ok (.bipush 10, 2) := by decide +kernel
theorem dX2_readNumber_27 : decode cX2_readNumber 27 = .ok (.imul, 1) := by decide +kernel
theorem dX2_readNumber_28 : decode cX2_readNumber 28 = .ok (.aload_n 0, 1) := by decide +kernel
theorem dX2_readNumber_29 : decode cX2_readNumber 29 = .ok (.aload_n 0, 1) := by decide +kernel
theorem dX2_readNumber_30 : decode cX2_readNumber 30 = .ok (.getfield 31, 3) := by decide +kernel
theorem dX2_readNumber_33 : decode cX2_readNumber 33 = .ok (.invokevirtual 42, 3) := by decide +kernel
theorem dX2_readNumber_36 : decode cX2_readNumber 36 = .ok (.bipush 48, 2) := by decide +kernel
theorem dX2_readNumber_38 : decode cX2_readNumber 38 = .ok (.isub, 1) := by decide +kernel
theorem dX2_readNumber_39 : decode cX2_readNumber 39 = .ok (.iadd, 1) := by decide +kernel
theorem dX2_readNumber_40 : decode cX2_readNumber 40 = .ok (.istore_n 1, 1) := by decide +kernel
theorem dX2_readNumber_41 : decode cX2_readNumber 41 = .ok (.aload_n 0, 1) := by decide +kernel
theorem dX2_readNumber_42 : decode cX2_readNumber 42 = .ok (.dup, 1) := by decide +kernel
theorem dX2_readNumber_43 : decode cX2_readNumber 43 = .ok (.getfield 31, 3) := by decide +kernel
theorem dX2_readNumber_46 : decode cX2_readNumber 46 = .ok (.iconst 1, 1) := by decide +kernel
theorem dX2_readNumber_47 : decode cX2_readNumber 47 = .ok (.iadd, 1) := by decide +kernel
theorem dX2_readNumber_48 : decode cX2_readNumber 48 = .ok (.putfield 31, 3) := by decide +kernel
theorem dX2_readNumber_51 : decode cX2_readNumber 51 = .ok (.iinc 2 1, 3) := by decide +kernel
theorem dX2_readNumber_54 : decode cX2_readNumber 54 = .ok (.goto (-50), 3) := by decide +kernel
theorem dX2_readNumber_57 : decode cX2_readNumber 57 = .ok (.iload_n 1, 1) := by decide +kernel
theorem dX2_readNumber_58 : decode cX2_readNumber 58 = .ok (.ireturn, 1) := by decide +kernel
theorem dX2_characterAt_0 : decode cX2_characterAt 0 = .ok (.iload_n 1, 1) := by decide +kernel
theorem dX2_characterAt_1 : decode cX2_characterAt 1 = .ok (.ifCond .lt 21, 3) := by decide +kernel
theorem dX2_characterAt_4 : decode cX2_characterAt 4 = .ok (.iload_n 1, 1) := by decide +kernel
theorem dX2_characterAt_5 : decode cX2_characterAt 5 = .ok (.aload_n 0, 1) := by decide +kernel
theorem dX2_characterAt_6 : decode cX2_characterAt 6 = .ok (.getfield 20, 3) := by decide +kernel
theorem dX2_characterAt_9 : decode cX2_characterAt 9 = .ok (.if_icmp .ge 13, 3) := by decide +kernel
theorem dX2_characterAt_12 : decode cX2_characterAt 12 = .ok (.iload_n 1, 1) := by decide +kernel
theorem dX2_characterAt_13 : decode cX2_characterAt 13 = .ok (.bipush 60, 2) := by decide +kernel
theorem dX2_characterAt_15 : decode cX2_characterAt 15 = .ok (.if_icmp .ge 7, 3) := by decide +kernel
theorem dX2_characterAt_18 : decode cX2_characterAt 18 = .ok (.iconst 1, 1) := by decide +kernel
theorem dX2_characterAt_19 : decode cX2_characterAt 19 = .ok (.goto 4, 3) := by decide +kernel
theorem dX2_characterAt_22 : decode cX2_characterAt 22 = .ok (.iconst 0, 1) := by decide +kernel
theorem dX2_characterAt_23 : decode cX2_characterAt 23 = .ok (.istore_n 2, 1) := by decide +kernel
theorem dX2_characterAt_24 : decode cX2_characterAt 24 = .ok (.iload_n 2, 1) := by decide +kernel
theorem dX2_characterAt_25 : decode cX2_characterAt 25 = .ok (.ifCond .eq 12, 3) := by decide +kernel
theorem dX2_characterAt_28 : decode cX2_characterAt 28 = .ok (.aload_n 0, 1) := by decide +kernel
theorem dX2_characterAt_29 : decode cX2_characterAt 29 = .ok (.getfield 9, 3) := by decide +kernel
theorem dX2_characterAt_32 : decode cX2_characterAt 32 = .ok (.iload_n 1, 1) := by decide +kernel
theorem dX2_characterAt_33 : decode cX2_characterAt 33 = .ok (.caload, 1) := by decide +kernel
theorem dX2_characterAt_34 : decode cX2_characterAt 34 = .ok (.goto 4, 3) := by decide +kernel
theorem dX2_characterAt_37 : decode cX2_characterAt 37 = .ok (.iconst 0, 1) := by decide +kernel
theorem dX2_characterAt_38 : decode cX2_characterAt 38 = .ok (.ireturn, 1) := by decide +kernel
theorem dX2_numbersBehind_0 : decode cX2_numbersBehind 0 = .ok (.iload_n 0, 1) := by decide +kernel
theorem dX2_numbersBehind_1 : decode cX2_numbersBehind 1 = .ok (.tableswitch 93 99 116 #[91, 91, 93, 93, 93, 93, 93, 93, 93, 87, 93, 93, 93, 89, 93, 93, 87, 91], 87) := by decide +kernel
theorem dX2_numbersBehind_88 : decode cX2_numbersBehind 88 = .ok (.iconst 3, 1) := by decide +kernel
theorem dX2_numbersBehind_89 : decode cX2_numbersBehind 89 = .ok (.ireturn, 1) := by decide +kernel
theorem dX2_numbersBehind_90 : decode cX2_numbersBehind 90 = .ok (.iconst 2, 1) := by decide +kernel
theorem dX2_numbersBehind_91 : decode cX2_numbersBehind 91 = .ok (.ireturn, 1) := by decide +kernel
theorem dX2_numbersBehind_92 : decode cX2_numbersBehind 92 = .ok (.iconst 1, 1) := by decide +kernel
theorem dX2_numbersBehind_93 : decode cX2_numbersBehind 93 = .ok (.ireturn, 1) := by decide +kernel
theorem dX2_numbersBehind_94 : decode cX2_numbersBehind 94 = .ok (.iconst 0, 1) := by decide +kernel
theorem dX2_numbersBehind_95 : decode cX2_numbersBehind 95 = .ok (.ireturn, 1) := by decide +kernel
theorem dX2_isDigit_0 : decode cX2_isDigit 0 = .ok (.iload_n 0, 1) := by decide +kernel
theorem dX2_isDigit_1 : decode cX2_isDigit 1 = .ok (.bipush 48, 2) := by decide +kernel
theorem dX2_isDigit_3 : decode cX2_isDigit 3 = .ok (.if_icmp .lt 13, 3) := by decide +kernel
theorem dX2_isDigit_6 : decode cX2_isDigit 6 = .ok (.iload_n 0, 1) := by decide +kernel
theorem dX2_isDigit_7 : decode cX2_isDigit 7 = .ok (.bipush 57, 2) := by decide +kernel
theorem dX2_isDigit_9 : decode cX2_isDigit 9 = .ok (.if_icmp .gt 7, 3) := by decide +kernel
theorem dX2_isDigit_12 : decode cX2_isDigit 12 = .ok (.iconst 1, 1) := by decide +kernel
theorem dX2_isDigit_13 : decode cX2_isDigit 13 = .ok (.goto 4, 3) := by decide +kernel
theorem dX2_isDigit_16 : decode cX2_isDigit 16 = .ok (.iconst 0, 1) := by decide +kernel
theorem dX2_isDigit_17 : decode cX2_isDigit 17 = .ok (.ireturn, 1) := by decide +kernel
theorem dX3_init_0 : decode cX3_init 0 = .ok (.aload_n 0, 1) := by decide +kernel
theorem dX3_init_1 : decode cX3_init 1 = .ok (.invokespecial 3, 3) := by decide +kernel
theorem dX3_init_4 : decode cX3_init 4 = .ok (.aload_n 0, 1) := by decide +kernel
theorem dX3_init_5 : decode cX3_init 5 = .ok (.iconst 5, 1) := by decide +kernel
theorem dX3_init_6 : decode cX3_init 6 = .ok (.anewarray 9, 3) := by decide +kernel
theorem dX3_init_9 : decode cX3_init 9 = .ok (.putfield 11, 3) := by decide +kernel
theorem dX3_init_12 : decode cX3_init 12 = .ok (.aload_n 0, 1) := by decide +kernel
theorem dX3_init_13 : decode cX3_init 13 = .ok (.bipush 16, 2) := by decide +kernel
theorem dX3_init_15 : decode cX3_init 15 = .ok (.anewarray 17, 3) := by decide +kernel
theorem dX3_init_18 : decode cX3_init 18 = .ok (.putfield 19, 3) := by decide +kernel
theorem dX3_init_21 : decode cX3_init 21 = .ok (.aload_n 0, 1) := by decide +kernel
theorem dX3_init_22 : decode cX3_init 22 = .ok (.iconst 3, 1) := by decide +kernel
theorem dX3_init_23 : decode cX3_init 23 = .ok (.newarray .int, 2) := by decide +kernel
theorem dX3_init_25 : decode cX3_init 25 = .ok (.dup, 1) := by decide +kernel
theorem dX3_init_26 : decode cX3_init 26 = .ok (.iconst 0, 1) := by decide +kernel
theorem dX3_init_27 : decode cX3_init 27 = .ok (.bipush 30, 2) := by decide +kernel
theorem dX3_init_29 : decode cX3_init 29 = .ok (.iastore, 1) := by decide +kernel
theorem dX3_init_30 : decode cX3_init 30 = .ok (.dup, 1) := by decide +kernel
theorem dX3_init_31 : decode cX3_init 31 = .ok (.iconst 1, 1) := by decide +kernel
theorem dX3_init_32 : decode cX3_init 32 = .ok (.bipush 20, 2) := by decide +kernel
theorem dX3_init_34 : decode cX3_init 34 = .ok (.iastore, 1) := by decide +kernel
theorem dX3_init_35 : decode cX3_init 35 = .ok (.dup, 1) := by decide +kernel
theorem dX3_init_36 : decode cX3_init 36 = .ok (.iconst 2, 1) := by decide +kernel
theorem dX3_init_37 : decode cX3_init 37 = .ok (.bipush 10, 2) := by decide +kernel
theorem dX3_init_39 : decode cX3_init 39 = .ok (.iastore, 1) := by decide +kernel
theorem dX3_init_40 : decode cX3_init 40 = .ok (.putfield 23, 3) := by decide +kernel
theorem dX3_init_43 : decode cX3_init 43 = .ok (.aload_n 0, 1) := by decide +kernel
theorem dX3_init_44 : decode cX3_init 44 = .ok (.iconst 4, 1) := by decide +kernel
theorem dX3_init_45 : decode cX3_init 45 = .ok (.newarray .int, 2) := by decide +kernel
theorem dX3_init_47 : decode cX3_init 47 = .ok (.dup, 1) := by decide +kernel
theorem dX3_init_48 : decode cX3_init 48 = .ok (.iconst 0, 1) := by decide +kernel
theorem dX3_init_49 : decode cX3_init 49 = .ok (.bipush 70, 2) := by decide +kernel
theorem dX3_init_51 : decode cX3_init 51 = .ok (.iastore, 1) := by decide +kernel
theorem dX3_init_52 : decode cX3_init 52 = .ok (.dup, 1) := by decide +kernel
theorem dX3_init_53 : decode cX3_init 53 = .ok (.iconst 1, 1) := by decide +kernel
theorem dX3_init_54 : decode cX3_init 54 = .ok (.bipush 90, 2) := by decide +kernel
theorem dX3_init_56 : decode cX3_init 56 = .ok (.iastore, 1) := by decide +kernel
theorem dX3_init_57 : decode cX3_init 57 = .ok (.dup, 1) := by decide +kernel
theorem dX3_init_58 : decode cX3_init 58 = .ok (.iconst 2, 1) := by decide +kernel
theorem dX3_init_59 : decode cX3_init 59 = .ok (.iconst 3, 1) := by decide +kernel
theorem dX3_init_60 : decode cX3_init 60 = .ok (.iastore, 1) := by decide +kernel
theorem dX3_init_61 : decode cX3_init 61 = .ok (.dup, 1) := by decide +kernel
theorem dX3_init_62 : decode cX3_init 62 = .ok (.iconst 3, 1) := by decide +kernel
theorem dX3_init_63 : decode cX3_init 63 = .ok (.iconst 4, 1) := by decide +kernel
theorem dX3_init_64 : decode cX3_init 64 = .ok (.iastore, 1) := by decide +kernel
theorem dX3_init_65 : decode cX3_init 65 = .ok (.putfield 27, 3) := by decide +kernel
theorem dX3_init_68 : decode cX3_init 68 = .ok (.aload_n 0, 1) := by decide +kernel
theorem dX3_init_69 : decode cX3_init 69 = .ok (.bipush 8, 2) := by decide +kernel
theorem dX3_init_71 : decode cX3_init 71 = .ok (.newarray .int, 2) := by decide +kernel
theorem dX3_init_73 : decode cX3_init 73 = .ok (.putfield 30, 3) := by decide +kernel
theorem dX3_init_76 : decode cX3_init 76 = .ok (.aload_n 0, 1) := by decide +kernel
theorem dX3_init_77 : decode cX3_init 77 = .ok (.iconst 3, 1) := by decide +kernel
theorem dX3_init_78 : decode cX3_init 78 = .ok (.newarray .int, 2) := by decide +kernel
theorem dX3_init_80 : decode cX3_init 80 = .ok (.putfield 33, 3) := by decide +kernel
theorem dX3_init_83 : decode cX3_init 83 = .ok (.iconst 0, 1) := by decide +kernel
theorem dX3_init_84 : decode cX3_init 84 = .ok (.istore_n 1, 1) := by decide +kernel
theorem dX3_init_85 : decode cX3_init 85 = .ok (.iload_n 1, 1) := by decide +kernel
theorem dX3_init_86 : decode cX3_init 86 = .ok (.iconst 5, 1) := by decide +kernel
theorem dX3_init_87 : decode cX3_init 87 = .ok (.if_icmp .ge 34, 3) := by decide +kernel
theorem dX3_init_90 : decode cX3_init 90 = .ok (.aload_n 0, 1) := by decide +kernel
theorem dX3_init_91 : decode cX3_init 91 = .ok (.getfield 11, 3) := by decide +kernel
theorem dX3_init_94 : decode cX3_init 94 = .ok (.iload_n 1, 1) := by decide +kernel
theorem dX3_init_95 : decode cX3_init 95 = .ok (.new 9, 3) := by decide +kernel
theorem dX3_init_98 : decode cX3_init 98 = .ok (.dup, 1) := by decide +kernel
theorem dX3_init_99 : decode cX3_init 99 = .ok (.invokespecial 36, 3) := by decide +kernel
theorem dX3_init_102 : decode cX3_init 102 = .ok (.aastore, 1) := by decide +kernel
theorem dX3_init_103 : decode cX3_init 103 = .ok (.aload_n 0, 1) := by decide +kernel
theorem dX3_init_104 : decode cX3_init 104 = .ok (.getfield 11, 3) := by decide +kernel
theorem dX3_init_107 : decode cX3_init 107 = .ok (.iload_n 1, 1) := by decide +kernel
theorem dX3_init_108 : decode cX3_init 108 = .ok (.aaload, 1) := by decide +kernel
theorem dX3_init_109 : decode cX3_init 109 = .ok (.iload_n 1, 1) := by decide +kernel
theorem dX3_init_110 : decode cX3_init 110 = .ok (.iconst 2, 1) := by decide +kernel
theorem dX3_init_111 : decode cX3_init 111 = .ok (.idiv, 1) := by decide +kernel
theorem dX3_init_112 : decode cX3_init 112 = .ok (.putfield 37, 3) := by decide +kernel
theorem dX3_init_115 : decode cX3_init 115 = .ok (.iinc 1 1, 3) := by decide +kernel
theorem dX3_init_118 : decode cX3_init 118 = .ok (.goto (-33), 3) := by decide +kernel
theorem dX3_init_121 : decode cX3_init 121 = .ok (.iconst 0, 1) := by decide +kernel
theorem dX3_init_122 : decode cX3_init 122 = .ok (.istore_n 1, 1) := by decide +kernel
theorem dX3_init_123 : decode cX3_init 123 = .ok (.iload_n 1, 1) := by decide +kernel
theorem dX3_init_124 : decode cX3_init 124 = .ok (.bipush 16, 2) := by decide +kernel
theorem dX3_init_126 : decode cX3_init 126 = .ok (.if_icmp .ge 22, 3) := by decide +kernel
theorem dX3_init_129 : decode cX3_init 129 = .ok (.aload_n 0, 1) := by decide +kernel
theorem dX3_init_130 : decode cX3_init 130 = .ok (.getfield 19, 3) := by decide +kernel
theorem dX3_init_133 : decode cX3_init 133 = .ok (.iload_n 1, 1) := by decide +kernel
theorem dX3_init_134 : decode cX3_init 134 = .ok (.new 17, 3) := by decide +kernel
theorem dX3_init_137 : decode cX3_init 137 = .ok (.dup, 1) := by decide +kernel
theorem dX3_init_138 : decode cX3_init 138 = .ok (.invokespecial 41, 3) := by decide +kernel
theorem dX3_init_141 : decode cX3_init 141 = .ok (.aastore, 1) := by decide +kernel
theorem dX3_init_142 : decode cX3_init 142 = .ok (.iinc 1 1, 3) := by decide +kernel
theorem dX3_init_145 : decode cX3_init 145 = .ok (.goto (-22), 3) := by decide +kernel
theorem dX3_init_148 : decode cX3_init 148 = .ok (.return_, 1) := by decide +kernel
theorem dX3_copyFrom_0 : decode cX3_copyFrom 0 = .ok (.iconst 0, 1) := by decide +kernel
theorem dX3_copyFrom_1 : decode cX3_copyFrom 1 = .ok (.istore_n 2, 1) := by decide +kernel
theorem dX3_copyFrom_2 : decode cX3_copyFrom 2 = .ok (.iload_n 2, 1) := by decide +kernel
theorem dX3_copyFrom_3 : decode cX3_copyFrom 3 = .ok (.iconst 5, 1) := by decide +kernel
theorem dX3_copyFrom_4 : decode cX3_copyFrom 4 = .ok (.if_icmp .ge 24, 3) := by decide +kernel
theorem dX3_copyFrom_7 : decode cX3_copyFrom 7 = .ok (.aload_n 0, 1) := by decide +kernel
theorem dX3_copyFrom_8 : decode cX3_copyFrom 8 = .ok (.getfield 11, 3) := by decide +kernel
theorem dX3_copyFrom_11 : decode cX3_copyFrom 11 = .ok (.iload_n 2, 1) := by decide +kernel
theorem dX3_copyFrom_12 : decode cX3_copyFrom 12 = .ok (.aaload, 1) := by decide +kernel
theorem dX3_copyFrom_13 : decode cX3_copyFrom 13 = .ok (.aload_n 1, 1) := by decide +kernel
theorem dX3_copyFrom_14 : decode cX3_copyFrom 14 = .ok (.getfield 11, 3) := by decide +kernel
theorem dX3_copyFrom_17 : decode cX3_copyFrom 17 = .ok (.iload_n 2, 1) := by decide +kernel
theorem dX3_copyFrom_18 : decode cX3_copyFrom 18 = .ok (.aaload, 1) := by decide +kernel
theorem dX3_copyFrom_19 : decode cX3_copyFrom 19 = .ok (.invokevirtual 42, 3) := by decide +kernel
theorem dX3_copyFrom_22 : decode cX3_copyFrom 22 = .ok (.iinc 2 1, 3) := by decide +kernel
theorem dX3_copyFrom_25 : decode cX3_copyFrom 25 = .ok (.goto (-23), 3) := by decide +kernel
theorem dX3_copyFrom_28 : decode cX3_copyFrom 28 = .ok (.iconst 0, 1) := by decide +kernel
theorem dX3_copyFrom_29 : decode cX3_copyFrom 29 = .ok (.istore_n 2, 1) := by decide +kernel
theorem dX3_copyFrom_30 : decode cX3_copyFrom 30 = .ok (.iload_n 2, 1) := by decide +kernel
theorem dX3_copyFrom_31 : decode cX3_copyFrom 31 = .ok (.bipush 16, 2) := by decide +kernel
theorem dX3_copyFrom_33 : decode cX3_copyFrom 33 = .ok (.if_icmp .ge 24, 3) := by decide +kernel
theorem dX3_copyFrom_36 : decode cX3_copyFrom 36 = .ok (.aload_n 0, 1) := by decide +kernel
theorem dX3_copyFrom_37 : decode cX3_copyFrom 37 = .ok (.getfield 19, 3) := by decide +kernel
theorem dX3_copyFrom_40 : decode cX3_copyFrom 40 = .ok (.iload_n 2, 1) := by decide +kernel
theorem dX3_copyFrom_41 : decode cX3_copyFrom 41 = .ok (.aaload, 1) := by decide +kernel
theorem dX3_copyFrom_42 : decode cX3_copyFrom 42 = .ok (.aload_n 1, 1) := by decide +kernel
theorem dX3_copyFrom_43 : decode cX3_copyFrom 43 = .ok (.getfield 19, 3) := by decide +kernel
theorem dX3_copyFrom_46 : decode cX3_copyFrom 46 = .ok (.iload_n 2, 1) := by decide +kernel
theorem dX3_copyFrom_47 : decode cX3_copyFrom 47 = .ok (.aaload, 1) := by decide +kernel
theorem dX3_copyFrom_48 : decode cX3_copyFrom 48 = .ok (.invokevirtual 46, 3) := by decide +kernel
theorem dX3_copyFrom_51 : decode cX3_copyFrom 51 = .ok (.iinc 2 1, 3) := by decide +kernel
theorem dX3_copyFrom_54 : decode cX3_copyFrom 54 = .ok (.goto (-24), 3) := by decide +kernel
theorem dX3_copyFrom_57 : decode cX3_copyFrom 57 = .ok (.aload_n 1, 1) := by decide +kernel
theorem dX3_copyFrom_58 : decode cX3_copyFrom 58 = .ok (.getfield 23, 3) := by decide +kernel
theorem dX3_copyFrom_61 : decode cX3_copyFrom 61 = .ok (.iconst 0, 1) := by decide +kernel
theorem dX3_copyFrom_62 : decode cX3_copyFrom 62 = .ok (.aload_n 0, 1) := by decide +kernel
theorem dX3_copyFrom_63 : decode cX3_copyFrom 63 = .ok (.getfield 23, 3) := by decide +kernel
theorem dX3_copyFrom_66 : decode cX3_copyFrom 66 = .ok (.iconst 0, 1) := by decide +kernel
theorem dX3_copyFrom_67 : decode cX3_copyFrom 67 = .ok (.iconst 3, 1) := by decide +kernel
theorem dX3_copyFrom_68 : decode cX3_copyFrom 68 = .ok (.invokestatic 49, 3) := by decide +kernel
theorem dX3_copyFrom_71 : decode cX3_copyFrom 71 = .ok (.aload_n 1, 1) := by decide +kernel
theorem dX3_copyFrom_72 : decode cX3_copyFrom 72 = .ok (.getfield 27, 3) := by decide +kernel
theorem dX3_copyFrom_75 : decode cX3_copyFrom 75 = .ok (.iconst 0, 1) := by decide +kernel
theorem dX3_copyFrom_76 : decode cX3_copyFrom 76 = .ok (.aload_n 0, 1) := by decide +kernel
theorem dX3_copyFrom_77 : decode cX3_copyFrom 77 = .ok (.getfield 27, 3) := by decide +kernel
theorem dX3_copyFrom_80 : decode cX3_copyFrom 80 = .ok (.iconst 0, 1) := by decide +kernel
theorem dX3_copyFrom_81 : decode cX3_copyFrom 81 = .ok (.iconst 4, 1) := by decide +kernel
theorem dX3_copyFrom_82 : decode cX3_copyFrom 82 = .ok (.invokestatic 49, 3) := by decide +kernel
theorem dX3_copyFrom_85 : decode cX3_copyFrom 85 = .ok (.aload_n 1, 1) := by decide +kernel
theorem dX3_copyFrom_86 : decode cX3_copyFrom 86 = .ok (.getfield 30, 3) := by decide +kernel
theorem dX3_copyFrom_89 : decode cX3_copyFrom 89 = .ok (.iconst 0, 1) := by decide +kernel
theorem dX3_copyFrom_90 : decode cX3_copyFrom 90 = .ok (.aload_n 0, 1) := by decide +kernel
theorem dX3_copyFrom_91 : decode cX3_copyFrom 91 = .ok (.getfield 30, 3) := by decide +kernel
theorem dX3_copyFrom_94 : decode cX3_copyFrom 94 = .ok (.iconst 0, 1) := by decide +kernel
theorem dX3_copyFrom_95 : decode cX3_copyFrom 95 = .ok (.bipush 8, 2) := by decide +kernel
theorem dX3_copyFrom_97 : decode cX3_copyFrom 97 = .ok (.invokestatic 49, 3) := by decide +kernel
theorem dX3_copyFrom_100 : decode cX3_copyFrom 100 = .ok (.aload_n 1, 1) := by decide +kernel
theorem dX3_copyFrom_101 : decode cX3_copyFrom 101 = .ok (.getfield 33, 3) := by decide +kernel
theorem dX3_copyFrom_104 : decode cX3_copyFrom 104 = .ok (.iconst 0, 1) := by decide +kernel
theorem dX3_copyFrom_105 : decode cX3_copyFrom 105 = .ok (.aload_n 0, 1) := by decide +kernel
theorem dX3_copyFrom_106 : decode cX3_copyFrom 106 = .ok (.getfield 33, 3) := by decide +kernel
theorem dX3_copyFrom_109 : decode cX3_copyFrom 109 = .ok (.iconst 0, 1) := by decide +kernel
theorem dX3_copyFrom_110 : decode cX3_copyFrom 110 = .ok (.iconst 3, 1) := by decide +kernel
theorem dX3_copyFrom_111 : decode cX3_copyFrom 111 = .ok (.invokestatic 49, 3) := by decide +kernel
theorem dX3_copyFrom_114 : decode cX3_copyFrom 114 = .ok (.aload_n 0, 1) := by decide +kernel
theorem dX3_copyFrom_115 : decode cX3_copyFrom 115 = .ok (.aload_n 1, 1) := by decide +kernel
theorem dX3_copyFrom_116 : decode cX3_copyFrom 116 = .ok (.getfield 55, 3) := by decide +kernel
theorem dX3_copyFrom_119 : decode cX3_copyFrom 119 = .ok (.putfield 55, 3) := by decide +kernel
theorem dX3_copyFrom_122 : decode cX3_copyFrom 122 = .ok (.aload_n 0, 1) := by decide +kernel
theorem dX3_copyFrom_123 : decode cX3_copyFrom 123 = .ok (.aload_n 1, 1) := by decide +kernel
theorem dX3_copyFrom_124 : decode cX3_copyFrom 124 = .ok (.getfield 58, 3) := by decide +kernel
theorem dX3_copyFrom_127 : decode cX3_copyFrom 127 = .ok (.putfield 58, 3) := by decide +kernel
theorem dX3_copyFrom_130 : decode cX3_copyFrom 130 = .ok (.aload_n 0, 1) := by decide +kernel
theorem dX3_copyFrom_131 : decode cX3_copyFrom 131 = .ok (.aload_n 1, 1) := by decide +kernel
theorem dX3_copyFrom_132 : decode cX3_copyFrom 132 = .ok (.getfield 61, 3) := by decide +kernel
theorem dX3_copyFrom_135 : decode cX3_copyFrom 135 = .ok (.putfield 61, 3) := by decide +kernel
theorem dX3_copyFrom_138 : decode cX3_copyFrom 138 = .ok (.aload_n 0, 1) := by decide +kernel
theorem dX3_copyFrom_139 : decode cX3_copyFrom 139 = .ok (.aload_n 1, 1) := by decide +kernel
theorem dX3_copyFrom_140 : decode cX3_copyFrom 140 = .ok (.getfield 64, 3) := by decide +kernel
theorem dX3_copyFrom_143 : decode cX3_copyFrom 143 = .ok (.putfield 64, 3) := by decide +kernel
theorem dX3_copyFrom_146 : decode cX3_copyFrom 146 = .ok (.aload_n 0, 1) := by decide +kernel
theorem dX3_copyFrom_147 : decode cX3_copyFrom 147 = .ok (.aload_n 1, 1) := by decide +kernel
theorem dX3_copyFrom_148 : decode cX3_copyFrom 148 = .ok (.getfield 67, 3) := by decide +kernel
theorem dX3_copyFrom_151 : decode cX3_copyFrom 151 = .ok (.putfield 67, 3) := by decide +kernel
theorem dX3_copyFrom_154 : decode cX3_copyFrom 154 = .ok (.return_, 1) := by decide +kernel
theorem dX3_storeGrain_0 : decode cX3_storeGrain 0 = .ok (.iload_n 1, 1) := by decide +kernel
theorem dX3_storeGrain_1 : decode cX3_storeGrain 1 = .ok (.ifCond .lt 27, 3) := by decide +kernel
theorem dX3_storeGrain_4 : decode cX3_storeGrain 4 = .ok (.iload_n 1, 1) := by decide +kernel
theorem dX3_storeGrain_5 : decode cX3_storeGrain 5 = .ok (.iconst 5, 1) := by decide +kernel
theorem dX3_storeGrain_6 : decode cX3_storeGrain 6 = .ok (.if_icmp .ge 22, 3) := by decide +kernel
theorem dX3_storeGrain_9 : decode cX3_storeGrain 9 = .ok (.iload_n 2, 1) := by decide +kernel
theorem dX3_storeGrain_10 : decode cX3_storeGrain 10 = .ok (.invokestatic 70, 3) := by decide +kernel
theorem dX3_storeGrain_13 : decode cX3_storeGrain 13 = .ok (.ifCond .eq 15, 3) := by decide +kernel
theorem dX3_storeGrain_16 : decode cX3_storeGrain 16 = .ok (.iload_n 3, 1) := by decide +kernel
theorem dX3_storeGrain_17 : decode cX3_storeGrain 17 = .ok (.iconst 1, 1) := by decide +kernel
theorem dX3_storeGrain_18 : decode cX3_storeGrain 18 = .ok (.if_icmp .lt 10, 3) := by decide +kernel
theorem dX3_storeGrain_21 : decode cX3_storeGrain 21 = .ok (.iload_n 3, 1) := by decide +kernel
theorem dX3_storeGrain_22 : decode cX3_storeGrain 22 = .ok (.sipush 4000, 3) := by decide +kernel
theorem dX3_storeGrain_25 : decode cX3_storeGrain 25 = .ok (.if_icmp .le 6, 3) := by decide +kernel
theorem dX3_storeGrain_28 : decode cX3_storeGrain 28 = .ok (.ldc 74, 2) := by decide +kernel
theorem dX3_storeGrain_30 : decode cX3_storeGrain 30 = .ok (.ireturn, 1) := by decide +kernel
theorem dX3_storeGrain_31 : decode cX3_storeGrain 31 = .ok (.aload_n 0, 1) := by decide +kernel
theorem dX3_storeGrain_32 : decode cX3_storeGrain 32 = .ok (.invokevirtual 75, 3) := by decide +kernel
theorem dX3_storeGrain_35 : decode cX3_storeGrain 35 = .ok (.astore 4, 2) := by decide +kernel
theorem dX3_storeGrain_37 : decode cX3_storeGrain 37 = .ok (.aload 4, 2) := by decide +kernel
theorem dX3_storeGrain_39 : decode cX3_storeGrain 39 = .ok (.ifnull 12, 3) := by decide +kernel
theorem dX3_storeGrain_42 : decode cX3_storeGrain 42 = .ok (.iload_n 3, 1) := by decide +kernel
theorem dX3_storeGrain_43 : decode cX3_storeGrain 43 = .ok (.aload_n 0, 1) := by decide +kernel
theorem dX3_storeGrain_44 : decode cX3_storeGrain 44 = .ok (.iload_n 2, 1) := by decide +kernel
theorem dX3_storeGrain_45 : decode cX3_storeGrain 45 = .ok (.invokevirtual 79, 3) := by decide +kernel
theorem dX3_storeGrain_48 : decode cX3_storeGrain 48 = .ok (.if_icmp .le 6, 3) := by decide +kernel
theorem dX3_storeGrain_51 : decode cX3_storeGrain 51 = .ok (.ldc 83, 2) := by decide +kernel
theorem dX3_storeGrain_53 : decode cX3_storeGrain 53 = .ok (.ireturn, 1) := by decide +kernel
theorem dX3_storeGrain_54 : decode cX3_storeGrain 54 = .ok (.aload_n 0, 1) := by decide +kernel
theorem dX3_storeGrain_55 : decode cX3_storeGrain 55 = .ok (.iload_n 2, 1) := by decide +kernel
theorem dX3_storeGrain_56 : decode cX3_storeGrain 56 = .ok (.iload_n 3, 1) := by decide +kernel
theorem dX3_storeGrain_57 : decode cX3_storeGrain 57 = .ok (.invokevirtual 84, 3) := by decide +kernel
theorem dX3_storeGrain_60 : decode cX3_storeGrain 60 = .ok (.iload_n 3, 1) := by decide +kernel
theorem dX3_storeGrain_61 : decode cX3_storeGrain 61 = .ok (.aload_n 0, 1) := by decide +kernel
theorem dX3_storeGrain_62 : decode cX3_storeGrain 62 = .ok (.getfield 27, 3) := by decide +kernel
theorem dX3_storeGrain_65 : decode cX3_storeGrain 65 = .ok (.iconst 3, 1) := by decide +kernel
theorem dX3_storeGrain_66 : decode cX3_storeGrain 66 = .ok (.iaload, 1) := by decide +kernel
theorem dX3_storeGrain_67 : decode cX3_storeGrain 67 = .ok (.imul, 1) := by decide +kernel
theorem dX3_storeGrain_68 : decode cX3_storeGrain 68 = .ok (.bipush 100, 2) := by decide +kernel
theorem dX3_storeGrain_70 : decode cX3_storeGrain 70 = .ok (.idiv, 1) := by decide +kernel
theorem dX3_storeGrain_71 : decode cX3_storeGrain 71 = .ok (.istore 5, 2) := by decide +kernel
theorem dX3_storeGrain_73 : decode cX3_storeGrain 73 = .ok (.aload 4, 2) := by decide +kernel
theorem dX3_storeGrain_75 : decode cX3_storeGrain 75 = .ok (.aload_n 0, 1) := by decide +kernel
theorem dX3_storeGrain_76 : decode cX3_storeGrain 76 = .ok (.invokevirtual 88, 3) := by decide +kernel
theorem dX3_storeGrain_79 : decode cX3_storeGrain 79 = .ok (.iload_n 1, 1) := by decide +kernel
theorem dX3_storeGrain_80 : decode cX3_storeGrain 80 = .ok (.iload_n 2, 1) := by decide +kernel
theorem dX3_storeGrain_81 : decode cX3_storeGrain 81 = .ok (.iload_n 3, 1) := by decide +kernel
theorem dX3_storeGrain_82 : decode cX3_storeGrain 82 = .ok (.iload 5, 2) := by decide +kernel
theorem dX3_storeGrain_84 : decode cX3_storeGrain 84 = .ok (.isub, 1) := by decide +kernel
theorem dX3_storeGrain_85 : decode cX3_storeGrain 85 = .ok (.invokevirtual 92, 3) := by decide +kernel
theorem dX3_storeGrain_88 : decode cX3_storeGrain 88 = .ok (.aload 4, 2) := by decide +kernel
theorem dX3_storeGrain_90 : decode cX3_storeGrain 90 = .ok (.getfield 96, 3) := by decide +kernel
theorem dX3_storeGrain_93 : decode cX3_storeGrain 93 = .ok (.ireturn, 1) := by decide +kernel
theorem dX3_splitOff_0 : decode cX3_splitOff 0 = .ok (.aload_n 0, 1) := by decide +kernel
theorem dX3_splitOff_1 : decode cX3_splitOff 1 = .ok (.iload_n 1, 1) := by decide +kernel
theorem dX3_splitOff_2 : decode cX3_splitOff 2 = .ok (.invokevirtual 99, 3) := by decide +kernel
theorem dX3_splitOff_5 : decode cX3_splitOff 5 = .ok (.astore_n 3, 1) := by decide +kernel
theorem dX3_splitOff_6 : decode cX3_splitOff 6 = .ok (.aload_n 3, 1) := by decide +kernel
theorem dX3_splitOff_7 : decode cX3_splitOff 7 = .ok (.ifnull 8, 3) := by decide +kernel
theorem dX3_splitOff_10 : decode cX3_splitOff 10 = .ok (.iload_n 2, 1) := by decide +kernel
theorem dX3_splitOff_11 : decode cX3_splitOff 11 = .ok (.iconst 1, 1) := by decide +kernel
theorem dX3_splitOff_12 : decode cX3_splitOff 12 = .ok (.if_icmp .ge 6, 3) := by decide +kernel
theorem dX3_splitOff_15 : decode cX3_splitOff 15 = .ok (.ldc 74, 2) := by decide +kernel
theorem dX3_splitOff_17 : decode cX3_splitOff 17 = .ok (.ireturn, 1) := by decide +kernel
theorem dX3_splitOff_18 : decode cX3_splitOff 18 = .ok (.iload_n 2, 1) := by decide +kernel
theorem dX3_splitOff_19 : decode cX3_splitOff 19 = .ok (.aload_n 3, 1) := by decide +kernel
theorem dX3_splitOff_20 : decode cX3_splitOff 20 = .ok (.getfield 103, 3) := by decide +kernel
theorem dX3_splitOff_23 : decode cX3_splitOff 23 = .ok (.if_icmp .lt 6, 3) := by decide +kernel
theorem dX3_splitOff_26 : decode cX3_splitOff 26 = .ok (.ldc 106, 2) := by decide +kernel
theorem dX3_splitOff_28 : decode cX3_splitOff 28 = .ok (.ireturn, 1) := by decide +kernel
theorem dX3_splitOff_29 : decode cX3_splitOff 29 = .ok (.aload_n 0, 1) := by decide +kernel
theorem dX3_splitOff_30 : decode cX3_splitOff 30 = .ok (.invokevirtual 75, 3) := by decide +kernel
theorem dX3_splitOff_33 : decode cX3_splitOff 33 = .ok (.astore 4, 2) := by decide +kernel
theorem dX3_splitOff_35 : decode cX3_splitOff 35 = .ok (.aload 4, 2) := by decide +kernel
theorem dX3_splitOff_37 : decode cX3_splitOff 37 = .ok (.ifnonnull 6, 3) := by decide +kernel
theorem dX3_splitOff_40 : decode cX3_splitOff 40 = .ok (.ldc 83, 2) := by decide +kernel
theorem dX3_splitOff_42 : decode cX3_splitOff 42 = .ok (.ireturn, 1) := by decide +kernel
theorem dX3_splitOff_43 : decode cX3_splitOff 43 = .ok (.aload 4, 2) := by decide +kernel
theorem dX3_splitOff_45 : decode cX3_splitOff 45 = .ok (.aload_n 0, 1) := by decide +kernel
theorem dX3_splitOff_46 : decode cX3_splitOff 46 = .ok (.invokevirtual 88, 3) := by decide +kernel
theorem dX3_splitOff_49 : decode cX3_splitOff 49 = .ok (.aload_n 3, 1) := by decide +kernel
theorem dX3_splitOff_50 : decode cX3_splitOff 50 = .ok (.getfield 107, 3) := by decide +kernel
theorem dX3_splitOff_53 : decode cX3_splitOff 53 = .ok (.aload_n 3, 1) := by decide +kernel
theorem dX3_splitOff_54 : decode cX3_splitOff 54 = .ok (.getfield 110, 3) := by decide +kernel
theorem dX3_splitOff_57 : decode cX3_splitOff 57 = .ok (.iload_n 2, 1) := by decide +kernel
theorem dX3_splitOff_58 : decode cX3_splitOff 58 = .ok (.invokevirtual 92, 3) := by decide +kernel
theorem dX3_splitOff_61 : decode cX3_splitOff 61 = .ok (.aload_n 0, 1) := by decide +kernel
theorem dX3_splitOff_62 : decode cX3_splitOff 62 = .ok (.aload_n 3, 1) := by decide +kernel
theorem dX3_splitOff_63 : decode cX3_splitOff 63 = .ok (.aload 4, 2) := by decide +kernel
theorem dX3_splitOff_65 : decode cX3_splitOff 65 = .ok (.invokevirtual 111, 3) := by decide +kernel
theorem dX3_splitOff_68 : decode cX3_splitOff 68 = .ok (.aload_n 3, 1) := by decide +kernel
theorem dX3_splitOff_69 : decode cX3_splitOff 69 = .ok (.dup, 1) := by decide +kernel
theorem dX3_splitOff_70 : decode cX3_splitOff 70 = .ok (.getfield 103, 3) := by decide +kernel
theorem dX3_splitOff_73 : decode cX3_splitOff 73 = .ok (.iload_n 2, 1) := by decide +kernel
theorem dX3_splitOff_74 : decode cX3_splitOff 74 = .ok (.isub, 1) := by decide +kernel
theorem dX3_splitOff_75 : decode cX3_splitOff 75 = .ok (.putfield 103, 3) := by decide +kernel
theorem dX3_splitOff_78 : decode cX3_splitOff 78 = .ok (.aload 4, 2) := by decide +kernel
theorem dX3_splitOff_80 : decode cX3_splitOff 80 = .ok (.getfield 96, 3) := by decide +kernel
theorem dX3_splitOff_83 : decode cX3_splitOff 83 = .ok (.ireturn, 1) := by decide +kernel
theorem dX3_joinInto_0 : decode cX3_joinInto 0 = .ok (.aload_n 0, 1) := by decide +kernel
theorem dX3_joinInto_1 : decode cX3_joinInto 1 = .ok (.iload_n 1, 1) := by decide +kernel
theorem dX3_joinInto_2 : decode cX3_joinInto 2 = .ok (.invokevirtual 99, 3) := by decide +kernel
theorem dX3_joinInto_5 : decode cX3_joinInto 5 = .ok (.astore_n 3, 1) := by decide +kernel
theorem dX3_joinInto_6 : decode cX3_joinInto 6 = .ok (.aload_n 0, 1) := by decide +kernel
theorem dX3_joinInto_7 : decode cX3_joinInto 7 = .ok (.iload_n 2, 1) := by decide +kernel
theorem dX3_joinInto_8 : decode cX3_joinInto 8 = .ok (.invokevirtual 99, 3) := by decide +kernel
theorem dX3_joinInto_11 : decode cX3_joinInto 11 = .ok (.astore 4, 2) := by decide +kernel
theorem dX3_joinInto_13 : decode cX3_joinInto 13 = .ok (.aload_n 3, 1) := by decide +kernel
theorem dX3_joinInto_14 : decode cX3_joinInto 14 = .ok (.ifnull 13, 3) := by decide +kernel
theorem dX3_joinInto_17 : decode cX3_joinInto 17 = .ok (.aload 4, 2) := by decide +kernel
theorem dX3_joinInto_19 : decode cX3_joinInto 19 = .ok (.ifnull 8, 3) := by decide +kernel
theorem dX3_joinInto_22 : decode cX3_joinInto 22 = .ok (.iload_n 1, 1) := by decide +kernel
theorem dX3_joinInto_23 : decode cX3_joinInto 23 = .ok (.iload_n 2, 1) := by decide +kernel
theorem dX3_joinInto_24 : decode cX3_joinInto 24 = .ok (.if_icmp .ne 6, 3) := by decide +kernel
theorem dX3_joinInto_27 : decode cX3_joinInto 27 = .ok (.ldc 74, 2) := by decide +kernel
theorem dX3_joinInto_29 : decode cX3_joinInto 29 = .ok (.ireturn, 1) := by decide +kernel
theorem dX3_joinInto_30 : decode cX3_joinInto 30 = .ok (.aload_n 3, 1) := by decide +kernel
theorem dX3_joinInto_31 : decode cX3_joinInto 31 = .ok (.getfield 107, 3) := by decide +kernel
theorem dX3_joinInto_34 : decode cX3_joinInto 34 = .ok (.aload 4, 2) := by decide +kernel
theorem dX3_joinInto_36 : decode cX3_joinInto 36 = .ok (.getfield 107, 3) := by decide +kernel
theorem dX3_joinInto_39 : decode cX3_joinInto 39 = .ok (.if_icmp .ne 30, 3) := by decide +kernel
theorem dX3_joinInto_42 : decode cX3_joinInto 42 = .ok (.aload_n 3, 1) := by decide +kernel
theorem dX3_joinInto_43 : decode cX3_joinInto 43 = .ok (.getfield 110, 3) := by decide +kernel
theorem dX3_joinInto_46 : decode cX3_joinInto 46 = .ok (.aload 4, 2) := by decide +kernel
theorem dX3_joinInto_48 : decode cX3_joinInto 48 = .ok (.getfield 110, 3) := by decide +kernel
theorem dX3_joinInto_51 : decode cX3_joinInto 51 = .ok (.if_icmp .ne 18, 3) := by decide +kernel
theorem dX3_joinInto_54 : decode cX3_joinInto 54 = .ok (.aload_n 3, 1) := by decide +kernel
theorem dX3_joinInto_55 : decode cX3_joinInto 55 = .ok (.invokevirtual 115, 3) := by decide +kernel
theorem dX3_joinInto_58 : decode cX3_joinInto 58 = .ok (.ifCond .ne 11, 3) := by decide +kernel
theorem dX3_joinInto_61 : decode cX3_joinInto 61 = .ok (.aload 4, 2) := by decide +kernel
theorem dX3_joinInto_63 : decode cX3_joinInto 63 = .ok (.invokevirtual 115, 3) := by decide +kernel
theorem dX3_joinInto_66 : decode cX3_joinInto 66 = .ok (.ifCond .eq 6, 3) := by decide +kernel
theorem dX3_joinInto_69 : decode cX3_joinInto 69 = .ok (.ldc 106, 2) := by decide +kernel
theorem dX3_joinInto_71 : decode cX3_joinInto 71 = .ok (.ireturn, 1) := by decide +kernel
theorem dX3_joinInto_72 : decode cX3_joinInto 72 = .ok (.aload 4, 2) := by decide +kernel
theorem dX3_joinInto_74 : decode cX3_joinInto 74 = .ok (.dup, 1) := by decide +kernel
theorem dX3_joinInto_75 : decode cX3_joinInto 75 = .ok (.getfield 103, 3) := by decide +kernel
theorem dX3_joinInto_78 : decode cX3_joinInto 78 = .ok (.aload_n 3, 1) := by decide +kernel
theorem dX3_joinInto_79 : decode cX3_joinInto 79 = .ok (.getfield 103, 3) := by decide +kernel
theorem dX3_joinInto_82 : decode cX3_joinInto 82 = .ok (.iadd, 1) := by decide +kernel
theorem dX3_joinInto_83 : decode cX3_joinInto 83 = .ok (.putfield 103, 3) := by decide +kernel
theorem dX3_joinInto_86 : decode cX3_joinInto 86 = .ok (.aload_n 3, 1) := by decide +kernel
theorem dX3_joinInto_87 : decode cX3_joinInto 87 = .ok (.invokevirtual 119, 3) := by decide +kernel
theorem dX3_joinInto_90 : decode cX3_joinInto 90 = .ok (.aload 4, 2) := by decide +kernel
theorem dX3_joinInto_92 : decode cX3_joinInto 92 = .ok (.getfield 103, 3) := by decide +kernel
theorem dX3_joinInto_95 : decode cX3_joinInto 95 = .ok (.ireturn, 1) := by decide +kernel
theorem dX3_handOn_0 : decode cX3_handOn 0 = .ok (.aload_n 0, 1) := by decide +kernel
theorem dX3_handOn_1 : decode cX3_handOn 1 = .ok (.iload_n 1, 1) := by decide +kernel
theorem dX3_handOn_2 : decode cX3_handOn 2 = .ok (.invokevirtual 99, 3) := by decide +kernel
theorem dX3_handOn_5 : decode cX3_handOn 5 = .ok (.astore_n 3, 1) := by decide +kernel
theorem dX3_handOn_6 : decode cX3_handOn 6 = .ok (.aload_n 3, 1) := by decide +kernel
theorem dX3_handOn_7 : decode cX3_handOn 7 = .ok (.ifnull 10, 3) := by decide +kernel
theorem dX3_handOn_10 : decode cX3_handOn 10 = .ok (.iload_n 2, 1) := by decide +kernel
theorem dX3_handOn_11 : decode cX3_handOn 11 = .ok (.invokestatic 122, 3) := by decide +kernel
theorem dX3_handOn_14 : decode cX3_handOn 14 = .ok (.ifCond .ne 6, 3) := by decide +kernel
theorem dX3_handOn_17 : decode cX3_handOn 17 = .ok (.ldc 74, 2) := by decide +kernel
theorem dX3_handOn_19 : decode cX3_handOn 19 = .ok (.ireturn, 1) := by decide +kernel
theorem dX3_handOn_20 : decode cX3_handOn 20 = .ok (.aload_n 3, 1) := by decide +kernel
theorem dX3_handOn_21 : decode cX3_handOn 21 = .ok (.getfield 107, 3) := by decide +kernel
theorem dX3_handOn_24 : decode cX3_handOn 24 = .ok (.iload_n 2, 1) := by decide +kernel
theorem dX3_handOn_25 : decode cX3_handOn 25 = .ok (.if_icmp .eq 10, 3) := by decide +kernel
theorem dX3_handOn_28 : decode cX3_handOn 28 = .ok (.aload_n 3, 1) := by decide +kernel
theorem dX3_handOn_29 : decode cX3_handOn 29 = .ok (.invokevirtual 115, 3) := by decide +kernel
theorem dX3_handOn_32 : decode cX3_handOn 32 = .ok (.ifCond .eq 6, 3) := by decide +kernel
theorem dX3_handOn_35 : decode cX3_handOn 35 = .ok (.ldc 106, 2) := by decide +kernel
theorem dX3_handOn_37 : decode cX3_handOn 37 = .ok (.ireturn, 1) := by decide +kernel
theorem dX3_handOn_38 : decode cX3_handOn 38 = .ok (.aload_n 3, 1) := by decide +kernel
theorem dX3_handOn_39 : decode cX3_handOn 39 = .ok (.getfield 107, 3) := by decide +kernel
theorem dX3_handOn_42 : decode cX3_handOn 42 = .ok (.istore 4, 2) := by decide +kernel
theorem dX3_handOn_44 : decode cX3_handOn 44 = .ok (.aload_n 3, 1) := by decide +kernel
theorem dX3_handOn_45 : decode cX3_handOn 45 = .ok (.iload_n 2, 1) := by decide +kernel
theorem dX3_handOn_46 : decode cX3_handOn 46 = .ok (.putfield 107, 3) := by decide +kernel
theorem dX3_handOn_49 : decode cX3_handOn 49 = .ok (.iload 4, 2) := by decide +kernel
theorem dX3_handOn_51 : decode cX3_handOn 51 = .ok (.ireturn, 1) := by decide +kernel
theorem dX3_deliverGrain_0 : decode cX3_deliverGrain 0 = .ok (.aload_n 0, 1) := by decide +kernel
theorem dX3_deliverGrain_1 : decode cX3_deliverGrain 1 = .ok (.iload_n 1, 1) := by decide +kernel
theorem dX3_deliverGrain_2 : decode cX3_deliverGrain 2 = .ok (.invokevirtual 99, 3) := by decide +kernel
theorem dX3_deliverGrain_5 : decode cX3_deliverGrain 5 = .ok (.astore_n 2, 1) := by decide +kernel
theorem dX3_deliverGrain_6 : decode cX3_deliverGrain 6 = .ok (.aload_n 2, 1) := by decide +kernel
theorem dX3_deliverGrain_7 : decode cX3_deliverGrain 7 = .ok (.ifnonnull 6, 3) := by decide +kernel
theorem dX3_deliverGrain_10 : decode cX3_deliverGrain 10 = .ok (.ldc 74, 2) := by decide +kernel
theorem dX3_deliverGrain_12 : decode cX3_deliverGrain 12 = .ok (.ireturn, 1) := by decide +kernel
theorem dX3_deliverGrain_13 : decode cX3_deliverGrain 13 = .ok (.aload_n 2, 1) := by decide +kernel
theorem dX3_deliverGrain_14 : decode cX3_deliverGrain 14 = .ok (.invokevirtual 115, 3) := by decide +kernel
theorem dX3_deliverGrain_17 : decode cX3_deliverGrain 17 = .ok (.ifCond .eq 6, 3) := by decide +kernel
theorem dX3_deliverGrain_20 : decode cX3_deliverGrain 20 = .ok (.ldc 106, 2) := by decide +kernel
theorem dX3_deliverGrain_22 : decode cX3_deliverGrain 22 = .ok (.ireturn, 1) := by decide +kernel
theorem dX3_deliverGrain_23 : decode cX3_deliverGrain 23 = .ok (.aload_n 0, 1) := by decide +kernel
theorem dX3_deliverGrain_24 : decode cX3_deliverGrain 24 = .ok (.aload_n 2, 1) := by decide +kernel
theorem dX3_deliverGrain_25 : decode cX3_deliverGrain 25 = .ok (.getfield 110, 3) := by decide +kernel
theorem dX3_deliverGrain_28 : decode cX3_deliverGrain 28 = .ok (.aload_n 2, 1) := by decide +kernel
theorem dX3_deliverGrain_29 : decode cX3_deliverGrain 29 = .ok (.getfield 103, 3) := by decide +kernel
theorem dX3_deliverGrain_32 : decode cX3_deliverGrain 32 = .ok (.invokevirtual 125, 3) := by decide +kernel
theorem dX3_deliverGrain_35 : decode cX3_deliverGrain 35 = .ok (.istore_n 3, 1) := by decide +kernel
theorem dX3_deliverGrain_36 : decode cX3_deliverGrain 36 = .ok (.iload_n 3, 1) := by decide +kernel
theorem dX3_deliverGrain_37 : decode cX3_deliverGrain 37 = .ok (.istore 4, 2) := by decide +kernel
theorem dX3_deliverGrain_39 : decode cX3_deliverGrain 39 = .ok (.aload_n 2, 1) := by decide +kernel
theorem dX3_deliverGrain_40 : decode cX3_deliverGrain 40 = .ok (.getfield 110, 3) := by decide +kernel
theorem dX3_deliverGrain_43 : decode cX3_deliverGrain 43 = .ok (.iconst 1, 1) := by decide +kernel
theorem dX3_deliverGrain_44 : decode cX3_deliverGrain 44 = .ok (.isub, 1) := by decide +kernel
theorem dX3_deliverGrain_45 : decode cX3_deliverGrain 45 = .ok (.istore 5, 2) := by decide +kernel
theorem dX3_deliverGrain_47 : decode cX3_deliverGrain 47 = .ok (.iload 5, 2) := by decide +kernel
theorem dX3_deliverGrain_49 : decode cX3_deliverGrain 49 = .ok (.ifCond .lt 19, 3) := by decide +kernel
theorem dX3_deliverGrain_52 : decode cX3_deliverGrain 52 = .ok (.aload_n 0, 1) := by decide +kernel
theorem dX3_deliverGrain_53 : decode cX3_deliverGrain 53 = .ok (.iload 5, 2) := by decide +kernel
theorem dX3_deliverGrain_55 : decode cX3_deliverGrain 55 = .ok (.iload 4, 2) := by decide +kernel
theorem dX3_deliverGrain_57 : decode cX3_deliverGrain 57 = .ok (.invokevirtual 125, 3) := by decide +kernel
theorem dX3_deliverGrain_60 : decode cX3_deliverGrain 60 = .ok (.istore 4, 2) := by decide +kernel
theorem dX3_deliverGrain_62 : decode cX3_deliverGrain 62 = .ok (.iinc 5 (-1), 3) := by decide +kernel
theorem dX3_deliverGrain_65 : decode cX3_deliverGrain 65 = .ok (.goto (-18), 3) := by decide +kernel
theorem dX3_deliverGrain_68 : decode cX3_deliverGrain 68 = .ok (.aload_n 0, 1) := by decide +kernel
theorem dX3_deliverGrain_69 : decode cX3_deliverGrain 69 = .ok (.dup, 1) := by decide +kernel
theorem dX3_deliverGrain_70 : decode cX3_deliverGrain 70 = .ok (.getfield 64, 3) := by decide +kernel
theorem dX3_deliverGrain_73 : decode cX3_deliverGrain 73 = .ok (.aload_n 2, 1) := by decide +kernel
theorem dX3_deliverGrain_74 : decode cX3_deliverGrain 74 = .ok (.getfield 103, 3) := by decide +kernel
theorem dX3_deliverGrain_77 : decode cX3_deliverGrain 77 = .ok (.iadd, 1) := by decide +kernel
theorem dX3_deliverGrain_78 : decode cX3_deliverGrain 78 = .ok (.putfield 64, 3) := by decide +kernel
theorem dX3_deliverGrain_81 : decode cX3_deliverGrain 81 = .ok (.aload_n 2, 1) := by decide +kernel
theorem dX3_deliverGrain_82 : decode cX3_deliverGrain 82 = .ok (.invokevirtual 119, 3) := by decide +kernel
theorem dX3_deliverGrain_85 : decode cX3_deliverGrain 85 = .ok (.iload_n 3, 1) := by decide +kernel
theorem dX3_deliverGrain_86 : decode cX3_deliverGrain 86 = .ok (.ireturn, 1) := by decide +kernel
theorem dX3_pledgeTo_0 : decode cX3_pledgeTo 0 = .ok (.aload_n 0, 1) := by decide +kernel
theorem dX3_pledgeTo_1 : decode cX3_pledgeTo 1 = .ok (.iload_n 1, 1) := by decide +kernel
theorem dX3_pledgeTo_2 : decode cX3_pledgeTo 2 = .ok (.invokevirtual 99, 3) := by decide +kernel
theorem dX3_pledgeTo_5 : decode cX3_pledgeTo 5 = .ok (.astore 4, 2) := by decide +kernel
theorem dX3_pledgeTo_7 : decode cX3_pledgeTo 7 = .ok (.aload 4, 2) := by decide +kernel
theorem dX3_pledgeTo_9 : decode cX3_pledgeTo 9 = .ok (.ifnull 15, 3) := by decide +kernel
theorem dX3_pledgeTo_12 : decode cX3_pledgeTo 12 = .ok (.iload_n 2, 1) := by decide +kernel
theorem dX3_pledgeTo_13 : decode cX3_pledgeTo 13 = .ok (.invokestatic 129, 3) := by decide +kernel
theorem dX3_pledgeTo_16 : decode cX3_pledgeTo 16 = .ok (.ifCond .eq 8, 3) := by decide +kernel
theorem dX3_pledgeTo_19 : decode cX3_pledgeTo 19 = .ok (.iload_n 3, 1) := by decide +kernel
theorem dX3_pledgeTo_20 : decode cX3_pledgeTo 20 = .ok (.iconst 1, 1) := by decide +kernel
theorem dX3_pledgeTo_21 : decode cX3_pledgeTo 21 = .ok (.if_icmp .ge 6, 3) := by decide +kernel
theorem dX3_pledgeTo_24 : decode cX3_pledgeTo 24 = .ok (.ldc 74, 2) := by decide +kernel
theorem dX3_pledgeTo_26 : decode cX3_pledgeTo 26 = .ok (.ireturn, 1) := by decide +kernel
theorem dX3_pledgeTo_27 : decode cX3_pledgeTo 27 = .ok (.aload 4, 2) := by decide +kernel
theorem dX3_pledgeTo_29 : decode cX3_pledgeTo 29 = .ok (.invokevirtual 115, 3) := by decide +kernel
theorem dX3_pledgeTo_32 : decode cX3_pledgeTo 32 = .ok (.ifCond .ne 24, 3) := by decide +kernel
theorem dX3_pledgeTo_35 : decode cX3_pledgeTo 35 = .ok (.aload 4, 2) := by decide +kernel
theorem dX3_pledgeTo_37 : decode cX3_pledgeTo 37 = .ok (.getfield 107, 3) := by decide +kernel
theorem dX3_pledgeTo_40 : decode cX3_pledgeTo 40 = .ok (.iconst 5, 1) := by decide +kernel
theorem dX3_pledgeTo_41 : decode cX3_pledgeTo 41 = .ok (.iload_n 2, 1) := by decide +kernel
theorem dX3_pledgeTo_42 : decode cX3_pledgeTo 42 = .ok (.iadd, 1) := by decide +kernel
theorem dX3_pledgeTo_43 : decode cX3_pledgeTo 43 = .ok (.if_icmp .eq 13, 3) := by decide +kernel
theorem dX3_pledgeTo_46 : decode cX3_pledgeTo 46 = .ok (.iload_n 3, 1) := by decide +kernel
theorem dX3_pledgeTo_47 : decode cX3_pledgeTo 47 = .ok (.aload_n 0, 1) := by decide +kernel
theorem dX3_pledgeTo_48 : decode cX3_pledgeTo 48 = .ok (.aload 4, 2) := by decide +kernel
theorem dX3_pledgeTo_50 : decode cX3_pledgeTo 50 = .ok (.invokevirtual 132, 3) := by decide +kernel
theorem dX3_pledgeTo_53 : decode cX3_pledgeTo 53 = .ok (.if_icmp .le 6, 3) := by decide +kernel
theorem dX3_pledgeTo_56 : decode cX3_pledgeTo 56 = .ok (.ldc 106, 2) := by decide +kernel
theorem dX3_pledgeTo_58 : decode cX3_pledgeTo 58 = .ok (.ireturn, 1) := by decide +kernel
theorem dX3_pledgeTo_59 : decode cX3_pledgeTo 59 = .ok (.aload 4, 2) := by decide +kernel
theorem dX3_pledgeTo_61 : decode cX3_pledgeTo 61 = .ok (.iload_n 2, 1) := by decide +kernel
theorem dX3_pledgeTo_62 : decode cX3_pledgeTo 62 = .ok (.putfield 136, 3) := by decide +kernel
theorem dX3_pledgeTo_65 : decode cX3_pledgeTo 65 = .ok (.aload 4, 2) := by decide +kernel
theorem dX3_pledgeTo_67 : decode cX3_pledgeTo 67 = .ok (.iload_n 3, 1) := by decide +kernel
theorem dX3_pledgeTo_68 : decode cX3_pledgeTo 68 = .ok (.putfield 139, 3) := by decide +kernel
theorem dX3_pledgeTo_71 : decode cX3_pledgeTo 71 = .ok (.aload_n 0, 1) := by decide +kernel
theorem dX3_pledgeTo_72 : decode cX3_pledgeTo 72 = .ok (.aload 4, 2) := by decide +kernel
theorem dX3_pledgeTo_74 : decode cX3_pledgeTo 74 = .ok (.getfield 107, 3) := by decide +kernel
theorem dX3_pledgeTo_77 : decode cX3_pledgeTo 77 = .ok (.iload_n 3, 1) := by decide +kernel
theorem dX3_pledgeTo_78 : decode cX3_pledgeTo 78 = .ok (.invokevirtual 142, 3) := by decide +kernel
theorem dX3_pledgeTo_81 : decode cX3_pledgeTo 81 = .ok (.aload_n 0, 1) := by decide +kernel
theorem dX3_pledgeTo_82 : decode cX3_pledgeTo 82 = .ok (.aload 4, 2) := by decide +kernel
theorem dX3_pledgeTo_84 : decode cX3_pledgeTo 84 = .ok (.getfield 107, 3) := by decide +kernel
theorem dX3_pledgeTo_87 : decode cX3_pledgeTo 87 = .ok (.invokevirtual 145, 3) := by decide +kernel
theorem dX3_pledgeTo_90 : decode cX3_pledgeTo 90 = .ok (.ireturn, 1) := by decide +kernel
theorem dX3_payBack_0 : decode cX3_payBack 0 = .ok (.aload_n 0, 1) := by decide +kernel
theorem dX3_payBack_1 : decode cX3_payBack 1 = .ok (.iload_n 1, 1) := by decide +kernel
theorem dX3_payBack_2 : decode cX3_payBack 2 = .ok (.invokevirtual 99, 3) := by decide +kernel
theorem dX3_payBack_5 : decode cX3_payBack 5 = .ok (.astore_n 3, 1) := by decide +kernel
theorem dX3_payBack_6 : decode cX3_payBack 6 = .ok (.aload_n 3, 1) := by decide +kernel
theorem dX3_payBack_7 : decode cX3_payBack 7 = .ok (.ifnull 8, 3) := by decide +kernel
theorem dX3_payBack_10 : decode cX3_payBack 10 = .ok (.iload_n 2, 1) := by decide +kernel
theorem dX3_payBack_11 : decode cX3_payBack 11 = .ok (.iconst 1, 1) := by decide +kernel
theorem dX3_payBack_12 : decode cX3_payBack 12 = .ok (.if_icmp .ge 6, 3) := by decide +kernel
theorem dX3_payBack_15 : decode cX3_payBack 15 = .ok (.ldc 74, 2) := by decide +kernel
theorem dX3_payBack_17 : decode cX3_payBack 17 = .ok (.ireturn, 1) := by decide +kernel
theorem dX3_payBack_18 : decode cX3_payBack 18 = .ok (.aload_n 3, 1) := by decide +kernel
theorem dX3_payBack_19 : decode cX3_payBack 19 = .ok (.invokevirtual 115, 3) := by decide +kernel
theorem dX3_payBack_22 : decode cX3_payBack 22 = .ok (.ifCond .eq 11, 3) := by decide +kernel
theorem dX3_payBack_25 : decode cX3_payBack 25 = .ok (.aload_n 3, 1) := by decide +kernel
theorem dX3_payBack_26 : decode cX3_payBack 26 = .ok (.getfield 139, 3) := by decide +kernel
theorem dX3_payBack_29 : decode cX3_payBack 29 = .ok (.iload_n 2, 1) := by decide +kernel
theorem dX3_payBack_30 : decode cX3_payBack 30 = .ok (.if_icmp .ge 6, 3) := by decide +kernel
theorem dX3_payBack_33 : decode cX3_payBack 33 = .ok (.ldc 106, 2) := by decide +kernel
theorem dX3_payBack_35 : decode cX3_payBack 35 = .ok (.ireturn, 1) := by decide +kernel
theorem dX3_payBack_36 : decode cX3_payBack 36 = .ok (.aload_n 3, 1) := by decide +kernel
theorem dX3_payBack_37 : decode cX3_payBack 37 = .ok (.dup, 1) := by decide +kernel
theorem dX3_payBack_38 : decode cX3_payBack 38 = .ok (.getfield 139, 3) := by decide +kernel
theorem dX3_payBack_41 : decode cX3_payBack 41 = .ok (.iload_n 2, 1) := by decide +kernel
theorem dX3_payBack_42 : decode cX3_payBack 42 = .ok (.isub, 1) := by decide +kernel
theorem dX3_payBack_43 : decode cX3_payBack 43 = .ok (.putfield 139, 3) := by decide +kernel
theorem dX3_payBack_46 : decode cX3_payBack 46 = .ok (.aload_n 0, 1) := by decide +kernel
theorem dX3_payBack_47 : decode cX3_payBack 47 = .ok (.aload_n 3, 1) := by decide +kernel
theorem dX3_payBack_48 : decode cX3_payBack 48 = .ok (.getfield 107, 3) := by decide +kernel
theorem dX3_payBack_51 : decode cX3_payBack 51 = .ok (.iload_n 2, 1) := by decide +kernel
theorem dX3_payBack_52 : decode cX3_payBack 52 = .ok (.ineg, 1) := by decide +kernel
theorem dX3_payBack_53 : decode cX3_payBack 53 = .ok (.invokevirtual 142, 3) := by decide +kernel
theorem dX3_payBack_56 : decode cX3_payBack 56 = .ok (.aload_n 3, 1) := by decide +kernel
theorem dX3_payBack_57 : decode cX3_payBack 57 = .ok (.getfield 139, 3) := by decide +kernel
theorem dX3_payBack_60 : decode cX3_payBack 60 = .ok (.ifCond .ne 10, 3) := by decide +kernel
theorem dX3_payBack_63 : decode cX3_payBack 63 = .ok (.aload_n 3, 1) := by decide +kernel
theorem dX3_payBack_64 : decode cX3_payBack 64 = .ok (.invokevirtual 148, 3) := by decide +kernel
theorem dX3_payBack_67 : decode cX3_payBack 67 = .ok (.goto 16, 3) := by decide +kernel
theorem dX3_payBack_70 : decode cX3_payBack 70 = .ok (.aload_n 0, 1) := by decide +kernel
theorem dX3_payBack_71 : decode cX3_payBack 71 = .ok (.aload_n 3, 1) := by decide +kernel
theorem dX3_payBack_72 : decode cX3_payBack 72 = .ok (.invokevirtual 151, 3) := by decide +kernel
theorem dX3_payBack_75 : decode cX3_payBack 75 = .ok (.ifCond .ne 8, 3) := by decide +kernel
theorem dX3_payBack_78 : decode cX3_payBack 78 = .ok (.aload_n 3, 1) := by decide +kernel
theorem dX3_payBack_79 : decode cX3_payBack 79 = .ok (.iconst 0, 1) := by decide +kernel
theorem dX3_payBack_80 : decode cX3_payBack 80 = .ok (.putfield 155, 3) := by decide +kernel
theorem dX3_payBack_83 : decode cX3_payBack 83 = .ok (.aload_n 3, 1) := by decide +kernel
theorem dX3_payBack_84 : decode cX3_payBack 84 = .ok (.getfield 139, 3) := by decide +kernel
theorem dX3_payBack_87 : decode cX3_payBack 87 = .ok (.ireturn, 1) := by decide +kernel
theorem dX3_changePrice_0 : decode cX3_changePrice 0 = .ok (.iload_n 1, 1) := by decide +kernel
theorem dX3_changePrice_1 : decode cX3_changePrice 1 = .ok (.invokestatic 70, 3) := by decide +kernel
theorem dX3_changePrice_4 : decode cX3_changePrice 4 = .ok (.ifCond .eq 14, 3) := by decide +kernel
theorem dX3_changePrice_7 : decode cX3_changePrice 7 = .ok (.iload_n 2, 1) := by decide +kernel
theorem dX3_changePrice_8 : decode cX3_changePrice 8 = .ok (.iconst 1, 1) := by decide +kernel
theorem dX3_changePrice_9 : decode cX3_changePrice 9 = .ok (.if_icmp .lt 9, 3) := by decide +kernel
theorem dX3_changePrice_12 : decode cX3_changePrice 12 = .ok (.iload_n 2, 1) := by decide +kernel
theorem dX3_changePrice_13 : decode cX3_changePrice 13 = .ok (.bipush 99, 2) := by decide +kernel
theorem dX3_changePrice_15 : decode cX3_changePrice 15 = .ok (.if_icmp .le 6, 3) := by decide +kernel
theorem dX3_changePrice_18 : decode cX3_changePrice 18 = .ok (.ldc 74, 2) := by decide +kernel
theorem dX3_changePrice_20 : decode cX3_changePrice 20 = .ok (.ireturn, 1) := by decide +kernel
theorem dX3_changePrice_21 : decode cX3_changePrice 21 = .ok (.aload_n 0, 1) := by decide +kernel
theorem dX3_changePrice_22 : decode cX3_changePrice 22 = .ok (.getfield 23, 3) := by decide +kernel
theorem dX3_changePrice_25 : decode cX3_changePrice 25 = .ok (.iload_n 1, 1) := by decide +kernel
theorem dX3_changePrice_26 : decode cX3_changePrice 26 = .ok (.iaload, 1) := by decide +kernel
theorem dX3_changePrice_27 : decode cX3_changePrice 27 = .ok (.istore_n 3, 1) := by decide +kernel
theorem dX3_changePrice_28 : decode cX3_changePrice 28 = .ok (.aload_n 0, 1) := by decide +kernel
theorem dX3_changePrice_29 : decode cX3_changePrice 29 = .ok (.getfield 23, 3) := by decide +kernel
theorem dX3_changePrice_32 : decode cX3_changePrice 32 = .ok (.iload_n 1, 1) := by decide +kernel
theorem dX3_changePrice_33 : decode cX3_changePrice 33 = .ok (.iload_n 2, 1) := by decide +kernel
theorem dX3_changePrice_34 : decode cX3_changePrice 34 = .ok (.iastore, 1) := by decide +kernel
theorem dX3_changePrice_35 : decode cX3_changePrice 35 = .ok (.iload_n 3, 1) := by decide +kernel
theorem dX3_changePrice_36 : decode cX3_changePrice 36 = .ok (.ireturn, 1) := by decide +kernel
theorem dX3_callLoans_0 : decode cX3_callLoans 0 = .ok (.iload_n 1, 1) := by decide +kernel
theorem dX3_callLoans_1 : decode cX3_callLoans 1 = .ok (.invokestatic 129, 3) := by decide +kernel
theorem dX3_callLoans_4 : decode cX3_callLoans 4 = .ok (.ifCond .ne 6, 3) := by decide +kernel
theorem dX3_callLoans_7 : decode cX3_callLoans 7 = .ok (.ldc 74, 2) := by decide +kernel
theorem dX3_callLoans_9 : decode cX3_callLoans 9 = .ok (.ireturn, 1) := by decide +kernel
theorem dX3_callLoans_10 : decode cX3_callLoans 10 = .ok (.iconst 0, 1) := by decide +kernel
theorem dX3_callLoans_11 : decode cX3_callLoans 11 = .ok (.istore_n 2, 1) := by decide +kernel
theorem dX3_callLoans_12 : decode cX3_callLoans 12 = .ok (.aload_n 0, 1) := by decide +kernel
theorem dX3_callLoans_13 : decode cX3_callLoans 13 = .ok (.getfield 19, 3) := by decide +kernel
theorem dX3_callLoans_16 : decode cX3_callLoans 16 = .ok (.astore_n 3, 1) := by decide +kernel
theorem dX3_callLoans_17 : decode cX3_callLoans 17 = .ok (.aload_n 3, 1) := by decide +kernel
theorem dX3_callLoans_18 : decode cX3_callLoans 18 = .ok (.arraylength, 1) := by decide +kernel
theorem dX3_callLoans_19 : decode cX3_callLoans 19 = .ok (.istore 4, 2) := by decide +kernel
theorem dX3_callLoans_21 : decode cX3_callLoans 21 = .ok (.iconst 0, 1) := by decide +kernel
theorem dX3_callLoans_22 : decode cX3_callLoans 22 = .ok (.istore 5, 2) := by decide +kernel
theorem dX3_callLoans_24 : decode cX3_callLoans 24 = .ok (.iload 5, 2) := by decide +kernel
theorem dX3_callLoans_26 : decode cX3_callLoans 26 = .ok (.iload 4, 2) := by decide +kernel
theorem dX3_callLoans_28 : decode cX3_callLoans 28 = .ok (.if_icmp .ge 45, 3) := by decide +kernel
theorem dX3_callLoans_31 : decode cX3_callLoans 31 = .ok (.aload_n 3, 1) := by decide +kernel
theorem dX3_callLoans_32 : decode cX3_callLoans 32 = .ok (.iload 5, 2) := by decide +kernel
theorem dX3_callLoans_34 : decode cX3_callLoans 34 = .ok (.aaload, 1) := by decide +kernel
theorem dX3_callLoans_35 : decode cX3_callLoans 35 = .ok (.astore 6, 2) := by decide +kernel
theorem dX3_callLoans_37 : decode cX3_callLoans 37 = .ok (.aload_n 0, 1) := by decide +kernel
theorem dX3_callLoans_38 : decode cX3_callLoans 38 = .ok (.aload 6, 2) := by decide +kernel
theorem dX3_callLoans_40 : decode cX3_callLoans 40 = .ok (.iload_n 1, 1) := by decide +kernel
theorem dX3_callLoans_41 : decode cX3_callLoans 41 = .ok (.aload_n 0, 1) := by decide +kernel
theorem dX3_callLoans_42 : decode cX3_callLoans 42 = .ok (.getfield 23, 3) := by decide +kernel
theorem dX3_callLoans_45 : decode cX3_callLoans 45 = .ok (.iconst 2, 1) := by decide +kernel
theorem dX3_callLoans_46 : decode cX3_callLoans 46 = .ok (.iaload, 1) := by decide +kernel
theorem dX3_callLoans_47 : decode cX3_callLoans 47 = .ok (.invokevirtual 158, 3) := by decide +kernel
theorem dX3_callLoans_50 : decode cX3_callLoans 50 = .ok (.ifCond .eq 17, 3) := by decide +kernel
theorem dX3_callLoans_53 : decode cX3_callLoans 53 = .ok (.aload 6, 2) := by decide +kernel
theorem dX3_callLoans_55 : decode cX3_callLoans 55 = .ok (.aload_n 0, 1) := by decide +kernel
theorem dX3_callLoans_56 : decode cX3_callLoans 56 = .ok (.getfield 27, 3) := by decide +kernel
theorem dX3_callLoans_59 : decode cX3_callLoans 59 = .ok (.iconst 2, 1) := by decide +kernel
theorem dX3_callLoans_60 : decode cX3_callLoans 60 = .ok (.iaload, 1) := by decide +kernel
theorem dX3_callLoans_61 : decode cX3_callLoans 61 = .ok (.putfield 155, 3) := by decide +kernel
theorem dX3_callLoans_64 : decode cX3_callLoans 64 = .ok (.iinc 2 1, 3) := by decide +kernel
theorem dX3_callLoans_67 : decode cX3_callLoans 67 = .ok (.iinc 5 1, 3) := by decide +kernel
theorem dX3_callLoans_70 : decode cX3_callLoans 70 = .ok (.goto (-46), 3) := by decide +kernel
theorem dX3_callLoans_73 : decode cX3_callLoans 73 = .ok (.iload_n 2, 1) := by decide +kernel
theorem dX3_callLoans_74 : decode cX3_callLoans 74 = .ok (.ireturn, 1) := by decide +kernel
theorem dX3_passDays_0 : decode cX3_passDays 0 = .ok (.iload_n 1, 1) := by decide +kernel
theorem dX3_passDays_1 : decode cX3_passDays 1 = .ok (.iconst 1, 1) := by decide +kernel
theorem dX3_passDays_2 : decode cX3_passDays 2 = .ok (.if_icmp .lt 9, 3) := by decide +kernel
theorem dX3_passDays_5 : decode cX3_passDays 5 = .ok (.iload_n 1, 1) := by decide +kernel
theorem dX3_passDays_6 : decode cX3_passDays 6 = .ok (.bipush 99, 2) := by decide +kernel
theorem dX3_passDays_8 : decode cX3_passDays 8 = .ok (.if_icmp .le 6, 3) := by decide +kernel
theorem dX3_passDays_11 : decode cX3_passDays 11 = .ok (.ldc 74, 2) := by decide +kernel
theorem dX3_passDays_13 : decode cX3_passDays 13 = .ok (.ireturn, 1) := by decide +kernel
theorem dX3_passDays_14 : decode cX3_passDays 14 = .ok (.aload_n 0, 1) := by decide +kernel
theorem dX3_passDays_15 : decode cX3_passDays 15 = .ok (.getfield 61, 3) := by decide +kernel
theorem dX3_passDays_18 : decode cX3_passDays 18 = .ok (.istore_n 2, 1) := by decide +kernel
theorem dX3_passDays_19 : decode cX3_passDays 19 = .ok (.iconst 0, 1) := by decide +kernel
theorem dX3_passDays_20 : decode cX3_passDays 20 = .ok (.istore_n 3, 1) := by decide +kernel
theorem dX3_passDays_21 : decode cX3_passDays 21 = .ok (.iload_n 3, 1) := by decide +kernel
theorem dX3_passDays_22 : decode cX3_passDays 22 = .ok (.iload_n 1, 1) := by decide +kernel
theorem dX3_passDays_23 : decode cX3_passDays 23 = .ok (.if_icmp .ge 13, 3) := by decide +kernel
theorem dX3_passDays_26 : decode cX3_passDays 26 = .ok (.aload_n 0, 1) := by decide +kernel
theorem dX3_passDays_27 : decode cX3_passDays 27 = .ok (.invokevirtual 162, 3) := by decide +kernel
theorem dX3_passDays_30 : decode cX3_passDays 30 = .ok (.iinc 3 1, 3) := by decide +kernel
theorem dX3_passDays_33 : decode cX3_passDays 33 = .ok (.goto (-12), 3) := by decide +kernel
theorem dX3_passDays_36 : decode cX3_passDays 36 = .ok (.aload_n 0, 1) := by decide +kernel
theorem dX3_passDays_37 : decode cX3_passDays 37 = .ok (.getfield 61, 3) := by decide +kernel
theorem dX3_passDays_40 : decode cX3_passDays 40 = .ok (.iload_n 2, 1) := by decide +kernel
theorem dX3_passDays_41 : decode cX3_passDays 41 = .ok (.isub, 1) := by decide +kernel
theorem dX3_passDays_42 : decode cX3_passDays 42 = .ok (.ireturn, 1) := by decide +kernel
theorem dX3_loseGrain_0 : decode cX3_loseGrain 0 = .ok (.iload_n 1, 1) := by decide +kernel
theorem dX3_loseGrain_1 : decode cX3_loseGrain 1 = .ok (.invokestatic 165, 3) := by decide +kernel
theorem dX3_loseGrain_4 : decode cX3_loseGrain 4 = .ok (.ifCond .eq 8, 3) := by decide +kernel
theorem dX3_loseGrain_7 : decode cX3_loseGrain 7 = .ok (.iload_n 2, 1) := by decide +kernel
theorem dX3_loseGrain_8 : decode cX3_loseGrain 8 = .ok (.iconst 1, 1) := by decide +kernel
theorem dX3_loseGrain_9 : decode cX3_loseGrain 9 = .ok (.if_icmp .ge 6, 3) := by decide +kernel
theorem dX3_loseGrain_12 : decode cX3_loseGrain 12 = .ok (.ldc 74, 2) := by decide +kernel
theorem dX3_loseGrain_14 : decode cX3_loseGrain 14 = .ok (.ireturn, 1) := by decide +kernel
theorem dX3_loseGrain_15 : decode cX3_loseGrain 15 = .ok (.aload_n 0, 1) := by decide +kernel
theorem dX3_loseGrain_16 : decode cX3_loseGrain 16 = .ok (.getfield 11, 3) := by decide +kernel
theorem dX3_loseGrain_19 : decode cX3_loseGrain 19 = .ok (.iload_n 1, 1) := by decide +kernel
theorem dX3_loseGrain_20 : decode cX3_loseGrain 20 = .ok (.aaload, 1) := by decide +kernel
theorem dX3_loseGrain_21 : decode cX3_loseGrain 21 = .ok (.astore_n 3, 1) := by decide +kernel
theorem dX3_loseGrain_22 : decode cX3_loseGrain 22 = .ok (.iload_n 2, 1) := by decide +kernel
theorem dX3_loseGrain_23 : decode cX3_loseGrain 23 = .ok (.aload_n 0, 1) := by decide +kernel
theorem dX3_loseGrain_24 : decode cX3_loseGrain 24 = .ok (.aload_n 3, 1) := by decide +kernel
theorem dX3_loseGrain_25 : decode cX3_loseGrain 25 = .ok (.invokevirtual 168, 3) := by decide +kernel
theorem dX3_loseGrain_28 : decode cX3_loseGrain 28 = .ok (.if_icmp .le 6, 3) := by decide +kernel
theorem dX3_loseGrain_31 : decode cX3_loseGrain 31 = .ok (.ldc 106, 2) := by decide +kernel
theorem dX3_loseGrain_33 : decode cX3_loseGrain 33 = .ok (.ireturn, 1) := by decide +kernel
theorem dX3_loseGrain_34 : decode cX3_loseGrain 34 = .ok (.aload_n 3, 1) := by decide +kernel
theorem dX3_loseGrain_35 : decode cX3_loseGrain 35 = .ok (.dup, 1) := by decide +kernel
theorem dX3_loseGrain_36 : decode cX3_loseGrain 36 = .ok (.getfield 172, 3) := by decide +kernel
theorem dX3_loseGrain_39 : decode cX3_loseGrain 39 = .ok (.iload_n 2, 1) := by decide +kernel
theorem dX3_loseGrain_40 : decode cX3_loseGrain 40 = .ok (.isub, 1) := by decide +kernel
theorem dX3_loseGrain_41 : decode cX3_loseGrain 41 = .ok (.putfield 172, 3) := by decide +kernel
theorem dX3_loseGrain_44 : decode cX3_loseGrain 44 = .ok (.aload_n 0, 1) := by decide +kernel
theorem dX3_loseGrain_45 : decode cX3_loseGrain 45 = .ok (.dup, 1) := by decide +kernel
theorem dX3_loseGrain_46 : decode cX3_loseGrain 46 = .ok (.getfield 67, 3) := by decide +kernel
theorem dX3_loseGrain_49 : decode cX3_loseGrain 49 = .ok (.iload_n 2, 1) := by decide +kernel
theorem dX3_loseGrain_50 : decode cX3_loseGrain 50 = .ok (.iadd, 1) := by decide +kernel
theorem dX3_loseGrain_51 : decode cX3_loseGrain 51 = .ok (.putfield 67, 3) := by decide +kernel
theorem dX3_loseGrain_54 : decode cX3_loseGrain 54 = .ok (.aload_n 3, 1) := by decide +kernel
theorem dX3_loseGrain_55 : decode cX3_loseGrain 55 = .ok (.getfield 172, 3) := by decide +kernel
theorem dX3_loseGrain_58 : decode cX3_loseGrain 58 = .ok (.ireturn, 1) := by decide +kernel
theorem dX3_regradeBin_0 : decode cX3_regradeBin 0 = .ok (.iload_n 1, 1) := by decide +kernel
theorem dX3_regradeBin_1 : decode cX3_regradeBin 1 = .ok (.invokestatic 165, 3) := by decide +kernel
theorem dX3_regradeBin_4 : decode cX3_regradeBin 4 = .ok (.ifCond .eq 10, 3) := by decide +kernel
theorem dX3_regradeBin_7 : decode cX3_regradeBin 7 = .ok (.iload_n 2, 1) := by decide +kernel
theorem dX3_regradeBin_8 : decode cX3_regradeBin 8 = .ok (.invokestatic 70, 3) := by decide +kernel
theorem dX3_regradeBin_11 : decode cX3_regradeBin 11 = .ok (.ifCond .ne 6, 3) := by decide +kernel
theorem dX3_regradeBin_14 : decode cX3_regradeBin 14 = .ok (.ldc 74, 2) := by decide +kernel
theorem dX3_regradeBin_16 : decode cX3_regradeBin 16 = .ok (.ireturn, 1) := by decide +kernel
theorem dX3_regradeBin_17 : decode cX3_regradeBin 17 = .ok (.aload_n 0, 1) := by decide +kernel
theorem dX3_regradeBin_18 : decode cX3_regradeBin 18 = .ok (.getfield 11, 3) := by decide +kernel
theorem dX3_regradeBin_21 : decode cX3_regradeBin 21 = .ok (.iload_n 1, 1) := by decide +kernel
theorem dX3_regradeBin_22 : decode cX3_regradeBin 22 = .ok (.aaload, 1) := by decide +kernel
theorem dX3_regradeBin_23 : decode cX3_regradeBin 23 = .ok (.astore_n 3, 1) := by decide +kernel
theorem dX3_regradeBin_24 : decode cX3_regradeBin 24 = .ok (.aload_n 3, 1) := by decide +kernel
theorem dX3_regradeBin_25 : decode cX3_regradeBin 25 = .ok (.getfield 37, 3) := by decide +kernel
theorem dX3_regradeBin_28 : decode cX3_regradeBin 28 = .ok (.istore 4, 2) := by decide +kernel
theorem dX3_regradeBin_30 : decode cX3_regradeBin 30 = .ok (.iload_n 2, 1) := by decide +kernel
theorem dX3_regradeBin_31 : decode cX3_regradeBin 31 = .ok (.iload 4, 2) := by decide +kernel
theorem dX3_regradeBin_33 : decode cX3_regradeBin 33 = .ok (.if_icmp .ge 13, 3) := by decide +kernel
theorem dX3_regradeBin_36 : decode cX3_regradeBin 36 = .ok (.aload_n 3, 1) := by decide +kernel
theorem dX3_regradeBin_37 : decode cX3_regradeBin 37 = .ok (.getfield 172, 3) := by decide +kernel
theorem dX3_regradeBin_40 : decode cX3_regradeBin 40 = .ok (.ifCond .le 6, 3) := by decide +kernel
theorem dX3_regradeBin_43 : decode cX3_regradeBin 43 = .ok (.ldc 106, 2) := by decide +kernel
theorem dX3_regradeBin_45 : decode cX3_regradeBin 45 = .ok (.ireturn, 1) := by decide +kernel
theorem dX3_regradeBin_46 : decode cX3_regradeBin 46 = .ok (.iload 4, 2) := by decide +kernel
theorem dX3_regradeBin_48 : decode cX3_regradeBin 48 = .ok (.istore 5, 2) := by decide +kernel
theorem dX3_regradeBin_50 : decode cX3_regradeBin 50 = .ok (.iload 5, 2) := by decide +kernel
theorem dX3_regradeBin_52 : decode cX3_regradeBin 52 = .ok (.iload_n 2, 1) := by decide +kernel
theorem dX3_regradeBin_53 : decode cX3_regradeBin 53 = .ok (.if_icmp .ge 25, 3) := by decide +kernel
theorem dX3_regradeBin_56 : decode cX3_regradeBin 56 = .ok (.aload_n 3, 1) := by decide +kernel
theorem dX3_regradeBin_57 : decode cX3_regradeBin 57 = .ok (.getfield 172, 3) := by decide +kernel
theorem dX3_regradeBin_60 : decode cX3_regradeBin 60 = .ok (.aload_n 0, 1) := by decide +kernel
theorem dX3_regradeBin_61 : decode cX3_regradeBin 61 = .ok (.iload 5, 2) := by decide +kernel
theorem dX3_regradeBin_63 : decode cX3_regradeBin 63 = .ok (.invokevirtual 173, 3) := by decide +kernel
theorem dX3_regradeBin_66 : decode cX3_regradeBin 66 = .ok (.if_icmp .le 6, 3) := by decide +kernel
theorem dX3_regradeBin_69 : decode cX3_regradeBin 69 = .ok (.ldc 106, 2) := by decide +kernel
theorem dX3_regradeBin_71 : decode cX3_regradeBin 71 = .ok (.ireturn, 1) := by decide +kernel
theorem dX3_regradeBin_72 : decode cX3_regradeBin 72 = .ok (.iinc 5 1, 3) := by decide +kernel
theorem dX3_regradeBin_75 : decode cX3_regradeBin 75 = .ok (.goto (-25), 3) := by decide +kernel
theorem dX3_regradeBin_78 : decode cX3_regradeBin 78 = .ok (.aload_n 3, 1) := by decide +kernel
theorem dX3_regradeBin_79 : decode cX3_regradeBin 79 = .ok (.iload_n 2, 1) := by decide +kernel
theorem dX3_regradeBin_80 : decode cX3_regradeBin 80 = .ok (.putfield 37, 3) := by decide +kernel
theorem dX3_regradeBin_83 : decode cX3_regradeBin 83 = .ok (.iload 4, 2) := by decide +kernel
theorem dX3_regradeBin_85 : decode cX3_regradeBin 85 = .ok (.ireturn, 1) := by decide +kernel
theorem dX3_changeSetting_0 : decode cX3_changeSetting 0 = .ok (.iload_n 1, 1) := by decide +kernel
theorem dX3_changeSetting_1 : decode cX3_changeSetting 1 = .ok (.invokestatic 176, 3) := by decide +kernel
theorem dX3_changeSetting_4 : decode cX3_changeSetting 4 = .ok (.ifCond .eq 21, 3) := by decide +kernel
theorem dX3_changeSetting_7 : decode cX3_changeSetting 7 = .ok (.iload_n 2, 1) := by decide +kernel
theorem dX3_changeSetting_8 : decode cX3_changeSetting 8 = .ok (.getstatic 179, 3) := by decide +kernel
theorem dX3_changeSetting_11 : decode cX3_changeSetting 11 = .ok (.iload_n 1, 1) := by decide +kernel
theorem dX3_changeSetting_12 : decode cX3_changeSetting 12 = .ok (.iaload, 1) := by decide +kernel
theorem dX3_changeSetting_13 : decode cX3_changeSetting 13 = .ok (.if_icmp .lt 12, 3) := by decide +kernel
theorem dX3_changeSetting_16 : decode cX3_changeSetting 16 = .ok (.iload_n 2, 1) := by decide +kernel
theorem dX3_changeSetting_17 : decode cX3_changeSetting 17 = .ok (.getstatic 182, 3) := by decide +kernel
theorem dX3_changeSetting_20 : decode cX3_changeSetting 20 = .ok (.iload_n 1, 1) := by decide +kernel
theorem dX3_changeSetting_21 : decode cX3_changeSetting 21 = .ok (.iaload, 1) := by decide +kernel
theorem dX3_changeSetting_22 : decode cX3_changeSetting 22 = .ok (.if_icmp .le 6, 3) := by decide +kernel
theorem dX3_changeSetting_25 : decode cX3_changeSetting 25 = .ok (.ldc 74, 2) := by decide +kernel
theorem dX3_changeSetting_27 : decode cX3_changeSetting 27 = .ok (.ireturn, 1) := by decide +kernel
theorem dX3_changeSetting_28 : decode cX3_changeSetting 28 = .ok (.aload_n 0, 1) := by decide +kernel
theorem dX3_changeSetting_29 : decode cX3_changeSetting 29 = .ok (.getfield 27, 3) := by decide +kernel
theorem dX3_changeSetting_32 : decode cX3_changeSetting 32 = .ok (.iload_n 1, 1) := by decide +kernel
theorem dX3_changeSetting_33 : decode cX3_changeSetting 33 = .ok (.iaload, 1) := by decide +kernel
theorem dX3_changeSetting_34 : decode cX3_changeSetting 34 = .ok (.istore_n 3, 1) := by decide +kernel
theorem dX3_changeSetting_35 : decode cX3_changeSetting 35 = .ok (.aload_n 0, 1) := by decide +kernel
theorem dX3_changeSetting_36 : decode cX3_changeSetting 36 = .ok (.getfield 27, 3) := by decide +kernel
theorem dX3_changeSetting_39 : decode cX3_changeSetting 39 = .ok (.iload_n 1, 1) := by decide +kernel
theorem dX3_changeSetting_40 : decode cX3_changeSetting 40 = .ok (.iload_n 2, 1) := by decide +kernel
theorem dX3_changeSetting_41 : decode cX3_changeSetting 41 = .ok (.iastore, 1) := by decide +kernel
theorem dX3_changeSetting_42 : decode cX3_changeSetting 42 = .ok (.iload_n 3, 1) := by decide +kernel
theorem dX3_changeSetting_43 : decode cX3_changeSetting 43 = .ok (.ireturn, 1) := by decide +kernel
theorem dX3_tellReceipt_0 : decode cX3_tellReceipt 0 = .ok (.aload_n 0, 1) := by decide +kernel
theorem dX3_tellReceipt_1 : decode cX3_tellReceipt 1 = .ok (.iload_n 1, 1) := by decide +kernel
theorem dX3_tellReceipt_2 : decode cX3_tellReceipt 2 = .ok (.invokevirtual 99, 3) := by decide +kernel
theorem dX3_tellReceipt_5 : decode cX3_tellReceipt 5 = .ok (.astore_n 3, 1) := by decide +kernel
theorem dX3_tellReceipt_6 : decode cX3_tellReceipt 6 = .ok (.aload_n 3, 1) := by decide +kernel
theorem dX3_tellReceipt_7 : decode cX3_tellReceipt 7 = .ok (.ifnonnull 6, 3) := by decide +kernel
theorem dX3_tellReceipt_10 : decode cX3_tellReceipt 10 = .ok (.ldc 74, 2) := by decide +kernel
theorem dX3_tellReceipt_12 : decode cX3_tellReceipt 12 = .ok (.ireturn, 1) := by decide +kernel
theorem dX3_tellReceipt_13 : decode cX3_tellReceipt 13 = .ok (.iload_n 2, 1) := by decide +kernel
theorem dX3_tellReceipt_14 : decode cX3_tellReceipt 14 = .ok (.tableswitch 157 0 9 #[54, 59, 64, 69, 75, 92, 109, 126, 132, 151], 54) := by decide +kernel
theorem dX3_tellReceipt_68 : decode cX3_tellReceipt 68 = .ok (.aload_n 3, 1) := by decide +kernel
theorem dX3_tellReceipt_69 : decode cX3_tellReceipt 69 = .ok (.getfield 107, 3) := by decide +kernel
theorem dX3_tellReceipt_72 : decode cX3_tellReceipt 72 = .ok (.ireturn, 1) := by decide +kernel
theorem dX3_tellReceipt_73 : decode cX3_tellReceipt 73 = .ok (.aload_n 3, 1) := by decide +kernel
theorem dX3_tellReceipt_74 : decode cX3_tellReceipt 74 = .ok (.getfield 110, 3) := by decide +kernel
theorem dX3_tellReceipt_77 : decode cX3_tellReceipt 77 = .ok (.ireturn, 1) := by decide +kernel
theorem dX3_tellReceipt_78 : decode cX3_tellReceipt 78 = .ok (.aload_n 3, 1) := by decide +kernel
theorem dX3_tellReceipt_79 : decode cX3_tellReceipt 79 = .ok (.getfield 103, 3) := by decide +kernel
theorem dX3_tellReceipt_82 : decode cX3_tellReceipt 82 = .ok (.ireturn, 1) := by decide +kernel
theorem dX3_tellReceipt_83 : decode cX3_tellReceipt 83 = .ok (.aload_n 0, 1) := by decide +kernel
theorem dX3_tellReceipt_84 : decode cX3_tellReceipt 84 = .ok (.aload_n 3, 1) := by decide +kernel
theorem dX3_tellReceipt_85 : decode cX3_tellReceipt 85 = .ok (.invokevirtual 185, 3) := by decide +kernel
theorem dX3_tellReceipt_88 : decode cX3_tellReceipt 88 = .ok (.ireturn, 1) := by decide +kernel
theorem dX3_tellReceipt_89 : decode cX3_tellReceipt 89 = .ok (.aload_n 3, 1) := by decide +kernel
theorem dX3_tellReceipt_90 : decode cX3_tellReceipt 90 = .ok (.invokevirtual 115, 3) := by decide +kernel
theorem dX3_tellReceipt_93 : decode cX3_tellReceipt 93 = .ok (.ifCond .eq 10, 3) := by decide +kernel
theorem dX3_tellReceipt_96 : decode cX3_tellReceipt 96 = .ok (.aload_n 3, 1) := by decide +kernel
theorem dX3_tellReceipt_97 : decode cX3_tellReceipt 97 = .ok (.getfield 136, 3) := by decide +kernel
theorem dX3_tellReceipt_100 : decode cX3_tellReceipt 100 = .ok (.goto 5, 3) := by decide +kernel
theorem dX3_tellReceipt_103 : decode cX3_tellReceipt 103 = .ok (.ldc 188, 2) := by decide +kernel
theorem dX3_tellReceipt_105 : decode cX3_tellReceipt 105 = .ok (.ireturn, 1) := by decide +kernel
theorem dX3_tellReceipt_106 : decode cX3_tellReceipt 106 = .ok (.aload_n 3, 1) := by decide +kernel
theorem dX3_tellReceipt_107 : decode cX3_tellReceipt 107 = .ok (.invokevirtual 115, 3) := by decide +kernel
theorem dX3_tellReceipt_110 : decode cX3_tellReceipt 110 = .ok (.ifCond .eq 10, 3) := by decide +kernel
theorem dX3_tellReceipt_113 : decode cX3_tellReceipt 113 = .ok (.aload_n 3, 1) := by decide +kernel
theorem dX3_tellReceipt_114 : decode cX3_tellReceipt 114 = .ok (.getfield 139, 3) := by decide +kernel
theorem dX3_tellReceipt_117 : decode cX3_tellReceipt 117 = .ok (.goto 5, 3) := by decide +kernel
theorem dX3_tellReceipt_120 : decode cX3_tellReceipt 120 = .ok (.ldc 188, 2) := by decide +kernel
theorem dX3_tellReceipt_122 : decode cX3_tellReceipt 122 = .ok (.ireturn, 1) := by decide +kernel
theorem dX3_tellReceipt_123 : decode cX3_tellReceipt 123 = .ok (.aload_n 3, 1) := by decide +kernel
theorem dX3_tellReceipt_124 : decode cX3_tellReceipt 124 = .ok (.invokevirtual 189, 3) := by decide +kernel
theorem dX3_tellReceipt_127 : decode cX3_tellReceipt 127 = .ok (.ifCond .eq 10, 3) := by decide +kernel
theorem dX3_tellReceipt_130 : decode cX3_tellReceipt 130 = .ok (.aload_n 3, 1) := by decide +kernel
theorem dX3_tellReceipt_131 : decode cX3_tellReceipt 131 = .ok (.getfield 155, 3) := by decide +kernel
theorem dX3_tellReceipt_134 : decode cX3_tellReceipt 134 = .ok (.goto 5, 3) := by decide +kernel
theorem dX3_tellReceipt_137 : decode cX3_tellReceipt 137 = .ok (.ldc 188, 2) := by decide +kernel
theorem dX3_tellReceipt_139 : decode cX3_tellReceipt 139 = .ok (.ireturn, 1) := by decide +kernel
theorem dX3_tellReceipt_140 : decode cX3_tellReceipt 140 = .ok (.aload_n 0, 1) := by decide +kernel
theorem dX3_tellReceipt_141 : decode cX3_tellReceipt 141 = .ok (.aload_n 3, 1) := by decide +kernel
theorem dX3_tellReceipt_142 : decode cX3_tellReceipt 142 = .ok (.invokevirtual 132, 3) := by decide +kernel
theorem dX3_tellReceipt_145 : decode cX3_tellReceipt 145 = .ok (.ireturn, 1) := by decide +kernel
theorem dX3_tellReceipt_146 : decode cX3_tellReceipt 146 = .ok (.iconst 0, 1) := by decide +kernel
theorem dX3_tellReceipt_147 : decode cX3_tellReceipt 147 = .ok (.aload_n 3, 1) := by decide +kernel
theorem dX3_tellReceipt_148 : decode cX3_tellReceipt 148 = .ok (.getfield 139, 3) := by decide +kernel
theorem dX3_tellReceipt_151 : decode cX3_tellReceipt 151 = .ok (.aload_n 0, 1) := by decide +kernel
theorem dX3_tellReceipt_152 : decode cX3_tellReceipt 152 = .ok (.aload_n 0, 1) := by decide +kernel
theorem dX3_tellReceipt_153 : decode cX3_tellReceipt 153 = .ok (.aload_n 3, 1) := by decide +kernel
theorem dX3_tellReceipt_154 : decode cX3_tellReceipt 154 = .ok (.invokevirtual 185, 3) := by decide +kernel
theorem dX3_tellReceipt_157 : decode cX3_tellReceipt 157 = .ok (.invokevirtual 192, 3) := by decide +kernel
theorem dX3_tellReceipt_160 : decode cX3_tellReceipt 160 = .ok (.isub, 1) := by decide +kernel
theorem dX3_tellReceipt_161 : decode cX3_tellReceipt 161 = .ok (.invokestatic 195, 3) := by decide +kernel
theorem dX3_tellReceipt_164 : decode cX3_tellReceipt 164 = .ok (.ireturn, 1) := by decide +kernel
theorem dX3_tellReceipt_165 : decode cX3_tellReceipt 165 = .ok (.aload_n 0, 1) := by decide +kernel
theorem dX3_tellReceipt_166 : decode cX3_tellReceipt 166 = .ok (.aload_n 3, 1) := by decide +kernel
theorem dX3_tellReceipt_167 : decode cX3_tellReceipt 167 = .ok (.invokevirtual 200, 3) := by decide +kernel
theorem dX3_tellReceipt_170 : decode cX3_tellReceipt 170 = .ok (.ireturn, 1) := by decide +kernel
theorem dX3_tellReceipt_171 : decode cX3_tellReceipt 171 = .ok (.ldc 74, 2) := by decide +kernel
theorem dX3_tellReceipt_173 : decode cX3_tellReceipt 173 = .ok (.ireturn, 1) := by decide +kernel
theorem dX3_numberAt_0 : decode cX3_numberAt 0 = .ok (.iload_n 1, 1) := by decide +kernel
theorem dX3_numberAt_1 : decode cX3_numberAt 1 = .ok (.ifCond .ge 6, 3) := by decide +kernel
theorem dX3_numberAt_4 : decode cX3_numberAt 4 = .ok (.ldc 74, 2) := by decide +kernel
theorem dX3_numberAt_6 : decode cX3_numberAt 6 = .ok (.ireturn, 1) := by decide +kernel
theorem dX3_numberAt_7 : decode cX3_numberAt 7 = .ok (.aload_n 0, 1) := by decide +kernel
theorem dX3_numberAt_8 : decode cX3_numberAt 8 = .ok (.getfield 19, 3) := by decide +kernel
theorem dX3_numberAt_11 : decode cX3_numberAt 11 = .ok (.astore_n 2, 1) := by decide +kernel
theorem dX3_numberAt_12 : decode cX3_numberAt 12 = .ok (.aload_n 2, 1) := by decide +kernel
theorem dX3_numberAt_13 : decode cX3_numberAt 13 = .ok (.arraylength, 1) := by decide +kernel
theorem dX3_numberAt_14 : decode cX3_numberAt 14 = .ok (.istore_n 3, 1) := by decide +kernel
theorem dX3_numberAt_15 : decode cX3_numberAt 15 = .ok (.iconst 0, 1) := by decide +kernel
theorem dX3_numberAt_16 : decode cX3_numberAt 16 = .ok (.istore 4, 2) := by decide +kernel
theorem dX3_numberAt_18 : decode cX3_numberAt 18 = .ok (.iload 4, 2) := by decide +kernel
theorem dX3_numberAt_20 : decode cX3_numberAt 20 = .ok (.iload_n 3, 1) := by decide +kernel
theorem dX3_numberAt_21 : decode cX3_numberAt 21 = .ok (.if_icmp .ge 42, 3) := by decide +kernel
theorem dX3_numberAt_24 : decode cX3_numberAt 24 = .ok (.aload_n 2, 1) := by decide +kernel
theorem dX3_numberAt_25 : decode cX3_numberAt 25 = .ok (.iload 4, 2) := by decide +kernel
theorem dX3_numberAt_27 : decode cX3_numberAt 27 = .ok (.aaload, 1) := by decide +kernel
theorem dX3_numberAt_28 : decode cX3_numberAt 28 = .ok (.astore 5, 2) := by decide +kernel
theorem dX3_numberAt_30 : decode cX3_numberAt 30 = .ok (.aload 5, 2) := by decide +kernel
theorem dX3_numberAt_32 : decode cX3_numberAt 32 = .ok (.invokevirtual 203, 3) := by decide +kernel
theorem dX3_numberAt_35 : decode cX3_numberAt 35 = .ok (.ifCond .eq 22, 3) := by decide +kernel
theorem dX3_numberAt_38 : decode cX3_numberAt 38 = .ok (.aload_n 0, 1) := by decide +kernel
theorem dX3_numberAt_39 : decode cX3_numberAt 39 = .ok (.aload 5, 2) := by decide +kernel
theorem dX3_numberAt_41 : decode cX3_numberAt 41 = .ok (.getfield 96, 3) := by decide +kernel
theorem dX3_numberAt_44 : decode cX3_numberAt 44 = .ok (.invokevirtual 206, 3) := by decide +kernel
theorem dX3_numberAt_47 : decode cX3_numberAt 47 = .ok (.iload_n 1, 1) := by decide +kernel
theorem dX3_numberAt_48 : decode cX3_numberAt 48 = .ok (.if_icmp .ne 9, 3) := by decide +kernel
theorem dX3_numberAt_51 : decode cX3_numberAt 51 = .ok (.aload 5, 2) := by decide +kernel
theorem dX3_numberAt_53 : decode cX3_numberAt 53 = .ok (.getfield 96, 3) := by decide +kernel
theorem dX3_numberAt_56 : decode cX3_numberAt 56 = .ok (.ireturn, 1) := by decide +kernel
theorem dX3_numberAt_57 : decode cX3_numberAt 57 = .ok (.iinc 4 1, 3) := by decide +kernel
theorem dX3_numberAt_60 : decode cX3_numberAt 60 = .ok (.goto (-42), 3) := by decide +kernel
theorem dX3_numberAt_63 : decode cX3_numberAt 63 = .ok (.ldc 188, 2) := by decide +kernel
theorem dX3_numberAt_65 : decode cX3_numberAt 65 = .ok (.ireturn, 1) := by decide +kernel
theorem dX3_tellBin_0 : decode cX3_tellBin 0 = .ok (.iload_n 1, 1) := by decide +kernel
theorem dX3_tellBin_1 : decode cX3_tellBin 1 = .ok (.invokestatic 165, 3) := by decide +kernel
theorem dX3_tellBin_4 : decode cX3_tellBin 4 = .ok (.ifCond .ne 6, 3) := by decide +kernel
theorem dX3_tellBin_7 : decode cX3_tellBin 7 = .ok (.ldc 74, 2) := by decide +kernel
theorem dX3_tellBin_9 : decode cX3_tellBin 9 = .ok (.ireturn, 1) := by decide +kernel
theorem dX3_tellBin_10 : decode cX3_tellBin 10 = .ok (.iload_n 2, 1) := by decide +kernel
theorem dX3_tellBin_11 : decode cX3_tellBin 11 = .ok (.tableswitch 56 0 2 #[25, 35, 45], 25) := by decide +kernel
theorem dX3_tellBin_36 : decode cX3_tellBin 36 = .ok (.aload_n 0, 1) := by decide +kernel
theorem dX3_tellBin_37 : decode cX3_tellBin 37 = .ok (.getfield 11, 3) := by decide +kernel
theorem dX3_tellBin_40 : decode cX3_tellBin 40 = .ok (.iload_n 1, 1) := by decide +kernel
theorem dX3_tellBin_41 : decode cX3_tellBin 41 = .ok (.aaload, 1) := by decide +kernel
theorem dX3_tellBin_42 : decode cX3_tellBin 42 = .ok (.getfield 37, 3) := by decide +kernel
theorem dX3_tellBin_45 : decode cX3_tellBin 45 = .ok (.ireturn, 1) := by decide +kernel
theorem dX3_tellBin_46 : decode cX3_tellBin 46 = .ok (.aload_n 0, 1) := by decide +kernel
theorem dX3_tellBin_47 : decode cX3_tellBin 47 = .ok (.getfield 11, 3) := by decide +kernel
theorem dX3_tellBin_50 : decode cX3_tellBin 50 = .ok (.iload_n 1, 1) := by decide +kernel
theorem dX3_tellBin_51 : decode cX3_tellBin 51 = .ok (.aaload, 1) := by decide +kernel
theorem dX3_tellBin_52 : decode cX3_tellBin 52 = .ok (.getfield 172, 3) := by decide +kernel
theorem dX3_tellBin_55 : decode cX3_tellBin 55 = .ok (.ireturn, 1) := by decide +kernel
theorem dX3_tellBin_56 : decode cX3_tellBin 56 = .ok (.aload_n 0, 1) := by decide +kernel
theorem dX3_tellBin_57 : decode cX3_tellBin 57 = .ok (.aload_n 0, 1) := by decide +kernel
theorem dX3_tellBin_58 : decode cX3_tellBin 58 = .ok (.getfield 11, 3) := by decide +kernel
theorem dX3_tellBin_61 : decode cX3_tellBin 61 = .ok (.iload_n 1, 1) := by decide +kernel
theorem dX3_tellBin_62 : decode cX3_tellBin 62 = .ok (.aaload, 1) := by decide +kernel
theorem dX3_tellBin_63 : decode cX3_tellBin 63 = .ok (.invokevirtual 168, 3) := by decide +kernel
theorem dX3_tellBin_66 : decode cX3_tellBin 66 = .ok (.ireturn, 1) := by decide +kernel
theorem dX3_tellBin_67 : decode cX3_tellBin 67 = .ok (.ldc 74, 2) := by decide +kernel
theorem dX3_tellBin_69 : decode cX3_tellBin 69 = .ok (.ireturn, 1) := by decide +kernel
theorem dX3_tellGrade_0 : decode cX3_tellGrade 0 = .ok (.iload_n 1, 1) := by decide +kernel
theorem dX3_tellGrade_1 : decode cX3_tellGrade 1 = .ok (.invokestatic 70, 3) := by decide +kernel
theorem dX3_tellGrade_4 : decode cX3_tellGrade 4 = .ok (.ifCond .ne 6, 3) := by decide +kernel
theorem dX3_tellGrade_7 : decode cX3_tellGrade 7 = .ok (.ldc 74, 2) := by decide +kernel
theorem dX3_tellGrade_9 : decode cX3_tellGrade 9 = .ok (.ireturn, 1) := by decide +kernel
theorem dX3_tellGrade_10 : decode cX3_tellGrade 10 = .ok (.iload_n 2, 1) := by decide +kernel
theorem dX3_tellGrade_11 : decode cX3_tellGrade 11 = .ok (.tableswitch 66 0 4 #[33, 40, 47, 54, 60], 33) := by decide +kernel
theorem dX3_tellGrade_44 : decode cX3_tellGrade 44 = .ok (.aload_n 0, 1) := by decide +kernel
theorem dX3_tellGrade_45 : decode cX3_tellGrade 45 = .ok (.getfield 23, 3) := by decide +kernel
theorem dX3_tellGrade_48 : decode cX3_tellGrade 48 = .ok (.iload_n 1, 1) := by decide +kernel
theorem dX3_tellGrade_49 : decode cX3_tellGrade 49 = .ok (.iaload, 1) := by decide +kernel
theorem dX3_tellGrade_50 : decode cX3_tellGrade 50 = .ok (.ireturn, 1) := by decide +kernel
theorem dX3_tellGrade_51 : decode cX3_tellGrade 51 = .ok (.aload_n 0, 1) := by decide +kernel
theorem dX3_tellGrade_52 : decode cX3_tellGrade 52 = .ok (.iload_n 1, 1) := by decide +kernel
theorem dX3_tellGrade_53 : decode cX3_tellGrade 53 = .ok (.iload_n 1, 1) := by decide +kernel
theorem dX3_tellGrade_54 : decode cX3_tellGrade 54 = .ok (.invokevirtual 209, 3) := by decide +kernel
theorem dX3_tellGrade_57 : decode cX3_tellGrade 57 = .ok (.ireturn, 1) := by decide +kernel
theorem dX3_tellGrade_58 : decode cX3_tellGrade 58 = .ok (.aload_n 0, 1) := by decide +kernel
theorem dX3_tellGrade_59 : decode cX3_tellGrade 59 = .ok (.iload_n 1, 1) := by decide +kernel
theorem dX3_tellGrade_60 : decode cX3_tellGrade 60 = .ok (.iload_n 1, 1) := by decide +kernel
theorem dX3_tellGrade_61 : decode cX3_tellGrade 61 = .ok (.invokevirtual 212, 3) := by decide +kernel
theorem dX3_tellGrade_64 : decode cX3_tellGrade 64 = .ok (.ireturn, 1) := by decide +kernel
theorem dX3_tellGrade_65 : decode cX3_tellGrade 65 = .ok (.aload_n 0, 1) := by decide +kernel
theorem dX3_tellGrade_66 : decode cX3_tellGrade 66 = .ok (.iload_n 1, 1) := by decide +kernel
theorem dX3_tellGrade_67 : decode cX3_tellGrade 67 = .ok (.invokevirtual 173, 3) := by decide +kernel
theorem dX3_tellGrade_70 : decode cX3_tellGrade 70 = .ok (.ireturn, 1) := by decide +kernel
theorem dX3_tellGrade_71 : decode cX3_tellGrade 71 = .ok (.aload_n 0, 1) := by decide +kernel
theorem dX3_tellGrade_72 : decode cX3_tellGrade 72 = .ok (.iload_n 1, 1) := by decide +kernel
theorem dX3_tellGrade_73 : decode cX3_tellGrade 73 = .ok (.invokevirtual 79, 3) := by decide +kernel
theorem dX3_tellGrade_76 : decode cX3_tellGrade 76 = .ok (.ireturn, 1) := by decide +kernel
theorem dX3_tellGrade_77 : decode cX3_tellGrade 77 = .ok (.ldc 74, 2) := by decide +kernel
theorem dX3_tellGrade_79 : decode cX3_tellGrade 79 = .ok (.ireturn, 1) := by decide +kernel
theorem dX3_tellOwner_0 : decode cX3_tellOwner 0 = .ok (.iload_n 1, 1) := by decide +kernel
theorem dX3_tellOwner_1 : decode cX3_tellOwner 1 = .ok (.invokestatic 122, 3) := by decide +kernel
theorem dX3_tellOwner_4 : decode cX3_tellOwner 4 = .ok (.ifCond .ne 6, 3) := by decide +kernel
theorem dX3_tellOwner_7 : decode cX3_tellOwner 7 = .ok (.ldc 74, 2) := by decide +kernel
theorem dX3_tellOwner_9 : decode cX3_tellOwner 9 = .ok (.ireturn, 1) := by decide +kernel
theorem dX3_tellOwner_10 : decode cX3_tellOwner 10 = .ok (.iconst 0, 1) := by decide +kernel
theorem dX3_tellOwner_11 : decode cX3_tellOwner 11 = .ok (.istore_n 3, 1) := by decide +kernel
theorem dX3_tellOwner_12 : decode cX3_tellOwner 12 = .ok (.iconst 0, 1) := by decide +kernel
theorem dX3_tellOwner_13 : decode cX3_tellOwner 13 = .ok (.istore 4, 2) := by decide +kernel
theorem dX3_tellOwner_15 : decode cX3_tellOwner 15 = .ok (.iconst 0, 1) := by decide +kernel
theorem dX3_tellOwner_16 : decode cX3_tellOwner 16 = .ok (.istore 5, 2) := by decide +kernel
theorem dX3_tellOwner_18 : decode cX3_tellOwner 18 = .ok (.iconst 0, 1) := by decide +kernel
theorem dX3_tellOwner_19 : decode cX3_tellOwner 19 = .ok (.istore 6, 2) := by decide +kernel
theorem dX3_tellOwner_21 : decode cX3_tellOwner 21 = .ok (.aload_n 0, 1) := by decide +kernel
theorem dX3_tellOwner_22 : decode cX3_tellOwner 22 = .ok (.getfield 19, 3) := by decide +kernel
theorem dX3_tellOwner_25 : decode cX3_tellOwner 25 = .ok (.astore 7, 2) := by decide +kernel
theorem dX3_tellOwner_27 : decode cX3_tellOwner 27 = .ok (.aload 7, 2) := by decide +kernel
theorem dX3_tellOwner_29 : decode cX3_tellOwner 29 = .ok (.arraylength, 1) := by decide +kernel
theorem dX3_tellOwner_30 : decode cX3_tellOwner 30 = .ok (.istore 8, 2) := by decide +kernel
theorem dX3_tellOwner_32 : decode cX3_tellOwner 32 = .ok (.iconst 0, 1) := by decide +kernel
theorem dX3_tellOwner_33 : decode cX3_tellOwner 33 = .ok (.istore 9, 2) := by decide +kernel
theorem dX3_tellOwner_35 : decode cX3_tellOwner 35 = .ok (.iload 9, 2) := by decide +kernel
theorem dX3_tellOwner_37 : decode cX3_tellOwner 37 = .ok (.iload 8, 2) := by decide +kernel
theorem dX3_tellOwner_39 : decode cX3_tellOwner 39 = .ok (.if_icmp .ge 76, 3) := by decide +kernel
theorem dX3_tellOwner_42 : decode cX3_tellOwner 42 = .ok (.aload 7, 2) := by decide +kernel
theorem dX3_tellOwner_44 : decode cX3_tellOwner 44 = .ok (.iload 9, 2) := by decide +kernel
theorem dX3_tellOwner_46 : decode cX3_tellOwner 46 = .ok (.aaload, 1) := by decide +kernel
theorem dX3_tellOwner_47 : decode cX3_tellOwner 47 = .ok (.astore 10, 2) := by decide +kernel
theorem dX3_tellOwner_49 : decode cX3_tellOwner 49 = .ok (.aload 10, 2) := by decide +kernel
theorem dX3_tellOwner_51 : decode cX3_tellOwner 51 = .ok (.invokevirtual 203, 3) := by decide +kernel
theorem dX3_tellOwner_54 : decode cX3_tellOwner 54 = .ok (.ifCond .eq 55, 3) := by decide +kernel
theorem dX3_tellOwner_57 : decode cX3_tellOwner 57 = .ok (.aload 10, 2) := by decide +kernel
theorem dX3_tellOwner_59 : decode cX3_tellOwner 59 = .ok (.getfield 107, 3) := by decide +kernel
theorem dX3_tellOwner_62 : decode cX3_tellOwner 62 = .ok (.iload_n 1, 1) := by decide +kernel
theorem dX3_tellOwner_63 : decode cX3_tellOwner 63 = .ok (.if_icmp .ne 46, 3) := by decide +kernel
theorem dX3_tellOwner_66 : decode cX3_tellOwner 66 = .ok (.iinc 3 1, 3) := by decide +kernel
theorem dX3_tellOwner_69 : decode cX3_tellOwner 69 = .ok (.iload 4, 2) := by decide +kernel
theorem dX3_tellOwner_71 : decode cX3_tellOwner 71 = .ok (.aload 10, 2) := by decide +kernel
theorem dX3_tellOwner_73 : decode cX3_tellOwner 73 = .ok (.getfield 103, 3) := by decide +kernel
theorem dX3_tellOwner_76 : decode cX3_tellOwner 76 = .ok (.iadd, 1) := by decide +kernel
theorem dX3_tellOwner_77 : decode cX3_tellOwner 77 = .ok (.istore 4, 2) := by decide +kernel
theorem dX3_tellOwner_79 : decode cX3_tellOwner 79 = .ok (.iload 5, 2) := by decide +kernel
theorem dX3_tellOwner_81 : decode cX3_tellOwner 81 = .ok (.aload 10, 2) := by decide +kernel
theorem dX3_tellOwner_83 : decode cX3_tellOwner 83 = .ok (.getfield 139, 3) := by decide +kernel
theorem dX3_tellOwner_86 : decode cX3_tellOwner 86 = .ok (.iadd, 1) := by decide +kernel
theorem dX3_tellOwner_87 : decode cX3_tellOwner 87 = .ok (.istore 5, 2) := by decide +kernel
theorem dX3_tellOwner_89 : decode cX3_tellOwner 89 = .ok (.iload 6, 2) := by decide +kernel
theorem dX3_tellOwner_91 : decode cX3_tellOwner 91 = .ok (.aload 10, 2) := by decide +kernel
theorem dX3_tellOwner_93 : decode cX3_tellOwner 93 = .ok (.getfield 103, 3) := by decide +kernel
theorem dX3_tellOwner_96 : decode cX3_tellOwner 96 = .ok (.aload_n 0, 1) := by decide +kernel
theorem dX3_tellOwner_97 : decode cX3_tellOwner 97 = .ok (.aload 10, 2) := by decide +kernel
theorem dX3_tellOwner_99 : decode cX3_tellOwner 99 = .ok (.getfield 110, 3) := by decide +kernel
theorem dX3_tellOwner_102 : decode cX3_tellOwner 102 = .ok (.invokevirtual 215, 3) := by decide +kernel
theorem dX3_tellOwner_105 : decode cX3_tellOwner 105 = .ok (.imul, 1) := by decide +kernel
theorem dX3_tellOwner_106 : decode cX3_tellOwner 106 = .ok (.iadd, 1) := by decide +kernel
theorem dX3_tellOwner_107 : decode cX3_tellOwner 107 = .ok (.istore 6, 2) := by decide +kernel
theorem dX3_tellOwner_109 : decode cX3_tellOwner 109 = .ok (.iinc 9 1, 3) := by decide +kernel
theorem dX3_tellOwner_112 : decode cX3_tellOwner 112 = .ok (.goto (-77), 3) := by decide +kernel
theorem dX3_tellOwner_115 : decode cX3_tellOwner 115 = .ok (.iload_n 2, 1) := by decide +kernel
theorem dX3_tellOwner_116 : decode cX3_tellOwner 116 = .ok (.tableswitch 64 0 4 #[36, 43, 45, 48, 51], 36) := by decide +kernel
theorem dX3_tellOwner_152 : decode cX3_tellOwner 152 = .ok (.aload_n 0, 1) := by decide +kernel
theorem dX3_tellOwner_153 : decode cX3_tellOwner 153 = .ok (.getfield 30, 3) := by decide +kernel
theorem dX3_tellOwner_156 : decode cX3_tellOwner 156 = .ok (.iload_n 1, 1) := by decide +kernel
theorem dX3_tellOwner_157 : decode cX3_tellOwner 157 = .ok (.iaload, 1) := by decide +kernel
theorem dX3_tellOwner_158 : decode cX3_tellOwner 158 = .ok (.ireturn, 1) := by decide +kernel
theorem dX3_tellOwner_159 : decode cX3_tellOwner 159 = .ok (.iload_n 3, 1) := by decide +kernel
theorem dX3_tellOwner_160 : decode cX3_tellOwner 160 = .ok (.ireturn, 1) := by decide +kernel
theorem dX3_tellOwner_161 : decode cX3_tellOwner 161 = .ok (.iload 4, 2) := by decide +kernel
theorem dX3_tellOwner_163 : decode cX3_tellOwner 163 = .ok (.ireturn, 1) := by decide +kernel
theorem dX3_tellOwner_164 : decode cX3_tellOwner 164 = .ok (.iload 5, 2) := by decide +kernel
theorem dX3_tellOwner_166 : decode cX3_tellOwner 166 = .ok (.ireturn, 1) := by decide +kernel
theorem dX3_tellOwner_167 : decode cX3_tellOwner 167 = .ok (.aload_n 0, 1) := by decide +kernel
theorem dX3_tellOwner_168 : decode cX3_tellOwner 168 = .ok (.getfield 30, 3) := by decide +kernel
theorem dX3_tellOwner_171 : decode cX3_tellOwner 171 = .ok (.iload_n 1, 1) := by decide +kernel
theorem dX3_tellOwner_172 : decode cX3_tellOwner 172 = .ok (.iaload, 1) := by decide +kernel
theorem dX3_tellOwner_173 : decode cX3_tellOwner 173 = .ok (.iload 6, 2) := by decide +kernel
theorem dX3_tellOwner_175 : decode cX3_tellOwner 175 = .ok (.iadd, 1) := by decide +kernel
theorem dX3_tellOwner_176 : decode cX3_tellOwner 176 = .ok (.iload 5, 2) := by decide +kernel
theorem dX3_tellOwner_178 : decode cX3_tellOwner 178 = .ok (.isub, 1) := by decide +kernel
theorem dX3_tellOwner_179 : decode cX3_tellOwner 179 = .ok (.ireturn, 1) := by decide +kernel
theorem dX3_tellOwner_180 : decode cX3_tellOwner 180 = .ok (.ldc 74, 2) := by decide +kernel
theorem dX3_tellOwner_182 : decode cX3_tellOwner 182 = .ok (.ireturn, 1) := by decide +kernel
theorem dX3_tellLender_0 : decode cX3_tellLender 0 = .ok (.iload_n 1, 1) := by decide +kernel
theorem dX3_tellLender_1 : decode cX3_tellLender 1 = .ok (.invokestatic 129, 3) := by decide +kernel
theorem dX3_tellLender_4 : decode cX3_tellLender 4 = .ok (.ifCond .ne 6, 3) := by decide +kernel
theorem dX3_tellLender_7 : decode cX3_tellLender 7 = .ok (.ldc 74, 2) := by decide +kernel
theorem dX3_tellLender_9 : decode cX3_tellLender 9 = .ok (.ireturn, 1) := by decide +kernel
theorem dX3_tellLender_10 : decode cX3_tellLender 10 = .ok (.iconst 0, 1) := by decide +kernel
theorem dX3_tellLender_11 : decode cX3_tellLender 11 = .ok (.istore_n 3, 1) := by decide +kernel
theorem dX3_tellLender_12 : decode cX3_tellLender 12 = .ok (.iconst 0, 1) := by decide +kernel
theorem dX3_tellLender_13 : decode cX3_tellLender 13 = .ok (.istore 4, 2) := by decide +kernel
theorem dX3_tellLender_15 : decode cX3_tellLender 15 = .ok (.iconst 0, 1) := by decide +kernel
theorem dX3_tellLender_16 : decode cX3_tellLender 16 = .ok (.istore 5, 2) := by decide +kernel
theorem dX3_tellLender_18 : decode cX3_tellLender 18 = .ok (.iconst 0, 1) := by decide +kernel
theorem dX3_tellLender_19 : decode cX3_tellLender 19 = .ok (.istore 6, 2) := by decide +kernel
theorem dX3_tellLender_21 : decode cX3_tellLender 21 = .ok (.iconst 0, 1) := by decide +kernel
theorem dX3_tellLender_22 : decode cX3_tellLender 22 = .ok (.istore 7, 2) := by decide +kernel
theorem dX3_tellLender_24 : decode cX3_tellLender 24 = .ok (.aload_n 0, 1) := by decide +kernel
theorem dX3_tellLender_25 : decode cX3_tellLender 25 = .ok (.getfield 19, 3) := by decide +kernel
theorem dX3_tellLender_28 : decode cX3_tellLender 28 = .ok (.astore 8, 2) := by decide +kernel
theorem dX3_tellLender_30 : decode cX3_tellLender 30 = .ok (.aload 8, 2) := by decide +kernel
theorem dX3_tellLender_32 : decode cX3_tellLender 32 = .ok (.arraylength, 1) := by decide +kernel
theorem dX3_tellLender_33 : decode cX3_tellLender 33 = .ok (.istore 9, 2) := by decide +kernel
theorem dX3_tellLender_35 : decode cX3_tellLender 35 = .ok (.iconst 0, 1) := by decide +kernel
theorem dX3_tellLender_36 : decode cX3_tellLender 36 = .ok (.istore 10, 2) := by decide +kernel
theorem dX3_tellLender_38 : decode cX3_tellLender 38 = .ok (.iload 10, 2) := by decide +kernel
theorem dX3_tellLender_40 : decode cX3_tellLender 40 = .ok (.iload 9, 2) := by decide +kernel
theorem dX3_tellLender_42 : decode cX3_tellLender 42 = .ok (.if_icmp .ge 93, 3) := by decide +kernel
theorem dX3_tellLender_45 : decode cX3_tellLender 45 = .ok (.aload 8, 2) := by decide +kernel
theorem dX3_tellLender_47 : decode cX3_tellLender 47 = .ok (.iload 10, 2) := by decide +kernel
theorem dX3_tellLender_49 : decode cX3_tellLender 49 = .ok (.aaload, 1) := by decide +kernel
theorem dX3_tellLender_50 : decode cX3_tellLender 50 = .ok (.astore 11, 2) := by decide +kernel
theorem dX3_tellLender_52 : decode cX3_tellLender 52 = .ok (.aload 11, 2) := by decide +kernel
theorem dX3_tellLender_54 : decode cX3_tellLender 54 = .ok (.getfield 136, 3) := by decide +kernel
theorem dX3_tellLender_57 : decode cX3_tellLender 57 = .ok (.iload_n 1, 1) := by decide +kernel
theorem dX3_tellLender_58 : decode cX3_tellLender 58 = .ok (.if_icmp .ne 71, 3) := by decide +kernel
theorem dX3_tellLender_61 : decode cX3_tellLender 61 = .ok (.iinc 3 1, 3) := by decide +kernel
theorem dX3_tellLender_64 : decode cX3_tellLender 64 = .ok (.iload 4, 2) := by decide +kernel
theorem dX3_tellLender_66 : decode cX3_tellLender 66 = .ok (.aload 11, 2) := by decide +kernel
theorem dX3_tellLender_68 : decode cX3_tellLender 68 = .ok (.getfield 139, 3) := by decide +kernel
theorem dX3_tellLender_71 : decode cX3_tellLender 71 = .ok (.iadd, 1) := by decide +kernel
theorem dX3_tellLender_72 : decode cX3_tellLender 72 = .ok (.istore 4, 2) := by decide +kernel
theorem dX3_tellLender_74 : decode cX3_tellLender 74 = .ok (.iload 5, 2) := by decide +kernel
theorem dX3_tellLender_76 : decode cX3_tellLender 76 = .ok (.aload_n 0, 1) := by decide +kernel
theorem dX3_tellLender_77 : decode cX3_tellLender 77 = .ok (.aload 11, 2) := by decide +kernel
theorem dX3_tellLender_79 : decode cX3_tellLender 79 = .ok (.invokevirtual 185, 3) := by decide +kernel
theorem dX3_tellLender_82 : decode cX3_tellLender 82 = .ok (.iadd, 1) := by decide +kernel
theorem dX3_tellLender_83 : decode cX3_tellLender 83 = .ok (.istore 5, 2) := by decide +kernel
theorem dX3_tellLender_85 : decode cX3_tellLender 85 = .ok (.iload 6, 2) := by decide +kernel
theorem dX3_tellLender_87 : decode cX3_tellLender 87 = .ok (.aload 11, 2) := by decide +kernel
theorem dX3_tellLender_89 : decode cX3_tellLender 89 = .ok (.invokevirtual 189, 3) := by decide +kernel
theorem dX3_tellLender_92 : decode cX3_tellLender 92 = .ok (.ifCond .eq 7, 3) := by decide +kernel
theorem dX3_tellLender_95 : decode cX3_tellLender 95 = .ok (.iconst 1, 1) := by decide +kernel
theorem dX3_tellLender_96 : decode cX3_tellLender 96 = .ok (.goto 4, 3) := by decide +kernel
theorem dX3_tellLender_99 : decode cX3_tellLender 99 = .ok (.iconst 0, 1) := by decide +kernel
theorem dX3_tellLender_100 : decode cX3_tellLender 100 = .ok (.iadd, 1) := by decide +kernel
theorem dX3_tellLender_101 : decode cX3_tellLender 101 = .ok (.istore 6, 2) := by decide +kernel
theorem dX3_tellLender_103 : decode cX3_tellLender 103 = .ok (.iload 7, 2) := by decide +kernel
theorem dX3_tellLender_105 : decode cX3_tellLender 105 = .ok (.aload_n 0, 1) := by decide +kernel
theorem dX3_tellLender_106 : decode cX3_tellLender 106 = .ok (.aload 11, 2) := by decide +kernel
theorem dX3_tellLender_108 : decode cX3_tellLender 108 = .ok (.iload_n 1, 1) := by decide +kernel
theorem dX3_tellLender_109 : decode cX3_tellLender 109 = .ok (.aload_n 0, 1) := by decide +kernel
theorem dX3_tellLender_110 : decode cX3_tellLender 110 = .ok (.getfield 23, 3) := by decide +kernel
theorem dX3_tellLender_113 : decode cX3_tellLender 113 = .ok (.iconst 2, 1) := by decide +kernel
theorem dX3_tellLender_114 : decode cX3_tellLender 114 = .ok (.iaload, 1) := by decide +kernel
theorem dX3_tellLender_115 : decode cX3_tellLender 115 = .ok (.invokevirtual 158, 3) := by decide +kernel
theorem dX3_tellLender_118 : decode cX3_tellLender 118 = .ok (.ifCond .eq 7, 3) := by decide +kernel
theorem dX3_tellLender_121 : decode cX3_tellLender 121 = .ok (.iconst 1, 1) := by decide +kernel
theorem dX3_tellLender_122 : decode cX3_tellLender 122 = .ok (.goto 4, 3) := by decide +kernel
theorem dX3_tellLender_125 : decode cX3_tellLender 125 = .ok (.iconst 0, 1) := by decide +kernel
theorem dX3_tellLender_126 : decode cX3_tellLender 126 = .ok (.iadd, 1) := by decide +kernel
theorem dX3_tellLender_127 : decode cX3_tellLender 127 = .ok (.istore 7, 2) := by decide +kernel
theorem dX3_tellLender_129 : decode cX3_tellLender 129 = .ok (.iinc 10 1, 3) := by decide +kernel
theorem dX3_tellLender_132 : decode cX3_tellLender 132 = .ok (.goto (-94), 3) := by decide +kernel
theorem dX3_tellLender_135 : decode cX3_tellLender 135 = .ok (.iload_n 2, 1) := by decide +kernel
theorem dX3_tellLender_136 : decode cX3_tellLender 136 = .ok (.tableswitch 61 0 5 #[40, 42, 45, 48, 51, 58], 40) := by decide +kernel
theorem dX3_tellLender_176 : decode cX3_tellLender 176 = .ok (.iload_n 3, 1) := by decide +kernel
theorem dX3_tellLender_177 : decode cX3_tellLender 177 = .ok (.ireturn, 1) := by decide +kernel
theorem dX3_tellLender_178 : decode cX3_tellLender 178 = .ok (.iload 4, 2) := by decide +kernel
theorem dX3_tellLender_180 : decode cX3_tellLender 180 = .ok (.ireturn, 1) := by decide +kernel
theorem dX3_tellLender_181 : decode cX3_tellLender 181 = .ok (.iload 5, 2) := by decide +kernel
theorem dX3_tellLender_183 : decode cX3_tellLender 183 = .ok (.ireturn, 1) := by decide +kernel
theorem dX3_tellLender_184 : decode cX3_tellLender 184 = .ok (.iload 6, 2) := by decide +kernel
theorem dX3_tellLender_186 : decode cX3_tellLender 186 = .ok (.ireturn, 1) := by decide +kernel
theorem dX3_tellLender_187 : decode cX3_tellLender 187 = .ok (.aload_n 0, 1) := by decide +kernel
theorem dX3_tellLender_188 : decode cX3_tellLender 188 = .ok (.getfield 33, 3) := by decide +kernel
theorem dX3_tellLender_191 : decode cX3_tellLender 191 = .ok (.iload_n 1, 1) := by decide +kernel
theorem dX3_tellLender_192 : decode cX3_tellLender 192 = .ok (.iaload, 1) := by decide +kernel
theorem dX3_tellLender_193 : decode cX3_tellLender 193 = .ok (.ireturn, 1) := by decide +kernel
theorem dX3_tellLender_194 : decode cX3_tellLender 194 = .ok (.iload 7, 2) := by decide +kernel
theorem dX3_tellLender_196 : decode cX3_tellLender 196 = .ok (.ireturn, 1) := by decide +kernel
theorem dX3_tellLender_197 : decode cX3_tellLender 197 = .ok (.ldc 74, 2) := by decide +kernel
theorem dX3_tellLender_199 : decode cX3_tellLender 199 = .ok (.ireturn, 1) := by decide +kernel
theorem dX3_greatestCallingPrice_0 : decode cX3_greatestCallingPrice 0 = .ok (.iload_n 1, 1) := by decide +kernel
theorem dX3_greatestCallingPrice_1 : decode cX3_greatestCallingPrice 1 = .ok (.invokestatic 129, 3) := by decide +kernel
theorem dX3_greatestCallingPrice_4 : decode cX3_greatestCallingPrice 4 = .ok (.ifCond .ne 6, 3) := by decide +kernel
theorem dX3_greatestCallingPrice_7 : decode cX3_greatestCallingPrice 7 = .ok (.ldc 74, 2) := by decide +kernel
theorem dX3_greatestCallingPrice_9 : decode cX3_greatestCallingPrice 9 = .ok (.ireturn, 1) := by decide +kernel
theorem dX3_greatestCallingPrice_10 : decode cX3_greatestCallingPrice 10 = .ok (.bipush 99, 2) := by decide +kernel
theorem dX3_greatestCallingPrice_12 : decode cX3_greatestCallingPrice 12 = .ok (.istore_n 2, 1) := by decide +kernel
theorem dX3_greatestCallingPrice_13 : decode cX3_greatestCallingPrice 13 = .ok (.iload_n 2, 1) := by decide +kernel
theorem dX3_greatestCallingPrice_14 : decode cX3_greatestCallingPrice 14 = .ok (.iconst 1, 1) := by decide +kernel
theorem dX3_greatestCallingPrice_15 : decode cX3_greatestCallingPrice 15 = .ok (.if_icmp .lt 53, 3) := by decide +kernel
theorem dX3_greatestCallingPrice_18 : decode cX3_greatestCallingPrice 18 = .ok (.aload_n 0, 1) := by decide +kernel
theorem dX3_greatestCallingPrice_19 : decode cX3_greatestCallingPrice 19 = .ok (.getfield 19, 3) := by decide +kernel
theorem dX3_greatestCallingPrice_22 : decode cX3_greatestCallingPrice 22 = .ok (.astore_n 3, 1) := by decide +kernel
theorem dX3_greatestCallingPrice_23 : decode cX3_greatestCallingPrice 23 = .ok (.aload_n 3, 1) := by decide +kernel
theorem dX3_greatestCallingPrice_24 : decode cX3_greatestCallingPrice 24 = .ok (.arraylength, 1) := by decide +kernel
theorem dX3_greatestCallingPrice_25 : decode cX3_greatestCallingPrice 25 = .ok (.istore 4, 2) := by decide +kernel
theorem dX3_greatestCallingPrice_27 : decode cX3_greatestCallingPrice 27 = .ok (.iconst 0, 1) := by decide +kernel
theorem dX3_greatestCallingPrice_28 : decode cX3_greatestCallingPrice 28 = .ok (.istore 5, 2) := by decide +kernel
theorem dX3_greatestCallingPrice_30 : decode cX3_greatestCallingPrice 30 = .ok (.iload 5, 2) := by decide +kernel
theorem dX3_greatestCallingPrice_32 : decode cX3_greatestCallingPrice 32 = .ok (.iload 4, 2) := by decide +kernel
theorem dX3_greatestCallingPrice_34 : decode cX3_greatestCallingPrice 34 = .ok (.if_icmp .ge 28, 3) := by decide +kernel
theorem dX3_greatestCallingPrice_37 : decode cX3_greatestCallingPrice 37 = .ok (.aload_n 3, 1) := by decide +kernel
theorem dX3_greatestCallingPrice_38 : decode cX3_greatestCallingPrice 38 = .ok (.iload 5, 2) := by decide +kernel
theorem dX3_greatestCallingPrice_40 : decode cX3_greatestCallingPrice 40 = .ok (.aaload, 1) := by decide +kernel
theorem dX3_greatestCallingPrice_41 : decode cX3_greatestCallingPrice 41 = .ok (.astore 6, 2) := by decide +kernel
theorem dX3_greatestCallingPrice_43 : decode cX3_greatestCallingPrice 43 = .ok (.aload_n 0, 1) := by decide +kernel
theorem dX3_greatestCallingPrice_44 : decode cX3_greatestCallingPrice 44 = .ok (.aload 6, 2) := by decide +kernel
theorem dX3_greatestCallingPrice_46 : decode cX3_greatestCallingPrice 46 = .ok (.iload_n 1, 1) := by decide +kernel
theorem dX3_greatestCallingPrice_47 : decode cX3_greatestCallingPrice 47 = .ok (.iload_n 2, 1) := by decide +kernel
theorem dX3_greatestCallingPrice_48 : decode cX3_greatestCallingPrice 48 = .ok (.invokevirtual 158, 3) := by decide +kernel
theorem dX3_greatestCallingPrice_51 : decode cX3_greatestCallingPrice 51 = .ok (.ifCond .eq 5, 3) := by decide +kernel
theorem dX3_greatestCallingPrice_54 : decode cX3_greatestCallingPrice 54 = .ok (.iload_n 2, 1) := by decide +kernel
theorem dX3_greatestCallingPrice_55 : decode cX3_greatestCallingPrice 55 = .ok (.ireturn, 1) := by decide +kernel
theorem dX3_greatestCallingPrice_56 : decode cX3_greatestCallingPrice 56 = .ok (.iinc 5 1, 3) := by decide +kernel
theorem dX3_greatestCallingPrice_59 : decode cX3_greatestCallingPrice 59 = .ok (.goto (-29), 3) := by decide +kernel
theorem dX3_greatestCallingPrice_62 : decode cX3_greatestCallingPrice 62 = .ok (.iinc 2 (-1), 3) := by decide +kernel
theorem dX3_greatestCallingPrice_65 : decode cX3_greatestCallingPrice 65 = .ok (.goto (-52), 3) := by decide +kernel
theorem dX3_greatestCallingPrice_68 : decode cX3_greatestCallingPrice 68 = .ok (.ldc 188, 2) := by decide +kernel
theorem dX3_greatestCallingPrice_70 : decode cX3_greatestCallingPrice 70 = .ok (.ireturn, 1) := by decide +kernel
theorem dX3_tellNumber_0 : decode cX3_tellNumber 0 = .ok (.iload_n 1, 1) := by decide +kernel
theorem dX3_tellNumber_1 : decode cX3_tellNumber 1 = .ok (.tableswitch 187 0 23 #[111, 120, 127, 134, 139, 144, 149, 154, 187, 187, 187, 187, 187, 187, 187, 187, 187, 187, 187, 187, 159, 166, 173, 180], 111) := by decide +kernel
theorem dX3_tellNumber_112 : decode cX3_tellNumber 112 = .ok (.aload_n 0, 1) := by decide +kernel
theorem dX3_tellNumber_113 : decode cX3_tellNumber 113 = .ok (.aload_n 0, 1) := by decide +kernel
theorem dX3_tellNumber_114 : decode cX3_tellNumber 114 = .ok (.getfield 58, 3) := by decide +kernel
theorem dX3_tellNumber_117 : decode cX3_tellNumber 117 = .ok (.invokevirtual 206, 3) := by decide +kernel
theorem dX3_tellNumber_120 : decode cX3_tellNumber 120 = .ok (.ireturn, 1) := by decide +kernel
theorem dX3_tellNumber_121 : decode cX3_tellNumber 121 = .ok (.aload_n 0, 1) := by decide +kernel
theorem dX3_tellNumber_122 : decode cX3_tellNumber 122 = .ok (.iconst 0, 1) := by decide +kernel
theorem dX3_tellNumber_123 : decode cX3_tellNumber 123 = .ok (.iconst 2, 1) := by decide +kernel
theorem dX3_tellNumber_124 : decode cX3_tellNumber 124 = .ok (.invokevirtual 212, 3) := by decide +kernel
theorem dX3_tellNumber_127 : decode cX3_tellNumber 127 = .ok (.ireturn, 1) := by decide +kernel
theorem dX3_tellNumber_128 : decode cX3_tellNumber 128 = .ok (.aload_n 0, 1) := by decide +kernel
theorem dX3_tellNumber_129 : decode cX3_tellNumber 129 = .ok (.iconst 0, 1) := by decide +kernel
theorem dX3_tellNumber_130 : decode cX3_tellNumber 130 = .ok (.iconst 2, 1) := by decide +kernel
theorem dX3_tellNumber_131 : decode cX3_tellNumber 131 = .ok (.invokevirtual 209, 3) := by decide +kernel
theorem dX3_tellNumber_134 : decode cX3_tellNumber 134 = .ok (.ireturn, 1) := by decide +kernel
theorem dX3_tellNumber_135 : decode cX3_tellNumber 135 = .ok (.aload_n 0, 1) := by decide +kernel
theorem dX3_tellNumber_136 : decode cX3_tellNumber 136 = .ok (.getfield 55, 3) := by decide +kernel
theorem dX3_tellNumber_139 : decode cX3_tellNumber 139 = .ok (.ireturn, 1) := by decide +kernel
theorem dX3_tellNumber_140 : decode cX3_tellNumber 140 = .ok (.aload_n 0, 1) := by decide +kernel
theorem dX3_tellNumber_141 : decode cX3_tellNumber 141 = .ok (.getfield 58, 3) := by decide +kernel
theorem dX3_tellNumber_144 : decode cX3_tellNumber 144 = .ok (.ireturn, 1) := by decide +kernel
theorem dX3_tellNumber_145 : decode cX3_tellNumber 145 = .ok (.aload_n 0, 1) := by decide +kernel
theorem dX3_tellNumber_146 : decode cX3_tellNumber 146 = .ok (.getfield 61, 3) := by decide +kernel
theorem dX3_tellNumber_149 : decode cX3_tellNumber 149 = .ok (.ireturn, 1) := by decide +kernel
theorem dX3_tellNumber_150 : decode cX3_tellNumber 150 = .ok (.aload_n 0, 1) := by decide +kernel
theorem dX3_tellNumber_151 : decode cX3_tellNumber 151 = .ok (.getfield 64, 3) := by decide +kernel
theorem dX3_tellNumber_154 : decode cX3_tellNumber 154 = .ok (.ireturn, 1) := by decide +kernel
theorem dX3_tellNumber_155 : decode cX3_tellNumber 155 = .ok (.aload_n 0, 1) := by decide +kernel
theorem dX3_tellNumber_156 : decode cX3_tellNumber 156 = .ok (.getfield 67, 3) := by decide +kernel
theorem dX3_tellNumber_159 : decode cX3_tellNumber 159 = .ok (.ireturn, 1) := by decide +kernel
theorem dX3_tellNumber_160 : decode cX3_tellNumber 160 = .ok (.aload_n 0, 1) := by decide +kernel
theorem dX3_tellNumber_161 : decode cX3_tellNumber 161 = .ok (.getfield 27, 3) := by decide +kernel
theorem dX3_tellNumber_164 : decode cX3_tellNumber 164 = .ok (.iconst 0, 1) := by decide +kernel
theorem dX3_tellNumber_165 : decode cX3_tellNumber 165 = .ok (.iaload, 1) := by decide +kernel
theorem dX3_tellNumber_166 : decode cX3_tellNumber 166 = .ok (.ireturn, 1) := by decide +kernel
theorem dX3_tellNumber_167 : decode cX3_tellNumber 167 = .ok (.aload_n 0, 1) := by decide +kernel
theorem dX3_tellNumber_168 : decode cX3_tellNumber 168 = .ok (.getfield 27, 3) := by decide +kernel
theorem dX3_tellNumber_171 : decode cX3_tellNumber 171 = .ok (.iconst 1, 1) := by decide +kernel
theorem dX3_tellNumber_172 : decode cX3_tellNumber 172 = .ok (.iaload, 1) := by decide +kernel
theorem dX3_tellNumber_173 : decode cX3_tellNumber 173 = .ok (.ireturn, 1) := by decide +kernel
theorem dX3_tellNumber_174 : decode cX3_tellNumber 174 = .ok (.aload_n 0, 1) := by decide +kernel
theorem dX3_tellNumber_175 : decode cX3_tellNumber 175 = .ok (.getfield 27, 3) := by decide +kernel
theorem dX3_tellNumber_178 : decode cX3_tellNumber 178 = .ok (.iconst 2, 1) := by decide +kernel
theorem dX3_tellNumber_179 : decode cX3_tellNumber 179 = .ok (.iaload, 1) := by decide +kernel
theorem dX3_tellNumber_180 : decode cX3_tellNumber 180 = .ok (.ireturn, 1) := by decide +kernel
theorem dX3_tellNumber_181 : decode cX3_tellNumber 181 = .ok (.aload_n 0, 1) := by decide +kernel
theorem dX3_tellNumber_182 : decode cX3_tellNumber 182 = .ok (.getfield 27, 3) := by decide +kernel
theorem dX3_tellNumber_185 : decode cX3_tellNumber 185 = .ok (.iconst 3, 1) := by decide +kernel
theorem dX3_tellNumber_186 : decode cX3_tellNumber 186 = .ok (.iaload, 1) := by decide +kernel
theorem dX3_tellNumber_187 : decode cX3_tellNumber 187 = .ok (.ireturn, 1) := by decide +kernel
theorem dX3_tellNumber_188 : decode cX3_tellNumber 188 = .ok (.ldc 74, 2) := by decide +kernel
theorem dX3_tellNumber_190 : decode cX3_tellNumber 190 = .ok (.ireturn, 1) := by decide +kernel
theorem dX3_grainOf_0 : decode cX3_grainOf 0 = .ok (.iconst 0, 1) := by decide +kernel
theorem dX3_grainOf_1 : decode cX3_grainOf 1 = .ok (.istore_n 3, 1) := by decide +kernel
theorem dX3_grainOf_2 : decode cX3_grainOf 2 = .ok (.aload_n 0, 1) := by decide +kernel
theorem dX3_grainOf_3 : decode cX3_grainOf 3 = .ok (.getfield 11, 3) := by decide +kernel
theorem dX3_grainOf_6 : decode cX3_grainOf 6 = .ok (.astore 4, 2) := by decide +kernel
theorem dX3_grainOf_8 : decode cX3_grainOf 8 = .ok (.aload 4, 2) := by decide +kernel
theorem dX3_grainOf_10 : decode cX3_grainOf 10 = .ok (.arraylength, 1) := by decide +kernel
theorem dX3_grainOf_11 : decode cX3_grainOf 11 = .ok (.istore 5, 2) := by decide +kernel
theorem dX3_grainOf_13 : decode cX3_grainOf 13 = .ok (.iconst 0, 1) := by decide +kernel
theorem dX3_grainOf_14 : decode cX3_grainOf 14 = .ok (.istore 6, 2) := by decide +kernel
theorem dX3_grainOf_16 : decode cX3_grainOf 16 = .ok (.iload 6, 2) := by decide +kernel
theorem dX3_grainOf_18 : decode cX3_grainOf 18 = .ok (.iload 5, 2) := by decide +kernel
theorem dX3_grainOf_20 : decode cX3_grainOf 20 = .ok (.if_icmp .ge 42, 3) := by decide +kernel
theorem dX3_grainOf_23 : decode cX3_grainOf 23 = .ok (.aload 4, 2) := by decide +kernel
theorem dX3_grainOf_25 : decode cX3_grainOf 25 = .ok (.iload 6, 2) := by decide +kernel
theorem dX3_grainOf_27 : decode cX3_grainOf 27 = .ok (.aaload, 1) := by decide +kernel
theorem dX3_grainOf_28 : decode cX3_grainOf 28 = .ok (.astore 7, 2) := by decide +kernel
theorem dX3_grainOf_30 : decode cX3_grainOf 30 = .ok (.aload 7, 2) := by decide +kernel
theorem dX3_grainOf_32 : decode cX3_grainOf 32 = .ok (.getfield 37, 3) := by decide +kernel
theorem dX3_grainOf_35 : decode cX3_grainOf 35 = .ok (.iload_n 1, 1) := by decide +kernel
theorem dX3_grainOf_36 : decode cX3_grainOf 36 = .ok (.if_icmp .lt 20, 3) := by decide +kernel
theorem dX3_grainOf_39 : decode cX3_grainOf 39 = .ok (.aload 7, 2) := by decide +kernel
theorem dX3_grainOf_41 : decode cX3_grainOf 41 = .ok (.getfield 37, 3) := by decide +kernel
theorem dX3_grainOf_44 : decode cX3_grainOf 44 = .ok (.iload_n 2, 1) := by decide +kernel
theorem dX3_grainOf_45 : decode cX3_grainOf 45 = .ok (.if_icmp .gt 11, 3) := by decide +kernel
theorem dX3_grainOf_48 : decode cX3_grainOf 48 = .ok (.iload_n 3, 1) := by decide +kernel
theorem dX3_grainOf_49 : decode cX3_grainOf 49 = .ok (.aload 7, 2) := by decide +kernel
theorem dX3_grainOf_51 : decode cX3_grainOf 51 = .ok (.getfield 172, 3) := by decide +kernel
theorem dX3_grainOf_54 : decode cX3_grainOf 54 = .ok (.iadd, 1) := by decide +kernel
theorem dX3_grainOf_55 : decode cX3_grainOf 55 = .ok (.istore_n 3, 1) := by decide +kernel
theorem dX3_grainOf_56 : decode cX3_grainOf 56 = .ok (.iinc 6 1, 3) := by decide +kernel
theorem dX3_grainOf_59 : decode cX3_grainOf 59 = .ok (.goto (-43), 3) := by decide +kernel
theorem dX3_grainOf_62 : decode cX3_grainOf 62 = .ok (.iload_n 3, 1) := by decide +kernel
theorem dX3_grainOf_63 : decode cX3_grainOf 63 = .ok (.ireturn, 1) := by decide +kernel
theorem dX3_roomIn_0 : decode cX3_roomIn 0 = .ok (.iconst 0, 1) := by decide +kernel
theorem dX3_roomIn_1 : decode cX3_roomIn 1 = .ok (.istore_n 2, 1) := by decide +kernel
theorem dX3_roomIn_2 : decode cX3_roomIn 2 = .ok (.aload_n 0, 1) := by decide +kernel
theorem dX3_roomIn_3 : decode cX3_roomIn 3 = .ok (.getfield 11, 3) := by decide +kernel
theorem dX3_roomIn_6 : decode cX3_roomIn 6 = .ok (.astore_n 3, 1) := by decide +kernel
theorem dX3_roomIn_7 : decode cX3_roomIn 7 = .ok (.aload_n 3, 1) := by decide +kernel
theorem dX3_roomIn_8 : decode cX3_roomIn 8 = .ok (.arraylength, 1) := by decide +kernel
theorem dX3_roomIn_9 : decode cX3_roomIn 9 = .ok (.istore 4, 2) := by decide +kernel
theorem dX3_roomIn_11 : decode cX3_roomIn 11 = .ok (.iconst 0, 1) := by decide +kernel
theorem dX3_roomIn_12 : decode cX3_roomIn 12 = .ok (.istore 5, 2) := by decide +kernel
theorem dX3_roomIn_14 : decode cX3_roomIn 14 = .ok (.iload 5, 2) := by decide +kernel
theorem dX3_roomIn_16 : decode cX3_roomIn 16 = .ok (.iload 4, 2) := by decide +kernel
theorem dX3_roomIn_18 : decode cX3_roomIn 18 = .ok (.if_icmp .ge 36, 3) := by decide +kernel
theorem dX3_roomIn_21 : decode cX3_roomIn 21 = .ok (.aload_n 3, 1) := by decide +kernel
theorem dX3_roomIn_22 : decode cX3_roomIn 22 = .ok (.iload 5, 2) := by decide +kernel
theorem dX3_roomIn_24 : decode cX3_roomIn 24 = .ok (.aaload, 1) := by decide +kernel
theorem dX3_roomIn_25 : decode cX3_roomIn 25 = .ok (.astore 6, 2) := by decide +kernel
theorem dX3_roomIn_27 : decode cX3_roomIn 27 = .ok (.aload 6, 2) := by decide +kernel
theorem dX3_roomIn_29 : decode cX3_roomIn 29 = .ok (.getfield 37, 3) := by decide +kernel
theorem dX3_roomIn_32 : decode cX3_roomIn 32 = .ok (.iload_n 1, 1) := by decide +kernel
theorem dX3_roomIn_33 : decode cX3_roomIn 33 = .ok (.if_icmp .ne 15, 3) := by decide +kernel
theorem dX3_roomIn_36 : decode cX3_roomIn 36 = .ok (.iload_n 2, 1) := by decide +kernel
theorem dX3_roomIn_37 : decode cX3_roomIn 37 = .ok (.sipush 2000, 3) := by decide +kernel
theorem dX3_roomIn_40 : decode cX3_roomIn 40 = .ok (.aload 6, 2) := by decide +kernel
theorem dX3_roomIn_42 : decode cX3_roomIn 42 = .ok (.getfield 172, 3) := by decide +kernel
theorem dX3_roomIn_45 : decode cX3_roomIn 45 = .ok (.isub, 1) := by decide +kernel
theorem dX3_roomIn_46 : decode cX3_roomIn 46 = .ok (.iadd, 1) := by decide +kernel
theorem dX3_roomIn_47 : decode cX3_roomIn 47 = .ok (.istore_n 2, 1) := by decide +kernel
theorem dX3_roomIn_48 : decode cX3_roomIn 48 = .ok (.iinc 5 1, 3) := by decide +kernel
theorem dX3_roomIn_51 : decode cX3_roomIn 51 = .ok (.goto (-37), 3) := by decide +kernel
theorem dX3_roomIn_54 : decode cX3_roomIn 54 = .ok (.iload_n 2, 1) := by decide +kernel
theorem dX3_roomIn_55 : decode cX3_roomIn 55 = .ok (.ireturn, 1) := by decide +kernel
theorem dX3_surplus_0 : decode cX3_surplus 0 = .ok (.aload_n 0, 1) := by decide +kernel
theorem dX3_surplus_1 : decode cX3_surplus 1 = .ok (.iconst 0, 1) := by decide +kernel
theorem dX3_surplus_2 : decode cX3_surplus 2 = .ok (.iload_n 1, 1) := by decide +kernel
theorem dX3_surplus_3 : decode cX3_surplus 3 = .ok (.invokevirtual 209, 3) := by decide +kernel
theorem dX3_surplus_6 : decode cX3_surplus 6 = .ok (.aload_n 0, 1) := by decide +kernel
theorem dX3_surplus_7 : decode cX3_surplus 7 = .ok (.iconst 0, 1) := by decide +kernel
theorem dX3_surplus_8 : decode cX3_surplus 8 = .ok (.iload_n 1, 1) := by decide +kernel
theorem dX3_surplus_9 : decode cX3_surplus 9 = .ok (.invokevirtual 212, 3) := by decide +kernel
theorem dX3_surplus_12 : decode cX3_surplus 12 = .ok (.isub, 1) := by decide +kernel
theorem dX3_surplus_13 : decode cX3_surplus 13 = .ok (.ireturn, 1) := by decide +kernel
theorem dX3_greatestLoss_0 : decode cX3_greatestLoss 0 = .ok (.aload_n 1, 1) := by decide +kernel
theorem dX3_greatestLoss_1 : decode cX3_greatestLoss 1 = .ok (.getfield 172, 3) := by decide +kernel
theorem dX3_greatestLoss_4 : decode cX3_greatestLoss 4 = .ok (.istore_n 2, 1) := by decide +kernel
theorem dX3_greatestLoss_5 : decode cX3_greatestLoss 5 = .ok (.aload_n 1, 1) := by decide +kernel
theorem dX3_greatestLoss_6 : decode cX3_greatestLoss 6 = .ok (.getfield 37, 3) := by decide +kernel
theorem dX3_greatestLoss_9 : decode cX3_greatestLoss 9 = .ok (.istore_n 3, 1) := by decide +kernel
theorem dX3_greatestLoss_10 : decode cX3_greatestLoss 10 = .ok (.iload_n 3, 1) := by decide +kernel
theorem dX3_greatestLoss_11 : decode cX3_greatestLoss 11 = .ok (.iconst 3, 1) := by decide +kernel
theorem dX3_greatestLoss_12 : decode cX3_greatestLoss 12 = .ok (.if_icmp .ge 19, 3) := by decide +kernel
theorem dX3_greatestLoss_15 : decode cX3_greatestLoss 15 = .ok (.iload_n 2, 1) := by decide +kernel
theorem dX3_greatestLoss_16 : decode cX3_greatestLoss 16 = .ok (.aload_n 0, 1) := by decide +kernel
theorem dX3_greatestLoss_17 : decode cX3_greatestLoss 17 = .ok (.iload_n 3, 1) := by decide +kernel
theorem dX3_greatestLoss_18 : decode cX3_greatestLoss 18 = .ok (.invokevirtual 173, 3) := by decide +kernel
theorem dX3_greatestLoss_21 : decode cX3_greatestLoss 21 = .ok (.invokestatic 218, 3) := by decide +kernel
theorem dX3_greatestLoss_24 : decode cX3_greatestLoss 24 = .ok (.istore_n 2, 1) := by decide +kernel
theorem dX3_greatestLoss_25 : decode cX3_greatestLoss 25 = .ok (.iinc 3 1, 3) := by decide +kernel
theorem dX3_greatestLoss_28 : decode cX3_greatestLoss 28 = .ok (.goto (-18), 3) := by decide +kernel
theorem dX3_greatestLoss_31 : decode cX3_greatestLoss 31 = .ok (.iload_n 2, 1) := by decide +kernel
theorem dX3_greatestLoss_32 : decode cX3_greatestLoss 32 = .ok (.ireturn, 1) := by decide +kernel
theorem dX3_fillBins_0 : decode cX3_fillBins 0 = .ok (.iload_n 2, 1) := by decide +kernel
theorem dX3_fillBins_1 : decode cX3_fillBins 1 = .ok (.istore_n 3, 1) := by decide +kernel
theorem dX3_fillBins_2 : decode cX3_fillBins 2 = .ok (.aload_n 0, 1) := by decide +kernel
theorem dX3_fillBins_3 : decode cX3_fillBins 3 = .ok (.getfield 11, 3) := by decide +kernel
theorem dX3_fillBins_6 : decode cX3_fillBins 6 = .ok (.astore 4, 2) := by decide +kernel
theorem dX3_fillBins_8 : decode cX3_fillBins 8 = .ok (.aload 4, 2) := by decide +kernel
theorem dX3_fillBins_10 : decode cX3_fillBins 10 = .ok (.arraylength, 1) := by decide +kernel
theorem dX3_fillBins_11 : decode cX3_fillBins 11 = .ok (.istore 5, 2) := by decide +kernel
theorem dX3_fillBins_13 : decode cX3_fillBins 13 = .ok (.iconst 0, 1) := by decide +kernel
theorem dX3_fillBins_14 : decode cX3_fillBins 14 = .ok (.istore 6, 2) := by decide +kernel
theorem dX3_fillBins_16 : decode cX3_fillBins 16 = .ok (.iload 6, 2) := by decide +kernel
theorem dX3_fillBins_18 : decode cX3_fillBins 18 = .ok (.iload 5, 2) := by decide +kernel
theorem dX3_fillBins_20 : decode cX3_fillBins 20 = .ok (.if_icmp .ge 57, 3) := by decide +kernel
theorem dX3_fillBins_23 : decode cX3_fillBins 23 = .ok (.aload 4, 2) := by decide +kernel
theorem dX3_fillBins_25 : decode cX3_fillBins 25 = .ok (.iload 6, 2) := by decide +kernel
theorem dX3_fillBins_27 : decode cX3_fillBins 27 = .ok (.aaload, 1) := by decide +kernel
theorem dX3_fillBins_28 : decode cX3_fillBins 28 = .ok (.astore 7, 2) := by decide +kernel
theorem dX3_fillBins_30 : decode cX3_fillBins 30 = .ok (.aload 7, 2) := by decide +kernel
theorem dX3_fillBins_32 : decode cX3_fillBins 32 = .ok (.getfield 37, 3) := by decide +kernel
theorem dX3_fillBins_35 : decode cX3_fillBins 35 = .ok (.iload_n 1, 1) := by decide +kernel
theorem dX3_fillBins_36 : decode cX3_fillBins 36 = .ok (.if_icmp .ne 35, 3) := by decide +kernel
theorem dX3_fillBins_39 : decode cX3_fillBins 39 = .ok (.iload_n 3, 1) := by decide +kernel
theorem dX3_fillBins_40 : decode cX3_fillBins 40 = .ok (.sipush 2000, 3) := by decide +kernel
theorem dX3_fillBins_43 : decode cX3_fillBins 43 = .ok (.aload 7, 2) := by decide +kernel
theorem dX3_fillBins_45 : decode cX3_fillBins 45 = .ok (.getfield 172, 3) := by decide +kernel
theorem dX3_fillBins_48 : decode cX3_fillBins 48 = .ok (.isub, 1) := by decide +kernel
theorem dX3_fillBins_49 : decode cX3_fillBins 49 = .ok (.invokestatic 218, 3) := by decide +kernel
theorem dX3_fillBins_52 : decode cX3_fillBins 52 = .ok (.istore 8, 2) := by decide +kernel
theorem dX3_fillBins_54 : decode cX3_fillBins 54 = .ok (.aload 7, 2) := by decide +kernel
theorem dX3_fillBins_56 : decode cX3_fillBins 56 = .ok (.dup, 1) := by decide +kernel
theorem dX3_fillBins_57 : decode cX3_fillBins 57 = .ok (.getfield 172, 3) := by decide +kernel
theorem dX3_fillBins_60 : decode cX3_fillBins 60 = .ok (.iload 8, 2) := by decide +kernel
theorem dX3_fillBins_62 : decode cX3_fillBins 62 = .ok (.iadd, 1) := by decide +kernel
theorem dX3_fillBins_63 : decode cX3_fillBins 63 = .ok (.putfield 172, 3) := by decide +kernel
theorem dX3_fillBins_66 : decode cX3_fillBins 66 = .ok (.iload_n 3, 1) := by decide +kernel
theorem dX3_fillBins_67 : decode cX3_fillBins 67 = .ok (.iload 8, 2) := by decide +kernel
theorem dX3_fillBins_69 : decode cX3_fillBins 69 = .ok (.isub, 1) := by decide +kernel
theorem dX3_fillBins_70 : decode cX3_fillBins 70 = .ok (.istore_n 3, 1) := by decide +kernel
theorem dX3_fillBins_71 : decode cX3_fillBins 71 = .ok (.iinc 6 1, 3) := by decide +kernel
theorem dX3_fillBins_74 : decode cX3_fillBins 74 = .ok (.goto (-58), 3) := by decide +kernel
theorem dX3_fillBins_77 : decode cX3_fillBins 77 = .ok (.return_, 1) := by decide +kernel
theorem dX3_takeOut_0 : decode cX3_takeOut 0 = .ok (.iload_n 2, 1) := by decide +kernel
theorem dX3_takeOut_1 : decode cX3_takeOut 1 = .ok (.istore_n 3, 1) := by decide +kernel
theorem dX3_takeOut_2 : decode cX3_takeOut 2 = .ok (.aload_n 0, 1) := by decide +kernel
theorem dX3_takeOut_3 : decode cX3_takeOut 3 = .ok (.getfield 11, 3) := by decide +kernel
theorem dX3_takeOut_6 : decode cX3_takeOut 6 = .ok (.astore 4, 2) := by decide +kernel
theorem dX3_takeOut_8 : decode cX3_takeOut 8 = .ok (.aload 4, 2) := by decide +kernel
theorem dX3_takeOut_10 : decode cX3_takeOut 10 = .ok (.arraylength, 1) := by decide +kernel
theorem dX3_takeOut_11 : decode cX3_takeOut 11 = .ok (.istore 5, 2) := by decide +kernel
theorem dX3_takeOut_13 : decode cX3_takeOut 13 = .ok (.iconst 0, 1) := by decide +kernel
theorem dX3_takeOut_14 : decode cX3_takeOut 14 = .ok (.istore 6, 2) := by decide +kernel
theorem dX3_takeOut_16 : decode cX3_takeOut 16 = .ok (.iload 6, 2) := by decide +kernel
theorem dX3_takeOut_18 : decode cX3_takeOut 18 = .ok (.iload 5, 2) := by decide +kernel
theorem dX3_takeOut_20 : decode cX3_takeOut 20 = .ok (.if_icmp .ge 53, 3) := by decide +kernel
theorem dX3_takeOut_23 : decode cX3_takeOut 23 = .ok (.aload 4, 2) := by decide +kernel
theorem dX3_takeOut_25 : decode cX3_takeOut 25 = .ok (.iload 6, 2) := by decide +kernel
theorem dX3_takeOut_27 : decode cX3_takeOut 27 = .ok (.aaload, 1) := by decide +kernel
theorem dX3_takeOut_28 : decode cX3_takeOut 28 = .ok (.astore 7, 2) := by decide +kernel
theorem dX3_takeOut_30 : decode cX3_takeOut 30 = .ok (.aload 7, 2) := by decide +kernel
theorem dX3_takeOut_32 : decode cX3_takeOut 32 = .ok (.getfield 37, 3) := by decide +kernel
theorem dX3_takeOut_35 : decode cX3_takeOut 35 = .ok (.iload_n 1, 1) := by decide +kernel
theorem dX3_takeOut_36 : decode cX3_takeOut 36 = .ok (.if_icmp .ne 31, 3) := by decide +kernel
theorem dX3_takeOut_39 : decode cX3_takeOut 39 = .ok (.iload_n 3, 1) := by decide +kernel
theorem dX3_takeOut_40 : decode cX3_takeOut 40 = .ok (.aload 7, 2) := by decide +kernel
theorem dX3_takeOut_42 : decode cX3_takeOut 42 = .ok (.getfield 172, 3) := by decide +kernel
theorem dX3_takeOut_45 : decode cX3_takeOut 45 = .ok (.invokestatic 218, 3) := by decide +kernel
theorem dX3_takeOut_48 : decode cX3_takeOut 48 = .ok (.istore 8, 2) := by decide +kernel
theorem dX3_takeOut_50 : decode cX3_takeOut 50 = .ok (.aload 7, 2) := by decide +kernel
theorem dX3_takeOut_52 : decode cX3_takeOut 52 = .ok (.dup, 1) := by decide +kernel
theorem dX3_takeOut_53 : decode cX3_takeOut 53 = .ok (.getfield 172, 3) := by decide +kernel
theorem dX3_takeOut_56 : decode cX3_takeOut 56 = .ok (.iload 8, 2) := by decide +kernel
theorem dX3_takeOut_58 : decode cX3_takeOut 58 = .ok (.isub, 1) := by decide +kernel
theorem dX3_takeOut_59 : decode cX3_takeOut 59 = .ok (.putfield 172, 3) := by decide +kernel
theorem dX3_takeOut_62 : decode cX3_takeOut 62 = .ok (.iload_n 3, 1) := by decide +kernel
theorem dX3_takeOut_63 : decode cX3_takeOut 63 = .ok (.iload 8, 2) := by decide +kernel
theorem dX3_takeOut_65 : decode cX3_takeOut 65 = .ok (.isub, 1) := by decide +kernel
theorem dX3_takeOut_66 : decode cX3_takeOut 66 = .ok (.istore_n 3, 1) := by decide +kernel
theorem dX3_takeOut_67 : decode cX3_takeOut 67 = .ok (.iinc 6 1, 3) := by decide +kernel
theorem dX3_takeOut_70 : decode cX3_takeOut 70 = .ok (.goto (-54), 3) := by decide +kernel
theorem dX3_takeOut_73 : decode cX3_takeOut 73 = .ok (.iload_n 3, 1) := by decide +kernel
theorem dX3_takeOut_74 : decode cX3_takeOut 74 = .ok (.ireturn, 1) := by decide +kernel
theorem dX3_find_0 : decode cX3_find 0 = .ok (.aload_n 0, 1) := by decide +kernel
theorem dX3_find_1 : decode cX3_find 1 = .ok (.getfield 19, 3) := by decide +kernel
theorem dX3_find_4 : decode cX3_find 4 = .ok (.astore_n 2, 1) := by decide +kernel
theorem dX3_find_5 : decode cX3_find 5 = .ok (.aload_n 2, 1) := by decide +kernel
theorem dX3_find_6 : decode cX3_find 6 = .ok (.arraylength, 1) := by decide +kernel
theorem dX3_find_7 : decode cX3_find 7 = .ok (.istore_n 3, 1) := by decide +kernel
theorem dX3_find_8 : decode cX3_find 8 = .ok (.iconst 0, 1) := by decide +kernel
theorem dX3_find_9 : decode cX3_find 9 = .ok (.istore 4, 2) := by decide +kernel
theorem dX3_find_11 : decode cX3_find 11 = .ok (.iload 4, 2) := by decide +kernel
theorem dX3_find_13 : decode cX3_find 13 = .ok (.iload_n 3, 1) := by decide +kernel
theorem dX3_find_14 : decode cX3_find 14 = .ok (.if_icmp .ge 35, 3) := by decide +kernel
theorem dX3_find_17 : decode cX3_find 17 = .ok (.aload_n 2, 1) := by decide +kernel
theorem dX3_find_18 : decode cX3_find 18 = .ok (.iload 4, 2) := by decide +kernel
theorem dX3_find_20 : decode cX3_find 20 = .ok (.aaload, 1) := by decide +kernel
theorem dX3_find_21 : decode cX3_find 21 = .ok (.astore 5, 2) := by decide +kernel
theorem dX3_find_23 : decode cX3_find 23 = .ok (.aload 5, 2) := by decide +kernel
theorem dX3_find_25 : decode cX3_find 25 = .ok (.invokevirtual 203, 3) := by decide +kernel
theorem dX3_find_28 : decode cX3_find 28 = .ok (.ifCond .eq 15, 3) := by decide +kernel
theorem dX3_find_31 : decode cX3_find 31 = .ok (.aload 5, 2) := by decide +kernel
theorem dX3_find_33 : decode cX3_find 33 = .ok (.getfield 96, 3) := by decide +kernel
theorem dX3_find_36 : decode cX3_find 36 = .ok (.iload_n 1, 1) := by decide +kernel
theorem dX3_find_37 : decode cX3_find 37 = .ok (.if_icmp .ne 6, 3) := by decide +kernel
theorem dX3_find_40 : decode cX3_find 40 = .ok (.aload 5, 2) := by decide +kernel
theorem dX3_find_42 : decode cX3_find 42 = .ok (.areturn, 1) := by decide +kernel
theorem dX3_find_43 : decode cX3_find 43 = .ok (.iinc 4 1, 3) := by decide +kernel
theorem dX3_find_46 : decode cX3_find 46 = .ok (.goto (-35), 3) := by decide +kernel
theorem dX3_find_49 : decode cX3_find 49 = .ok (.aconst_null, 1) := by decide +kernel
theorem dX3_find_50 : decode cX3_find 50 = .ok (.areturn, 1) := by decide +kernel
theorem dX3_freePlace_0 : decode cX3_freePlace 0 = .ok (.aload_n 0, 1) := by decide +kernel
theorem dX3_freePlace_1 : decode cX3_freePlace 1 = .ok (.getfield 19, 3) := by decide +kernel
theorem dX3_freePlace_4 : decode cX3_freePlace 4 = .ok (.astore_n 1, 1) := by decide +kernel
theorem dX3_freePlace_5 : decode cX3_freePlace 5 = .ok (.aload_n 1, 1) := by decide +kernel
theorem dX3_freePlace_6 : decode cX3_freePlace 6 = .ok (.arraylength, 1) := by decide +kernel
theorem dX3_freePlace_7 : decode cX3_freePlace 7 = .ok (.istore_n 2, 1) := by decide +kernel
theorem dX3_freePlace_8 : decode cX3_freePlace 8 = .ok (.iconst 0, 1) := by decide +kernel
theorem dX3_freePlace_9 : decode cX3_freePlace 9 = .ok (.istore_n 3, 1) := by decide +kernel
theorem dX3_freePlace_10 : decode cX3_freePlace 10 = .ok (.iload_n 3, 1) := by decide +kernel
theorem dX3_freePlace_11 : decode cX3_freePlace 11 = .ok (.iload_n 2, 1) := by decide +kernel
theorem dX3_freePlace_12 : decode cX3_freePlace 12 = .ok (.if_icmp .ge 25, 3) := by decide +kernel
theorem dX3_freePlace_15 : decode cX3_freePlace 15 = .ok (.aload_n 1, 1) := by decide +kernel
theorem dX3_freePlace_16 : decode cX3_freePlace 16 = .ok (.iload_n 3, 1) := by decide +kernel
theorem dX3_freePlace_17 : decode cX3_freePlace 17 = .ok (.aaload, 1) := by decide +kernel
theorem dX3_freePlace_18 : decode cX3_freePlace 18 = .ok (.astore 4, 2) := by decide +kernel
theorem dX3_freePlace_20 : decode cX3_freePlace 20 = .ok (.aload 4, 2) := by decide +kernel
theorem dX3_freePlace_22 : decode cX3_freePlace 22 = .ok (.invokevirtual 203, 3) := by decide +kernel
theorem dX3_freePlace_25 : decode cX3_freePlace 25 = .ok (.ifCond .ne 6, 3) := by decide +kernel
theorem dX3_freePlace_28 : decode cX3_freePlace 28 = .ok (.aload 4, 2) := by decide +kernel
theorem dX3_freePlace_30 : decode cX3_freePlace 30 = .ok (.areturn, 1) := by decide +kernel
theorem dX3_freePlace_31 : decode cX3_freePlace 31 = .ok (.iinc 3 1, 3) := by decide +kernel
theorem dX3_freePlace_34 : decode cX3_freePlace 34 = .ok (.goto (-24), 3) := by decide +kernel
theorem dX3_freePlace_37 : decode cX3_freePlace 37 = .ok (.aconst_null, 1) := by decide +kernel
theorem dX3_freePlace_38 : decode cX3_freePlace 38 = .ok (.areturn, 1) := by decide +kernel
theorem dX3_nextNumber_0 : decode cX3_nextNumber 0 = .ok (.aload_n 0, 1) := by decide +kernel
theorem dX3_nextNumber_1 : decode cX3_nextNumber 1 = .ok (.getfield 58, 3) := by decide +kernel
theorem dX3_nextNumber_4 : decode cX3_nextNumber 4 = .ok (.istore_n 1, 1) := by decide +kernel
theorem dX3_nextNumber_5 : decode cX3_nextNumber 5 = .ok (.aload_n 0, 1) := by decide +kernel
theorem dX3_nextNumber_6 : decode cX3_nextNumber 6 = .ok (.dup, 1) := by decide +kernel
theorem dX3_nextNumber_7 : decode cX3_nextNumber 7 = .ok (.getfield 58, 3) := by decide +kernel
theorem dX3_nextNumber_10 : decode cX3_nextNumber 10 = .ok (.iconst 1, 1) := by decide +kernel
theorem dX3_nextNumber_11 : decode cX3_nextNumber 11 = .ok (.iadd, 1) := by decide +kernel
theorem dX3_nextNumber_12 : decode cX3_nextNumber 12 = .ok (.putfield 58, 3) := by decide +kernel
theorem dX3_nextNumber_15 : decode cX3_nextNumber 15 = .ok (.iload_n 1, 1) := by decide +kernel
theorem dX3_nextNumber_16 : decode cX3_nextNumber 16 = .ok (.ireturn, 1) := by decide +kernel
theorem dX3_receiptsBelow_0 : decode cX3_receiptsBelow 0 = .ok (.iconst 0, 1) := by decide +kernel
theorem dX3_receiptsBelow_1 : decode cX3_receiptsBelow 1 = .ok (.istore_n 2, 1) := by decide +kernel
theorem dX3_receiptsBelow_2 : decode cX3_receiptsBelow 2 = .ok (.aload_n 0, 1) := by decide +kernel
theorem dX3_receiptsBelow_3 : decode cX3_receiptsBelow 3 = .ok (.getfield 19, 3) := by decide +kernel
theorem dX3_receiptsBelow_6 : decode cX3_receiptsBelow 6 = .ok (.astore_n 3, 1) := by decide +kernel
theorem dX3_receiptsBelow_7 : decode cX3_receiptsBelow 7 = .ok (.aload_n 3, 1) := by decide +kernel
theorem dX3_receiptsBelow_8 : decode cX3_receiptsBelow 8 = .ok (.arraylength, 1) := by decide +kernel
theorem dX3_receiptsBelow_9 : decode cX3_receiptsBelow 9 = .ok (.istore 4, 2) := by decide +kernel
theorem dX3_receiptsBelow_11 : decode cX3_receiptsBelow 11 = .ok (.iconst 0, 1) := by decide +kernel
theorem dX3_receiptsBelow_12 : decode cX3_receiptsBelow 12 = .ok (.istore 5, 2) := by decide +kernel
theorem dX3_receiptsBelow_14 : decode cX3_receiptsBelow 14 = .ok (.iload 5, 2) := by decide +kernel
theorem dX3_receiptsBelow_16 : decode cX3_receiptsBelow 16 = .ok (.iload 4, 2) := by decide +kernel
theorem dX3_receiptsBelow_18 : decode cX3_receiptsBelow 18 = .ok (.if_icmp .ge 35, 3) := by decide +kernel
theorem dX3_receiptsBelow_21 : decode cX3_receiptsBelow 21 = .ok (.aload_n 3, 1) := by decide +kernel
theorem dX3_receiptsBelow_22 : decode cX3_receiptsBelow 22 = .ok (.iload 5, 2) := by decide +kernel
theorem dX3_receiptsBelow_24 : decode cX3_receiptsBelow 24 = .ok (.aaload, 1) := by decide +kernel
theorem dX3_receiptsBelow_25 : decode cX3_receiptsBelow 25 = .ok (.astore 6, 2) := by decide +kernel
theorem dX3_receiptsBelow_27 : decode cX3_receiptsBelow 27 = .ok (.aload 6, 2) := by decide +kernel
theorem dX3_receiptsBelow_29 : decode cX3_receiptsBelow 29 = .ok (.invokevirtual 203, 3) := by decide +kernel
theorem dX3_receiptsBelow_32 : decode cX3_receiptsBelow 32 = .ok (.ifCond .eq 15, 3) := by decide +kernel
theorem dX3_receiptsBelow_35 : decode cX3_receiptsBelow 35 = .ok (.aload 6, 2) := by decide +kernel
theorem dX3_receiptsBelow_37 : decode cX3_receiptsBelow 37 = .ok (.getfield 96, 3) := by decide +kernel
theorem dX3_receiptsBelow_40 : decode cX3_receiptsBelow 40 = .ok (.iload_n 1, 1) := by decide +kernel
theorem dX3_receiptsBelow_41 : decode cX3_receiptsBelow 41 = .ok (.if_icmp .ge 6, 3) := by decide +kernel
theorem dX3_receiptsBelow_44 : decode cX3_receiptsBelow 44 = .ok (.iinc 2 1, 3) := by decide +kernel
theorem dX3_receiptsBelow_47 : decode cX3_receiptsBelow 47 = .ok (.iinc 5 1, 3) := by decide +kernel
theorem dX3_receiptsBelow_50 : decode cX3_receiptsBelow 50 = .ok (.goto (-36), 3) := by decide +kernel
theorem dX3_receiptsBelow_53 : decode cX3_receiptsBelow 53 = .ok (.iload_n 2, 1) := by decide +kernel
theorem dX3_receiptsBelow_54 : decode cX3_receiptsBelow 54 = .ok (.ireturn, 1) := by decide +kernel
theorem dX3_receiptsOf_0 : decode cX3_receiptsOf 0 = .ok (.iconst 0, 1) := by decide +kernel
theorem dX3_receiptsOf_1 : decode cX3_receiptsOf 1 = .ok (.istore_n 3, 1) := by decide +kernel
theorem dX3_receiptsOf_2 : decode cX3_receiptsOf 2 = .ok (.aload_n 0, 1) := by decide +kernel
theorem dX3_receiptsOf_3 : decode cX3_receiptsOf 3 = .ok (.getfield 19, 3) := by decide +kernel
theorem dX3_receiptsOf_6 : decode cX3_receiptsOf 6 = .ok (.astore 4, 2) := by decide +kernel
theorem dX3_receiptsOf_8 : decode cX3_receiptsOf 8 = .ok (.aload 4, 2) := by decide +kernel
theorem dX3_receiptsOf_10 : decode cX3_receiptsOf 10 = .ok (.arraylength, 1) := by decide +kernel
theorem dX3_receiptsOf_11 : decode cX3_receiptsOf 11 = .ok (.istore 5, 2) := by decide +kernel
theorem dX3_receiptsOf_13 : decode cX3_receiptsOf 13 = .ok (.iconst 0, 1) := by decide +kernel
theorem dX3_receiptsOf_14 : decode cX3_receiptsOf 14 = .ok (.istore 6, 2) := by decide +kernel
theorem dX3_receiptsOf_16 : decode cX3_receiptsOf 16 = .ok (.iload 6, 2) := by decide +kernel
theorem dX3_receiptsOf_18 : decode cX3_receiptsOf 18 = .ok (.iload 5, 2) := by decide +kernel
theorem dX3_receiptsOf_20 : decode cX3_receiptsOf 20 = .ok (.if_icmp .ge 50, 3) := by decide +kernel
theorem dX3_receiptsOf_23 : decode cX3_receiptsOf 23 = .ok (.aload 4, 2) := by decide +kernel
theorem dX3_receiptsOf_25 : decode cX3_receiptsOf 25 = .ok (.iload 6, 2) := by decide +kernel
theorem dX3_receiptsOf_27 : decode cX3_receiptsOf 27 = .ok (.aaload, 1) := by decide +kernel
theorem dX3_receiptsOf_28 : decode cX3_receiptsOf 28 = .ok (.astore 7, 2) := by decide +kernel
theorem dX3_receiptsOf_30 : decode cX3_receiptsOf 30 = .ok (.aload 7, 2) := by decide +kernel
theorem dX3_receiptsOf_32 : decode cX3_receiptsOf 32 = .ok (.invokevirtual 203, 3) := by decide +kernel
theorem dX3_receiptsOf_35 : decode cX3_receiptsOf 35 = .ok (.ifCond .eq 29, 3) := by decide +kernel
theorem dX3_receiptsOf_38 : decode cX3_receiptsOf 38 = .ok (.aload 7, 2) := by decide +kernel
theorem dX3_receiptsOf_40 : decode cX3_receiptsOf 40 = .ok (.getfield 110, 3) := by decide +kernel
theorem dX3_receiptsOf_43 : decode cX3_receiptsOf 43 = .ok (.iload_n 1, 1) := by decide +kernel
theorem dX3_receiptsOf_44 : decode cX3_receiptsOf 44 = .ok (.if_icmp .lt 20, 3) := by decide +kernel
theorem dX3_receiptsOf_47 : decode cX3_receiptsOf 47 = .ok (.aload 7, 2) := by decide +kernel
theorem dX3_receiptsOf_49 : decode cX3_receiptsOf 49 = .ok (.getfield 110, 3) := by decide +kernel
theorem dX3_receiptsOf_52 : decode cX3_receiptsOf 52 = .ok (.iload_n 2, 1) := by decide +kernel
theorem dX3_receiptsOf_53 : decode cX3_receiptsOf 53 = .ok (.if_icmp .gt 11, 3) := by decide +kernel
theorem dX3_receiptsOf_56 : decode cX3_receiptsOf 56 = .ok (.iload_n 3, 1) := by decide +kernel
theorem dX3_receiptsOf_57 : decode cX3_receiptsOf 57 = .ok (.aload 7, 2) := by decide +kernel
theorem dX3_receiptsOf_59 : decode cX3_receiptsOf 59 = .ok (.getfield 103, 3) := by decide +kernel
theorem dX3_receiptsOf_62 : decode cX3_receiptsOf 62 = .ok (.iadd, 1) := by decide +kernel
theorem dX3_receiptsOf_63 : decode cX3_receiptsOf 63 = .ok (.istore_n 3, 1) := by decide +kernel
theorem dX3_receiptsOf_64 : decode cX3_receiptsOf 64 = .ok (.iinc 6 1, 3) := by decide +kernel
theorem dX3_receiptsOf_67 : decode cX3_receiptsOf 67 = .ok (.goto (-51), 3) := by decide +kernel
theorem dX3_receiptsOf_70 : decode cX3_receiptsOf 70 = .ok (.iload_n 3, 1) := by decide +kernel
theorem dX3_receiptsOf_71 : decode cX3_receiptsOf 71 = .ok (.ireturn, 1) := by decide +kernel
theorem dX3_priceOf_0 : decode cX3_priceOf 0 = .ok (.iload_n 1, 1) := by decide +kernel
theorem dX3_priceOf_1 : decode cX3_priceOf 1 = .ok (.invokestatic 70, 3) := by decide +kernel
theorem dX3_priceOf_4 : decode cX3_priceOf 4 = .ok (.ifCond .eq 12, 3) := by decide +kernel
theorem dX3_priceOf_7 : decode cX3_priceOf 7 = .ok (.aload_n 0, 1) := by decide +kernel
theorem dX3_priceOf_8 : decode cX3_priceOf 8 = .ok (.getfield 23, 3) := by decide +kernel
theorem dX3_priceOf_11 : decode cX3_priceOf 11 = .ok (.iload_n 1, 1) := by decide +kernel
theorem dX3_priceOf_12 : decode cX3_priceOf 12 = .ok (.iaload, 1) := by decide +kernel
theorem dX3_priceOf_13 : decode cX3_priceOf 13 = .ok (.goto 4, 3) := by decide +kernel
theorem dX3_priceOf_16 : decode cX3_priceOf 16 = .ok (.iconst 0, 1) := by decide +kernel
theorem dX3_priceOf_17 : decode cX3_priceOf 17 = .ok (.ireturn, 1) := by decide +kernel
theorem dX3_moneyOf_0 : decode cX3_moneyOf 0 = .ok (.iload_n 1, 1) := by decide +kernel
theorem dX3_moneyOf_1 : decode cX3_moneyOf 1 = .ok (.invokestatic 122, 3) := by decide +kernel
theorem dX3_moneyOf_4 : decode cX3_moneyOf 4 = .ok (.ifCond .eq 12, 3) := by decide +kernel
theorem dX3_moneyOf_7 : decode cX3_moneyOf 7 = .ok (.aload_n 0, 1) := by decide +kernel
theorem dX3_moneyOf_8 : decode cX3_moneyOf 8 = .ok (.getfield 30, 3) := by decide +kernel
theorem dX3_moneyOf_11 : decode cX3_moneyOf 11 = .ok (.iload_n 1, 1) := by decide +kernel
theorem dX3_moneyOf_12 : decode cX3_moneyOf 12 = .ok (.iaload, 1) := by decide +kernel
theorem dX3_moneyOf_13 : decode cX3_moneyOf 13 = .ok (.goto 4, 3) := by decide +kernel
theorem dX3_moneyOf_16 : decode cX3_moneyOf 16 = .ok (.iconst 0, 1) := by decide +kernel
theorem dX3_moneyOf_17 : decode cX3_moneyOf 17 = .ok (.ireturn, 1) := by decide +kernel
theorem dX3_addMoney_0 : decode cX3_addMoney 0 = .ok (.iload_n 1, 1) := by decide +kernel
theorem dX3_addMoney_1 : decode cX3_addMoney 1 = .ok (.invokestatic 122, 3) := by decide +kernel
theorem dX3_addMoney_4 : decode cX3_addMoney 4 = .ok (.ifCond .eq 13, 3) := by decide +kernel
theorem dX3_addMoney_7 : decode cX3_addMoney 7 = .ok (.aload_n 0, 1) := by decide +kernel
theorem dX3_addMoney_8 : decode cX3_addMoney 8 = .ok (.getfield 30, 3) := by decide +kernel
theorem dX3_addMoney_11 : decode cX3_addMoney 11 = .ok (.iload_n 1, 1) := by decide +kernel
theorem dX3_addMoney_12 : decode cX3_addMoney 12 = .ok (.dup2, 1) := by decide +kernel
theorem dX3_addMoney_13 : decode cX3_addMoney 13 = .ok (.iaload, 1) := by decide +kernel
theorem dX3_addMoney_14 : decode cX3_addMoney 14 = .ok (.iload_n 2, 1) := by decide +kernel
theorem dX3_addMoney_15 : decode cX3_addMoney 15 = .ok (.iadd, 1) := by decide +kernel
theorem dX3_addMoney_16 : decode cX3_addMoney 16 = .ok (.iastore, 1) := by decide +kernel
theorem dX3_addMoney_17 : decode cX3_addMoney 17 = .ok (.return_, 1) := by decide +kernel
theorem dX3_worth_0 : decode cX3_worth 0 = .ok (.aload_n 1, 1) := by decide +kernel
theorem dX3_worth_1 : decode cX3_worth 1 = .ok (.getfield 103, 3) := by decide +kernel
theorem dX3_worth_4 : decode cX3_worth 4 = .ok (.aload_n 0, 1) := by decide +kernel
theorem dX3_worth_5 : decode cX3_worth 5 = .ok (.getfield 23, 3) := by decide +kernel
theorem dX3_worth_8 : decode cX3_worth 8 = .ok (.iconst 2, 1) := by decide +kernel
theorem dX3_worth_9 : decode cX3_worth 9 = .ok (.iaload, 1) := by decide +kernel
theorem dX3_worth_10 : decode cX3_worth 10 = .ok (.imul, 1) := by decide +kernel
theorem dX3_worth_11 : decode cX3_worth 11 = .ok (.ireturn, 1) := by decide +kernel
theorem dX3_greatestLoan_0 : decode cX3_greatestLoan 0 = .ok (.aload_n 0, 1) := by decide +kernel
theorem dX3_greatestLoan_1 : decode cX3_greatestLoan 1 = .ok (.aload_n 1, 1) := by decide +kernel
theorem dX3_greatestLoan_2 : decode cX3_greatestLoan 2 = .ok (.invokevirtual 185, 3) := by decide +kernel
theorem dX3_greatestLoan_5 : decode cX3_greatestLoan 5 = .ok (.aload_n 0, 1) := by decide +kernel
theorem dX3_greatestLoan_6 : decode cX3_greatestLoan 6 = .ok (.getfield 27, 3) := by decide +kernel
theorem dX3_greatestLoan_9 : decode cX3_greatestLoan 9 = .ok (.iconst 0, 1) := by decide +kernel
theorem dX3_greatestLoan_10 : decode cX3_greatestLoan 10 = .ok (.iaload, 1) := by decide +kernel
theorem dX3_greatestLoan_11 : decode cX3_greatestLoan 11 = .ok (.imul, 1) := by decide +kernel
theorem dX3_greatestLoan_12 : decode cX3_greatestLoan 12 = .ok (.bipush 100, 2) := by decide +kernel
theorem dX3_greatestLoan_14 : decode cX3_greatestLoan 14 = .ok (.idiv, 1) := by decide +kernel
theorem dX3_greatestLoan_15 : decode cX3_greatestLoan 15 = .ok (.ireturn, 1) := by decide +kernel
theorem dX3_callLimit_0 : decode cX3_callLimit 0 = .ok (.iload_n 1, 1) := by decide +kernel
theorem dX3_callLimit_1 : decode cX3_callLimit 1 = .ok (.aload_n 0, 1) := by decide +kernel
theorem dX3_callLimit_2 : decode cX3_callLimit 2 = .ok (.getfield 27, 3) := by decide +kernel
theorem dX3_callLimit_5 : decode cX3_callLimit 5 = .ok (.iconst 1, 1) := by decide +kernel
theorem dX3_callLimit_6 : decode cX3_callLimit 6 = .ok (.iaload, 1) := by decide +kernel
theorem dX3_callLimit_7 : decode cX3_callLimit 7 = .ok (.imul, 1) := by decide +kernel
theorem dX3_callLimit_8 : decode cX3_callLimit 8 = .ok (.bipush 100, 2) := by decide +kernel
theorem dX3_callLimit_10 : decode cX3_callLimit 10 = .ok (.idiv, 1) := by decide +kernel
theorem dX3_callLimit_11 : decode cX3_callLimit 11 = .ok (.ireturn, 1) := by decide +kernel
theorem dX3_isLoanTooHigh_0 : decode cX3_isLoanTooHigh 0 = .ok (.aload_n 1, 1) := by decide +kernel
theorem dX3_isLoanTooHigh_1 : decode cX3_isLoanTooHigh 1 = .ok (.getfield 139, 3) := by decide +kernel
theorem dX3_isLoanTooHigh_4 : decode cX3_isLoanTooHigh 4 = .ok (.aload_n 0, 1) := by decide +kernel
theorem dX3_isLoanTooHigh_5 : decode cX3_isLoanTooHigh 5 = .ok (.aload_n 0, 1) := by decide +kernel
theorem dX3_isLoanTooHigh_6 : decode cX3_isLoanTooHigh 6 = .ok (.aload_n 1, 1) := by decide +kernel
theorem dX3_isLoanTooHigh_7 : decode cX3_isLoanTooHigh 7 = .ok (.invokevirtual 185, 3) := by decide +kernel
theorem dX3_isLoanTooHigh_10 : decode cX3_isLoanTooHigh 10 = .ok (.invokevirtual 192, 3) := by decide +kernel
theorem dX3_isLoanTooHigh_13 : decode cX3_isLoanTooHigh 13 = .ok (.if_icmp .le 7, 3) := by decide +kernel
theorem dX3_isLoanTooHigh_16 : decode cX3_isLoanTooHigh 16 = .ok (.iconst 1, 1) := by decide +kernel
theorem dX3_isLoanTooHigh_17 : decode cX3_isLoanTooHigh 17 = .ok (.goto 4, 3) := by decide +kernel
theorem dX3_isLoanTooHigh_20 : decode cX3_isLoanTooHigh 20 = .ok (.iconst 0, 1) := by decide +kernel
theorem dX3_isLoanTooHigh_21 : decode cX3_isLoanTooHigh 21 = .ok (.ireturn, 1) := by decide +kernel
theorem dX3_wouldBeCalled_0 : decode cX3_wouldBeCalled 0 = .ok (.aload_n 1, 1) := by decide +kernel
theorem dX3_wouldBeCalled_1 : decode cX3_wouldBeCalled 1 = .ok (.getfield 136, 3) := by decide +kernel
theorem dX3_wouldBeCalled_4 : decode cX3_wouldBeCalled 4 = .ok (.iload_n 2, 1) := by decide +kernel
theorem dX3_wouldBeCalled_5 : decode cX3_wouldBeCalled 5 = .ok (.if_icmp .ne 31, 3) := by decide +kernel
theorem dX3_wouldBeCalled_8 : decode cX3_wouldBeCalled 8 = .ok (.aload_n 1, 1) := by decide +kernel
theorem dX3_wouldBeCalled_9 : decode cX3_wouldBeCalled 9 = .ok (.invokevirtual 189, 3) := by decide +kernel
theorem dX3_wouldBeCalled_12 : decode cX3_wouldBeCalled 12 = .ok (.ifCond .ne 24, 3) := by decide +kernel
theorem dX3_wouldBeCalled_15 : decode cX3_wouldBeCalled 15 = .ok (.aload_n 1, 1) := by decide +kernel
theorem dX3_wouldBeCalled_16 : decode cX3_wouldBeCalled 16 = .ok (.getfield 139, 3) := by decide +kernel
theorem dX3_wouldBeCalled_19 : decode cX3_wouldBeCalled 19 = .ok (.aload_n 0, 1) := by decide +kernel
theorem dX3_wouldBeCalled_20 : decode cX3_wouldBeCalled 20 = .ok (.aload_n 1, 1) := by decide +kernel
theorem dX3_wouldBeCalled_21 : decode cX3_wouldBeCalled 21 = .ok (.getfield 103, 3) := by decide +kernel
theorem dX3_wouldBeCalled_24 : decode cX3_wouldBeCalled 24 = .ok (.iload_n 3, 1) := by decide +kernel
theorem dX3_wouldBeCalled_25 : decode cX3_wouldBeCalled 25 = .ok (.imul, 1) := by decide +kernel
theorem dX3_wouldBeCalled_26 : decode cX3_wouldBeCalled 26 = .ok (.invokevirtual 192, 3) := by decide +kernel
theorem dX3_wouldBeCalled_29 : decode cX3_wouldBeCalled 29 = .ok (.if_icmp .le 7, 3) := by decide +kernel
theorem dX3_wouldBeCalled_32 : decode cX3_wouldBeCalled 32 = .ok (.iconst 1, 1) := by decide +kernel
theorem dX3_wouldBeCalled_33 : decode cX3_wouldBeCalled 33 = .ok (.goto 4, 3) := by decide +kernel
theorem dX3_wouldBeCalled_36 : decode cX3_wouldBeCalled 36 = .ok (.iconst 0, 1) := by decide +kernel
theorem dX3_wouldBeCalled_37 : decode cX3_wouldBeCalled 37 = .ok (.ireturn, 1) := by decide +kernel
theorem dX3_loanRatioBits_0 : decode cX3_loanRatioBits 0 = .ok (.aload_n 0, 1) := by decide +kernel
theorem dX3_loanRatioBits_1 : decode cX3_loanRatioBits 1 = .ok (.aload_n 1, 1) := by decide +kernel
theorem dX3_loanRatioBits_2 : decode cX3_loanRatioBits 2 = .ok (.invokevirtual 185, 3) := by decide +kernel
theorem dX3_loanRatioBits_5 : decode cX3_loanRatioBits 5 = .ok (.istore_n 2, 1) := by decide +kernel
theorem dX3_loanRatioBits_6 : decode cX3_loanRatioBits 6 = .ok (.iload_n 2, 1) := by decide +kernel
theorem dX3_loanRatioBits_7 : decode cX3_loanRatioBits 7 = .ok (.ifCond .le 17, 3) := by decide +kernel
theorem dX3_loanRatioBits_10 : decode cX3_loanRatioBits 10 = .ok (.aload_n 1, 1) := by decide +kernel
theorem dX3_loanRatioBits_11 : decode cX3_loanRatioBits 11 = .ok (.getfield 139, 3) := by decide +kernel
theorem dX3_loanRatioBits_14 : decode cX3_loanRatioBits 14 = .ok (.i2f, 1) := by decide +kernel
theorem dX3_loanRatioBits_15 : decode cX3_loanRatioBits 15 = .ok (.iload_n 2, 1) := by decide +kernel
theorem dX3_loanRatioBits_16 : decode cX3_loanRatioBits 16 = .ok (.i2f, 1) := by decide +kernel
theorem dX3_loanRatioBits_17 : decode cX3_loanRatioBits 17 = .ok (.fdiv, 1) := by decide +kernel
theorem dX3_loanRatioBits_18 : decode cX3_loanRatioBits 18 = .ok (.invokestatic 221, 3) := by decide +kernel
theorem dX3_loanRatioBits_21 : decode cX3_loanRatioBits 21 = .ok (.goto 4, 3) := by decide +kernel
theorem dX3_loanRatioBits_24 : decode cX3_loanRatioBits 24 = .ok (.iconst 0, 1) := by decide +kernel
theorem dX3_loanRatioBits_25 : decode cX3_loanRatioBits 25 = .ok (.ireturn, 1) := by decide +kernel
theorem dX3_splitLoan_0 : decode cX3_splitLoan 0 = .ok (.aload_n 1, 1) := by decide +kernel
theorem dX3_splitLoan_1 : decode cX3_splitLoan 1 = .ok (.getfield 103, 3) := by decide +kernel
theorem dX3_splitLoan_4 : decode cX3_splitLoan 4 = .ok (.ifCond .gt 4, 3) := by decide +kernel
theorem dX3_splitLoan_7 : decode cX3_splitLoan 7 = .ok (.return_, 1) := by decide +kernel
theorem dX3_splitLoan_8 : decode cX3_splitLoan 8 = .ok (.aload_n 1, 1) := by decide +kernel
theorem dX3_splitLoan_9 : decode cX3_splitLoan 9 = .ok (.getfield 139, 3) := by decide +kernel
theorem dX3_splitLoan_12 : decode cX3_splitLoan 12 = .ok (.i2l, 1) := by decide +kernel
theorem dX3_splitLoan_13 : decode cX3_splitLoan 13 = .ok (.aload_n 2, 1) := by decide +kernel
theorem dX3_splitLoan_14 : decode cX3_splitLoan 14 = .ok (.getfield 103, 3) := by decide +kernel
theorem dX3_splitLoan_17 : decode cX3_splitLoan 17 = .ok (.i2l, 1) := by decide +kernel
theorem dX3_splitLoan_18 : decode cX3_splitLoan 18 = .ok (.lmul, 1) := by decide +kernel
theorem dX3_splitLoan_19 : decode cX3_splitLoan 19 = .ok (.aload_n 1, 1) := by decide +kernel
theorem dX3_splitLoan_20 : decode cX3_splitLoan 20 = .ok (.getfield 103, 3) := by decide +kernel
theorem dX3_splitLoan_23 : decode cX3_splitLoan 23 = .ok (.i2l, 1) := by decide +kernel
theorem dX3_splitLoan_24 : decode cX3_splitLoan 24 = .ok (.ldiv, 1) := by decide +kernel
theorem dX3_splitLoan_25 : decode cX3_splitLoan 25 = .ok (.l2i, 1) := by decide +kernel
theorem dX3_splitLoan_26 : decode cX3_splitLoan 26 = .ok (.istore_n 3, 1) := by decide +kernel
theorem dX3_splitLoan_27 : decode cX3_splitLoan 27 = .ok (.iload_n 3, 1) := by decide +kernel
theorem dX3_splitLoan_28 : decode cX3_splitLoan 28 = .ok (.ifCond .le 26, 3) := by decide +kernel
theorem dX3_splitLoan_31 : decode cX3_splitLoan 31 = .ok (.aload_n 2, 1) := by decide +kernel
theorem dX3_splitLoan_32 : decode cX3_splitLoan 32 = .ok (.aload_n 1, 1) := by decide +kernel
theorem dX3_splitLoan_33 : decode cX3_splitLoan 33 = .ok (.getfield 136, 3) := by decide +kernel
theorem dX3_splitLoan_36 : decode cX3_splitLoan 36 = .ok (.putfield 136, 3) := by decide +kernel
theorem dX3_splitLoan_39 : decode cX3_splitLoan 39 = .ok (.aload_n 2, 1) := by decide +kernel
theorem dX3_splitLoan_40 : decode cX3_splitLoan 40 = .ok (.iload_n 3, 1) := by decide +kernel
theorem dX3_splitLoan_41 : decode cX3_splitLoan 41 = .ok (.putfield 139, 3) := by decide +kernel
theorem dX3_splitLoan_44 : decode cX3_splitLoan 44 = .ok (.aload_n 1, 1) := by decide +kernel
theorem dX3_splitLoan_45 : decode cX3_splitLoan 45 = .ok (.dup, 1) := by decide +kernel
theorem dX3_splitLoan_46 : decode cX3_splitLoan 46 = .ok (.getfield 139, 3) := by decide +kernel
theorem dX3_splitLoan_49 : decode cX3_splitLoan 49 = .ok (.iload_n 3, 1) := by decide +kernel
theorem dX3_splitLoan_50 : decode cX3_splitLoan 50 = .ok (.isub, 1) := by decide +kernel
theorem dX3_splitLoan_51 : decode cX3_splitLoan 51 = .ok (.putfield 139, 3) := by decide +kernel
theorem dX3_splitLoan_54 : decode cX3_splitLoan 54 = .ok (.return_, 1) := by decide +kernel
theorem dX3_passDay_0 : decode cX3_passDay 0 = .ok (.aload_n 0, 1) := by decide +kernel
theorem dX3_passDay_1 : decode cX3_passDay 1 = .ok (.dup, 1) := by decide +kernel
theorem dX3_passDay_2 : decode cX3_passDay 2 = .ok (.getfield 55, 3) := by decide +kernel
theorem dX3_passDay_5 : decode cX3_passDay 5 = .ok (.iconst 1, 1) := by decide +kernel
theorem dX3_passDay_6 : decode cX3_passDay 6 = .ok (.iadd, 1) := by decide +kernel
theorem dX3_passDay_7 : decode cX3_passDay 7 = .ok (.putfield 55, 3) := by decide +kernel
theorem dX3_passDay_10 : decode cX3_passDay 10 = .ok (.aload_n 0, 1) := by decide +kernel
theorem dX3_passDay_11 : decode cX3_passDay 11 = .ok (.getfield 19, 3) := by decide +kernel
theorem dX3_passDay_14 : decode cX3_passDay 14 = .ok (.astore_n 1, 1) := by decide +kernel
theorem dX3_passDay_15 : decode cX3_passDay 15 = .ok (.aload_n 1, 1) := by decide +kernel
theorem dX3_passDay_16 : decode cX3_passDay 16 = .ok (.arraylength, 1) := by decide +kernel
theorem dX3_passDay_17 : decode cX3_passDay 17 = .ok (.istore_n 2, 1) := by decide +kernel
theorem dX3_passDay_18 : decode cX3_passDay 18 = .ok (.iconst 0, 1) := by decide +kernel
theorem dX3_passDay_19 : decode cX3_passDay 19 = .ok (.istore_n 3, 1) := by decide +kernel
theorem dX3_passDay_20 : decode cX3_passDay 20 = .ok (.iload_n 3, 1) := by decide +kernel
theorem dX3_passDay_21 : decode cX3_passDay 21 = .ok (.iload_n 2, 1) := by decide +kernel
theorem dX3_passDay_22 : decode cX3_passDay 22 = .ok (.if_icmp .ge 65, 3) := by decide +kernel
theorem dX3_passDay_25 : decode cX3_passDay 25 = .ok (.aload_n 1, 1) := by decide +kernel
theorem dX3_passDay_26 : decode cX3_passDay 26 = .ok (.iload_n 3, 1) := by decide +kernel
theorem dX3_passDay_27 : decode cX3_passDay 27 = .ok (.aaload, 1) := by decide +kernel
theorem dX3_passDay_28 : decode cX3_passDay 28 = .ok (.astore 4, 2) := by decide +kernel
theorem dX3_passDay_30 : decode cX3_passDay 30 = .ok (.aload 4, 2) := by decide +kernel
theorem dX3_passDay_32 : decode cX3_passDay 32 = .ok (.invokevirtual 189, 3) := by decide +kernel
theorem dX3_passDay_35 : decode cX3_passDay 35 = .ok (.ifCond .eq 46, 3) := by decide +kernel
theorem dX3_passDay_38 : decode cX3_passDay 38 = .ok (.aload 4, 2) := by decide +kernel
theorem dX3_passDay_40 : decode cX3_passDay 40 = .ok (.dup, 1) := by decide +kernel
theorem dX3_passDay_41 : decode cX3_passDay 41 = .ok (.getfield 155, 3) := by decide +kernel
theorem dX3_passDay_44 : decode cX3_passDay 44 = .ok (.iconst 1, 1) := by decide +kernel
theorem dX3_passDay_45 : decode cX3_passDay 45 = .ok (.isub, 1) := by decide +kernel
theorem dX3_passDay_46 : decode cX3_passDay 46 = .ok (.putfield 155, 3) := by decide +kernel
theorem dX3_passDay_49 : decode cX3_passDay 49 = .ok (.aload_n 0, 1) := by decide +kernel
theorem dX3_passDay_50 : decode cX3_passDay 50 = .ok (.aload 4, 2) := by decide +kernel
theorem dX3_passDay_52 : decode cX3_passDay 52 = .ok (.invokevirtual 151, 3) := by decide +kernel
theorem dX3_passDay_55 : decode cX3_passDay 55 = .ok (.ifCond .ne 12, 3) := by decide +kernel
theorem dX3_passDay_58 : decode cX3_passDay 58 = .ok (.aload 4, 2) := by decide +kernel
theorem dX3_passDay_60 : decode cX3_passDay 60 = .ok (.iconst 0, 1) := by decide +kernel
theorem dX3_passDay_61 : decode cX3_passDay 61 = .ok (.putfield 155, 3) := by decide +kernel
theorem dX3_passDay_64 : decode cX3_passDay 64 = .ok (.goto 17, 3) := by decide +kernel
theorem dX3_passDay_67 : decode cX3_passDay 67 = .ok (.aload 4, 2) := by decide +kernel
theorem dX3_passDay_69 : decode cX3_passDay 69 = .ok (.invokevirtual 189, 3) := by decide +kernel
theorem dX3_passDay_72 : decode cX3_passDay 72 = .ok (.ifCond .ne 9, 3) := by decide +kernel
theorem dX3_passDay_75 : decode cX3_passDay 75 = .ok (.aload_n 0, 1) := by decide +kernel
theorem dX3_passDay_76 : decode cX3_passDay 76 = .ok (.aload 4, 2) := by decide +kernel
theorem dX3_passDay_78 : decode cX3_passDay 78 = .ok (.invokevirtual 225, 3) := by decide +kernel
theorem dX3_passDay_81 : decode cX3_passDay 81 = .ok (.iinc 3 1, 3) := by decide +kernel
theorem dX3_passDay_84 : decode cX3_passDay 84 = .ok (.goto (-64), 3) := by decide +kernel
theorem dX3_passDay_87 : decode cX3_passDay 87 = .ok (.return_, 1) := by decide +kernel
theorem dX3_seize_0 : decode cX3_seize 0 = .ok (.aload_n 1, 1) := by decide +kernel
theorem dX3_seize_1 : decode cX3_seize 1 = .ok (.getfield 136, 3) := by decide +kernel
theorem dX3_seize_4 : decode cX3_seize 4 = .ok (.istore_n 2, 1) := by decide +kernel
theorem dX3_seize_5 : decode cX3_seize 5 = .ok (.iload_n 2, 1) := by decide +kernel
theorem dX3_seize_6 : decode cX3_seize 6 = .ok (.invokestatic 129, 3) := by decide +kernel
theorem dX3_seize_9 : decode cX3_seize 9 = .ok (.ifCond .eq 37, 3) := by decide +kernel
theorem dX3_seize_12 : decode cX3_seize 12 = .ok (.aload_n 0, 1) := by decide +kernel
theorem dX3_seize_13 : decode cX3_seize 13 = .ok (.getfield 33, 3) := by decide +kernel
theorem dX3_seize_16 : decode cX3_seize 16 = .ok (.iload_n 2, 1) := by decide +kernel
theorem dX3_seize_17 : decode cX3_seize 17 = .ok (.dup2, 1) := by decide +kernel
theorem dX3_seize_18 : decode cX3_seize 18 = .ok (.iaload, 1) := by decide +kernel
theorem dX3_seize_19 : decode cX3_seize 19 = .ok (.aload_n 1, 1) := by decide +kernel
theorem dX3_seize_20 : decode cX3_seize 20 = .ok (.getfield 139, 3) := by decide +kernel
theorem dX3_seize_23 : decode cX3_seize 23 = .ok (.iadd, 1) := by decide +kernel
theorem dX3_seize_24 : decode cX3_seize 24 = .ok (.iastore, 1) := by decide +kernel
theorem dX3_seize_25 : decode cX3_seize 25 = .ok (.aload_n 0, 1) := by decide +kernel
theorem dX3_seize_26 : decode cX3_seize 26 = .ok (.dup, 1) := by decide +kernel
theorem dX3_seize_27 : decode cX3_seize 27 = .ok (.getfield 61, 3) := by decide +kernel
theorem dX3_seize_30 : decode cX3_seize 30 = .ok (.iconst 1, 1) := by decide +kernel
theorem dX3_seize_31 : decode cX3_seize 31 = .ok (.iadd, 1) := by decide +kernel
theorem dX3_seize_32 : decode cX3_seize 32 = .ok (.putfield 61, 3) := by decide +kernel
theorem dX3_seize_35 : decode cX3_seize 35 = .ok (.aload_n 1, 1) := by decide +kernel
theorem dX3_seize_36 : decode cX3_seize 36 = .ok (.iconst 5, 1) := by decide +kernel
theorem dX3_seize_37 : decode cX3_seize 37 = .ok (.iload_n 2, 1) := by decide +kernel
theorem dX3_seize_38 : decode cX3_seize 38 = .ok (.iadd, 1) := by decide +kernel
theorem dX3_seize_39 : decode cX3_seize 39 = .ok (.putfield 107, 3) := by decide +kernel
theorem dX3_seize_42 : decode cX3_seize 42 = .ok (.aload_n 1, 1) := by decide +kernel
theorem dX3_seize_43 : decode cX3_seize 43 = .ok (.invokevirtual 148, 3) := by decide +kernel
theorem dX3_seize_46 : decode cX3_seize 46 = .ok (.return_, 1) := by decide +kernel
theorem dX4_init_0 : decode cX4_init 0 = .ok (.aload_n 0, 1) := by decide +kernel
theorem dX4_init_1 : decode cX4_init 1 = .ok (.invokespecial 1, 3) := by decide +kernel
theorem dX4_init_4 : decode cX4_init 4 = .ok (.aload_n 0, 1) := by decide +kernel
theorem dX4_init_5 : decode cX4_init 5 = .ok (.new 7, 3) := by decide +kernel
theorem dX4_init_8 : decode cX4_init 8 = .ok (.dup, 1) := by decide +kernel
theorem dX4_init_9 : decode cX4_init 9 = .ok (.invokespecial 9, 3) := by decide +kernel
theorem dX4_init_12 : decode cX4_init 12 = .ok (.putfield 10, 3) := by decide +kernel
theorem dX4_init_15 : decode cX4_init 15 = .ok (.aload_n 0, 1) := by decide +kernel
theorem dX4_init_16 : decode cX4_init 16 = .ok (.iconst 4, 1) := by decide +kernel
theorem dX4_init_17 : decode cX4_init 17 = .ok (.anewarray 16, 3) := by decide +kernel
theorem dX4_init_20 : decode cX4_init 20 = .ok (.putfield 18, 3) := by decide +kernel
theorem dX4_init_23 : decode cX4_init 23 = .ok (.aload_n 0, 1) := by decide +kernel
theorem dX4_init_24 : decode cX4_init 24 = .ok (.new 16, 3) := by decide +kernel
theorem dX4_init_27 : decode cX4_init 27 = .ok (.dup, 1) := by decide +kernel
theorem dX4_init_28 : decode cX4_init 28 = .ok (.invokespecial 22, 3) := by decide +kernel
theorem dX4_init_31 : decode cX4_init 31 = .ok (.putfield 23, 3) := by decide +kernel
theorem dX4_init_34 : decode cX4_init 34 = .ok (.aload_n 0, 1) := by decide +kernel
theorem dX4_init_35 : decode cX4_init 35 = .ok (.new 16, 3) := by decide +kernel
theorem dX4_init_38 : decode cX4_init 38 = .ok (.dup, 1) := by decide +kernel
theorem dX4_init_39 : decode cX4_init 39 = .ok (.invokespecial 22, 3) := by decide +kernel
theorem dX4_init_42 : decode cX4_init 42 = .ok (.putfield 27, 3) := by decide +kernel
theorem dX4_init_45 : decode cX4_init 45 = .ok (.iconst 0, 1) := by decide +kernel
theorem dX4_init_46 : decode cX4_init 46 = .ok (.istore_n 1, 1) := by decide +kernel
theorem dX4_init_47 : decode cX4_init 47 = .ok (.iload_n 1, 1) := by decide +kernel
theorem dX4_init_48 : decode cX4_init 48 = .ok (.iconst 4, 1) := by decide +kernel
theorem dX4_init_49 : decode cX4_init 49 = .ok (.if_icmp .ge 22, 3) := by decide +kernel
theorem dX4_init_52 : decode cX4_init 52 = .ok (.aload_n 0, 1) := by decide +kernel
theorem dX4_init_53 : decode cX4_init 53 = .ok (.getfield 18, 3) := by decide +kernel
theorem dX4_init_56 : decode cX4_init 56 = .ok (.iload_n 1, 1) := by decide +kernel
theorem dX4_init_57 : decode cX4_init 57 = .ok (.new 16, 3) := by decide +kernel
theorem dX4_init_60 : decode cX4_init 60 = .ok (.dup, 1) := by decide +kernel
theorem dX4_init_61 : decode cX4_init 61 = .ok (.invokespecial 22, 3) := by decide +kernel
theorem dX4_init_64 : decode cX4_init 64 = .ok (.aastore, 1) := by decide +kernel
theorem dX4_init_65 : decode cX4_init 65 = .ok (.iinc 1 1, 3) := by decide +kernel
theorem dX4_init_68 : decode cX4_init 68 = .ok (.goto (-21), 3) := by decide +kernel
theorem dX4_init_71 : decode cX4_init 71 = .ok (.return_, 1) := by decide +kernel
theorem dX4_store_0 : decode cX4_store 0 = .ok (.aload_n 0, 1) := by decide +kernel
theorem dX4_store_1 : decode cX4_store 1 = .ok (.getfield 27, 3) := by decide +kernel
theorem dX4_store_4 : decode cX4_store 4 = .ok (.aload_n 0, 1) := by decide +kernel
theorem dX4_store_5 : decode cX4_store 5 = .ok (.getfield 23, 3) := by decide +kernel
theorem dX4_store_8 : decode cX4_store 8 = .ok (.invokevirtual 30, 3) := by decide +kernel
theorem dX4_store_11 : decode cX4_store 11 = .ok (.aload_n 0, 1) := by decide +kernel
theorem dX4_store_12 : decode cX4_store 12 = .ok (.aload_n 0, 1) := by decide +kernel
theorem dX4_store_13 : decode cX4_store 13 = .ok (.getfield 23, 3) := by decide +kernel
theorem dX4_store_16 : decode cX4_store 16 = .ok (.iload_n 1, 1) := by decide +kernel
theorem dX4_store_17 : decode cX4_store 17 = .ok (.iload_n 2, 1) := by decide +kernel
theorem dX4_store_18 : decode cX4_store 18 = .ok (.iload_n 3, 1) := by decide +kernel
theorem dX4_store_19 : decode cX4_store 19 = .ok (.invokevirtual 34, 3) := by decide +kernel
theorem dX4_store_22 : decode cX4_store 22 = .ok (.invokevirtual 38, 3) := by decide +kernel
theorem dX4_store_25 : decode cX4_store 25 = .ok (.ireturn, 1) := by decide +kernel
theorem dX4_split_0 : decode cX4_split 0 = .ok (.aload_n 0, 1) := by decide +kernel
theorem dX4_split_1 : decode cX4_split 1 = .ok (.getfield 27, 3) := by decide +kernel
theorem dX4_split_4 : decode cX4_split 4 = .ok (.aload_n 0, 1) := by decide +kernel
theorem dX4_split_5 : decode cX4_split 5 = .ok (.getfield 23, 3) := by decide +kernel
theorem dX4_split_8 : decode cX4_split 8 = .ok (.invokevirtual 30, 3) := by decide +kernel
theorem dX4_split_11 : decode cX4_split 11 = .ok (.aload_n 0, 1) := by decide +kernel
theorem dX4_split_12 : decode cX4_split 12 = .ok (.aload_n 0, 1) := by decide +kernel
theorem dX4_split_13 : decode cX4_split 13 = .ok (.getfield 23, 3) := by decide +kernel
theorem dX4_split_16 : decode cX4_split 16 = .ok (.iload_n 1, 1) := by decide +kernel
theorem dX4_split_17 : decode cX4_split 17 = .ok (.iload_n 2, 1) := by decide +kernel
theorem dX4_split_18 : decode cX4_split 18 = .ok (.invokevirtual 42, 3) := by decide +kernel
theorem dX4_split_21 : decode cX4_split 21 = .ok (.invokevirtual 38, 3) := by decide +kernel
theorem dX4_split_24 : decode cX4_split 24 = .ok (.ireturn, 1) := by decide +kernel
theorem dX4_join_0 : decode cX4_join 0 = .ok (.aload_n 0, 1) := by decide +kernel
theorem dX4_join_1 : decode cX4_join 1 = .ok (.getfield 27, 3) := by decide +kernel
theorem dX4_join_4 : decode cX4_join 4 = .ok (.aload_n 0, 1) := by decide +kernel
theorem dX4_join_5 : decode cX4_join 5 = .ok (.getfield 23, 3) := by decide +kernel
theorem dX4_join_8 : decode cX4_join 8 = .ok (.invokevirtual 30, 3) := by decide +kernel
theorem dX4_join_11 : decode cX4_join 11 = .ok (.aload_n 0, 1) := by decide +kernel
theorem dX4_join_12 : decode cX4_join 12 = .ok (.aload_n 0, 1) := by decide +kernel
theorem dX4_join_13 : decode cX4_join 13 = .ok (.getfield 23, 3) := by decide +kernel
theorem dX4_join_16 : decode cX4_join 16 = .ok (.iload_n 1, 1) := by decide +kernel
theorem dX4_join_17 : decode cX4_join 17 = .ok (.iload_n 2, 1) := by decide +kernel
theorem dX4_join_18 : decode cX4_join 18 = .ok (.invokevirtual 46, 3) := by decide +kernel
theorem dX4_join_21 : decode cX4_join 21 = .ok (.invokevirtual 38, 3) := by decide +kernel
theorem dX4_join_24 : decode cX4_join 24 = .ok (.ireturn, 1) := by decide +kernel
theorem dX4_hand_0 : decode cX4_hand 0 = .ok (.aload_n 0, 1) := by decide +kernel
theorem dX4_hand_1 : decode cX4_hand 1 = .ok (.getfield 27, 3) := by decide +kernel
theorem dX4_hand_4 : decode cX4_hand 4 = .ok (.aload_n 0, 1) := by decide +kernel
theorem dX4_hand_5 : decode cX4_hand 5 = .ok (.getfield 23, 3) := by decide +kernel
theorem dX4_hand_8 : decode cX4_hand 8 = .ok (.invokevirtual 30, 3) := by decide +kernel
theorem dX4_hand_11 : decode cX4_hand 11 = .ok (.aload_n 0, 1) := by decide +kernel
theorem dX4_hand_12 : decode cX4_hand 12 = .ok (.aload_n 0, 1) := by decide +kernel
theorem dX4_hand_13 : decode cX4_hand 13 = .ok (.getfield 23, 3) := by decide +kernel
theorem dX4_hand_16 : decode cX4_hand 16 = .ok (.iload_n 1, 1) := by decide +kernel
theorem dX4_hand_17 : decode cX4_hand 17 = .ok (.iload_n 2, 1) := by decide +kernel
theorem dX4_hand_18 : decode cX4_hand 18 = .ok (.invokevirtual 49, 3) := by decide +kernel
theorem dX4_hand_21 : decode cX4_hand 21 = .ok (.invokevirtual 38, 3) := by decide +kernel
theorem dX4_hand_24 : decode cX4_hand 24 = .ok (.ireturn, 1) := by decide +kernel
theorem dX4_deliver_0 : decode cX4_deliver 0 = .ok (.aload_n 0, 1) := by decide +kernel
theorem dX4_deliver_1 : decode cX4_deliver 1 = .ok (.getfield 27, 3) := by decide +kernel
theorem dX4_deliver_4 : decode cX4_deliver 4 = .ok (.aload_n 0, 1) := by decide +kernel
theorem dX4_deliver_5 : decode cX4_deliver 5 = .ok (.getfield 23, 3) := by decide +kernel
theorem dX4_deliver_8 : decode cX4_deliver 8 = .ok (.invokevirtual 30, 3) := by decide +kernel
theorem dX4_deliver_11 : decode cX4_deliver 11 = .ok (.aload_n 0, 1) := by decide +kernel
theorem dX4_deliver_12 : decode cX4_deliver 12 = .ok (.aload_n 0, 1) := by decide +kernel
theorem dX4_deliver_13 : decode cX4_deliver 13 = .ok (.getfield 23, 3) := by decide +kernel
theorem dX4_deliver_16 : decode cX4_deliver 16 = .ok (.iload_n 1, 1) := by decide +kernel
theorem dX4_deliver_17 : decode cX4_deliver 17 = .ok (.invokevirtual 52, 3) := by decide +kernel
theorem dX4_deliver_20 : decode cX4_deliver 20 = .ok (.invokevirtual 38, 3) := by decide +kernel
theorem dX4_deliver_23 : decode cX4_deliver 23 = .ok (.ireturn, 1) := by decide +kernel
theorem dX4_pledge_0 : decode cX4_pledge 0 = .ok (.aload_n 0, 1) := by decide +kernel
theorem dX4_pledge_1 : decode cX4_pledge 1 = .ok (.getfield 27, 3) := by decide +kernel
theorem dX4_pledge_4 : decode cX4_pledge 4 = .ok (.aload_n 0, 1) := by decide +kernel
theorem dX4_pledge_5 : decode cX4_pledge 5 = .ok (.getfield 23, 3) := by decide +kernel
theorem dX4_pledge_8 : decode cX4_pledge 8 = .ok (.invokevirtual 30, 3) := by decide +kernel
theorem dX4_pledge_11 : decode cX4_pledge 11 = .ok (.aload_n 0, 1) := by decide +kernel
theorem dX4_pledge_12 : decode cX4_pledge 12 = .ok (.aload_n 0, 1) := by decide +kernel
theorem dX4_pledge_13 : decode cX4_pledge 13 = .ok (.getfield 23, 3) := by decide +kernel
theorem dX4_pledge_16 : decode cX4_pledge 16 = .ok (.iload_n 1, 1) := by decide +kernel
theorem dX4_pledge_17 : decode cX4_pledge 17 = .ok (.iload_n 2, 1) := by decide +kernel
theorem dX4_pledge_18 : decode cX4_pledge 18 = .ok (.iload_n 3, 1) := by decide +kernel
theorem dX4_pledge_19 : decode cX4_pledge 19 = .ok (.invokevirtual 55, 3) := by decide +kernel
theorem dX4_pledge_22 : decode cX4_pledge 22 = .ok (.invokevirtual 38, 3) := by decide +kernel
theorem dX4_pledge_25 : decode cX4_pledge 25 = .ok (.ireturn, 1) := by decide +kernel
theorem dX4_repay_0 : decode cX4_repay 0 = .ok (.aload_n 0, 1) := by decide +kernel
theorem dX4_repay_1 : decode cX4_repay 1 = .ok (.getfield 27, 3) := by decide +kernel
theorem dX4_repay_4 : decode cX4_repay 4 = .ok (.aload_n 0, 1) := by decide +kernel
theorem dX4_repay_5 : decode cX4_repay 5 = .ok (.getfield 23, 3) := by decide +kernel
theorem dX4_repay_8 : decode cX4_repay 8 = .ok (.invokevirtual 30, 3) := by decide +kernel
theorem dX4_repay_11 : decode cX4_repay 11 = .ok (.aload_n 0, 1) := by decide +kernel
theorem dX4_repay_12 : decode cX4_repay 12 = .ok (.aload_n 0, 1) := by decide +kernel
theorem dX4_repay_13 : decode cX4_repay 13 = .ok (.getfield 23, 3) := by decide +kernel
theorem dX4_repay_16 : decode cX4_repay 16 = .ok (.iload_n 1, 1) := by decide +kernel
theorem dX4_repay_17 : decode cX4_repay 17 = .ok (.iload_n 2, 1) := by decide +kernel
theorem dX4_repay_18 : decode cX4_repay 18 = .ok (.invokevirtual 58, 3) := by decide +kernel
theorem dX4_repay_21 : decode cX4_repay 21 = .ok (.invokevirtual 38, 3) := by decide +kernel
theorem dX4_repay_24 : decode cX4_repay 24 = .ok (.ireturn, 1) := by decide +kernel
theorem dX4_price_0 : decode cX4_price 0 = .ok (.aload_n 0, 1) := by decide +kernel
theorem dX4_price_1 : decode cX4_price 1 = .ok (.getfield 27, 3) := by decide +kernel
theorem dX4_price_4 : decode cX4_price 4 = .ok (.aload_n 0, 1) := by decide +kernel
theorem dX4_price_5 : decode cX4_price 5 = .ok (.getfield 23, 3) := by decide +kernel
theorem dX4_price_8 : decode cX4_price 8 = .ok (.invokevirtual 30, 3) := by decide +kernel
theorem dX4_price_11 : decode cX4_price 11 = .ok (.aload_n 0, 1) := by decide +kernel
theorem dX4_price_12 : decode cX4_price 12 = .ok (.aload_n 0, 1) := by decide +kernel
theorem dX4_price_13 : decode cX4_price 13 = .ok (.getfield 23, 3) := by decide +kernel
theorem dX4_price_16 : decode cX4_price 16 = .ok (.iload_n 1, 1) := by decide +kernel
theorem dX4_price_17 : decode cX4_price 17 = .ok (.iload_n 2, 1) := by decide +kernel
theorem dX4_price_18 : decode cX4_price 18 = .ok (.invokevirtual 61, 3) := by decide +kernel
theorem dX4_price_21 : decode cX4_price 21 = .ok (.invokevirtual 38, 3) := by decide +kernel
theorem dX4_price_24 : decode cX4_price 24 = .ok (.ireturn, 1) := by decide +kernel
theorem dX4_call_0 : decode cX4_call 0 = .ok (.aload_n 0, 1) := by decide +kernel
theorem dX4_call_1 : decode cX4_call 1 = .ok (.getfield 27, 3) := by decide +kernel
theorem dX4_call_4 : decode cX4_call 4 = .ok (.aload_n 0, 1) := by decide +kernel
theorem dX4_call_5 : decode cX4_call 5 = .ok (.getfield 23, 3) := by decide +kernel
theorem dX4_call_8 : decode cX4_call 8 = .ok (.invokevirtual 30, 3) := by decide +kernel
theorem dX4_call_11 : decode cX4_call 11 = .ok (.aload_n 0, 1) := by decide +kernel
theorem dX4_call_12 : decode cX4_call 12 = .ok (.aload_n 0, 1) := by decide +kernel
theorem dX4_call_13 : decode cX4_call 13 = .ok (.getfield 23, 3) := by decide +kernel
theorem dX4_call_16 : decode cX4_call 16 = .ok (.iload_n 1, 1) := by decide +kernel
theorem dX4_call_17 : decode cX4_call 17 = .ok (.invokevirtual 64, 3) := by decide +kernel
theorem dX4_call_20 : decode cX4_call 20 = .ok (.invokevirtual 38, 3) := by decide +kernel
theorem dX4_call_23 : decode cX4_call 23 = .ok (.ireturn, 1) := by decide +kernel
theorem dX4_pass_0 : decode cX4_pass 0 = .ok (.aload_n 0, 1) := by decide +kernel
theorem dX4_pass_1 : decode cX4_pass 1 = .ok (.getfield 27, 3) := by decide +kernel
theorem dX4_pass_4 : decode cX4_pass 4 = .ok (.aload_n 0, 1) := by decide +kernel
theorem dX4_pass_5 : decode cX4_pass 5 = .ok (.getfield 23, 3) := by decide +kernel
theorem dX4_pass_8 : decode cX4_pass 8 = .ok (.invokevirtual 30, 3) := by decide +kernel
theorem dX4_pass_11 : decode cX4_pass 11 = .ok (.aload_n 0, 1) := by decide +kernel
theorem dX4_pass_12 : decode cX4_pass 12 = .ok (.aload_n 0, 1) := by decide +kernel
theorem dX4_pass_13 : decode cX4_pass 13 = .ok (.getfield 23, 3) := by decide +kernel
theorem dX4_pass_16 : decode cX4_pass 16 = .ok (.iload_n 1, 1) := by decide +kernel
theorem dX4_pass_17 : decode cX4_pass 17 = .ok (.invokevirtual 67, 3) := by decide +kernel
theorem dX4_pass_20 : decode cX4_pass 20 = .ok (.invokevirtual 38, 3) := by decide +kernel
theorem dX4_pass_23 : decode cX4_pass 23 = .ok (.ireturn, 1) := by decide +kernel
theorem dX4_lose_0 : decode cX4_lose 0 = .ok (.aload_n 0, 1) := by decide +kernel
theorem dX4_lose_1 : decode cX4_lose 1 = .ok (.getfield 27, 3) := by decide +kernel
theorem dX4_lose_4 : decode cX4_lose 4 = .ok (.aload_n 0, 1) := by decide +kernel
theorem dX4_lose_5 : decode cX4_lose 5 = .ok (.getfield 23, 3) := by decide +kernel
theorem dX4_lose_8 : decode cX4_lose 8 = .ok (.invokevirtual 30, 3) := by decide +kernel
theorem dX4_lose_11 : decode cX4_lose 11 = .ok (.aload_n 0, 1) := by decide +kernel
theorem dX4_lose_12 : decode cX4_lose 12 = .ok (.aload_n 0, 1) := by decide +kernel
theorem dX4_lose_13 : decode cX4_lose 13 = .ok (.getfield 23, 3) := by decide +kernel
theorem dX4_lose_16 : decode cX4_lose 16 = .ok (.iload_n 1, 1) := by decide +kernel
theorem dX4_lose_17 : decode cX4_lose 17 = .ok (.iload_n 2, 1) := by decide +kernel
theorem dX4_lose_18 : decode cX4_lose 18 = .ok (.invokevirtual 70, 3) := by decide +kernel
theorem dX4_lose_21 : decode cX4_lose 21 = .ok (.invokevirtual 38, 3) := by decide +kernel
theorem dX4_lose_24 : decode cX4_lose 24 = .ok (.ireturn, 1) := by decide +kernel
theorem dX4_regrade_0 : decode cX4_regrade 0 = .ok (.aload_n 0, 1) := by decide +kernel
theorem dX4_regrade_1 : decode cX4_regrade 1 = .ok (.getfield 27, 3) := by decide +kernel
theorem dX4_regrade_4 : decode cX4_regrade 4 = .ok (.aload_n 0, 1) := by decide +kernel
theorem dX4_regrade_5 : decode cX4_regrade 5 = .ok (.getfield 23, 3) := by decide +kernel
theorem dX4_regrade_8 : decode cX4_regrade 8 = .ok (.invokevirtual 30, 3) := by decide +kernel
theorem dX4_regrade_11 : decode cX4_regrade 11 = .ok (.aload_n 0, 1) := by decide +kernel
theorem dX4_regrade_12 : decode cX4_regrade 12 = .ok (.aload_n 0, 1) := by decide +kernel
theorem dX4_regrade_13 : decode cX4_regrade 13 = .ok (.getfield 23, 3) := by decide +kernel
theorem dX4_regrade_16 : decode cX4_regrade 16 = .ok (.iload_n 1, 1) := by decide +kernel
theorem dX4_regrade_17 : decode cX4_regrade 17 = .ok (.iload_n 2, 1) := by decide +kernel
theorem dX4_regrade_18 : decode cX4_regrade 18 = .ok (.invokevirtual 73, 3) := by decide +kernel
theorem dX4_regrade_21 : decode cX4_regrade 21 = .ok (.invokevirtual 38, 3) := by decide +kernel
theorem dX4_regrade_24 : decode cX4_regrade 24 = .ok (.ireturn, 1) := by decide +kernel
theorem dX4_set_0 : decode cX4_set 0 = .ok (.aload_n 0, 1) := by decide +kernel
theorem dX4_set_1 : decode cX4_set 1 = .ok (.getfield 27, 3) := by decide +kernel
theorem dX4_set_4 : decode cX4_set 4 = .ok (.aload_n 0, 1) := by decide +kernel
theorem dX4_set_5 : decode cX4_set 5 = .ok (.getfield 23, 3) := by decide +kernel
theorem dX4_set_8 : decode cX4_set 8 = .ok (.invokevirtual 30, 3) := by decide +kernel
theorem dX4_set_11 : decode cX4_set 11 = .ok (.aload_n 0, 1) := by decide +kernel
theorem dX4_set_12 : decode cX4_set 12 = .ok (.aload_n 0, 1) := by decide +kernel
theorem dX4_set_13 : decode cX4_set 13 = .ok (.getfield 23, 3) := by decide +kernel
theorem dX4_set_16 : decode cX4_set 16 = .ok (.iload_n 1, 1) := by decide +kernel
theorem dX4_set_17 : decode cX4_set 17 = .ok (.iload_n 2, 1) := by decide +kernel
theorem dX4_set_18 : decode cX4_set 18 = .ok (.invokevirtual 76, 3) := by decide +kernel
theorem dX4_set_21 : decode cX4_set 21 = .ok (.invokevirtual 38, 3) := by decide +kernel
theorem dX4_set_24 : decode cX4_set 24 = .ok (.ireturn, 1) := by decide +kernel
theorem dX4_receiptOf_0 : decode cX4_receiptOf 0 = .ok (.aload_n 0, 1) := by decide +kernel
theorem dX4_receiptOf_1 : decode cX4_receiptOf 1 = .ok (.getfield 23, 3) := by decide +kernel
theorem dX4_receiptOf_4 : decode cX4_receiptOf 4 = .ok (.iload_n 1, 1) := by decide +kernel
theorem dX4_receiptOf_5 : decode cX4_receiptOf 5 = .ok (.iload_n 2, 1) := by decide +kernel
theorem dX4_receiptOf_6 : decode cX4_receiptOf 6 = .ok (.invokevirtual 79, 3) := by decide +kernel
theorem dX4_receiptOf_9 : decode cX4_receiptOf 9 = .ok (.ireturn, 1) := by decide +kernel
theorem dX4_receipt_0 : decode cX4_receipt 0 = .ok (.aload_n 0, 1) := by decide +kernel
theorem dX4_receipt_1 : decode cX4_receipt 1 = .ok (.getfield 23, 3) := by decide +kernel
theorem dX4_receipt_4 : decode cX4_receipt 4 = .ok (.iload_n 1, 1) := by decide +kernel
theorem dX4_receipt_5 : decode cX4_receipt 5 = .ok (.invokevirtual 82, 3) := by decide +kernel
theorem dX4_receipt_8 : decode cX4_receipt 8 = .ok (.ireturn, 1) := by decide +kernel
theorem dX4_binOf_0 : decode cX4_binOf 0 = .ok (.aload_n 0, 1) := by decide +kernel
theorem dX4_binOf_1 : decode cX4_binOf 1 = .ok (.getfield 23, 3) := by decide +kernel
theorem dX4_binOf_4 : decode cX4_binOf 4 = .ok (.iload_n 1, 1) := by decide +kernel
theorem dX4_binOf_5 : decode cX4_binOf 5 = .ok (.iload_n 2, 1) := by decide +kernel
theorem dX4_binOf_6 : decode cX4_binOf 6 = .ok (.invokevirtual 85, 3) := by decide +kernel
theorem dX4_binOf_9 : decode cX4_binOf 9 = .ok (.ireturn, 1) := by decide +kernel
theorem dX4_gradeOf_0 : decode cX4_gradeOf 0 = .ok (.aload_n 0, 1) := by decide +kernel
theorem dX4_gradeOf_1 : decode cX4_gradeOf 1 = .ok (.getfield 23, 3) := by decide +kernel
theorem dX4_gradeOf_4 : decode cX4_gradeOf 4 = .ok (.iload_n 1, 1) := by decide +kernel
theorem dX4_gradeOf_5 : decode cX4_gradeOf 5 = .ok (.iload_n 2, 1) := by decide +kernel
theorem dX4_gradeOf_6 : decode cX4_gradeOf 6 = .ok (.invokevirtual 88, 3) := by decide +kernel
theorem dX4_gradeOf_9 : decode cX4_gradeOf 9 = .ok (.ireturn, 1) := by decide +kernel
theorem dX4_ownerOf_0 : decode cX4_ownerOf 0 = .ok (.aload_n 0, 1) := by decide +kernel
theorem dX4_ownerOf_1 : decode cX4_ownerOf 1 = .ok (.getfield 23, 3) := by decide +kernel
theorem dX4_ownerOf_4 : decode cX4_ownerOf 4 = .ok (.iload_n 1, 1) := by decide +kernel
theorem dX4_ownerOf_5 : decode cX4_ownerOf 5 = .ok (.iload_n 2, 1) := by decide +kernel
theorem dX4_ownerOf_6 : decode cX4_ownerOf 6 = .ok (.invokevirtual 91, 3) := by decide +kernel
theorem dX4_ownerOf_9 : decode cX4_ownerOf 9 = .ok (.ireturn, 1) := by decide +kernel
theorem dX4_lenderOf_0 : decode cX4_lenderOf 0 = .ok (.aload_n 0, 1) := by decide +kernel
theorem dX4_lenderOf_1 : decode cX4_lenderOf 1 = .ok (.getfield 23, 3) := by decide +kernel
theorem dX4_lenderOf_4 : decode cX4_lenderOf 4 = .ok (.iload_n 1, 1) := by decide +kernel
theorem dX4_lenderOf_5 : decode cX4_lenderOf 5 = .ok (.iload_n 2, 1) := by decide +kernel
theorem dX4_lenderOf_6 : decode cX4_lenderOf 6 = .ok (.invokevirtual 94, 3) := by decide +kernel
theorem dX4_lenderOf_9 : decode cX4_lenderOf 9 = .ok (.ireturn, 1) := by decide +kernel
theorem dX4_fallTo_0 : decode cX4_fallTo 0 = .ok (.aload_n 0, 1) := by decide +kernel
theorem dX4_fallTo_1 : decode cX4_fallTo 1 = .ok (.getfield 23, 3) := by decide +kernel
theorem dX4_fallTo_4 : decode cX4_fallTo 4 = .ok (.iload_n 1, 1) := by decide +kernel
theorem dX4_fallTo_5 : decode cX4_fallTo 5 = .ok (.invokevirtual 97, 3) := by decide +kernel
theorem dX4_fallTo_8 : decode cX4_fallTo 8 = .ok (.ireturn, 1) := by decide +kernel
theorem dX4_count_0 : decode cX4_count 0 = .ok (.iload_n 1, 1) := by decide +kernel
theorem dX4_count_1 : decode cX4_count 1 = .ok (.lookupswitch 40 #[(8, 27), (9, 32)], 27) := by decide +kernel
theorem dX4_count_28 : decode cX4_count 28 = .ok (.aload_n 0, 1) := by decide +kernel
theorem dX4_count_29 : decode cX4_count 29 = .ok (.getfield 100, 3) := by decide +kernel
theorem dX4_count_32 : decode cX4_count 32 = .ok (.ireturn, 1) := by decide +kernel
theorem dX4_count_33 : decode cX4_count 33 = .ok (.aload_n 0, 1) := by decide +kernel
theorem dX4_count_34 : decode cX4_count 34 = .ok (.getfield 10, 3) := by decide +kernel
theorem dX4_count_37 : decode cX4_count 37 = .ok (.getfield 104, 3) := by decide +kernel
theorem dX4_count_40 : decode cX4_count 40 = .ok (.ireturn, 1) := by decide +kernel
theorem dX4_count_41 : decode cX4_count 41 = .ok (.aload_n 0, 1) := by decide +kernel
theorem dX4_count_42 : decode cX4_count 42 = .ok (.getfield 23, 3) := by decide +kernel
theorem dX4_count_45 : decode cX4_count 45 = .ok (.iload_n 1, 1) := by decide +kernel
theorem dX4_count_46 : decode cX4_count 46 = .ok (.invokevirtual 107, 3) := by decide +kernel
theorem dX4_count_49 : decode cX4_count 49 = .ok (.ireturn, 1) := by decide +kernel
theorem dX4_undo_0 : decode cX4_undo 0 = .ok (.aload_n 0, 1) := by decide +kernel
theorem dX4_undo_1 : decode cX4_undo 1 = .ok (.getfield 100, 3) := by decide +kernel
theorem dX4_undo_4 : decode cX4_undo 4 = .ok (.ifCond .gt 6, 3) := by decide +kernel
theorem dX4_undo_7 : decode cX4_undo 7 = .ok (.ldc 110, 2) := by decide +kernel
theorem dX4_undo_9 : decode cX4_undo 9 = .ok (.ireturn, 1) := by decide +kernel
theorem dX4_undo_10 : decode cX4_undo 10 = .ok (.aload_n 0, 1) := by decide +kernel
theorem dX4_undo_11 : decode cX4_undo 11 = .ok (.getfield 23, 3) := by decide +kernel
theorem dX4_undo_14 : decode cX4_undo 14 = .ok (.astore_n 1, 1) := by decide +kernel
theorem dX4_undo_15 : decode cX4_undo 15 = .ok (.aload_n 0, 1) := by decide +kernel
theorem dX4_undo_16 : decode cX4_undo 16 = .ok (.aload_n 0, 1) := by decide +kernel
theorem dX4_undo_17 : decode cX4_undo 17 = .ok (.getfield 18, 3) := by decide +kernel
theorem dX4_undo_20 : decode cX4_undo 20 = .ok (.iconst 0, 1) := by decide +kernel
theorem dX4_undo_21 : decode cX4_undo 21 = .ok (.aaload, 1) := by decide +kernel
theorem dX4_undo_22 : decode cX4_undo 22 = .ok (.putfield 23, 3) := by decide +kernel
theorem dX4_undo_25 : decode cX4_undo 25 = .ok (.iconst 0, 1) := by decide +kernel
theorem dX4_undo_26 : decode cX4_undo 26 = .ok (.istore_n 2, 1) := by decide +kernel
theorem dX4_undo_27 : decode cX4_undo 27 = .ok (.iload_n 2, 1) := by decide +kernel
theorem dX4_undo_28 : decode cX4_undo 28 = .ok (.iconst 1, 1) := by decide +kernel
theorem dX4_undo_29 : decode cX4_undo 29 = .ok (.iadd, 1) := by decide +kernel
theorem dX4_undo_30 : decode cX4_undo 30 = .ok (.iconst 4, 1) := by decide +kernel
theorem dX4_undo_31 : decode cX4_undo 31 = .ok (.if_icmp .ge 23, 3) := by decide +kernel
theorem dX4_undo_34 : decode cX4_undo 34 = .ok (.aload_n 0, 1) := by decide +kernel
theorem dX4_undo_35 : decode cX4_undo 35 = .ok (.getfield 18, 3) := by decide +kernel
theorem dX4_undo_38 : decode cX4_undo 38 = .ok (.iload_n 2, 1) := by decide +kernel
theorem dX4_undo_39 : decode cX4_undo 39 = .ok (.aload_n 0, 1) := by decide +kernel
theorem dX4_undo_40 : decode cX4_undo 40 = .ok (.getfield 18, 3) := by decide +kernel
theorem dX4_undo_43 : decode cX4_undo 43 = .ok (.iload_n 2, 1) := by decide +kernel
theorem dX4_undo_44 : decode cX4_undo 44 = .ok (.iconst 1, 1) := by decide +kernel
theorem dX4_undo_45 : decode cX4_undo 45 = .ok (.iadd, 1) := by decide +kernel
theorem dX4_undo_46 : decode cX4_undo 46 = .ok (.aaload, 1) := by decide +kernel
theorem dX4_undo_47 : decode cX4_undo 47 = .ok (.aastore, 1) := by decide +kernel
theorem dX4_undo_48 : decode cX4_undo 48 = .ok (.iinc 2 1, 3) := by decide +kernel
theorem dX4_undo_51 : decode cX4_undo 51 = .ok (.goto (-24), 3) := by decide +kernel
theorem dX4_undo_54 : decode cX4_undo 54 = .ok (.aload_n 0, 1) := by decide +kernel
theorem dX4_undo_55 : decode cX4_undo 55 = .ok (.getfield 18, 3) := by decide +kernel
theorem dX4_undo_58 : decode cX4_undo 58 = .ok (.iconst 3, 1) := by decide +kernel
theorem dX4_undo_59 : decode cX4_undo 59 = .ok (.aload_n 1, 1) := by decide +kernel
theorem dX4_undo_60 : decode cX4_undo 60 = .ok (.aastore, 1) := by decide +kernel
theorem dX4_undo_61 : decode cX4_undo 61 = .ok (.aload_n 0, 1) := by decide +kernel
theorem dX4_undo_62 : decode cX4_undo 62 = .ok (.dup, 1) := by decide +kernel
theorem dX4_undo_63 : decode cX4_undo 63 = .ok (.getfield 100, 3) := by decide +kernel
theorem dX4_undo_66 : decode cX4_undo 66 = .ok (.iconst 1, 1) := by decide +kernel
theorem dX4_undo_67 : decode cX4_undo 67 = .ok (.isub, 1) := by decide +kernel
theorem dX4_undo_68 : decode cX4_undo 68 = .ok (.putfield 100, 3) := by decide +kernel
theorem dX4_undo_71 : decode cX4_undo 71 = .ok (.aload_n 0, 1) := by decide +kernel
theorem dX4_undo_72 : decode cX4_undo 72 = .ok (.getfield 100, 3) := by decide +kernel
theorem dX4_undo_75 : decode cX4_undo 75 = .ok (.ireturn, 1) := by decide +kernel
theorem dX4_type_0 : decode cX4_type 0 = .ok (.aload_n 0, 1) := by decide +kernel
theorem dX4_type_1 : decode cX4_type 1 = .ok (.getfield 10, 3) := by decide +kernel
theorem dX4_type_4 : decode cX4_type 4 = .ok (.iload_n 1, 1) := by decide +kernel
theorem dX4_type_5 : decode cX4_type 5 = .ok (.invokevirtual 111, 3) := by decide +kernel
theorem dX4_type_8 : decode cX4_type 8 = .ok (.ireturn, 1) := by decide +kernel
theorem dX4_clearText_0 : decode cX4_clearText 0 = .ok (.aload_n 0, 1) := by decide +kernel
theorem dX4_clearText_1 : decode cX4_clearText 1 = .ok (.getfield 10, 3) := by decide +kernel
theorem dX4_clearText_4 : decode cX4_clearText 4 = .ok (.getfield 104, 3) := by decide +kernel
theorem dX4_clearText_7 : decode cX4_clearText 7 = .ok (.istore_n 1, 1) := by decide +kernel
theorem dX4_clearText_8 : decode cX4_clearText 8 = .ok (.aload_n 0, 1) := by decide +kernel
theorem dX4_clearText_9 : decode cX4_clearText 9 = .ok (.getfield 10, 3) := by decide +kernel
theorem dX4_clearText_12 : decode cX4_clearText 12 = .ok (.iconst 0, 1) := by decide +kernel
theorem dX4_clearText_13 : decode cX4_clearText 13 = .ok (.putfield 104, 3) := by decide +kernel
theorem dX4_clearText_16 : decode cX4_clearText 16 = .ok (.iload_n 1, 1) := by decide +kernel
theorem dX4_clearText_17 : decode cX4_clearText 17 = .ok (.ireturn, 1) := by decide +kernel
theorem dX4_fault_0 : decode cX4_fault 0 = .ok (.iload_n 1, 1) := by decide +kernel
theorem dX4_fault_1 : decode cX4_fault 1 = .ok (.ifCond .lt 8, 3) := by decide +kernel
theorem dX4_fault_4 : decode cX4_fault 4 = .ok (.iload_n 1, 1) := by decide +kernel
theorem dX4_fault_5 : decode cX4_fault 5 = .ok (.iconst 2, 1) := by decide +kernel
theorem dX4_fault_6 : decode cX4_fault 6 = .ok (.if_icmp .le 6, 3) := by decide +kernel
theorem dX4_fault_9 : decode cX4_fault 9 = .ok (.ldc 114, 2) := by decide +kernel
theorem dX4_fault_11 : decode cX4_fault 11 = .ok (.ireturn, 1) := by decide +kernel
theorem dX4_fault_12 : decode cX4_fault 12 = .ok (.aload_n 0, 1) := by decide +kernel
theorem dX4_fault_13 : decode cX4_fault 13 = .ok (.getfield 27, 3) := by decide +kernel
theorem dX4_fault_16 : decode cX4_fault 16 = .ok (.aload_n 0, 1) := by decide +kernel
theorem dX4_fault_17 : decode cX4_fault 17 = .ok (.getfield 23, 3) := by decide +kernel
theorem dX4_fault_20 : decode cX4_fault 20 = .ok (.invokevirtual 30, 3) := by decide +kernel
theorem dX4_fault_23 : decode cX4_fault 23 = .ok (.aload_n 0, 1) := by decide +kernel
theorem dX4_fault_24 : decode cX4_fault 24 = .ok (.getfield 10, 3) := by decide +kernel
theorem dX4_fault_27 : decode cX4_fault 27 = .ok (.aload_n 0, 1) := by decide +kernel
theorem dX4_fault_28 : decode cX4_fault 28 = .ok (.getfield 27, 3) := by decide +kernel
theorem dX4_fault_31 : decode cX4_fault 31 = .ok (.invokevirtual 115, 3) := by decide +kernel
theorem dX4_fault_34 : decode cX4_fault 34 = .ok (.aload_n 0, 1) := by decide +kernel
theorem dX4_fault_35 : decode cX4_fault 35 = .ok (.getfield 10, 3) := by decide +kernel
theorem dX4_fault_38 : decode cX4_fault 38 = .ok (.getfield 118, 3) := by decide +kernel
theorem dX4_fault_41 : decode cX4_fault 41 = .ok (.ifCond .ne 6, 3) := by decide +kernel
theorem dX4_fault_44 : decode cX4_fault 44 = .ok (.ldc 121, 2) := by decide +kernel
theorem dX4_fault_46 : decode cX4_fault 46 = .ok (.ireturn, 1) := by decide +kernel
theorem dX4_fault_47 : decode cX4_fault 47 = .ok (.iload_n 1, 1) := by decide +kernel
theorem dX4_fault_48 : decode cX4_fault 48 = .ok (.lookupswitch 44 #[(0, 28), (1, 36)], 28) := by decide +kernel
theorem dX4_fault_76 : decode cX4_fault 76 = .ok (.aload_n 0, 1) := by decide +kernel
theorem dX4_fault_77 : decode cX4_fault 77 = .ok (.getfield 10, 3) := by decide +kernel
theorem dX4_fault_80 : decode cX4_fault 80 = .ok (.getfield 122, 3) := by decide +kernel
theorem dX4_fault_83 : decode cX4_fault 83 = .ok (.ireturn, 1) := by decide +kernel
theorem dX4_fault_84 : decode cX4_fault 84 = .ok (.aload_n 0, 1) := by decide +kernel
theorem dX4_fault_85 : decode cX4_fault 85 = .ok (.getfield 10, 3) := by decide +kernel
theorem dX4_fault_88 : decode cX4_fault 88 = .ok (.getfield 118, 3) := by decide +kernel
theorem dX4_fault_91 : decode cX4_fault 91 = .ok (.ireturn, 1) := by decide +kernel
theorem dX4_fault_92 : decode cX4_fault 92 = .ok (.aload_n 0, 1) := by decide +kernel
theorem dX4_fault_93 : decode cX4_fault 93 = .ok (.getfield 10, 3) := by decide +kernel
theorem dX4_fault_96 : decode cX4_fault 96 = .ok (.getfield 125, 3) := by decide +kernel
theorem dX4_fault_99 : decode cX4_fault 99 = .ok (.ireturn, 1) := by decide +kernel
theorem dX4_play_0 : decode cX4_play 0 = .ok (.aload_n 0, 1) := by decide +kernel
theorem dX4_play_1 : decode cX4_play 1 = .ok (.getfield 27, 3) := by decide +kernel
theorem dX4_play_4 : decode cX4_play 4 = .ok (.aload_n 0, 1) := by decide +kernel
theorem dX4_play_5 : decode cX4_play 5 = .ok (.getfield 23, 3) := by decide +kernel
theorem dX4_play_8 : decode cX4_play 8 = .ok (.invokevirtual 30, 3) := by decide +kernel
theorem dX4_play_11 : decode cX4_play 11 = .ok (.aload_n 0, 1) := by decide +kernel
theorem dX4_play_12 : decode cX4_play 12 = .ok (.getfield 10, 3) := by decide +kernel
theorem dX4_play_15 : decode cX4_play 15 = .ok (.aload_n 0, 1) := by decide +kernel
theorem dX4_play_16 : decode cX4_play 16 = .ok (.getfield 27, 3) := by decide +kernel
theorem dX4_play_19 : decode cX4_play 19 = .ok (.invokevirtual 115, 3) := by decide +kernel
theorem dX4_play_22 : decode cX4_play 22 = .ok (.aload_n 0, 1) := by decide +kernel
theorem dX4_play_23 : decode cX4_play 23 = .ok (.getfield 10, 3) := by decide +kernel
theorem dX4_play_26 : decode cX4_play 26 = .ok (.getfield 118, 3) := by decide +kernel
theorem dX4_play_29 : decode cX4_play 29 = .ok (.ifCond .eq 6, 3) := by decide +kernel
theorem dX4_play_32 : decode cX4_play 32 = .ok (.ldc 110, 2) := by decide +kernel
theorem dX4_play_34 : decode cX4_play 34 = .ok (.ireturn, 1) := by decide +kernel
theorem dX4_play_35 : decode cX4_play 35 = .ok (.aload_n 0, 1) := by decide +kernel
theorem dX4_play_36 : decode cX4_play 36 = .ok (.getfield 23, 3) := by decide +kernel
theorem dX4_play_39 : decode cX4_play 39 = .ok (.astore_n 1, 1) := by decide +kernel
theorem dX4_play_40 : decode cX4_play 40 = .ok (.aload_n 0, 1) := by decide +kernel
theorem dX4_play_41 : decode cX4_play 41 = .ok (.aload_n 0, 1) := by decide +kernel
theorem dX4_play_42 : decode cX4_play 42 = .ok (.getfield 27, 3) := by decide +kernel
theorem dX4_play_45 : decode cX4_play 45 = .ok (.putfield 23, 3) := by decide +kernel
theorem dX4_play_48 : decode cX4_play 48 = .ok (.aload_n 0, 1) := by decide +kernel
theorem dX4_play_49 : decode cX4_play 49 = .ok (.aload_n 1, 1) := by decide +kernel
theorem dX4_play_50 : decode cX4_play 50 = .ok (.putfield 27, 3) := by decide +kernel
theorem dX4_play_53 : decode cX4_play 53 = .ok (.aload_n 0, 1) := by decide +kernel
theorem dX4_play_54 : decode cX4_play 54 = .ok (.invokevirtual 128, 3) := by decide +kernel
theorem dX4_play_57 : decode cX4_play 57 = .ok (.aload_n 0, 1) := by decide +kernel
theorem dX4_play_58 : decode cX4_play 58 = .ok (.getfield 10, 3) := by decide +kernel
theorem dX4_play_61 : decode cX4_play 61 = .ok (.getfield 131, 3) := by decide +kernel
theorem dX4_play_64 : decode cX4_play 64 = .ok (.ireturn, 1) := by decide +kernel
theorem dX4_recorded_0 : decode cX4_recorded 0 = .ok (.iload_n 1, 1) := by decide +kernel
theorem dX4_recorded_1 : decode cX4_recorded 1 = .ok (.invokestatic 134, 3) := by decide +kernel
theorem dX4_recorded_4 : decode cX4_recorded 4 = .ok (.ifCond .ne 7, 3) := by decide +kernel
theorem dX4_recorded_7 : decode cX4_recorded 7 = .ok (.aload_n 0, 1) := by decide +kernel
theorem dX4_recorded_8 : decode cX4_recorded 8 = .ok (.invokevirtual 128, 3) := by decide +kernel
theorem dX4_recorded_11 : decode cX4_recorded 11 = .ok (.iload_n 1, 1) := by decide +kernel
theorem dX4_recorded_12 : decode cX4_recorded 12 = .ok (.ireturn, 1) := by decide +kernel
theorem dX4_recordSpare_0 : decode cX4_recordSpare 0 = .ok (.aload_n 0, 1) := by decide +kernel
theorem dX4_recordSpare_1 : decode cX4_recordSpare 1 = .ok (.getfield 18, 3) := by decide +kernel
theorem dX4_recordSpare_4 : decode cX4_recordSpare 4 = .ok (.iconst 3, 1) := by decide +kernel
theorem dX4_recordSpare_5 : decode cX4_recordSpare 5 = .ok (.aaload, 1) := by decide +kernel
theorem dX4_recordSpare_6 : decode cX4_recordSpare 6 = .ok (.astore_n 1, 1) := by decide +kernel
theorem dX4_recordSpare_7 : decode cX4_recordSpare 7 = .ok (.iconst 3, 1) := by decide +kernel
theorem dX4_recordSpare_8 : decode cX4_recordSpare 8 = .ok (.istore_n 2, 1) := by decide +kernel
theorem dX4_recordSpare_9 : decode cX4_recordSpare 9 = .ok (.iload_n 2, 1) := by decide +kernel
theorem dX4_recordSpare_10 : decode cX4_recordSpare 10 = .ok (.ifCond .le 23, 3) := by decide +kernel
theorem dX4_recordSpare_13 : decode cX4_recordSpare 13 = .ok (.aload_n 0, 1) := by decide +kernel
theorem dX4_recordSpare_14 : decode cX4_recordSpare 14 = .ok (.getfield 18, 3) := by decide +kernel
theorem dX4_recordSpare_17 : decode cX4_recordSpare 17 = .ok (.iload_n 2, 1) := by decide +kernel
theorem dX4_recordSpare_18 : decode cX4_recordSpare 18 = .ok (.aload_n 0, 1) := by decide +kernel
theorem dX4_recordSpare_19 : decode cX4_recordSpare 19 = .ok (.getfield 18, 3) := by decide +kernel
theorem dX4_recordSpare_22 : decode cX4_recordSpare 22 = .ok (.iload_n 2, 1) := by decide +kernel
theorem dX4_recordSpare_23 : decode cX4_recordSpare 23 = .ok (.iconst 1, 1) := by decide +kernel
theorem dX4_recordSpare_24 : decode cX4_recordSpare 24 = .ok (.isub, 1) := by decide +kernel
theorem dX4_recordSpare_25 : decode cX4_recordSpare 25 = .ok (.aaload, 1) := by decide +kernel
theorem dX4_recordSpare_26 : decode cX4_recordSpare 26 = .ok (.aastore, 1) := by decide +kernel
theorem dX4_recordSpare_27 : decode cX4_recordSpare 27 = .ok (.iinc 2 (-1), 3) := by decide +kernel
theorem dX4_recordSpare_30 : decode cX4_recordSpare 30 = .ok (.goto (-21), 3) := by decide +kernel
theorem dX4_recordSpare_33 : decode cX4_recordSpare 33 = .ok (.aload_n 0, 1) := by decide +kernel
theorem dX4_recordSpare_34 : decode cX4_recordSpare 34 = .ok (.getfield 18, 3) := by decide +kernel
theorem dX4_recordSpare_37 : decode cX4_recordSpare 37 = .ok (.iconst 0, 1) := by decide +kernel
theorem dX4_recordSpare_38 : decode cX4_recordSpare 38 = .ok (.aload_n 0, 1) := by decide +kernel
theorem dX4_recordSpare_39 : decode cX4_recordSpare 39 = .ok (.getfield 27, 3) := by decide +kernel
theorem dX4_recordSpare_42 : decode cX4_recordSpare 42 = .ok (.aastore, 1) := by decide +kernel
theorem dX4_recordSpare_43 : decode cX4_recordSpare 43 = .ok (.aload_n 0, 1) := by decide +kernel
theorem dX4_recordSpare_44 : decode cX4_recordSpare 44 = .ok (.aload_n 1, 1) := by decide +kernel
theorem dX4_recordSpare_45 : decode cX4_recordSpare 45 = .ok (.putfield 27, 3) := by decide +kernel
theorem dX4_recordSpare_48 : decode cX4_recordSpare 48 = .ok (.aload_n 0, 1) := by decide +kernel
theorem dX4_recordSpare_49 : decode cX4_recordSpare 49 = .ok (.getfield 100, 3) := by decide +kernel
theorem dX4_recordSpare_52 : decode cX4_recordSpare 52 = .ok (.iconst 4, 1) := by decide +kernel
theorem dX4_recordSpare_53 : decode cX4_recordSpare 53 = .ok (.if_icmp .ge 13, 3) := by decide +kernel
theorem dX4_recordSpare_56 : decode cX4_recordSpare 56 = .ok (.aload_n 0, 1) := by decide +kernel
theorem dX4_recordSpare_57 : decode cX4_recordSpare 57 = .ok (.dup, 1) := by decide +kernel
theorem dX4_recordSpare_58 : decode cX4_recordSpare 58 = .ok (.getfield 100, 3) := by decide +kernel
theorem dX4_recordSpare_61 : decode cX4_recordSpare 61 = .ok (.iconst 1, 1) := by decide +kernel
theorem dX4_recordSpare_62 : decode cX4_recordSpare 62 = .ok (.iadd, 1) := by decide +kernel
theorem dX4_recordSpare_63 : decode cX4_recordSpare 63 = .ok (.putfield 100, 3) := by decide +kernel
theorem dX4_recordSpare_66 : decode cX4_recordSpare 66 = .ok (.return_, 1) := by decide +kernel
theorem dX4_isError_0 : decode cX4_isError 0 = .ok (.iload_n 0, 1) := by decide +kernel
theorem dX4_isError_1 : decode cX4_isError 1 = .ok (.ldc 121, 2) := by decide +kernel
theorem dX4_isError_3 : decode cX4_isError 3 = .ok (.if_icmp .lt 13, 3) := by decide +kernel
theorem dX4_isError_6 : decode cX4_isError 6 = .ok (.iload_n 0, 1) := by decide +kernel
theorem dX4_isError_7 : decode cX4_isError 7 = .ok (.ldc 114, 2) := by decide +kernel
theorem dX4_isError_9 : decode cX4_isError 9 = .ok (.if_icmp .gt 7, 3) := by decide +kernel
theorem dX4_isError_12 : decode cX4_isError 12 = .ok (.iconst 1, 1) := by decide +kernel
theorem dX4_isError_13 : decode cX4_isError 13 = .ok (.goto 4, 3) := by decide +kernel
theorem dX4_isError_16 : decode cX4_isError 16 = .ok (.iconst 0, 1) := by decide +kernel
theorem dX4_isError_17 : decode cX4_isError 17 = .ok (.ireturn, 1) := by decide +kernel
theorem dX4_isGrade_0 : decode cX4_isGrade 0 = .ok (.iload_n 0, 1) := by decide +kernel
theorem dX4_isGrade_1 : decode cX4_isGrade 1 = .ok (.ifCond .lt 12, 3) := by decide +kernel
theorem dX4_isGrade_4 : decode cX4_isGrade 4 = .ok (.iload_n 0, 1) := by decide +kernel
theorem dX4_isGrade_5 : decode cX4_isGrade 5 = .ok (.iconst 3, 1) := by decide +kernel
theorem dX4_isGrade_6 : decode cX4_isGrade 6 = .ok (.if_icmp .ge 7, 3) := by decide +kernel
theorem dX4_isGrade_9 : decode cX4_isGrade 9 = .ok (.iconst 1, 1) := by decide +kernel
theorem dX4_isGrade_10 : decode cX4_isGrade 10 = .ok (.goto 4, 3) := by decide +kernel
theorem dX4_isGrade_13 : decode cX4_isGrade 13 = .ok (.iconst 0, 1) := by decide +kernel
theorem dX4_isGrade_14 : decode cX4_isGrade 14 = .ok (.ireturn, 1) := by decide +kernel
theorem dX4_isBin_0 : decode cX4_isBin 0 = .ok (.iload_n 0, 1) := by decide +kernel
theorem dX4_isBin_1 : decode cX4_isBin 1 = .ok (.ifCond .lt 12, 3) := by decide +kernel
theorem dX4_isBin_4 : decode cX4_isBin 4 = .ok (.iload_n 0, 1) := by decide +kernel
theorem dX4_isBin_5 : decode cX4_isBin 5 = .ok (.iconst 5, 1) := by decide +kernel
theorem dX4_isBin_6 : decode cX4_isBin 6 = .ok (.if_icmp .ge 7, 3) := by decide +kernel
theorem dX4_isBin_9 : decode cX4_isBin 9 = .ok (.iconst 1, 1) := by decide +kernel
theorem dX4_isBin_10 : decode cX4_isBin 10 = .ok (.goto 4, 3) := by decide +kernel
theorem dX4_isBin_13 : decode cX4_isBin 13 = .ok (.iconst 0, 1) := by decide +kernel
theorem dX4_isBin_14 : decode cX4_isBin 14 = .ok (.ireturn, 1) := by decide +kernel
theorem dX4_isOwner_0 : decode cX4_isOwner 0 = .ok (.iload_n 0, 1) := by decide +kernel
theorem dX4_isOwner_1 : decode cX4_isOwner 1 = .ok (.ifCond .lt 13, 3) := by decide +kernel
theorem dX4_isOwner_4 : decode cX4_isOwner 4 = .ok (.iload_n 0, 1) := by decide +kernel
theorem dX4_isOwner_5 : decode cX4_isOwner 5 = .ok (.bipush 8, 2) := by decide +kernel
theorem dX4_isOwner_7 : decode cX4_isOwner 7 = .ok (.if_icmp .ge 7, 3) := by decide +kernel
theorem dX4_isOwner_10 : decode cX4_isOwner 10 = .ok (.iconst 1, 1) := by decide +kernel
theorem dX4_isOwner_11 : decode cX4_isOwner 11 = .ok (.goto 4, 3) := by decide +kernel
theorem dX4_isOwner_14 : decode cX4_isOwner 14 = .ok (.iconst 0, 1) := by decide +kernel
theorem dX4_isOwner_15 : decode cX4_isOwner 15 = .ok (.ireturn, 1) := by decide +kernel
theorem dX4_isLender_0 : decode cX4_isLender 0 = .ok (.iload_n 0, 1) := by decide +kernel
theorem dX4_isLender_1 : decode cX4_isLender 1 = .ok (.ifCond .lt 12, 3) := by decide +kernel
theorem dX4_isLender_4 : decode cX4_isLender 4 = .ok (.iload_n 0, 1) := by decide +kernel
theorem dX4_isLender_5 : decode cX4_isLender 5 = .ok (.iconst 3, 1) := by decide +kernel
theorem dX4_isLender_6 : decode cX4_isLender 6 = .ok (.if_icmp .ge 7, 3) := by decide +kernel
theorem dX4_isLender_9 : decode cX4_isLender 9 = .ok (.iconst 1, 1) := by decide +kernel
theorem dX4_isLender_10 : decode cX4_isLender 10 = .ok (.goto 4, 3) := by decide +kernel
theorem dX4_isLender_13 : decode cX4_isLender 13 = .ok (.iconst 0, 1) := by decide +kernel
theorem dX4_isLender_14 : decode cX4_isLender 14 = .ok (.ireturn, 1) := by decide +kernel
theorem dX4_isSetting_0 : decode cX4_isSetting 0 = .ok (.iload_n 0, 1) := by decide +kernel
theorem dX4_isSetting_1 : decode cX4_isSetting 1 = .ok (.ifCond .lt 12, 3) := by decide +kernel
theorem dX4_isSetting_4 : decode cX4_isSetting 4 = .ok (.iload_n 0, 1) := by decide +kernel
theorem dX4_isSetting_5 : decode cX4_isSetting 5 = .ok (.iconst 4, 1) := by decide +kernel
theorem dX4_isSetting_6 : decode cX4_isSetting 6 = .ok (.if_icmp .ge 7, 3) := by decide +kernel
theorem dX4_isSetting_9 : decode cX4_isSetting 9 = .ok (.iconst 1, 1) := by decide +kernel
theorem dX4_isSetting_10 : decode cX4_isSetting 10 = .ok (.goto 4, 3) := by decide +kernel
theorem dX4_isSetting_13 : decode cX4_isSetting 13 = .ok (.iconst 0, 1) := by decide +kernel
theorem dX4_isSetting_14 : decode cX4_isSetting 14 = .ok (.ireturn, 1) := by decide +kernel
theorem dX4_bitsOf_0 : decode cX4_bitsOf 0 = .ok (.fload_n 0, 1) := by decide +kernel
theorem dX4_bitsOf_1 : decode cX4_bitsOf 1 = .ok (.fconst 0, 1) := by decide +kernel
theorem dX4_bitsOf_2 : decode cX4_bitsOf 2 = .ok (.fcmp .g, 1) := by decide +kernel
theorem dX4_bitsOf_3 : decode cX4_bitsOf 3 = .ok (.ifCond .gt 5, 3) := by decide +kernel
theorem dX4_bitsOf_6 : decode cX4_bitsOf 6 = .ok (.iconst 0, 1) := by decide +kernel
theorem dX4_bitsOf_7 : decode cX4_bitsOf 7 = .ok (.ireturn, 1) := by decide +kernel
theorem dX4_bitsOf_8 : decode cX4_bitsOf 8 = .ok (.fload_n 0, 1) := by decide +kernel
theorem dX4_bitsOf_9 : decode cX4_bitsOf 9 = .ok (.fstore_n 1, 1) := by decide +kernel
theorem dX4_bitsOf_10 : decode cX4_bitsOf 10 = .ok (.bipush 127, 2) := by decide +kernel
theorem dX4_bitsOf_12 : decode cX4_bitsOf 12 = .ok (.istore_n 2, 1) := by decide +kernel
theorem dX4_bitsOf_13 : decode cX4_bitsOf 13 = .ok (.iconst 0, 1) := by decide +kernel
theorem dX4_bitsOf_14 : decode cX4_bitsOf 14 = .ok (.istore_n 3, 1) := by decide +kernel
theorem dX4_bitsOf_15 : decode cX4_bitsOf 15 = .ok (.iload_n 3, 1) := by decide +kernel
theorem dX4_bitsOf_16 : decode cX4_bitsOf 16 = .ok (.bipush 127, 2) := by decide +kernel
theorem dX4_bitsOf_18 : decode cX4_bitsOf 18 = .ok (.if_icmp .ge 22, 3) := by decide +kernel
theorem dX4_bitsOf_21 : decode cX4_bitsOf 21 = .ok (.fload_n 1, 1) := by decide +kernel
theorem dX4_bitsOf_22 : decode cX4_bitsOf 22 = .ok (.fconst 2, 1) := by decide +kernel
theorem dX4_bitsOf_23 : decode cX4_bitsOf 23 = .ok (.fcmp .l, 1) := by decide +kernel
theorem dX4_bitsOf_24 : decode cX4_bitsOf 24 = .ok (.ifCond .lt 16, 3) := by decide +kernel
theorem dX4_bitsOf_27 : decode cX4_bitsOf 27 = .ok (.fload_n 1, 1) := by decide +kernel
theorem dX4_bitsOf_28 : decode cX4_bitsOf 28 = .ok (.fconst 2, 1) := by decide +kernel
theorem dX4_bitsOf_29 : decode cX4_bitsOf 29 = .ok (.fdiv, 1) := by decide +kernel
theorem dX4_bitsOf_30 : decode cX4_bitsOf 30 = .ok (.fstore_n 1, 1) := by decide +kernel
theorem dX4_bitsOf_31 : decode cX4_bitsOf 31 = .ok (.iinc 2 1, 3) := by decide +kernel
theorem dX4_bitsOf_34 : decode cX4_bitsOf 34 = .ok (.iinc 3 1, 3) := by decide +kernel
theorem dX4_bitsOf_37 : decode cX4_bitsOf 37 = .ok (.goto (-22), 3) := by decide +kernel
theorem dX4_bitsOf_40 : decode cX4_bitsOf 40 = .ok (.iconst 0, 1) := by decide +kernel
theorem dX4_bitsOf_41 : decode cX4_bitsOf 41 = .ok (.istore_n 3, 1) := by decide +kernel
theorem dX4_bitsOf_42 : decode cX4_bitsOf 42 = .ok (.iload_n 3, 1) := by decide +kernel
theorem dX4_bitsOf_43 : decode cX4_bitsOf 43 = .ok (.bipush 126, 2) := by decide +kernel
theorem dX4_bitsOf_45 : decode cX4_bitsOf 45 = .ok (.if_icmp .ge 22, 3) := by decide +kernel
theorem dX4_bitsOf_48 : decode cX4_bitsOf 48 = .ok (.fload_n 1, 1) := by decide +kernel
theorem dX4_bitsOf_49 : decode cX4_bitsOf 49 = .ok (.fconst 1, 1) := by decide +kernel
theorem dX4_bitsOf_50 : decode cX4_bitsOf 50 = .ok (.fcmp .g, 1) := by decide +kernel
theorem dX4_bitsOf_51 : decode cX4_bitsOf 51 = .ok (.ifCond .ge 16, 3) := by decide +kernel
theorem dX4_bitsOf_54 : decode cX4_bitsOf 54 = .ok (.fload_n 1, 1) := by decide +kernel
theorem dX4_bitsOf_55 : decode cX4_bitsOf 55 = .ok (.fconst 2, 1) := by decide +kernel
theorem dX4_bitsOf_56 : decode cX4_bitsOf 56 = .ok (.fmul, 1) := by decide +kernel
theorem dX4_bitsOf_57 : decode cX4_bitsOf 57 = .ok (.fstore_n 1, 1) := by decide +kernel
theorem dX4_bitsOf_58 : decode cX4_bitsOf 58 = .ok (.iinc 2 (-1), 3) := by decide +kernel
theorem dX4_bitsOf_61 : decode cX4_bitsOf 61 = .ok (.iinc 3 1, 3) := by decide +kernel
theorem dX4_bitsOf_64 : decode cX4_bitsOf 64 = .ok (.goto (-22), 3) := by decide +kernel
theorem dX4_bitsOf_67 : decode cX4_bitsOf 67 = .ok (.iload_n 2, 1) := by decide +kernel
theorem dX4_bitsOf_68 : decode cX4_bitsOf 68 = .ok (.bipush 23, 2) := by decide +kernel
theorem dX4_bitsOf_70 : decode cX4_bitsOf 70 = .ok (.ishl, 1) := by decide +kernel
theorem dX4_bitsOf_71 : decode cX4_bitsOf 71 = .ok (.fload_n 1, 1) := by decide +kernel
theorem dX4_bitsOf_72 : decode cX4_bitsOf 72 = .ok (.ldc 138, 2) := by decide +kernel
theorem dX4_bitsOf_74 : decode cX4_bitsOf 74 = .ok (.fmul, 1) := by decide +kernel
theorem dX4_bitsOf_75 : decode cX4_bitsOf 75 = .ok (.f2i, 1) := by decide +kernel
theorem dX4_bitsOf_76 : decode cX4_bitsOf 76 = .ok (.ldc 139, 2) := by decide +kernel
theorem dX4_bitsOf_78 : decode cX4_bitsOf 78 = .ok (.isub, 1) := by decide +kernel
theorem dX4_bitsOf_79 : decode cX4_bitsOf 79 = .ok (.iadd, 1) := by decide +kernel
theorem dX4_bitsOf_80 : decode cX4_bitsOf 80 = .ok (.ireturn, 1) := by decide +kernel
theorem dX5_init_0 : decode cX5_init 0 = .ok (.aload_n 0, 1) := by decide +kernel
theorem dX5_init_1 : decode cX5_init 1 = .ok (.invokespecial 1, 3) := by decide +kernel
theorem dX5_init_4 : decode cX5_init 4 = .ok (.aload_n 0, 1) := by decide +kernel
theorem dX5_init_5 : decode cX5_init 5 = .ok (.sipush 146, 3) := by decide +kernel
theorem dX5_init_8 : decode cX5_init 8 = .ok (.newarray .int, 2) := by decide +kernel
theorem dX5_init_10 : decode cX5_init 10 = .ok (.putfield 7, 3) := by decide +kernel
theorem dX5_init_13 : decode cX5_init 13 = .ok (.aload_n 0, 1) := by decide +kernel
theorem dX5_init_14 : decode cX5_init 14 = .ok (.sipush 146, 3) := by decide +kernel
theorem dX5_init_17 : decode cX5_init 17 = .ok (.newarray .int, 2) := by decide +kernel
theorem dX5_init_19 : decode cX5_init 19 = .ok (.putfield 13, 3) := by decide +kernel
theorem dX5_init_22 : decode cX5_init 22 = .ok (.aload_n 0, 1) := by decide +kernel
theorem dX5_init_23 : decode cX5_init 23 = .ok (.sipush 584, 3) := by decide +kernel
theorem dX5_init_26 : decode cX5_init 26 = .ok (.newarray .int, 2) := by decide +kernel
theorem dX5_init_28 : decode cX5_init 28 = .ok (.putfield 16, 3) := by decide +kernel
theorem dX5_init_31 : decode cX5_init 31 = .ok (.aload_n 0, 1) := by decide +kernel
theorem dX5_init_32 : decode cX5_init 32 = .ok (.bipush 60, 2) := by decide +kernel
theorem dX5_init_34 : decode cX5_init 34 = .ok (.newarray .int, 2) := by decide +kernel
theorem dX5_init_36 : decode cX5_init 36 = .ok (.putfield 19, 3) := by decide +kernel
theorem dX5_init_39 : decode cX5_init 39 = .ok (.aload_n 0, 1) := by decide +kernel
theorem dX5_init_40 : decode cX5_init 40 = .ok (.iconst 3, 1) := by decide +kernel
theorem dX5_init_41 : decode cX5_init 41 = .ok (.newarray .int, 2) := by decide +kernel
theorem dX5_init_43 : decode cX5_init 43 = .ok (.putfield 22, 3) := by decide +kernel
theorem dX5_init_46 : decode cX5_init 46 = .ok (.aload_n 0, 1) := by decide +kernel
theorem dX5_init_47 : decode cX5_init 47 = .ok (.getfield 7, 3) := by decide +kernel
theorem dX5_init_50 : decode cX5_init 50 = .ok (.bipush 6, 2) := by decide +kernel
theorem dX5_init_52 : decode cX5_init 52 = .ok (.bipush 70, 2) := by decide +kernel
theorem dX5_init_54 : decode cX5_init 54 = .ok (.iastore, 1) := by decide +kernel
theorem dX5_init_55 : decode cX5_init 55 = .ok (.aload_n 0, 1) := by decide +kernel
theorem dX5_init_56 : decode cX5_init 56 = .ok (.getfield 7, 3) := by decide +kernel
theorem dX5_init_59 : decode cX5_init 59 = .ok (.bipush 7, 2) := by decide +kernel
theorem dX5_init_61 : decode cX5_init 61 = .ok (.bipush 90, 2) := by decide +kernel
theorem dX5_init_63 : decode cX5_init 63 = .ok (.iastore, 1) := by decide +kernel
theorem dX5_init_64 : decode cX5_init 64 = .ok (.aload_n 0, 1) := by decide +kernel
theorem dX5_init_65 : decode cX5_init 65 = .ok (.getfield 7, 3) := by decide +kernel
theorem dX5_init_68 : decode cX5_init 68 = .ok (.bipush 8, 2) := by decide +kernel
theorem dX5_init_70 : decode cX5_init 70 = .ok (.iconst 3, 1) := by decide +kernel
theorem dX5_init_71 : decode cX5_init 71 = .ok (.iastore, 1) := by decide +kernel
theorem dX5_init_72 : decode cX5_init 72 = .ok (.aload_n 0, 1) := by decide +kernel
theorem dX5_init_73 : decode cX5_init 73 = .ok (.getfield 7, 3) := by decide +kernel
theorem dX5_init_76 : decode cX5_init 76 = .ok (.bipush 9, 2) := by decide +kernel
theorem dX5_init_78 : decode cX5_init 78 = .ok (.iconst 4, 1) := by decide +kernel
theorem dX5_init_79 : decode cX5_init 79 = .ok (.iastore, 1) := by decide +kernel
theorem dX5_init_80 : decode cX5_init 80 = .ok (.iconst 0, 1) := by decide +kernel
theorem dX5_init_81 : decode cX5_init 81 = .ok (.istore_n 1, 1) := by decide +kernel
theorem dX5_init_82 : decode cX5_init 82 = .ok (.iload_n 1, 1) := by decide +kernel
theorem dX5_init_83 : decode cX5_init 83 = .ok (.iconst 3, 1) := by decide +kernel
theorem dX5_init_84 : decode cX5_init 84 = .ok (.if_icmp .ge 25, 3) := by decide +kernel
theorem dX5_init_87 : decode cX5_init 87 = .ok (.aload_n 0, 1) := by decide +kernel
theorem dX5_init_88 : decode cX5_init 88 = .ok (.getfield 7, 3) := by decide +kernel
theorem dX5_init_91 : decode cX5_init 91 = .ok (.bipush 10, 2) := by decide +kernel
theorem dX5_init_93 : decode cX5_init 93 = .ok (.iload_n 1, 1) := by decide +kernel
theorem dX5_init_94 : decode cX5_init 94 = .ok (.iadd, 1) := by decide +kernel
theorem dX5_init_95 : decode cX5_init 95 = .ok (.bipush 30, 2) := by decide +kernel
theorem dX5_init_97 : decode cX5_init 97 = .ok (.bipush 10, 2) := by decide +kernel
theorem dX5_init_99 : decode cX5_init 99 = .ok (.iload_n 1, 1) := by decide +kernel
theorem dX5_init_100 : decode cX5_init 100 = .ok (.imul, 1) := by decide +kernel
theorem dX5_init_101 : decode cX5_init 101 = .ok (.isub, 1) := by decide +kernel
theorem dX5_init_102 : decode cX5_init 102 = .ok (.iastore, 1) := by decide +kernel
theorem dX5_init_103 : decode cX5_init 103 = .ok (.iinc 1 1, 3) := by decide +kernel
theorem dX5_init_106 : decode cX5_init 106 = .ok (.goto (-24), 3) := by decide +kernel
theorem dX5_init_109 : decode cX5_init 109 = .ok (.iconst 0, 1) := by decide +kernel
theorem dX5_init_110 : decode cX5_init 110 = .ok (.istore_n 1, 1) := by decide +kernel
theorem dX5_init_111 : decode cX5_init 111 = .ok (.iload_n 1, 1) := by decide +kernel
theorem dX5_init_112 : decode cX5_init 112 = .ok (.iconst 5, 1) := by decide +kernel
theorem dX5_init_113 : decode cX5_init 113 = .ok (.if_icmp .ge 23, 3) := by decide +kernel
theorem dX5_init_116 : decode cX5_init 116 = .ok (.aload_n 0, 1) := by decide +kernel
theorem dX5_init_117 : decode cX5_init 117 = .ok (.getfield 7, 3) := by decide +kernel
theorem dX5_init_120 : decode cX5_init 120 = .ok (.bipush 24, 2) := by decide +kernel
theorem dX5_init_122 : decode cX5_init 122 = .ok (.iconst 2, 1) := by decide +kernel
theorem dX5_init_123 : decode cX5_init 123 = .ok (.iload_n 1, 1) := by decide +kernel
theorem dX5_init_124 : decode cX5_init 124 = .ok (.imul, 1) := by decide +kernel
theorem dX5_init_125 : decode cX5_init 125 = .ok (.iadd, 1) := by decide +kernel
theorem dX5_init_126 : decode cX5_init 126 = .ok (.iload_n 1, 1) := by decide +kernel
theorem dX5_init_127 : decode cX5_init 127 = .ok (.iconst 2, 1) := by decide +kernel
theorem dX5_init_128 : decode cX5_init 128 = .ok (.idiv, 1) := by decide +kernel
theorem dX5_init_129 : decode cX5_init 129 = .ok (.iastore, 1) := by decide +kernel
theorem dX5_init_130 : decode cX5_init 130 = .ok (.iinc 1 1, 3) := by decide +kernel
theorem dX5_init_133 : decode cX5_init 133 = .ok (.goto (-22), 3) := by decide +kernel
theorem dX5_init_136 : decode cX5_init 136 = .ok (.return_, 1) := by decide +kernel
theorem dX5_in_0 : decode cX5_in 0 = .ok (.iload_n 0, 1) := by decide +kernel
theorem dX5_in_1 : decode cX5_in 1 = .ok (.iload_n 1, 1) := by decide +kernel
theorem dX5_in_2 : decode cX5_in 2 = .ok (.if_icmp .lt 12, 3) := by decide +kernel
theorem dX5_in_5 : decode cX5_in 5 = .ok (.iload_n 0, 1) := by decide +kernel
theorem dX5_in_6 : decode cX5_in 6 = .ok (.iload_n 2, 1) := by decide +kernel
theorem dX5_in_7 : decode cX5_in 7 = .ok (.if_icmp .gt 7, 3) := by decide +kernel
theorem dX5_in_10 : decode cX5_in 10 = .ok (.iconst 1, 1) := by decide +kernel
theorem dX5_in_11 : decode cX5_in 11 = .ok (.goto 4, 3) := by decide +kernel
theorem dX5_in_14 : decode cX5_in 14 = .ok (.iconst 0, 1) := by decide +kernel
theorem dX5_in_15 : decode cX5_in 15 = .ok (.ireturn, 1) := by decide +kernel
theorem dX5_begins_0 : decode cX5_begins 0 = .ok (.iconst 0, 1) := by decide +kernel
theorem dX5_begins_1 : decode cX5_begins 1 = .ok (.istore_n 1, 1) := by decide +kernel
theorem dX5_begins_2 : decode cX5_begins 2 = .ok (.iload_n 1, 1) := by decide +kernel
theorem dX5_begins_3 : decode cX5_begins 3 = .ok (.sipush 146, 3) := by decide +kernel
theorem dX5_begins_6 : decode cX5_begins 6 = .ok (.if_icmp .ge 21, 3) := by decide +kernel
theorem dX5_begins_9 : decode cX5_begins 9 = .ok (.aload_n 0, 1) := by decide +kernel
theorem dX5_begins_10 : decode cX5_begins 10 = .ok (.getfield 13, 3) := by decide +kernel
theorem dX5_begins_13 : decode cX5_begins 13 = .ok (.iload_n 1, 1) := by decide +kernel
theorem dX5_begins_14 : decode cX5_begins 14 = .ok (.aload_n 0, 1) := by decide +kernel
theorem dX5_begins_15 : decode cX5_begins 15 = .ok (.getfield 7, 3) := by decide +kernel
theorem dX5_begins_18 : decode cX5_begins 18 = .ok (.iload_n 1, 1) := by decide +kernel
theorem dX5_begins_19 : decode cX5_begins 19 = .ok (.iaload, 1) := by decide +kernel
theorem dX5_begins_20 : decode cX5_begins 20 = .ok (.iastore, 1) := by decide +kernel
theorem dX5_begins_21 : decode cX5_begins 21 = .ok (.iinc 1 1, 3) := by decide +kernel
theorem dX5_begins_24 : decode cX5_begins 24 = .ok (.goto (-22), 3) := by decide +kernel
theorem dX5_begins_27 : decode cX5_begins 27 = .ok (.return_, 1) := by decide +kernel
theorem dX5_returns_0 : decode cX5_returns 0 = .ok (.iconst 0, 1) := by decide +kernel
theorem dX5_returns_1 : decode cX5_returns 1 = .ok (.istore_n 1, 1) := by decide +kernel
theorem dX5_returns_2 : decode cX5_returns 2 = .ok (.iload_n 1, 1) := by decide +kernel
theorem dX5_returns_3 : decode cX5_returns 3 = .ok (.sipush 146, 3) := by decide +kernel
theorem dX5_returns_6 : decode cX5_returns 6 = .ok (.if_icmp .ge 21, 3) := by decide +kernel
theorem dX5_returns_9 : decode cX5_returns 9 = .ok (.aload_n 0, 1) := by decide +kernel
theorem dX5_returns_10 : decode cX5_returns 10 = .ok (.getfield 7, 3) := by decide +kernel
theorem dX5_returns_13 : decode cX5_returns 13 = .ok (.iload_n 1, 1) := by decide +kernel
theorem dX5_returns_14 : decode cX5_returns 14 = .ok (.aload_n 0, 1) := by decide +kernel
theorem dX5_returns_15 : decode cX5_returns 15 = .ok (.getfield 13, 3) := by decide +kernel
theorem dX5_returns_18 : decode cX5_returns 18 = .ok (.iload_n 1, 1) := by decide +kernel
theorem dX5_returns_19 : decode cX5_returns 19 = .ok (.iaload, 1) := by decide +kernel
theorem dX5_returns_20 : decode cX5_returns 20 = .ok (.iastore, 1) := by decide +kernel
theorem dX5_returns_21 : decode cX5_returns 21 = .ok (.iinc 1 1, 3) := by decide +kernel
theorem dX5_returns_24 : decode cX5_returns 24 = .ok (.goto (-22), 3) := by decide +kernel
theorem dX5_returns_27 : decode cX5_returns 27 = .ok (.return_, 1) := by decide +kernel
theorem dX5_acted_0 : decode cX5_acted 0 = .ok (.iload_n 1, 1) := by decide +kernel
theorem dX5_acted_1 : decode cX5_acted 1 = .ok (.ldc 25, 2) := by decide +kernel
theorem dX5_acted_3 : decode cX5_acted 3 = .ok (.if_icmp .gt 9, 3) := by decide +kernel
theorem dX5_acted_6 : decode cX5_acted 6 = .ok (.aload_n 0, 1) := by decide +kernel
theorem dX5_acted_7 : decode cX5_acted 7 = .ok (.invokevirtual 26, 3) := by decide +kernel
theorem dX5_acted_10 : decode cX5_acted 10 = .ok (.iload_n 1, 1) := by decide +kernel
theorem dX5_acted_11 : decode cX5_acted 11 = .ok (.ireturn, 1) := by decide +kernel
theorem dX5_acted_12 : decode cX5_acted 12 = .ok (.aload_n 0, 1) := by decide +kernel
theorem dX5_acted_13 : decode cX5_acted 13 = .ok (.getfield 29, 3) := by decide +kernel
theorem dX5_acted_16 : decode cX5_acted 16 = .ok (.iconst 4, 1) := by decide +kernel
theorem dX5_acted_17 : decode cX5_acted 17 = .ok (.if_icmp .ne 44, 3) := by decide +kernel
theorem dX5_acted_20 : decode cX5_acted 20 = .ok (.iconst 0, 1) := by decide +kernel
theorem dX5_acted_21 : decode cX5_acted 21 = .ok (.istore_n 2, 1) := by decide +kernel
theorem dX5_acted_22 : decode cX5_acted 22 = .ok (.iload_n 2, 1) := by decide +kernel
theorem dX5_acted_23 : decode cX5_acted 23 = .ok (.sipush 438, 3) := by decide +kernel
theorem dX5_acted_26 : decode cX5_acted 26 = .ok (.if_icmp .ge 25, 3) := by decide +kernel
theorem dX5_acted_29 : decode cX5_acted 29 = .ok (.aload_n 0, 1) := by decide +kernel
theorem dX5_acted_30 : decode cX5_acted 30 = .ok (.getfield 16, 3) := by decide +kernel
theorem dX5_acted_33 : decode cX5_acted 33 = .ok (.iload_n 2, 1) := by decide +kernel
theorem dX5_acted_34 : decode cX5_acted 34 = .ok (.aload_n 0, 1) := by decide +kernel
theorem dX5_acted_35 : decode cX5_acted 35 = .ok (.getfield 16, 3) := by decide +kernel
theorem dX5_acted_38 : decode cX5_acted 38 = .ok (.iload_n 2, 1) := by decide +kernel
theorem dX5_acted_39 : decode cX5_acted 39 = .ok (.sipush 146, 3) := by decide +kernel
theorem dX5_acted_42 : decode cX5_acted 42 = .ok (.iadd, 1) := by decide +kernel
theorem dX5_acted_43 : decode cX5_acted 43 = .ok (.iaload, 1) := by decide +kernel
theorem dX5_acted_44 : decode cX5_acted 44 = .ok (.iastore, 1) := by decide +kernel
theorem dX5_acted_45 : decode cX5_acted 45 = .ok (.iinc 2 1, 3) := by decide +kernel
theorem dX5_acted_48 : decode cX5_acted 48 = .ok (.goto (-26), 3) := by decide +kernel
theorem dX5_acted_51 : decode cX5_acted 51 = .ok (.aload_n 0, 1) := by decide +kernel
theorem dX5_acted_52 : decode cX5_acted 52 = .ok (.dup, 1) := by decide +kernel
theorem dX5_acted_53 : decode cX5_acted 53 = .ok (.getfield 29, 3) := by decide +kernel
theorem dX5_acted_56 : decode cX5_acted 56 = .ok (.iconst 1, 1) := by decide +kernel
theorem dX5_acted_57 : decode cX5_acted 57 = .ok (.isub, 1) := by decide +kernel
theorem dX5_acted_58 : decode cX5_acted 58 = .ok (.putfield 29, 3) := by decide +kernel
theorem dX5_acted_61 : decode cX5_acted 61 = .ok (.iconst 0, 1) := by decide +kernel
theorem dX5_acted_62 : decode cX5_acted 62 = .ok (.istore_n 2, 1) := by decide +kernel
theorem dX5_acted_63 : decode cX5_acted 63 = .ok (.iload_n 2, 1) := by decide +kernel
theorem dX5_acted_64 : decode cX5_acted 64 = .ok (.sipush 146, 3) := by decide +kernel
theorem dX5_acted_67 : decode cX5_acted 67 = .ok (.if_icmp .ge 30, 3) := by decide +kernel
theorem dX5_acted_70 : decode cX5_acted 70 = .ok (.aload_n 0, 1) := by decide +kernel
theorem dX5_acted_71 : decode cX5_acted 71 = .ok (.getfield 16, 3) := by decide +kernel
theorem dX5_acted_74 : decode cX5_acted 74 = .ok (.sipush 146, 3) := by decide +kernel
theorem dX5_acted_77 : decode cX5_acted 77 = .ok (.aload_n 0, 1) := by decide +kernel
theorem dX5_acted_78 : decode cX5_acted 78 = .ok (.getfield 29, 3) := by decide +kernel
theorem dX5_acted_81 : decode cX5_acted 81 = .ok (.imul, 1) := by decide +kernel
theorem dX5_acted_82 : decode cX5_acted 82 = .ok (.iload_n 2, 1) := by decide +kernel
theorem dX5_acted_83 : decode cX5_acted 83 = .ok (.iadd, 1) := by decide +kernel
theorem dX5_acted_84 : decode cX5_acted 84 = .ok (.aload_n 0, 1) := by decide +kernel
theorem dX5_acted_85 : decode cX5_acted 85 = .ok (.getfield 13, 3) := by decide +kernel
theorem dX5_acted_88 : decode cX5_acted 88 = .ok (.iload_n 2, 1) := by decide +kernel
theorem dX5_acted_89 : decode cX5_acted 89 = .ok (.iaload, 1) := by decide +kernel
theorem dX5_acted_90 : decode cX5_acted 90 = .ok (.iastore, 1) := by decide +kernel
theorem dX5_acted_91 : decode cX5_acted 91 = .ok (.iinc 2 1, 3) := by decide +kernel
theorem dX5_acted_94 : decode cX5_acted 94 = .ok (.goto (-31), 3) := by decide +kernel
theorem dX5_acted_97 : decode cX5_acted 97 = .ok (.aload_n 0, 1) := by decide +kernel
theorem dX5_acted_98 : decode cX5_acted 98 = .ok (.dup, 1) := by decide +kernel
theorem dX5_acted_99 : decode cX5_acted 99 = .ok (.getfield 29, 3) := by decide +kernel
theorem dX5_acted_102 : decode cX5_acted 102 = .ok (.iconst 1, 1) := by decide +kernel
theorem dX5_acted_103 : decode cX5_acted 103 = .ok (.iadd, 1) := by decide +kernel
theorem dX5_acted_104 : decode cX5_acted 104 = .ok (.putfield 29, 3) := by decide +kernel
theorem dX5_acted_107 : decode cX5_acted 107 = .ok (.iload_n 1, 1) := by decide +kernel
theorem dX5_acted_108 : decode cX5_acted 108 = .ok (.ireturn, 1) := by decide +kernel
theorem dX5_of_0 : decode cX5_of 0 = .ok (.aload_n 0, 1) := by decide +kernel
theorem dX5_of_1 : decode cX5_of 1 = .ok (.getfield 7, 3) := by decide +kernel
theorem dX5_of_4 : decode cX5_of 4 = .ok (.bipush 34, 2) := by decide +kernel
theorem dX5_of_6 : decode cX5_of 6 = .ok (.bipush 7, 2) := by decide +kernel
theorem dX5_of_8 : decode cX5_of 8 = .ok (.iload_n 1, 1) := by decide +kernel
theorem dX5_of_9 : decode cX5_of 9 = .ok (.imul, 1) := by decide +kernel
theorem dX5_of_10 : decode cX5_of 10 = .ok (.iadd, 1) := by decide +kernel
theorem dX5_of_11 : decode cX5_of 11 = .ok (.iload_n 2, 1) := by decide +kernel
theorem dX5_of_12 : decode cX5_of 12 = .ok (.iadd, 1) := by decide +kernel
theorem dX5_of_13 : decode cX5_of 13 = .ok (.iaload, 1) := by decide +kernel
theorem dX5_of_14 : decode cX5_of 14 = .ok (.ireturn, 1) := by decide +kernel
theorem dX5_lays_0 : decode cX5_lays 0 = .ok (.aload_n 0, 1) := by decide +kernel
theorem dX5_lays_1 : decode cX5_lays 1 = .ok (.getfield 7, 3) := by decide +kernel
theorem dX5_lays_4 : decode cX5_lays 4 = .ok (.bipush 34, 2) := by decide +kernel
theorem dX5_lays_6 : decode cX5_lays 6 = .ok (.bipush 7, 2) := by decide +kernel
theorem dX5_lays_8 : decode cX5_lays 8 = .ok (.iload_n 1, 1) := by decide +kernel
theorem dX5_lays_9 : decode cX5_lays 9 = .ok (.imul, 1) := by decide +kernel
theorem dX5_lays_10 : decode cX5_lays 10 = .ok (.iadd, 1) := by decide +kernel
theorem dX5_lays_11 : decode cX5_lays 11 = .ok (.iload_n 2, 1) := by decide +kernel
theorem dX5_lays_12 : decode cX5_lays 12 = .ok (.iadd, 1) := by decide +kernel
theorem dX5_lays_13 : decode cX5_lays 13 = .ok (.iload_n 3, 1) := by decide +kernel
theorem dX5_lays_14 : decode cX5_lays 14 = .ok (.iastore, 1) := by decide +kernel
theorem dX5_lays_15 : decode cX5_lays 15 = .ok (.return_, 1) := by decide +kernel
theorem dX5_placeOf_0 : decode cX5_placeOf 0 = .ok (.iconst (-1), 1) := by decide +kernel
theorem dX5_placeOf_1 : decode cX5_placeOf 1 = .ok (.istore_n 2, 1) := by decide +kernel
theorem dX5_placeOf_2 : decode cX5_placeOf 2 = .ok (.iconst 0, 1) := by decide +kernel
theorem dX5_placeOf_3 : decode cX5_placeOf 3 = .ok (.istore_n 3, 1) := by decide +kernel
theorem dX5_placeOf_4 : decode cX5_placeOf 4 = .ok (.iload_n 3, 1) := by decide +kernel
theorem dX5_placeOf_5 : decode cX5_placeOf 5 = .ok (.aload_n 0, 1) := by decide +kernel
theorem dX5_placeOf_6 : decode cX5_placeOf 6 = .ok (.getfield 7, 3) := by decide +kernel
theorem dX5_placeOf_9 : decode cX5_placeOf 9 = .ok (.iconst 0, 1) := by decide +kernel
theorem dX5_placeOf_10 : decode cX5_placeOf 10 = .ok (.iaload, 1) := by decide +kernel
theorem dX5_placeOf_11 : decode cX5_placeOf 11 = .ok (.if_icmp .ge 25, 3) := by decide +kernel
theorem dX5_placeOf_14 : decode cX5_placeOf 14 = .ok (.aload_n 0, 1) := by decide +kernel
theorem dX5_placeOf_15 : decode cX5_placeOf 15 = .ok (.iload_n 3, 1) := by decide +kernel
theorem dX5_placeOf_16 : decode cX5_placeOf 16 = .ok (.iconst 0, 1) := by decide +kernel
theorem dX5_placeOf_17 : decode cX5_placeOf 17 = .ok (.invokevirtual 33, 3) := by decide +kernel
theorem dX5_placeOf_20 : decode cX5_placeOf 20 = .ok (.iload_n 1, 1) := by decide +kernel
theorem dX5_placeOf_21 : decode cX5_placeOf 21 = .ok (.if_icmp .ne 7, 3) := by decide +kernel
theorem dX5_placeOf_24 : decode cX5_placeOf 24 = .ok (.iload_n 3, 1) := by decide +kernel
theorem dX5_placeOf_25 : decode cX5_placeOf 25 = .ok (.goto 4, 3) := by decide +kernel
theorem dX5_placeOf_28 : decode cX5_placeOf 28 = .ok (.iload_n 2, 1) := by decide +kernel
theorem dX5_placeOf_29 : decode cX5_placeOf 29 = .ok (.istore_n 2, 1) := by decide +kernel
theorem dX5_placeOf_30 : decode cX5_placeOf 30 = .ok (.iinc 3 1, 3) := by decide +kernel
theorem dX5_placeOf_33 : decode cX5_placeOf 33 = .ok (.goto (-29), 3) := by decide +kernel
theorem dX5_placeOf_36 : decode cX5_placeOf 36 = .ok (.iload_n 2, 1) := by decide +kernel
theorem dX5_placeOf_37 : decode cX5_placeOf 37 = .ok (.ireturn, 1) := by decide +kernel
theorem dX5_makes_0 : decode cX5_makes 0 = .ok (.aload_n 0, 1) := by decide +kernel
theorem dX5_makes_1 : decode cX5_makes 1 = .ok (.getfield 7, 3) := by decide +kernel
theorem dX5_makes_4 : decode cX5_makes 4 = .ok (.iconst 0, 1) := by decide +kernel
theorem dX5_makes_5 : decode cX5_makes 5 = .ok (.iaload, 1) := by decide +kernel
theorem dX5_makes_6 : decode cX5_makes 6 = .ok (.istore 4, 2) := by decide +kernel
theorem dX5_makes_8 : decode cX5_makes 8 = .ok (.aload_n 0, 1) := by decide +kernel
theorem dX5_makes_9 : decode cX5_makes 9 = .ok (.getfield 7, 3) := by decide +kernel
theorem dX5_makes_12 : decode cX5_makes 12 = .ok (.iconst 0, 1) := by decide +kernel
theorem dX5_makes_13 : decode cX5_makes 13 = .ok (.dup2, 1) := by decide +kernel
theorem dX5_makes_14 : decode cX5_makes 14 = .ok (.iaload, 1) := by decide +kernel
theorem dX5_makes_15 : decode cX5_makes 15 = .ok (.iconst 1, 1) := by decide +kernel
theorem dX5_makes_16 : decode cX5_makes 16 = .ok (.iadd, 1) := by decide +kernel
theorem dX5_makes_17 : decode cX5_makes 17 = .ok (.iastore, 1) := by decide +kernel
theorem dX5_makes_18 : decode cX5_makes 18 = .ok (.aload_n 0, 1) := by decide +kernel
theorem dX5_makes_19 : decode cX5_makes 19 = .ok (.iload 4, 2) := by decide +kernel
theorem dX5_makes_21 : decode cX5_makes 21 = .ok (.iconst 0, 1) := by decide +kernel
theorem dX5_makes_22 : decode cX5_makes 22 = .ok (.aload_n 0, 1) := by decide +kernel
theorem dX5_makes_23 : decode cX5_makes 23 = .ok (.getfield 7, 3) := by decide +kernel
theorem dX5_makes_26 : decode cX5_makes 26 = .ok (.iconst 2, 1) := by decide +kernel
theorem dX5_makes_27 : decode cX5_makes 27 = .ok (.iaload, 1) := by decide +kernel
theorem dX5_makes_28 : decode cX5_makes 28 = .ok (.invokevirtual 37, 3) := by decide +kernel
theorem dX5_makes_31 : decode cX5_makes 31 = .ok (.aload_n 0, 1) := by decide +kernel
theorem dX5_makes_32 : decode cX5_makes 32 = .ok (.iload 4, 2) := by decide +kernel
theorem dX5_makes_34 : decode cX5_makes 34 = .ok (.iconst 1, 1) := by decide +kernel
theorem dX5_makes_35 : decode cX5_makes 35 = .ok (.iload_n 1, 1) := by decide +kernel
theorem dX5_makes_36 : decode cX5_makes 36 = .ok (.invokevirtual 37, 3) := by decide +kernel
theorem dX5_makes_39 : decode cX5_makes 39 = .ok (.aload_n 0, 1) := by decide +kernel
theorem dX5_makes_40 : decode cX5_makes 40 = .ok (.iload 4, 2) := by decide +kernel
theorem dX5_makes_42 : decode cX5_makes 42 = .ok (.iconst 2, 1) := by decide +kernel
theorem dX5_makes_43 : decode cX5_makes 43 = .ok (.iload_n 2, 1) := by decide +kernel
theorem dX5_makes_44 : decode cX5_makes 44 = .ok (.invokevirtual 37, 3) := by decide +kernel
theorem dX5_makes_47 : decode cX5_makes 47 = .ok (.aload_n 0, 1) := by decide +kernel
theorem dX5_makes_48 : decode cX5_makes 48 = .ok (.iload 4, 2) := by decide +kernel
theorem dX5_makes_50 : decode cX5_makes 50 = .ok (.iconst 3, 1) := by decide +kernel
theorem dX5_makes_51 : decode cX5_makes 51 = .ok (.iload_n 3, 1) := by decide +kernel
theorem dX5_makes_52 : decode cX5_makes 52 = .ok (.invokevirtual 37, 3) := by decide +kernel
theorem dX5_makes_55 : decode cX5_makes 55 = .ok (.aload_n 0, 1) := by decide +kernel
theorem dX5_makes_56 : decode cX5_makes 56 = .ok (.iload 4, 2) := by decide +kernel
theorem dX5_makes_58 : decode cX5_makes 58 = .ok (.invokevirtual 41, 3) := by decide +kernel
theorem dX5_makes_61 : decode cX5_makes 61 = .ok (.aload_n 0, 1) := by decide +kernel
theorem dX5_makes_62 : decode cX5_makes 62 = .ok (.getfield 7, 3) := by decide +kernel
theorem dX5_makes_65 : decode cX5_makes 65 = .ok (.iconst 2, 1) := by decide +kernel
theorem dX5_makes_66 : decode cX5_makes 66 = .ok (.dup2, 1) := by decide +kernel
theorem dX5_makes_67 : decode cX5_makes 67 = .ok (.iaload, 1) := by decide +kernel
theorem dX5_makes_68 : decode cX5_makes 68 = .ok (.iconst 1, 1) := by decide +kernel
theorem dX5_makes_69 : decode cX5_makes 69 = .ok (.iadd, 1) := by decide +kernel
theorem dX5_makes_70 : decode cX5_makes 70 = .ok (.iastore, 1) := by decide +kernel
theorem dX5_makes_71 : decode cX5_makes 71 = .ok (.iload 4, 2) := by decide +kernel
theorem dX5_makes_73 : decode cX5_makes 73 = .ok (.ireturn, 1) := by decide +kernel
theorem dX5_frees_0 : decode cX5_frees 0 = .ok (.aload_n 0, 1) := by decide +kernel
theorem dX5_frees_1 : decode cX5_frees 1 = .ok (.iload_n 1, 1) := by decide +kernel
theorem dX5_frees_2 : decode cX5_frees 2 = .ok (.iconst 4, 1) := by decide +kernel
theorem dX5_frees_3 : decode cX5_frees 3 = .ok (.iconst (-1), 1) := by decide +kernel
theorem dX5_frees_4 : decode cX5_frees 4 = .ok (.invokevirtual 37, 3) := by decide +kernel
theorem dX5_frees_7 : decode cX5_frees 7 = .ok (.aload_n 0, 1) := by decide +kernel
theorem dX5_frees_8 : decode cX5_frees 8 = .ok (.iload_n 1, 1) := by decide +kernel
theorem dX5_frees_9 : decode cX5_frees 9 = .ok (.iconst 5, 1) := by decide +kernel
theorem dX5_frees_10 : decode cX5_frees 10 = .ok (.iconst 0, 1) := by decide +kernel
theorem dX5_frees_11 : decode cX5_frees 11 = .ok (.invokevirtual 37, 3) := by decide +kernel
theorem dX5_frees_14 : decode cX5_frees 14 = .ok (.aload_n 0, 1) := by decide +kernel
theorem dX5_frees_15 : decode cX5_frees 15 = .ok (.iload_n 1, 1) := by decide +kernel
theorem dX5_frees_16 : decode cX5_frees 16 = .ok (.bipush 6, 2) := by decide +kernel
theorem dX5_frees_18 : decode cX5_frees 18 = .ok (.iconst 0, 1) := by decide +kernel
theorem dX5_frees_19 : decode cX5_frees 19 = .ok (.invokevirtual 37, 3) := by decide +kernel
theorem dX5_frees_22 : decode cX5_frees 22 = .ok (.return_, 1) := by decide +kernel
theorem dX5_removes_0 : decode cX5_removes 0 = .ok (.aload_n 0, 1) := by decide +kernel
theorem dX5_removes_1 : decode cX5_removes 1 = .ok (.getfield 7, 3) := by decide +kernel
theorem dX5_removes_4 : decode cX5_removes 4 = .ok (.iconst 0, 1) := by decide +kernel
theorem dX5_removes_5 : decode cX5_removes 5 = .ok (.dup2, 1) := by decide +kernel
theorem dX5_removes_6 : decode cX5_removes 6 = .ok (.iaload, 1) := by decide +kernel
theorem dX5_removes_7 : decode cX5_removes 7 = .ok (.iconst 1, 1) := by decide +kernel
theorem dX5_removes_8 : decode cX5_removes 8 = .ok (.isub, 1) := by decide +kernel
theorem dX5_removes_9 : decode cX5_removes 9 = .ok (.iastore, 1) := by decide +kernel
theorem dX5_removes_10 : decode cX5_removes 10 = .ok (.bipush 34, 2) := by decide +kernel
theorem dX5_removes_12 : decode cX5_removes 12 = .ok (.bipush 7, 2) := by decide +kernel
theorem dX5_removes_14 : decode cX5_removes 14 = .ok (.iload_n 1, 1) := by decide +kernel
theorem dX5_removes_15 : decode cX5_removes 15 = .ok (.imul, 1) := by decide +kernel
theorem dX5_removes_16 : decode cX5_removes 16 = .ok (.iadd, 1) := by decide +kernel
theorem dX5_removes_17 : decode cX5_removes 17 = .ok (.istore_n 2, 1) := by decide +kernel
theorem dX5_removes_18 : decode cX5_removes 18 = .ok (.iload_n 2, 1) := by decide +kernel
theorem dX5_removes_19 : decode cX5_removes 19 = .ok (.bipush 34, 2) := by decide +kernel
theorem dX5_removes_21 : decode cX5_removes 21 = .ok (.bipush 7, 2) := by decide +kernel
theorem dX5_removes_23 : decode cX5_removes 23 = .ok (.aload_n 0, 1) := by decide +kernel
theorem dX5_removes_24 : decode cX5_removes 24 = .ok (.getfield 7, 3) := by decide +kernel
theorem dX5_removes_27 : decode cX5_removes 27 = .ok (.iconst 0, 1) := by decide +kernel
theorem dX5_removes_28 : decode cX5_removes 28 = .ok (.iaload, 1) := by decide +kernel
theorem dX5_removes_29 : decode cX5_removes 29 = .ok (.imul, 1) := by decide +kernel
theorem dX5_removes_30 : decode cX5_removes 30 = .ok (.iadd, 1) := by decide +kernel
theorem dX5_removes_31 : decode cX5_removes 31 = .ok (.if_icmp .ge 24, 3) := by decide +kernel
theorem dX5_removes_34 : decode cX5_removes 34 = .ok (.aload_n 0, 1) := by decide +kernel
theorem dX5_removes_35 : decode cX5_removes 35 = .ok (.getfield 7, 3) := by decide +kernel
theorem dX5_removes_38 : decode cX5_removes 38 = .ok (.iload_n 2, 1) := by decide +kernel
theorem dX5_removes_39 : decode cX5_removes 39 = .ok (.aload_n 0, 1) := by decide +kernel
theorem dX5_removes_40 : decode cX5_removes 40 = .ok (.getfield 7, 3) := by decide +kernel
theorem dX5_removes_43 : decode cX5_removes 43 = .ok (.iload_n 2, 1) := by decide +kernel
theorem dX5_removes_44 : decode cX5_removes 44 = .ok (.bipush 7, 2) := by decide +kernel
theorem dX5_removes_46 : decode cX5_removes 46 = .ok (.iadd, 1) := by decide +kernel
theorem dX5_removes_47 : decode cX5_removes 47 = .ok (.iaload, 1) := by decide +kernel
theorem dX5_removes_48 : decode cX5_removes 48 = .ok (.iastore, 1) := by decide +kernel
theorem dX5_removes_49 : decode cX5_removes 49 = .ok (.iinc 2 1, 3) := by decide +kernel
theorem dX5_removes_52 : decode cX5_removes 52 = .ok (.goto (-34), 3) := by decide +kernel
theorem dX5_removes_55 : decode cX5_removes 55 = .ok (.iconst 0, 1) := by decide +kernel
theorem dX5_removes_56 : decode cX5_removes 56 = .ok (.istore_n 2, 1) := by decide +kernel
theorem dX5_removes_57 : decode cX5_removes 57 = .ok (.iload_n 2, 1) := by decide +kernel
theorem dX5_removes_58 : decode cX5_removes 58 = .ok (.bipush 7, 2) := by decide +kernel
theorem dX5_removes_60 : decode cX5_removes 60 = .ok (.if_icmp .ge 29, 3) := by decide +kernel
theorem dX5_removes_63 : decode cX5_removes 63 = .ok (.aload_n 0, 1) := by decide +kernel
theorem dX5_removes_64 : decode cX5_removes 64 = .ok (.getfield 7, 3) := by decide +kernel
theorem dX5_removes_67 : decode cX5_removes 67 = .ok (.bipush 34, 2) := by decide +kernel
theorem dX5_removes_69 : decode cX5_removes 69 = .ok (.bipush 7, 2) := by decide +kernel
theorem dX5_removes_71 : decode cX5_removes 71 = .ok (.aload_n 0, 1) := by decide +kernel
theorem dX5_removes_72 : decode cX5_removes 72 = .ok (.getfield 7, 3) := by decide +kernel
theorem dX5_removes_75 : decode cX5_removes 75 = .ok (.iconst 0, 1) := by decide +kernel
theorem dX5_removes_76 : decode cX5_removes 76 = .ok (.iaload, 1) := by decide +kernel
theorem dX5_removes_77 : decode cX5_removes 77 = .ok (.imul, 1) := by decide +kernel
theorem dX5_removes_78 : decode cX5_removes 78 = .ok (.iadd, 1) := by decide +kernel
theorem dX5_removes_79 : decode cX5_removes 79 = .ok (.iload_n 2, 1) := by decide +kernel
theorem dX5_removes_80 : decode cX5_removes 80 = .ok (.iadd, 1) := by decide +kernel
theorem dX5_removes_81 : decode cX5_removes 81 = .ok (.iconst 0, 1) := by decide +kernel
theorem dX5_removes_82 : decode cX5_removes 82 = .ok (.iastore, 1) := by decide +kernel
theorem dX5_removes_83 : decode cX5_removes 83 = .ok (.iinc 2 1, 3) := by decide +kernel
theorem dX5_removes_86 : decode cX5_removes 86 = .ok (.goto (-29), 3) := by decide +kernel
theorem dX5_removes_89 : decode cX5_removes 89 = .ok (.return_, 1) := by decide +kernel
theorem dX5_isPledged_0 : decode cX5_isPledged 0 = .ok (.aload_n 0, 1) := by decide +kernel
theorem dX5_isPledged_1 : decode cX5_isPledged 1 = .ok (.iload_n 1, 1) := by decide +kernel
theorem dX5_isPledged_2 : decode cX5_isPledged 2 = .ok (.iconst 4, 1) := by decide +kernel
theorem dX5_isPledged_3 : decode cX5_isPledged 3 = .ok (.invokevirtual 33, 3) := by decide +kernel
theorem dX5_isPledged_6 : decode cX5_isPledged 6 = .ok (.ifCond .lt 7, 3) := by decide +kernel
theorem dX5_isPledged_9 : decode cX5_isPledged 9 = .ok (.iconst 1, 1) := by decide +kernel
theorem dX5_isPledged_10 : decode cX5_isPledged 10 = .ok (.goto 4, 3) := by decide +kernel
theorem dX5_isPledged_13 : decode cX5_isPledged 13 = .ok (.iconst 0, 1) := by decide +kernel
theorem dX5_isPledged_14 : decode cX5_isPledged 14 = .ok (.ireturn, 1) := by decide +kernel
theorem dX5_worth_0 : decode cX5_worth 0 = .ok (.aload_n 0, 1) := by decide +kernel
theorem dX5_worth_1 : decode cX5_worth 1 = .ok (.iload_n 1, 1) := by decide +kernel
theorem dX5_worth_2 : decode cX5_worth 2 = .ok (.iconst 3, 1) := by decide +kernel
theorem dX5_worth_3 : decode cX5_worth 3 = .ok (.invokevirtual 33, 3) := by decide +kernel
theorem dX5_worth_6 : decode cX5_worth 6 = .ok (.aload_n 0, 1) := by decide +kernel
theorem dX5_worth_7 : decode cX5_worth 7 = .ok (.getfield 7, 3) := by decide +kernel
theorem dX5_worth_10 : decode cX5_worth 10 = .ok (.bipush 12, 2) := by decide +kernel
theorem dX5_worth_12 : decode cX5_worth 12 = .ok (.iaload, 1) := by decide +kernel
theorem dX5_worth_13 : decode cX5_worth 13 = .ok (.imul, 1) := by decide +kernel
theorem dX5_worth_14 : decode cX5_worth 14 = .ok (.ireturn, 1) := by decide +kernel
theorem dX5_share_0 : decode cX5_share 0 = .ok (.aload_n 0, 1) := by decide +kernel
theorem dX5_share_1 : decode cX5_share 1 = .ok (.iload_n 1, 1) := by decide +kernel
theorem dX5_share_2 : decode cX5_share 2 = .ok (.invokevirtual 45, 3) := by decide +kernel
theorem dX5_share_5 : decode cX5_share 5 = .ok (.aload_n 0, 1) := by decide +kernel
theorem dX5_share_6 : decode cX5_share 6 = .ok (.getfield 7, 3) := by decide +kernel
theorem dX5_share_9 : decode cX5_share 9 = .ok (.bipush 6, 2) := by decide +kernel
theorem dX5_share_11 : decode cX5_share 11 = .ok (.iload_n 2, 1) := by decide +kernel
theorem dX5_share_12 : decode cX5_share 12 = .ok (.iadd, 1) := by decide +kernel
theorem dX5_share_13 : decode cX5_share 13 = .ok (.iaload, 1) := by decide +kernel
theorem dX5_share_14 : decode cX5_share 14 = .ok (.imul, 1) := by decide +kernel
theorem dX5_share_15 : decode cX5_share 15 = .ok (.bipush 100, 2) := by decide +kernel
theorem dX5_share_17 : decode cX5_share 17 = .ok (.idiv, 1) := by decide +kernel
theorem dX5_share_18 : decode cX5_share 18 = .ok (.ireturn, 1) := by decide +kernel
theorem dX5_isAbove_0 : decode cX5_isAbove 0 = .ok (.aload_n 0, 1) := by decide +kernel
theorem dX5_isAbove_1 : decode cX5_isAbove 1 = .ok (.iload_n 1, 1) := by decide +kernel
theorem dX5_isAbove_2 : decode cX5_isAbove 2 = .ok (.iconst 5, 1) := by decide +kernel
theorem dX5_isAbove_3 : decode cX5_isAbove 3 = .ok (.invokevirtual 33, 3) := by decide +kernel
theorem dX5_isAbove_6 : decode cX5_isAbove 6 = .ok (.aload_n 0, 1) := by decide +kernel
theorem dX5_isAbove_7 : decode cX5_isAbove 7 = .ok (.iload_n 1, 1) := by decide +kernel
theorem dX5_isAbove_8 : decode cX5_isAbove 8 = .ok (.iconst 1, 1) := by decide +kernel
theorem dX5_isAbove_9 : decode cX5_isAbove 9 = .ok (.invokevirtual 49, 3) := by decide +kernel
theorem dX5_isAbove_12 : decode cX5_isAbove 12 = .ok (.if_icmp .le 7, 3) := by decide +kernel
theorem dX5_isAbove_15 : decode cX5_isAbove 15 = .ok (.iconst 1, 1) := by decide +kernel
theorem dX5_isAbove_16 : decode cX5_isAbove 16 = .ok (.goto 4, 3) := by decide +kernel
theorem dX5_isAbove_19 : decode cX5_isAbove 19 = .ok (.iconst 0, 1) := by decide +kernel
theorem dX5_isAbove_20 : decode cX5_isAbove 20 = .ok (.ireturn, 1) := by decide +kernel
theorem dX5_grade_0 : decode cX5_grade 0 = .ok (.aload_n 0, 1) := by decide +kernel
theorem dX5_grade_1 : decode cX5_grade 1 = .ok (.getfield 7, 3) := by decide +kernel
theorem dX5_grade_4 : decode cX5_grade 4 = .ok (.bipush 24, 2) := by decide +kernel
theorem dX5_grade_6 : decode cX5_grade 6 = .ok (.iconst 2, 1) := by decide +kernel
theorem dX5_grade_7 : decode cX5_grade 7 = .ok (.iload_n 1, 1) := by decide +kernel
theorem dX5_grade_8 : decode cX5_grade 8 = .ok (.imul, 1) := by decide +kernel
theorem dX5_grade_9 : decode cX5_grade 9 = .ok (.iadd, 1) := by decide +kernel
theorem dX5_grade_10 : decode cX5_grade 10 = .ok (.iaload, 1) := by decide +kernel
theorem dX5_grade_11 : decode cX5_grade 11 = .ok (.ireturn, 1) := by decide +kernel
theorem dX5_amount_0 : decode cX5_amount 0 = .ok (.aload_n 0, 1) := by decide +kernel
theorem dX5_amount_1 : decode cX5_amount 1 = .ok (.getfield 7, 3) := by decide +kernel
theorem dX5_amount_4 : decode cX5_amount 4 = .ok (.bipush 24, 2) := by decide +kernel
theorem dX5_amount_6 : decode cX5_amount 6 = .ok (.iconst 2, 1) := by decide +kernel
theorem dX5_amount_7 : decode cX5_amount 7 = .ok (.iload_n 1, 1) := by decide +kernel
theorem dX5_amount_8 : decode cX5_amount 8 = .ok (.imul, 1) := by decide +kernel
theorem dX5_amount_9 : decode cX5_amount 9 = .ok (.iadd, 1) := by decide +kernel
theorem dX5_amount_10 : decode cX5_amount 10 = .ok (.iconst 1, 1) := by decide +kernel
theorem dX5_amount_11 : decode cX5_amount 11 = .ok (.iadd, 1) := by decide +kernel
theorem dX5_amount_12 : decode cX5_amount 12 = .ok (.iaload, 1) := by decide +kernel
theorem dX5_amount_13 : decode cX5_amount 13 = .ok (.ireturn, 1) := by decide +kernel
theorem dX5_moves_0 : decode cX5_moves 0 = .ok (.aload_n 0, 1) := by decide +kernel
theorem dX5_moves_1 : decode cX5_moves 1 = .ok (.getfield 7, 3) := by decide +kernel
theorem dX5_moves_4 : decode cX5_moves 4 = .ok (.bipush 24, 2) := by decide +kernel
theorem dX5_moves_6 : decode cX5_moves 6 = .ok (.iconst 2, 1) := by decide +kernel
theorem dX5_moves_7 : decode cX5_moves 7 = .ok (.iload_n 1, 1) := by decide +kernel
theorem dX5_moves_8 : decode cX5_moves 8 = .ok (.imul, 1) := by decide +kernel
theorem dX5_moves_9 : decode cX5_moves 9 = .ok (.iadd, 1) := by decide +kernel
theorem dX5_moves_10 : decode cX5_moves 10 = .ok (.iconst 1, 1) := by decide +kernel
theorem dX5_moves_11 : decode cX5_moves 11 = .ok (.iadd, 1) := by decide +kernel
theorem dX5_moves_12 : decode cX5_moves 12 = .ok (.dup2, 1) := by decide +kernel
theorem dX5_moves_13 : decode cX5_moves 13 = .ok (.iaload, 1) := by decide +kernel
theorem dX5_moves_14 : decode cX5_moves 14 = .ok (.iload_n 2, 1) := by decide +kernel
theorem dX5_moves_15 : decode cX5_moves 15 = .ok (.iadd, 1) := by decide +kernel
theorem dX5_moves_16 : decode cX5_moves 16 = .ok (.iastore, 1) := by decide +kernel
theorem dX5_moves_17 : decode cX5_moves 17 = .ok (.return_, 1) := by decide +kernel
theorem dX5_inBins_0 : decode cX5_inBins 0 = .ok (.iconst 0, 1) := by decide +kernel
theorem dX5_inBins_1 : decode cX5_inBins 1 = .ok (.istore_n 2, 1) := by decide +kernel
theorem dX5_inBins_2 : decode cX5_inBins 2 = .ok (.iconst 0, 1) := by decide +kernel
theorem dX5_inBins_3 : decode cX5_inBins 3 = .ok (.istore_n 3, 1) := by decide +kernel
theorem dX5_inBins_4 : decode cX5_inBins 4 = .ok (.iload_n 3, 1) := by decide +kernel
theorem dX5_inBins_5 : decode cX5_inBins 5 = .ok (.iconst 5, 1) := by decide +kernel
theorem dX5_inBins_6 : decode cX5_inBins 6 = .ok (.if_icmp .ge 30, 3) := by decide +kernel
theorem dX5_inBins_9 : decode cX5_inBins 9 = .ok (.iload_n 2, 1) := by decide +kernel
theorem dX5_inBins_10 : decode cX5_inBins 10 = .ok (.aload_n 0, 1) := by decide +kernel
theorem dX5_inBins_11 : decode cX5_inBins 11 = .ok (.iload_n 3, 1) := by decide +kernel
theorem dX5_inBins_12 : decode cX5_inBins 12 = .ok (.invokevirtual 52, 3) := by decide +kernel
theorem dX5_inBins_15 : decode cX5_inBins 15 = .ok (.iload_n 1, 1) := by decide +kernel
theorem dX5_inBins_16 : decode cX5_inBins 16 = .ok (.if_icmp .ne 11, 3) := by decide +kernel
theorem dX5_inBins_19 : decode cX5_inBins 19 = .ok (.aload_n 0, 1) := by decide +kernel
theorem dX5_inBins_20 : decode cX5_inBins 20 = .ok (.iload_n 3, 1) := by decide +kernel
theorem dX5_inBins_21 : decode cX5_inBins 21 = .ok (.invokevirtual 55, 3) := by decide +kernel
theorem dX5_inBins_24 : decode cX5_inBins 24 = .ok (.goto 4, 3) := by decide +kernel
theorem dX5_inBins_27 : decode cX5_inBins 27 = .ok (.iconst 0, 1) := by decide +kernel
theorem dX5_inBins_28 : decode cX5_inBins 28 = .ok (.iadd, 1) := by decide +kernel
theorem dX5_inBins_29 : decode cX5_inBins 29 = .ok (.istore_n 2, 1) := by decide +kernel
theorem dX5_inBins_30 : decode cX5_inBins 30 = .ok (.iinc 3 1, 3) := by decide +kernel
theorem dX5_inBins_33 : decode cX5_inBins 33 = .ok (.goto (-29), 3) := by decide +kernel
theorem dX5_inBins_36 : decode cX5_inBins 36 = .ok (.iload_n 2, 1) := by decide +kernel
theorem dX5_inBins_37 : decode cX5_inBins 37 = .ok (.ireturn, 1) := by decide +kernel
theorem dX5_inReceipts_0 : decode cX5_inReceipts 0 = .ok (.iconst 0, 1) := by decide +kernel
theorem dX5_inReceipts_1 : decode cX5_inReceipts 1 = .ok (.istore_n 2, 1) := by decide +kernel
theorem dX5_inReceipts_2 : decode cX5_inReceipts 2 = .ok (.iconst 0, 1) := by decide +kernel
theorem dX5_inReceipts_3 : decode cX5_inReceipts 3 = .ok (.istore_n 3, 1) := by decide +kernel
theorem dX5_inReceipts_4 : decode cX5_inReceipts 4 = .ok (.iload_n 3, 1) := by decide +kernel
theorem dX5_inReceipts_5 : decode cX5_inReceipts 5 = .ok (.aload_n 0, 1) := by decide +kernel
theorem dX5_inReceipts_6 : decode cX5_inReceipts 6 = .ok (.getfield 7, 3) := by decide +kernel
theorem dX5_inReceipts_9 : decode cX5_inReceipts 9 = .ok (.iconst 0, 1) := by decide +kernel
theorem dX5_inReceipts_10 : decode cX5_inReceipts 10 = .ok (.iaload, 1) := by decide +kernel
theorem dX5_inReceipts_11 : decode cX5_inReceipts 11 = .ok (.if_icmp .ge 32, 3) := by decide +kernel
theorem dX5_inReceipts_14 : decode cX5_inReceipts 14 = .ok (.iload_n 2, 1) := by decide +kernel
theorem dX5_inReceipts_15 : decode cX5_inReceipts 15 = .ok (.aload_n 0, 1) := by decide +kernel
theorem dX5_inReceipts_16 : decode cX5_inReceipts 16 = .ok (.iload_n 3, 1) := by decide +kernel
theorem dX5_inReceipts_17 : decode cX5_inReceipts 17 = .ok (.iconst 2, 1) := by decide +kernel
theorem dX5_inReceipts_18 : decode cX5_inReceipts 18 = .ok (.invokevirtual 33, 3) := by decide +kernel
theorem dX5_inReceipts_21 : decode cX5_inReceipts 21 = .ok (.iload_n 1, 1) := by decide +kernel
theorem dX5_inReceipts_22 : decode cX5_inReceipts 22 = .ok (.if_icmp .ne 12, 3) := by decide +kernel
theorem dX5_inReceipts_25 : decode cX5_inReceipts 25 = .ok (.aload_n 0, 1) := by decide +kernel
theorem dX5_inReceipts_26 : decode cX5_inReceipts 26 = .ok (.iload_n 3, 1) := by decide +kernel
theorem dX5_inReceipts_27 : decode cX5_inReceipts 27 = .ok (.iconst 3, 1) := by decide +kernel
theorem dX5_inReceipts_28 : decode cX5_inReceipts 28 = .ok (.invokevirtual 33, 3) := by decide +kernel
theorem dX5_inReceipts_31 : decode cX5_inReceipts 31 = .ok (.goto 4, 3) := by decide +kernel
theorem dX5_inReceipts_34 : decode cX5_inReceipts 34 = .ok (.iconst 0, 1) := by decide +kernel
theorem dX5_inReceipts_35 : decode cX5_inReceipts 35 = .ok (.iadd, 1) := by decide +kernel
theorem dX5_inReceipts_36 : decode cX5_inReceipts 36 = .ok (.istore_n 2, 1) := by decide +kernel
theorem dX5_inReceipts_37 : decode cX5_inReceipts 37 = .ok (.iinc 3 1, 3) := by decide +kernel
theorem dX5_inReceipts_40 : decode cX5_inReceipts 40 = .ok (.goto (-36), 3) := by decide +kernel
theorem dX5_inReceipts_43 : decode cX5_inReceipts 43 = .ok (.iload_n 2, 1) := by decide +kernel
theorem dX5_inReceipts_44 : decode cX5_inReceipts 44 = .ok (.ireturn, 1) := by decide +kernel
theorem dX5_room_0 : decode cX5_room 0 = .ok (.iconst 0, 1) := by decide +kernel
theorem dX5_room_1 : decode cX5_room 1 = .ok (.istore_n 2, 1) := by decide +kernel
theorem dX5_room_2 : decode cX5_room 2 = .ok (.iconst 0, 1) := by decide +kernel
theorem dX5_room_3 : decode cX5_room 3 = .ok (.istore_n 3, 1) := by decide +kernel
theorem dX5_room_4 : decode cX5_room 4 = .ok (.iload_n 3, 1) := by decide +kernel
theorem dX5_room_5 : decode cX5_room 5 = .ok (.iconst 5, 1) := by decide +kernel
theorem dX5_room_6 : decode cX5_room 6 = .ok (.if_icmp .ge 34, 3) := by decide +kernel
theorem dX5_room_9 : decode cX5_room 9 = .ok (.iload_n 2, 1) := by decide +kernel
theorem dX5_room_10 : decode cX5_room 10 = .ok (.aload_n 0, 1) := by decide +kernel
theorem dX5_room_11 : decode cX5_room 11 = .ok (.iload_n 3, 1) := by decide +kernel
theorem dX5_room_12 : decode cX5_room 12 = .ok (.invokevirtual 52, 3) := by decide +kernel
theorem dX5_room_15 : decode cX5_room 15 = .ok (.iload_n 1, 1) := by decide +kernel
theorem dX5_room_16 : decode cX5_room 16 = .ok (.if_icmp .ne 15, 3) := by decide +kernel
theorem dX5_room_19 : decode cX5_room 19 = .ok (.sipush 2000, 3) := by decide +kernel
theorem dX5_room_22 : decode cX5_room 22 = .ok (.aload_n 0, 1) := by decide +kernel
theorem dX5_room_23 : decode cX5_room 23 = .ok (.iload_n 3, 1) := by decide +kernel
theorem dX5_room_24 : decode cX5_room 24 = .ok (.invokevirtual 55, 3) := by decide +kernel
theorem dX5_room_27 : decode cX5_room 27 = .ok (.isub, 1) := by decide +kernel
theorem dX5_room_28 : decode cX5_room 28 = .ok (.goto 4, 3) := by decide +kernel
theorem dX5_room_31 : decode cX5_room 31 = .ok (.iconst 0, 1) := by decide +kernel
theorem dX5_room_32 : decode cX5_room 32 = .ok (.iadd, 1) := by decide +kernel
theorem dX5_room_33 : decode cX5_room 33 = .ok (.istore_n 2, 1) := by decide +kernel
theorem dX5_room_34 : decode cX5_room 34 = .ok (.iinc 3 1, 3) := by decide +kernel
theorem dX5_room_37 : decode cX5_room 37 = .ok (.goto (-33), 3) := by decide +kernel
theorem dX5_room_40 : decode cX5_room 40 = .ok (.iload_n 2, 1) := by decide +kernel
theorem dX5_room_41 : decode cX5_room 41 = .ok (.ireturn, 1) := by decide +kernel
theorem dX5_surplus_0 : decode cX5_surplus 0 = .ok (.iconst 0, 1) := by decide +kernel
theorem dX5_surplus_1 : decode cX5_surplus 1 = .ok (.istore_n 2, 1) := by decide +kernel
theorem dX5_surplus_2 : decode cX5_surplus 2 = .ok (.iconst 0, 1) := by decide +kernel
theorem dX5_surplus_3 : decode cX5_surplus 3 = .ok (.istore_n 3, 1) := by decide +kernel
theorem dX5_surplus_4 : decode cX5_surplus 4 = .ok (.iload_n 3, 1) := by decide +kernel
theorem dX5_surplus_5 : decode cX5_surplus 5 = .ok (.iload_n 1, 1) := by decide +kernel
theorem dX5_surplus_6 : decode cX5_surplus 6 = .ok (.if_icmp .gt 23, 3) := by decide +kernel
theorem dX5_surplus_9 : decode cX5_surplus 9 = .ok (.iload_n 2, 1) := by decide +kernel
theorem dX5_surplus_10 : decode cX5_surplus 10 = .ok (.aload_n 0, 1) := by decide +kernel
theorem dX5_surplus_11 : decode cX5_surplus 11 = .ok (.iload_n 3, 1) := by decide +kernel
theorem dX5_surplus_12 : decode cX5_surplus 12 = .ok (.invokevirtual 58, 3) := by decide +kernel
theorem dX5_surplus_15 : decode cX5_surplus 15 = .ok (.aload_n 0, 1) := by decide +kernel
theorem dX5_surplus_16 : decode cX5_surplus 16 = .ok (.iload_n 3, 1) := by decide +kernel
theorem dX5_surplus_17 : decode cX5_surplus 17 = .ok (.invokevirtual 61, 3) := by decide +kernel
theorem dX5_surplus_20 : decode cX5_surplus 20 = .ok (.isub, 1) := by decide +kernel
theorem dX5_surplus_21 : decode cX5_surplus 21 = .ok (.iadd, 1) := by decide +kernel
theorem dX5_surplus_22 : decode cX5_surplus 22 = .ok (.istore_n 2, 1) := by decide +kernel
theorem dX5_surplus_23 : decode cX5_surplus 23 = .ok (.iinc 3 1, 3) := by decide +kernel
theorem dX5_surplus_26 : decode cX5_surplus 26 = .ok (.goto (-22), 3) := by decide +kernel
theorem dX5_surplus_29 : decode cX5_surplus 29 = .ok (.iload_n 2, 1) := by decide +kernel
theorem dX5_surplus_30 : decode cX5_surplus 30 = .ok (.ireturn, 1) := by decide +kernel
theorem dX5_areCovered_0 : decode cX5_areCovered 0 = .ok (.aload_n 0, 1) := by decide +kernel
theorem dX5_areCovered_1 : decode cX5_areCovered 1 = .ok (.iconst 0, 1) := by decide +kernel
theorem dX5_areCovered_2 : decode cX5_areCovered 2 = .ok (.invokevirtual 64, 3) := by decide +kernel
theorem dX5_areCovered_5 : decode cX5_areCovered 5 = .ok (.ifCond .lt 23, 3) := by decide +kernel
theorem dX5_areCovered_8 : decode cX5_areCovered 8 = .ok (.aload_n 0, 1) := by decide +kernel
theorem dX5_areCovered_9 : decode cX5_areCovered 9 = .ok (.iconst 1, 1) := by decide +kernel
theorem dX5_areCovered_10 : decode cX5_areCovered 10 = .ok (.invokevirtual 64, 3) := by decide +kernel
theorem dX5_areCovered_13 : decode cX5_areCovered 13 = .ok (.ifCond .lt 15, 3) := by decide +kernel
theorem dX5_areCovered_16 : decode cX5_areCovered 16 = .ok (.aload_n 0, 1) := by decide +kernel
theorem dX5_areCovered_17 : decode cX5_areCovered 17 = .ok (.iconst 2, 1) := by decide +kernel
theorem dX5_areCovered_18 : decode cX5_areCovered 18 = .ok (.invokevirtual 64, 3) := by decide +kernel
theorem dX5_areCovered_21 : decode cX5_areCovered 21 = .ok (.ifCond .lt 7, 3) := by decide +kernel
theorem dX5_areCovered_24 : decode cX5_areCovered 24 = .ok (.iconst 1, 1) := by decide +kernel
theorem dX5_areCovered_25 : decode cX5_areCovered 25 = .ok (.goto 4, 3) := by decide +kernel
theorem dX5_areCovered_28 : decode cX5_areCovered 28 = .ok (.iconst 0, 1) := by decide +kernel
theorem dX5_areCovered_29 : decode cX5_areCovered 29 = .ok (.ireturn, 1) := by decide +kernel
theorem dX5_stores_0 : decode cX5_stores 0 = .ok (.iload_n 1, 1) := by decide +kernel
theorem dX5_stores_1 : decode cX5_stores 1 = .ok (.iconst 0, 1) := by decide +kernel
theorem dX5_stores_2 : decode cX5_stores 2 = .ok (.iconst 4, 1) := by decide +kernel
theorem dX5_stores_3 : decode cX5_stores 3 = .ok (.invokestatic 67, 3) := by decide +kernel
theorem dX5_stores_6 : decode cX5_stores 6 = .ok (.ifCond .eq 23, 3) := by decide +kernel
theorem dX5_stores_9 : decode cX5_stores 9 = .ok (.iload_n 2, 1) := by decide +kernel
theorem dX5_stores_10 : decode cX5_stores 10 = .ok (.iconst 0, 1) := by decide +kernel
theorem dX5_stores_11 : decode cX5_stores 11 = .ok (.iconst 2, 1) := by decide +kernel
theorem dX5_stores_12 : decode cX5_stores 12 = .ok (.invokestatic 67, 3) := by decide +kernel
theorem dX5_stores_15 : decode cX5_stores 15 = .ok (.ifCond .eq 14, 3) := by decide +kernel
theorem dX5_stores_18 : decode cX5_stores 18 = .ok (.iload_n 3, 1) := by decide +kernel
theorem dX5_stores_19 : decode cX5_stores 19 = .ok (.iconst 1, 1) := by decide +kernel
theorem dX5_stores_20 : decode cX5_stores 20 = .ok (.sipush 4000, 3) := by decide +kernel
theorem dX5_stores_23 : decode cX5_stores 23 = .ok (.invokestatic 67, 3) := by decide +kernel
theorem dX5_stores_26 : decode cX5_stores 26 = .ok (.ifCond .ne 6, 3) := by decide +kernel
theorem dX5_stores_29 : decode cX5_stores 29 = .ok (.ldc 25, 2) := by decide +kernel
theorem dX5_stores_31 : decode cX5_stores 31 = .ok (.ireturn, 1) := by decide +kernel
theorem dX5_stores_32 : decode cX5_stores 32 = .ok (.aload_n 0, 1) := by decide +kernel
theorem dX5_stores_33 : decode cX5_stores 33 = .ok (.iload_n 2, 1) := by decide +kernel
theorem dX5_stores_34 : decode cX5_stores 34 = .ok (.invokevirtual 71, 3) := by decide +kernel
theorem dX5_stores_37 : decode cX5_stores 37 = .ok (.iload_n 3, 1) := by decide +kernel
theorem dX5_stores_38 : decode cX5_stores 38 = .ok (.if_icmp .lt 14, 3) := by decide +kernel
theorem dX5_stores_41 : decode cX5_stores 41 = .ok (.aload_n 0, 1) := by decide +kernel
theorem dX5_stores_42 : decode cX5_stores 42 = .ok (.getfield 7, 3) := by decide +kernel
theorem dX5_stores_45 : decode cX5_stores 45 = .ok (.iconst 0, 1) := by decide +kernel
theorem dX5_stores_46 : decode cX5_stores 46 = .ok (.iaload, 1) := by decide +kernel
theorem dX5_stores_47 : decode cX5_stores 47 = .ok (.bipush 16, 2) := by decide +kernel
theorem dX5_stores_49 : decode cX5_stores 49 = .ok (.if_icmp .ne 6, 3) := by decide +kernel
theorem dX5_stores_52 : decode cX5_stores 52 = .ok (.ldc 74, 2) := by decide +kernel
theorem dX5_stores_54 : decode cX5_stores 54 = .ok (.ireturn, 1) := by decide +kernel
theorem dX5_stores_55 : decode cX5_stores 55 = .ok (.iload_n 3, 1) := by decide +kernel
theorem dX5_stores_56 : decode cX5_stores 56 = .ok (.istore 4, 2) := by decide +kernel
theorem dX5_stores_58 : decode cX5_stores 58 = .ok (.iconst 0, 1) := by decide +kernel
theorem dX5_stores_59 : decode cX5_stores 59 = .ok (.istore 5, 2) := by decide +kernel
theorem dX5_stores_61 : decode cX5_stores 61 = .ok (.iload 5, 2) := by decide +kernel
theorem dX5_stores_63 : decode cX5_stores 63 = .ok (.iconst 5, 1) := by decide +kernel
theorem dX5_stores_64 : decode cX5_stores 64 = .ok (.if_icmp .ge 66, 3) := by decide +kernel
theorem dX5_stores_67 : decode cX5_stores 67 = .ok (.sipush 2000, 3) := by decide +kernel
theorem dX5_stores_70 : decode cX5_stores 70 = .ok (.aload_n 0, 1) := by decide +kernel
theorem dX5_stores_71 : decode cX5_stores 71 = .ok (.iload 5, 2) := by decide +kernel
theorem dX5_stores_73 : decode cX5_stores 73 = .ok (.invokevirtual 55, 3) := by decide +kernel
theorem dX5_stores_76 : decode cX5_stores 76 = .ok (.isub, 1) := by decide +kernel
theorem dX5_stores_77 : decode cX5_stores 77 = .ok (.iload 4, 2) := by decide +kernel
theorem dX5_stores_79 : decode cX5_stores 79 = .ok (.if_icmp .ge 16, 3) := by decide +kernel
theorem dX5_stores_82 : decode cX5_stores 82 = .ok (.sipush 2000, 3) := by decide +kernel
theorem dX5_stores_85 : decode cX5_stores 85 = .ok (.aload_n 0, 1) := by decide +kernel
theorem dX5_stores_86 : decode cX5_stores 86 = .ok (.iload 5, 2) := by decide +kernel
theorem dX5_stores_88 : decode cX5_stores 88 = .ok (.invokevirtual 55, 3) := by decide +kernel
theorem dX5_stores_91 : decode cX5_stores 91 = .ok (.isub, 1) := by decide +kernel
theorem dX5_stores_92 : decode cX5_stores 92 = .ok (.goto 5, 3) := by decide +kernel
theorem dX5_stores_95 : decode cX5_stores 95 = .ok (.iload 4, 2) := by decide +kernel
theorem dX5_stores_97 : decode cX5_stores 97 = .ok (.istore 6, 2) := by decide +kernel
theorem dX5_stores_99 : decode cX5_stores 99 = .ok (.aload_n 0, 1) := by decide +kernel
theorem dX5_stores_100 : decode cX5_stores 100 = .ok (.iload 5, 2) := by decide +kernel
theorem dX5_stores_102 : decode cX5_stores 102 = .ok (.invokevirtual 52, 3) := by decide +kernel
theorem dX5_stores_105 : decode cX5_stores 105 = .ok (.iload_n 2, 1) := by decide +kernel
theorem dX5_stores_106 : decode cX5_stores 106 = .ok (.if_icmp .ne 18, 3) := by decide +kernel
theorem dX5_stores_109 : decode cX5_stores 109 = .ok (.aload_n 0, 1) := by decide +kernel
theorem dX5_stores_110 : decode cX5_stores 110 = .ok (.iload 5, 2) := by decide +kernel
theorem dX5_stores_112 : decode cX5_stores 112 = .ok (.iload 6, 2) := by decide +kernel
theorem dX5_stores_114 : decode cX5_stores 114 = .ok (.invokevirtual 75, 3) := by decide +kernel
theorem dX5_stores_117 : decode cX5_stores 117 = .ok (.iload 4, 2) := by decide +kernel
theorem dX5_stores_119 : decode cX5_stores 119 = .ok (.iload 6, 2) := by decide +kernel
theorem dX5_stores_121 : decode cX5_stores 121 = .ok (.isub, 1) := by decide +kernel
theorem dX5_stores_122 : decode cX5_stores 122 = .ok (.istore 4, 2) := by decide +kernel
theorem dX5_stores_124 : decode cX5_stores 124 = .ok (.iinc 5 1, 3) := by decide +kernel
theorem dX5_stores_127 : decode cX5_stores 127 = .ok (.goto (-66), 3) := by decide +kernel
theorem dX5_stores_130 : decode cX5_stores 130 = .ok (.aload_n 0, 1) := by decide +kernel
theorem dX5_stores_131 : decode cX5_stores 131 = .ok (.aload_n 0, 1) := by decide +kernel
theorem dX5_stores_132 : decode cX5_stores 132 = .ok (.iload_n 1, 1) := by decide +kernel
theorem dX5_stores_133 : decode cX5_stores 133 = .ok (.iload_n 2, 1) := by decide +kernel
theorem dX5_stores_134 : decode cX5_stores 134 = .ok (.iload_n 3, 1) := by decide +kernel
theorem dX5_stores_135 : decode cX5_stores 135 = .ok (.iload_n 3, 1) := by decide +kernel
theorem dX5_stores_136 : decode cX5_stores 136 = .ok (.aload_n 0, 1) := by decide +kernel
theorem dX5_stores_137 : decode cX5_stores 137 = .ok (.getfield 7, 3) := by decide +kernel
theorem dX5_stores_140 : decode cX5_stores 140 = .ok (.bipush 9, 2) := by decide +kernel
theorem dX5_stores_142 : decode cX5_stores 142 = .ok (.iaload, 1) := by decide +kernel
theorem dX5_stores_143 : decode cX5_stores 143 = .ok (.imul, 1) := by decide +kernel
theorem dX5_stores_144 : decode cX5_stores 144 = .ok (.bipush 100, 2) := by decide +kernel
theorem dX5_stores_146 : decode cX5_stores 146 = .ok (.idiv, 1) := by decide +kernel
theorem dX5_stores_147 : decode cX5_stores 147 = .ok (.isub, 1) := by decide +kernel
theorem dX5_stores_148 : decode cX5_stores 148 = .ok (.invokevirtual 79, 3) := by decide +kernel
theorem dX5_stores_151 : decode cX5_stores 151 = .ok (.iconst 0, 1) := by decide +kernel
theorem dX5_stores_152 : decode cX5_stores 152 = .ok (.invokevirtual 33, 3) := by decide +kernel
theorem dX5_stores_155 : decode cX5_stores 155 = .ok (.ireturn, 1) := by decide +kernel
theorem dX5_splits_0 : decode cX5_splits 0 = .ok (.aload_n 0, 1) := by decide +kernel
theorem dX5_splits_1 : decode cX5_splits 1 = .ok (.iload_n 1, 1) := by decide +kernel
theorem dX5_splits_2 : decode cX5_splits 2 = .ok (.invokevirtual 83, 3) := by decide +kernel
theorem dX5_splits_5 : decode cX5_splits 5 = .ok (.istore_n 3, 1) := by decide +kernel
theorem dX5_splits_6 : decode cX5_splits 6 = .ok (.iload_n 3, 1) := by decide +kernel
theorem dX5_splits_7 : decode cX5_splits 7 = .ok (.ifCond .lt 8, 3) := by decide +kernel
theorem dX5_splits_10 : decode cX5_splits 10 = .ok (.iload_n 2, 1) := by decide +kernel
theorem dX5_splits_11 : decode cX5_splits 11 = .ok (.iconst 1, 1) := by decide +kernel
theorem dX5_splits_12 : decode cX5_splits 12 = .ok (.if_icmp .ge 6, 3) := by decide +kernel
theorem dX5_splits_15 : decode cX5_splits 15 = .ok (.ldc 25, 2) := by decide +kernel
theorem dX5_splits_17 : decode cX5_splits 17 = .ok (.ireturn, 1) := by decide +kernel
theorem dX5_splits_18 : decode cX5_splits 18 = .ok (.iload_n 2, 1) := by decide +kernel
theorem dX5_splits_19 : decode cX5_splits 19 = .ok (.aload_n 0, 1) := by decide +kernel
theorem dX5_splits_20 : decode cX5_splits 20 = .ok (.iload_n 3, 1) := by decide +kernel
theorem dX5_splits_21 : decode cX5_splits 21 = .ok (.iconst 3, 1) := by decide +kernel
theorem dX5_splits_22 : decode cX5_splits 22 = .ok (.invokevirtual 33, 3) := by decide +kernel
theorem dX5_splits_25 : decode cX5_splits 25 = .ok (.if_icmp .lt 6, 3) := by decide +kernel
theorem dX5_splits_28 : decode cX5_splits 28 = .ok (.ldc 86, 2) := by decide +kernel
theorem dX5_splits_30 : decode cX5_splits 30 = .ok (.ireturn, 1) := by decide +kernel
theorem dX5_splits_31 : decode cX5_splits 31 = .ok (.aload_n 0, 1) := by decide +kernel
theorem dX5_splits_32 : decode cX5_splits 32 = .ok (.getfield 7, 3) := by decide +kernel
theorem dX5_splits_35 : decode cX5_splits 35 = .ok (.iconst 0, 1) := by decide +kernel
theorem dX5_splits_36 : decode cX5_splits 36 = .ok (.iaload, 1) := by decide +kernel
theorem dX5_splits_37 : decode cX5_splits 37 = .ok (.bipush 16, 2) := by decide +kernel
theorem dX5_splits_39 : decode cX5_splits 39 = .ok (.if_icmp .ne 6, 3) := by decide +kernel
theorem dX5_splits_42 : decode cX5_splits 42 = .ok (.ldc 74, 2) := by decide +kernel
theorem dX5_splits_44 : decode cX5_splits 44 = .ok (.ireturn, 1) := by decide +kernel
theorem dX5_splits_45 : decode cX5_splits 45 = .ok (.aload_n 0, 1) := by decide +kernel
theorem dX5_splits_46 : decode cX5_splits 46 = .ok (.aload_n 0, 1) := by decide +kernel
theorem dX5_splits_47 : decode cX5_splits 47 = .ok (.iload_n 3, 1) := by decide +kernel
theorem dX5_splits_48 : decode cX5_splits 48 = .ok (.iconst 1, 1) := by decide +kernel
theorem dX5_splits_49 : decode cX5_splits 49 = .ok (.invokevirtual 33, 3) := by decide +kernel
theorem dX5_splits_52 : decode cX5_splits 52 = .ok (.aload_n 0, 1) := by decide +kernel
theorem dX5_splits_53 : decode cX5_splits 53 = .ok (.iload_n 3, 1) := by decide +kernel
theorem dX5_splits_54 : decode cX5_splits 54 = .ok (.iconst 2, 1) := by decide +kernel
theorem dX5_splits_55 : decode cX5_splits 55 = .ok (.invokevirtual 33, 3) := by decide +kernel
theorem dX5_splits_58 : decode cX5_splits 58 = .ok (.iload_n 2, 1) := by decide +kernel
theorem dX5_splits_59 : decode cX5_splits 59 = .ok (.invokevirtual 79, 3) := by decide +kernel
theorem dX5_splits_62 : decode cX5_splits 62 = .ok (.istore 4, 2) := by decide +kernel
theorem dX5_splits_64 : decode cX5_splits 64 = .ok (.aload_n 0, 1) := by decide +kernel
theorem dX5_splits_65 : decode cX5_splits 65 = .ok (.iload_n 3, 1) := by decide +kernel
theorem dX5_splits_66 : decode cX5_splits 66 = .ok (.iconst 5, 1) := by decide +kernel
theorem dX5_splits_67 : decode cX5_splits 67 = .ok (.invokevirtual 33, 3) := by decide +kernel
theorem dX5_splits_70 : decode cX5_splits 70 = .ok (.i2l, 1) := by decide +kernel
theorem dX5_splits_71 : decode cX5_splits 71 = .ok (.iload_n 2, 1) := by decide +kernel
theorem dX5_splits_72 : decode cX5_splits 72 = .ok (.i2l, 1) := by decide +kernel
theorem dX5_splits_73 : decode cX5_splits 73 = .ok (.lmul, 1) := by decide +kernel
theorem dX5_splits_74 : decode cX5_splits 74 = .ok (.aload_n 0, 1) := by decide +kernel
theorem dX5_splits_75 : decode cX5_splits 75 = .ok (.iload_n 3, 1) := by decide +kernel
theorem dX5_splits_76 : decode cX5_splits 76 = .ok (.iconst 3, 1) := by decide +kernel
theorem dX5_splits_77 : decode cX5_splits 77 = .ok (.invokevirtual 33, 3) := by decide +kernel
theorem dX5_splits_80 : decode cX5_splits 80 = .ok (.i2l, 1) := by decide +kernel
theorem dX5_splits_81 : decode cX5_splits 81 = .ok (.ldiv, 1) := by decide +kernel
theorem dX5_splits_82 : decode cX5_splits 82 = .ok (.l2i, 1) := by decide +kernel
theorem dX5_splits_83 : decode cX5_splits 83 = .ok (.istore 5, 2) := by decide +kernel
theorem dX5_splits_85 : decode cX5_splits 85 = .ok (.aload_n 0, 1) := by decide +kernel
theorem dX5_splits_86 : decode cX5_splits 86 = .ok (.iload_n 3, 1) := by decide +kernel
theorem dX5_splits_87 : decode cX5_splits 87 = .ok (.iconst 3, 1) := by decide +kernel
theorem dX5_splits_88 : decode cX5_splits 88 = .ok (.aload_n 0, 1) := by decide +kernel
theorem dX5_splits_89 : decode cX5_splits 89 = .ok (.iload_n 3, 1) := by decide +kernel
theorem dX5_splits_90 : decode cX5_splits 90 = .ok (.iconst 3, 1) := by decide +kernel
theorem dX5_splits_91 : decode cX5_splits 91 = .ok (.invokevirtual 33, 3) := by decide +kernel
theorem dX5_splits_94 : decode cX5_splits 94 = .ok (.iload_n 2, 1) := by decide +kernel
theorem dX5_splits_95 : decode cX5_splits 95 = .ok (.isub, 1) := by decide +kernel
theorem dX5_splits_96 : decode cX5_splits 96 = .ok (.invokevirtual 37, 3) := by decide +kernel
theorem dX5_splits_99 : decode cX5_splits 99 = .ok (.iload 5, 2) := by decide +kernel
theorem dX5_splits_101 : decode cX5_splits 101 = .ok (.ifCond .le 40, 3) := by decide +kernel
theorem dX5_splits_104 : decode cX5_splits 104 = .ok (.aload_n 0, 1) := by decide +kernel
theorem dX5_splits_105 : decode cX5_splits 105 = .ok (.iload 4, 2) := by decide +kernel
theorem dX5_splits_107 : decode cX5_splits 107 = .ok (.iconst 4, 1) := by decide +kernel
theorem dX5_splits_108 : decode cX5_splits 108 = .ok (.aload_n 0, 1) := by decide +kernel
theorem dX5_splits_109 : decode cX5_splits 109 = .ok (.iload_n 3, 1) := by decide +kernel
theorem dX5_splits_110 : decode cX5_splits 110 = .ok (.iconst 4, 1) := by decide +kernel
theorem dX5_splits_111 : decode cX5_splits 111 = .ok (.invokevirtual 33, 3) := by decide +kernel
theorem dX5_splits_114 : decode cX5_splits 114 = .ok (.invokevirtual 37, 3) := by decide +kernel
theorem dX5_splits_117 : decode cX5_splits 117 = .ok (.aload_n 0, 1) := by decide +kernel
theorem dX5_splits_118 : decode cX5_splits 118 = .ok (.iload 4, 2) := by decide +kernel
theorem dX5_splits_120 : decode cX5_splits 120 = .ok (.iconst 5, 1) := by decide +kernel
theorem dX5_splits_121 : decode cX5_splits 121 = .ok (.iload 5, 2) := by decide +kernel
theorem dX5_splits_123 : decode cX5_splits 123 = .ok (.invokevirtual 37, 3) := by decide +kernel
theorem dX5_splits_126 : decode cX5_splits 126 = .ok (.aload_n 0, 1) := by decide +kernel
theorem dX5_splits_127 : decode cX5_splits 127 = .ok (.iload_n 3, 1) := by decide +kernel
theorem dX5_splits_128 : decode cX5_splits 128 = .ok (.iconst 5, 1) := by decide +kernel
theorem dX5_splits_129 : decode cX5_splits 129 = .ok (.aload_n 0, 1) := by decide +kernel
theorem dX5_splits_130 : decode cX5_splits 130 = .ok (.iload_n 3, 1) := by decide +kernel
theorem dX5_splits_131 : decode cX5_splits 131 = .ok (.iconst 5, 1) := by decide +kernel
theorem dX5_splits_132 : decode cX5_splits 132 = .ok (.invokevirtual 33, 3) := by decide +kernel
theorem dX5_splits_135 : decode cX5_splits 135 = .ok (.iload 5, 2) := by decide +kernel
theorem dX5_splits_137 : decode cX5_splits 137 = .ok (.isub, 1) := by decide +kernel
theorem dX5_splits_138 : decode cX5_splits 138 = .ok (.invokevirtual 37, 3) := by decide +kernel
theorem dX5_splits_141 : decode cX5_splits 141 = .ok (.aload_n 0, 1) := by decide +kernel
theorem dX5_splits_142 : decode cX5_splits 142 = .ok (.iload 4, 2) := by decide +kernel
theorem dX5_splits_144 : decode cX5_splits 144 = .ok (.iconst 0, 1) := by decide +kernel
theorem dX5_splits_145 : decode cX5_splits 145 = .ok (.invokevirtual 33, 3) := by decide +kernel
theorem dX5_splits_148 : decode cX5_splits 148 = .ok (.ireturn, 1) := by decide +kernel
theorem dX5_joins_0 : decode cX5_joins 0 = .ok (.aload_n 0, 1) := by decide +kernel
theorem dX5_joins_1 : decode cX5_joins 1 = .ok (.iload_n 1, 1) := by decide +kernel
theorem dX5_joins_2 : decode cX5_joins 2 = .ok (.invokevirtual 83, 3) := by decide +kernel
theorem dX5_joins_5 : decode cX5_joins 5 = .ok (.istore_n 3, 1) := by decide +kernel
theorem dX5_joins_6 : decode cX5_joins 6 = .ok (.aload_n 0, 1) := by decide +kernel
theorem dX5_joins_7 : decode cX5_joins 7 = .ok (.iload_n 2, 1) := by decide +kernel
theorem dX5_joins_8 : decode cX5_joins 8 = .ok (.invokevirtual 83, 3) := by decide +kernel
theorem dX5_joins_11 : decode cX5_joins 11 = .ok (.istore 4, 2) := by decide +kernel
theorem dX5_joins_13 : decode cX5_joins 13 = .ok (.iload_n 3, 1) := by decide +kernel
theorem dX5_joins_14 : decode cX5_joins 14 = .ok (.ifCond .lt 14, 3) := by decide +kernel
theorem dX5_joins_17 : decode cX5_joins 17 = .ok (.iload 4, 2) := by decide +kernel
theorem dX5_joins_19 : decode cX5_joins 19 = .ok (.ifCond .lt 9, 3) := by decide +kernel
theorem dX5_joins_22 : decode cX5_joins 22 = .ok (.iload_n 3, 1) := by decide +kernel
theorem dX5_joins_23 : decode cX5_joins 23 = .ok (.iload 4, 2) := by decide +kernel
theorem dX5_joins_25 : decode cX5_joins 25 = .ok (.if_icmp .ne 6, 3) := by decide +kernel
theorem dX5_joins_28 : decode cX5_joins 28 = .ok (.ldc 25, 2) := by decide +kernel
theorem dX5_joins_30 : decode cX5_joins 30 = .ok (.ireturn, 1) := by decide +kernel
theorem dX5_joins_31 : decode cX5_joins 31 = .ok (.aload_n 0, 1) := by decide +kernel
theorem dX5_joins_32 : decode cX5_joins 32 = .ok (.iload_n 3, 1) := by decide +kernel
theorem dX5_joins_33 : decode cX5_joins 33 = .ok (.iconst 1, 1) := by decide +kernel
theorem dX5_joins_34 : decode cX5_joins 34 = .ok (.invokevirtual 33, 3) := by decide +kernel
theorem dX5_joins_37 : decode cX5_joins 37 = .ok (.aload_n 0, 1) := by decide +kernel
theorem dX5_joins_38 : decode cX5_joins 38 = .ok (.iload 4, 2) := by decide +kernel
theorem dX5_joins_40 : decode cX5_joins 40 = .ok (.iconst 1, 1) := by decide +kernel
theorem dX5_joins_41 : decode cX5_joins 41 = .ok (.invokevirtual 33, 3) := by decide +kernel
theorem dX5_joins_44 : decode cX5_joins 44 = .ok (.if_icmp .ne 36, 3) := by decide +kernel
theorem dX5_joins_47 : decode cX5_joins 47 = .ok (.aload_n 0, 1) := by decide +kernel
theorem dX5_joins_48 : decode cX5_joins 48 = .ok (.iload_n 3, 1) := by decide +kernel
theorem dX5_joins_49 : decode cX5_joins 49 = .ok (.iconst 2, 1) := by decide +kernel
theorem dX5_joins_50 : decode cX5_joins 50 = .ok (.invokevirtual 33, 3) := by decide +kernel
theorem dX5_joins_53 : decode cX5_joins 53 = .ok (.aload_n 0, 1) := by decide +kernel
theorem dX5_joins_54 : decode cX5_joins 54 = .ok (.iload 4, 2) := by decide +kernel
theorem dX5_joins_56 : decode cX5_joins 56 = .ok (.iconst 2, 1) := by decide +kernel
theorem dX5_joins_57 : decode cX5_joins 57 = .ok (.invokevirtual 33, 3) := by decide +kernel
theorem dX5_joins_60 : decode cX5_joins 60 = .ok (.if_icmp .ne 20, 3) := by decide +kernel
theorem dX5_joins_63 : decode cX5_joins 63 = .ok (.aload_n 0, 1) := by decide +kernel
theorem dX5_joins_64 : decode cX5_joins 64 = .ok (.iload_n 3, 1) := by decide +kernel
theorem dX5_joins_65 : decode cX5_joins 65 = .ok (.invokevirtual 87, 3) := by decide +kernel
theorem dX5_joins_68 : decode cX5_joins 68 = .ok (.ifCond .ne 12, 3) := by decide +kernel
theorem dX5_joins_71 : decode cX5_joins 71 = .ok (.aload_n 0, 1) := by decide +kernel
theorem dX5_joins_72 : decode cX5_joins 72 = .ok (.iload 4, 2) := by decide +kernel
theorem dX5_joins_74 : decode cX5_joins 74 = .ok (.invokevirtual 87, 3) := by decide +kernel
theorem dX5_joins_77 : decode cX5_joins 77 = .ok (.ifCond .eq 6, 3) := by decide +kernel
theorem dX5_joins_80 : decode cX5_joins 80 = .ok (.ldc 86, 2) := by decide +kernel
theorem dX5_joins_82 : decode cX5_joins 82 = .ok (.ireturn, 1) := by decide +kernel
theorem dX5_joins_83 : decode cX5_joins 83 = .ok (.aload_n 0, 1) := by decide +kernel
theorem dX5_joins_84 : decode cX5_joins 84 = .ok (.iload_n 3, 1) := by decide +kernel
theorem dX5_joins_85 : decode cX5_joins 85 = .ok (.iconst 3, 1) := by decide +kernel
theorem dX5_joins_86 : decode cX5_joins 86 = .ok (.invokevirtual 33, 3) := by decide +kernel
theorem dX5_joins_89 : decode cX5_joins 89 = .ok (.aload_n 0, 1) := by decide +kernel
theorem dX5_joins_90 : decode cX5_joins 90 = .ok (.iload 4, 2) := by decide +kernel
theorem dX5_joins_92 : decode cX5_joins 92 = .ok (.iconst 3, 1) := by decide +kernel
theorem dX5_joins_93 : decode cX5_joins 93 = .ok (.invokevirtual 33, 3) := by decide +kernel
theorem dX5_joins_96 : decode cX5_joins 96 = .ok (.iadd, 1) := by decide +kernel
theorem dX5_joins_97 : decode cX5_joins 97 = .ok (.istore 5, 2) := by decide +kernel
theorem dX5_joins_99 : decode cX5_joins 99 = .ok (.aload_n 0, 1) := by decide +kernel
theorem dX5_joins_100 : decode cX5_joins 100 = .ok (.iload 4, 2) := by decide +kernel
theorem dX5_joins_102 : decode cX5_joins 102 = .ok (.iconst 3, 1) := by decide +kernel
theorem dX5_joins_103 : decode cX5_joins 103 = .ok (.iload 5, 2) := by decide +kernel
theorem dX5_joins_105 : decode cX5_joins 105 = .ok (.invokevirtual 37, 3) := by decide +kernel
theorem dX5_joins_108 : decode cX5_joins 108 = .ok (.aload_n 0, 1) := by decide +kernel
theorem dX5_joins_109 : decode cX5_joins 109 = .ok (.iload_n 3, 1) := by decide +kernel
theorem dX5_joins_110 : decode cX5_joins 110 = .ok (.invokevirtual 91, 3) := by decide +kernel
theorem dX5_joins_113 : decode cX5_joins 113 = .ok (.iload 5, 2) := by decide +kernel
theorem dX5_joins_115 : decode cX5_joins 115 = .ok (.ireturn, 1) := by decide +kernel
theorem dX5_delivers_0 : decode cX5_delivers 0 = .ok (.aload_n 0, 1) := by decide +kernel
theorem dX5_delivers_1 : decode cX5_delivers 1 = .ok (.iload_n 1, 1) := by decide +kernel
theorem dX5_delivers_2 : decode cX5_delivers 2 = .ok (.invokevirtual 83, 3) := by decide +kernel
theorem dX5_delivers_5 : decode cX5_delivers 5 = .ok (.istore_n 2, 1) := by decide +kernel
theorem dX5_delivers_6 : decode cX5_delivers 6 = .ok (.iload_n 2, 1) := by decide +kernel
theorem dX5_delivers_7 : decode cX5_delivers 7 = .ok (.ifCond .ge 6, 3) := by decide +kernel
theorem dX5_delivers_10 : decode cX5_delivers 10 = .ok (.ldc 25, 2) := by decide +kernel
theorem dX5_delivers_12 : decode cX5_delivers 12 = .ok (.ireturn, 1) := by decide +kernel
theorem dX5_delivers_13 : decode cX5_delivers 13 = .ok (.aload_n 0, 1) := by decide +kernel
theorem dX5_delivers_14 : decode cX5_delivers 14 = .ok (.iload_n 2, 1) := by decide +kernel
theorem dX5_delivers_15 : decode cX5_delivers 15 = .ok (.invokevirtual 87, 3) := by decide +kernel
theorem dX5_delivers_18 : decode cX5_delivers 18 = .ok (.ifCond .eq 6, 3) := by decide +kernel
theorem dX5_delivers_21 : decode cX5_delivers 21 = .ok (.ldc 86, 2) := by decide +kernel
theorem dX5_delivers_23 : decode cX5_delivers 23 = .ok (.ireturn, 1) := by decide +kernel
theorem dX5_delivers_24 : decode cX5_delivers 24 = .ok (.aload_n 0, 1) := by decide +kernel
theorem dX5_delivers_25 : decode cX5_delivers 25 = .ok (.iload_n 2, 1) := by decide +kernel
theorem dX5_delivers_26 : decode cX5_delivers 26 = .ok (.iconst 3, 1) := by decide +kernel
theorem dX5_delivers_27 : decode cX5_delivers 27 = .ok (.invokevirtual 33, 3) := by decide +kernel
theorem dX5_delivers_30 : decode cX5_delivers 30 = .ok (.istore_n 3, 1) := by decide +kernel
theorem dX5_delivers_31 : decode cX5_delivers 31 = .ok (.aload_n 0, 1) := by decide +kernel
theorem dX5_delivers_32 : decode cX5_delivers 32 = .ok (.iload_n 2, 1) := by decide +kernel
theorem dX5_delivers_33 : decode cX5_delivers 33 = .ok (.iconst 2, 1) := by decide +kernel
theorem dX5_delivers_34 : decode cX5_delivers 34 = .ok (.invokevirtual 33, 3) := by decide +kernel
theorem dX5_delivers_37 : decode cX5_delivers 37 = .ok (.istore 4, 2) := by decide +kernel
theorem dX5_delivers_39 : decode cX5_delivers 39 = .ok (.iconst 0, 1) := by decide +kernel
theorem dX5_delivers_40 : decode cX5_delivers 40 = .ok (.istore 5, 2) := by decide +kernel
theorem dX5_delivers_42 : decode cX5_delivers 42 = .ok (.aload_n 0, 1) := by decide +kernel
theorem dX5_delivers_43 : decode cX5_delivers 43 = .ok (.getfield 7, 3) := by decide +kernel
theorem dX5_delivers_46 : decode cX5_delivers 46 = .ok (.iconst 4, 1) := by decide +kernel
theorem dX5_delivers_47 : decode cX5_delivers 47 = .ok (.dup2, 1) := by decide +kernel
theorem dX5_delivers_48 : decode cX5_delivers 48 = .ok (.iaload, 1) := by decide +kernel
theorem dX5_delivers_49 : decode cX5_delivers 49 = .ok (.iload_n 3, 1) := by decide +kernel
theorem dX5_delivers_50 : decode cX5_delivers 50 = .ok (.iadd, 1) := by decide +kernel
theorem dX5_delivers_51 : decode cX5_delivers 51 = .ok (.iastore, 1) := by decide +kernel
theorem dX5_delivers_52 : decode cX5_delivers 52 = .ok (.iload 4, 2) := by decide +kernel
theorem dX5_delivers_54 : decode cX5_delivers 54 = .ok (.istore 6, 2) := by decide +kernel
theorem dX5_delivers_56 : decode cX5_delivers 56 = .ok (.iload 6, 2) := by decide +kernel
theorem dX5_delivers_58 : decode cX5_delivers 58 = .ok (.ifCond .lt 93, 3) := by decide +kernel
theorem dX5_delivers_61 : decode cX5_delivers 61 = .ok (.iconst 0, 1) := by decide +kernel
theorem dX5_delivers_62 : decode cX5_delivers 62 = .ok (.istore 7, 2) := by decide +kernel
theorem dX5_delivers_64 : decode cX5_delivers 64 = .ok (.iload 7, 2) := by decide +kernel
theorem dX5_delivers_66 : decode cX5_delivers 66 = .ok (.iconst 5, 1) := by decide +kernel
theorem dX5_delivers_67 : decode cX5_delivers 67 = .ok (.if_icmp .ge 78, 3) := by decide +kernel
theorem dX5_delivers_70 : decode cX5_delivers 70 = .ok (.aload_n 0, 1) := by decide +kernel
theorem dX5_delivers_71 : decode cX5_delivers 71 = .ok (.iload 7, 2) := by decide +kernel
theorem dX5_delivers_73 : decode cX5_delivers 73 = .ok (.invokevirtual 52, 3) := by decide +kernel
theorem dX5_delivers_76 : decode cX5_delivers 76 = .ok (.iload 6, 2) := by decide +kernel
theorem dX5_delivers_78 : decode cX5_delivers 78 = .ok (.if_icmp .eq 7, 3) := by decide +kernel
theorem dX5_delivers_81 : decode cX5_delivers 81 = .ok (.iconst 0, 1) := by decide +kernel
theorem dX5_delivers_82 : decode cX5_delivers 82 = .ok (.goto 23, 3) := by decide +kernel
theorem dX5_delivers_85 : decode cX5_delivers 85 = .ok (.aload_n 0, 1) := by decide +kernel
theorem dX5_delivers_86 : decode cX5_delivers 86 = .ok (.iload 7, 2) := by decide +kernel
theorem dX5_delivers_88 : decode cX5_delivers 88 = .ok (.invokevirtual 55, 3) := by decide +kernel
theorem dX5_delivers_91 : decode cX5_delivers 91 = .ok (.iload_n 3, 1) := by decide +kernel
theorem dX5_delivers_92 : decode cX5_delivers 92 = .ok (.if_icmp .ge 12, 3) := by decide +kernel
theorem dX5_delivers_95 : decode cX5_delivers 95 = .ok (.aload_n 0, 1) := by decide +kernel
theorem dX5_delivers_96 : decode cX5_delivers 96 = .ok (.iload 7, 2) := by decide +kernel
theorem dX5_delivers_98 : decode cX5_delivers 98 = .ok (.invokevirtual 55, 3) := by decide +kernel
theorem dX5_delivers_101 : decode cX5_delivers 101 = .ok (.goto 4, 3) := by decide +kernel
theorem dX5_delivers_104 : decode cX5_delivers 104 = .ok (.iload_n 3, 1) := by decide +kernel
theorem dX5_delivers_105 : decode cX5_delivers 105 = .ok (.istore 8, 2) := by decide +kernel
theorem dX5_delivers_107 : decode cX5_delivers 107 = .ok (.aload_n 0, 1) := by decide +kernel
theorem dX5_delivers_108 : decode cX5_delivers 108 = .ok (.iload 7, 2) := by decide +kernel
theorem dX5_delivers_110 : decode cX5_delivers 110 = .ok (.iload 8, 2) := by decide +kernel
theorem dX5_delivers_112 : decode cX5_delivers 112 = .ok (.ineg, 1) := by decide +kernel
theorem dX5_delivers_113 : decode cX5_delivers 113 = .ok (.invokevirtual 75, 3) := by decide +kernel
theorem dX5_delivers_116 : decode cX5_delivers 116 = .ok (.iload_n 3, 1) := by decide +kernel
theorem dX5_delivers_117 : decode cX5_delivers 117 = .ok (.iload 8, 2) := by decide +kernel
theorem dX5_delivers_119 : decode cX5_delivers 119 = .ok (.isub, 1) := by decide +kernel
theorem dX5_delivers_120 : decode cX5_delivers 120 = .ok (.istore_n 3, 1) := by decide +kernel
theorem dX5_delivers_121 : decode cX5_delivers 121 = .ok (.iload 5, 2) := by decide +kernel
theorem dX5_delivers_123 : decode cX5_delivers 123 = .ok (.iload 6, 2) := by decide +kernel
theorem dX5_delivers_125 : decode cX5_delivers 125 = .ok (.iload 4, 2) := by decide +kernel
theorem dX5_delivers_127 : decode cX5_delivers 127 = .ok (.if_icmp .ge 8, 3) := by decide +kernel
theorem dX5_delivers_130 : decode cX5_delivers 130 = .ok (.iload 8, 2) := by decide +kernel
theorem dX5_delivers_132 : decode cX5_delivers 132 = .ok (.goto 4, 3) := by decide +kernel
theorem dX5_delivers_135 : decode cX5_delivers 135 = .ok (.iconst 0, 1) := by decide +kernel
theorem dX5_delivers_136 : decode cX5_delivers 136 = .ok (.iadd, 1) := by decide +kernel
theorem dX5_delivers_137 : decode cX5_delivers 137 = .ok (.istore 5, 2) := by decide +kernel
theorem dX5_delivers_139 : decode cX5_delivers 139 = .ok (.iinc 7 1, 3) := by decide +kernel
theorem dX5_delivers_142 : decode cX5_delivers 142 = .ok (.goto (-78), 3) := by decide +kernel
theorem dX5_delivers_145 : decode cX5_delivers 145 = .ok (.iinc 6 (-1), 3) := by decide +kernel
theorem dX5_delivers_148 : decode cX5_delivers 148 = .ok (.goto (-92), 3) := by decide +kernel
theorem dX5_delivers_151 : decode cX5_delivers 151 = .ok (.aload_n 0, 1) := by decide +kernel
theorem dX5_delivers_152 : decode cX5_delivers 152 = .ok (.iload_n 2, 1) := by decide +kernel
theorem dX5_delivers_153 : decode cX5_delivers 153 = .ok (.invokevirtual 91, 3) := by decide +kernel
theorem dX5_delivers_156 : decode cX5_delivers 156 = .ok (.iload 5, 2) := by decide +kernel
theorem dX5_delivers_158 : decode cX5_delivers 158 = .ok (.ireturn, 1) := by decide +kernel
theorem dX5_pledges_0 : decode cX5_pledges 0 = .ok (.aload_n 0, 1) := by decide +kernel
theorem dX5_pledges_1 : decode cX5_pledges 1 = .ok (.iload_n 1, 1) := by decide +kernel
theorem dX5_pledges_2 : decode cX5_pledges 2 = .ok (.invokevirtual 83, 3) := by decide +kernel
theorem dX5_pledges_5 : decode cX5_pledges 5 = .ok (.istore 4, 2) := by decide +kernel
theorem dX5_pledges_7 : decode cX5_pledges 7 = .ok (.iload 4, 2) := by decide +kernel
theorem dX5_pledges_9 : decode cX5_pledges 9 = .ok (.ifCond .lt 17, 3) := by decide +kernel
theorem dX5_pledges_12 : decode cX5_pledges 12 = .ok (.iload_n 2, 1) := by decide +kernel
theorem dX5_pledges_13 : decode cX5_pledges 13 = .ok (.iconst 0, 1) := by decide +kernel
theorem dX5_pledges_14 : decode cX5_pledges 14 = .ok (.iconst 2, 1) := by decide +kernel
theorem dX5_pledges_15 : decode cX5_pledges 15 = .ok (.invokestatic 67, 3) := by decide +kernel
theorem dX5_pledges_18 : decode cX5_pledges 18 = .ok (.ifCond .eq 8, 3) := by decide +kernel
theorem dX5_pledges_21 : decode cX5_pledges 21 = .ok (.iload_n 3, 1) := by decide +kernel
theorem dX5_pledges_22 : decode cX5_pledges 22 = .ok (.iconst 1, 1) := by decide +kernel
theorem dX5_pledges_23 : decode cX5_pledges 23 = .ok (.if_icmp .ge 6, 3) := by decide +kernel
theorem dX5_pledges_26 : decode cX5_pledges 26 = .ok (.ldc 25, 2) := by decide +kernel
theorem dX5_pledges_28 : decode cX5_pledges 28 = .ok (.ireturn, 1) := by decide +kernel
theorem dX5_pledges_29 : decode cX5_pledges 29 = .ok (.aload_n 0, 1) := by decide +kernel
theorem dX5_pledges_30 : decode cX5_pledges 30 = .ok (.iload 4, 2) := by decide +kernel
theorem dX5_pledges_32 : decode cX5_pledges 32 = .ok (.invokevirtual 87, 3) := by decide +kernel
theorem dX5_pledges_35 : decode cX5_pledges 35 = .ok (.ifCond .ne 27, 3) := by decide +kernel
theorem dX5_pledges_38 : decode cX5_pledges 38 = .ok (.aload_n 0, 1) := by decide +kernel
theorem dX5_pledges_39 : decode cX5_pledges 39 = .ok (.iload 4, 2) := by decide +kernel
theorem dX5_pledges_41 : decode cX5_pledges 41 = .ok (.iconst 1, 1) := by decide +kernel
theorem dX5_pledges_42 : decode cX5_pledges 42 = .ok (.invokevirtual 33, 3) := by decide +kernel
theorem dX5_pledges_45 : decode cX5_pledges 45 = .ok (.iconst 5, 1) := by decide +kernel
theorem dX5_pledges_46 : decode cX5_pledges 46 = .ok (.iload_n 2, 1) := by decide +kernel
theorem dX5_pledges_47 : decode cX5_pledges 47 = .ok (.iadd, 1) := by decide +kernel
theorem dX5_pledges_48 : decode cX5_pledges 48 = .ok (.if_icmp .eq 14, 3) := by decide +kernel
theorem dX5_pledges_51 : decode cX5_pledges 51 = .ok (.iload_n 3, 1) := by decide +kernel
theorem dX5_pledges_52 : decode cX5_pledges 52 = .ok (.aload_n 0, 1) := by decide +kernel
theorem dX5_pledges_53 : decode cX5_pledges 53 = .ok (.iload 4, 2) := by decide +kernel
theorem dX5_pledges_55 : decode cX5_pledges 55 = .ok (.iconst 0, 1) := by decide +kernel
theorem dX5_pledges_56 : decode cX5_pledges 56 = .ok (.invokevirtual 49, 3) := by decide +kernel
theorem dX5_pledges_59 : decode cX5_pledges 59 = .ok (.if_icmp .le 6, 3) := by decide +kernel
theorem dX5_pledges_62 : decode cX5_pledges 62 = .ok (.ldc 86, 2) := by decide +kernel
theorem dX5_pledges_64 : decode cX5_pledges 64 = .ok (.ireturn, 1) := by decide +kernel
theorem dX5_pledges_65 : decode cX5_pledges 65 = .ok (.aload_n 0, 1) := by decide +kernel
theorem dX5_pledges_66 : decode cX5_pledges 66 = .ok (.iload 4, 2) := by decide +kernel
theorem dX5_pledges_68 : decode cX5_pledges 68 = .ok (.iconst 4, 1) := by decide +kernel
theorem dX5_pledges_69 : decode cX5_pledges 69 = .ok (.iload_n 2, 1) := by decide +kernel
theorem dX5_pledges_70 : decode cX5_pledges 70 = .ok (.invokevirtual 37, 3) := by decide +kernel
theorem dX5_pledges_73 : decode cX5_pledges 73 = .ok (.aload_n 0, 1) := by decide +kernel
theorem dX5_pledges_74 : decode cX5_pledges 74 = .ok (.iload 4, 2) := by decide +kernel
theorem dX5_pledges_76 : decode cX5_pledges 76 = .ok (.iconst 5, 1) := by decide +kernel
theorem dX5_pledges_77 : decode cX5_pledges 77 = .ok (.iload_n 3, 1) := by decide +kernel
theorem dX5_pledges_78 : decode cX5_pledges 78 = .ok (.invokevirtual 37, 3) := by decide +kernel
theorem dX5_pledges_81 : decode cX5_pledges 81 = .ok (.aload_n 0, 1) := by decide +kernel
theorem dX5_pledges_82 : decode cX5_pledges 82 = .ok (.iload 4, 2) := by decide +kernel
theorem dX5_pledges_84 : decode cX5_pledges 84 = .ok (.iconst 1, 1) := by decide +kernel
theorem dX5_pledges_85 : decode cX5_pledges 85 = .ok (.invokevirtual 33, 3) := by decide +kernel
theorem dX5_pledges_88 : decode cX5_pledges 88 = .ok (.istore 5, 2) := by decide +kernel
theorem dX5_pledges_90 : decode cX5_pledges 90 = .ok (.aload_n 0, 1) := by decide +kernel
theorem dX5_pledges_91 : decode cX5_pledges 91 = .ok (.getfield 7, 3) := by decide +kernel
theorem dX5_pledges_94 : decode cX5_pledges 94 = .ok (.bipush 13, 2) := by decide +kernel
theorem dX5_pledges_96 : decode cX5_pledges 96 = .ok (.iload 5, 2) := by decide +kernel
theorem dX5_pledges_98 : decode cX5_pledges 98 = .ok (.iadd, 1) := by decide +kernel
theorem dX5_pledges_99 : decode cX5_pledges 99 = .ok (.dup2, 1) := by decide +kernel
theorem dX5_pledges_100 : decode cX5_pledges 100 = .ok (.iaload, 1) := by decide +kernel
theorem dX5_pledges_101 : decode cX5_pledges 101 = .ok (.iload_n 3, 1) := by decide +kernel
theorem dX5_pledges_102 : decode cX5_pledges 102 = .ok (.iadd, 1) := by decide +kernel
theorem dX5_pledges_103 : decode cX5_pledges 103 = .ok (.iastore, 1) := by decide +kernel
theorem dX5_pledges_104 : decode cX5_pledges 104 = .ok (.aload_n 0, 1) := by decide +kernel
theorem dX5_pledges_105 : decode cX5_pledges 105 = .ok (.getfield 7, 3) := by decide +kernel
theorem dX5_pledges_108 : decode cX5_pledges 108 = .ok (.bipush 13, 2) := by decide +kernel
theorem dX5_pledges_110 : decode cX5_pledges 110 = .ok (.iload 5, 2) := by decide +kernel
theorem dX5_pledges_112 : decode cX5_pledges 112 = .ok (.iadd, 1) := by decide +kernel
theorem dX5_pledges_113 : decode cX5_pledges 113 = .ok (.iaload, 1) := by decide +kernel
theorem dX5_pledges_114 : decode cX5_pledges 114 = .ok (.ireturn, 1) := by decide +kernel
theorem dX5_repays_0 : decode cX5_repays 0 = .ok (.aload_n 0, 1) := by decide +kernel
theorem dX5_repays_1 : decode cX5_repays 1 = .ok (.iload_n 1, 1) := by decide +kernel
theorem dX5_repays_2 : decode cX5_repays 2 = .ok (.invokevirtual 83, 3) := by decide +kernel
theorem dX5_repays_5 : decode cX5_repays 5 = .ok (.istore_n 3, 1) := by decide +kernel
theorem dX5_repays_6 : decode cX5_repays 6 = .ok (.iload_n 3, 1) := by decide +kernel
theorem dX5_repays_7 : decode cX5_repays 7 = .ok (.ifCond .lt 8, 3) := by decide +kernel
theorem dX5_repays_10 : decode cX5_repays 10 = .ok (.iload_n 2, 1) := by decide +kernel
theorem dX5_repays_11 : decode cX5_repays 11 = .ok (.iconst 1, 1) := by decide +kernel
theorem dX5_repays_12 : decode cX5_repays 12 = .ok (.if_icmp .ge 6, 3) := by decide +kernel
theorem dX5_repays_15 : decode cX5_repays 15 = .ok (.ldc 25, 2) := by decide +kernel
theorem dX5_repays_17 : decode cX5_repays 17 = .ok (.ireturn, 1) := by decide +kernel
theorem dX5_repays_18 : decode cX5_repays 18 = .ok (.aload_n 0, 1) := by decide +kernel
theorem dX5_repays_19 : decode cX5_repays 19 = .ok (.iload_n 3, 1) := by decide +kernel
theorem dX5_repays_20 : decode cX5_repays 20 = .ok (.invokevirtual 87, 3) := by decide +kernel
theorem dX5_repays_23 : decode cX5_repays 23 = .ok (.ifCond .eq 13, 3) := by decide +kernel
theorem dX5_repays_26 : decode cX5_repays 26 = .ok (.aload_n 0, 1) := by decide +kernel
theorem dX5_repays_27 : decode cX5_repays 27 = .ok (.iload_n 3, 1) := by decide +kernel
theorem dX5_repays_28 : decode cX5_repays 28 = .ok (.iconst 5, 1) := by decide +kernel
theorem dX5_repays_29 : decode cX5_repays 29 = .ok (.invokevirtual 33, 3) := by decide +kernel
theorem dX5_repays_32 : decode cX5_repays 32 = .ok (.iload_n 2, 1) := by decide +kernel
theorem dX5_repays_33 : decode cX5_repays 33 = .ok (.if_icmp .ge 6, 3) := by decide +kernel
theorem dX5_repays_36 : decode cX5_repays 36 = .ok (.ldc 86, 2) := by decide +kernel
theorem dX5_repays_38 : decode cX5_repays 38 = .ok (.ireturn, 1) := by decide +kernel
theorem dX5_repays_39 : decode cX5_repays 39 = .ok (.aload_n 0, 1) := by decide +kernel
theorem dX5_repays_40 : decode cX5_repays 40 = .ok (.iload_n 3, 1) := by decide +kernel
theorem dX5_repays_41 : decode cX5_repays 41 = .ok (.iconst 5, 1) := by decide +kernel
theorem dX5_repays_42 : decode cX5_repays 42 = .ok (.invokevirtual 33, 3) := by decide +kernel
theorem dX5_repays_45 : decode cX5_repays 45 = .ok (.iload_n 2, 1) := by decide +kernel
theorem dX5_repays_46 : decode cX5_repays 46 = .ok (.isub, 1) := by decide +kernel
theorem dX5_repays_47 : decode cX5_repays 47 = .ok (.istore 4, 2) := by decide +kernel
theorem dX5_repays_49 : decode cX5_repays 49 = .ok (.aload_n 0, 1) := by decide +kernel
theorem dX5_repays_50 : decode cX5_repays 50 = .ok (.getfield 7, 3) := by decide +kernel
theorem dX5_repays_53 : decode cX5_repays 53 = .ok (.bipush 13, 2) := by decide +kernel
theorem dX5_repays_55 : decode cX5_repays 55 = .ok (.aload_n 0, 1) := by decide +kernel
theorem dX5_repays_56 : decode cX5_repays 56 = .ok (.iload_n 3, 1) := by decide +kernel
theorem dX5_repays_57 : decode cX5_repays 57 = .ok (.iconst 1, 1) := by decide +kernel
theorem dX5_repays_58 : decode cX5_repays 58 = .ok (.invokevirtual 33, 3) := by decide +kernel
theorem dX5_repays_61 : decode cX5_repays 61 = .ok (.iadd, 1) := by decide +kernel
theorem dX5_repays_62 : decode cX5_repays 62 = .ok (.dup2, 1) := by decide +kernel
theorem dX5_repays_63 : decode cX5_repays 63 = .ok (.iaload, 1) := by decide +kernel
theorem dX5_repays_64 : decode cX5_repays 64 = .ok (.iload_n 2, 1) := by decide +kernel
theorem dX5_repays_65 : decode cX5_repays 65 = .ok (.isub, 1) := by decide +kernel
theorem dX5_repays_66 : decode cX5_repays 66 = .ok (.iastore, 1) := by decide +kernel
theorem dX5_repays_67 : decode cX5_repays 67 = .ok (.aload_n 0, 1) := by decide +kernel
theorem dX5_repays_68 : decode cX5_repays 68 = .ok (.iload_n 3, 1) := by decide +kernel
theorem dX5_repays_69 : decode cX5_repays 69 = .ok (.iconst 5, 1) := by decide +kernel
theorem dX5_repays_70 : decode cX5_repays 70 = .ok (.iload 4, 2) := by decide +kernel
theorem dX5_repays_72 : decode cX5_repays 72 = .ok (.invokevirtual 37, 3) := by decide +kernel
theorem dX5_repays_75 : decode cX5_repays 75 = .ok (.iload 4, 2) := by decide +kernel
theorem dX5_repays_77 : decode cX5_repays 77 = .ok (.ifCond .ne 11, 3) := by decide +kernel
theorem dX5_repays_80 : decode cX5_repays 80 = .ok (.aload_n 0, 1) := by decide +kernel
theorem dX5_repays_81 : decode cX5_repays 81 = .ok (.iload_n 3, 1) := by decide +kernel
theorem dX5_repays_82 : decode cX5_repays 82 = .ok (.invokevirtual 41, 3) := by decide +kernel
theorem dX5_repays_85 : decode cX5_repays 85 = .ok (.goto 19, 3) := by decide +kernel
theorem dX5_repays_88 : decode cX5_repays 88 = .ok (.aload_n 0, 1) := by decide +kernel
theorem dX5_repays_89 : decode cX5_repays 89 = .ok (.iload_n 3, 1) := by decide +kernel
theorem dX5_repays_90 : decode cX5_repays 90 = .ok (.invokevirtual 94, 3) := by decide +kernel
theorem dX5_repays_93 : decode cX5_repays 93 = .ok (.ifCond .ne 11, 3) := by decide +kernel
theorem dX5_repays_96 : decode cX5_repays 96 = .ok (.aload_n 0, 1) := by decide +kernel
theorem dX5_repays_97 : decode cX5_repays 97 = .ok (.iload_n 3, 1) := by decide +kernel
theorem dX5_repays_98 : decode cX5_repays 98 = .ok (.bipush 6, 2) := by decide +kernel
theorem dX5_repays_100 : decode cX5_repays 100 = .ok (.iconst 0, 1) := by decide +kernel
theorem dX5_repays_101 : decode cX5_repays 101 = .ok (.invokevirtual 37, 3) := by decide +kernel
theorem dX5_repays_104 : decode cX5_repays 104 = .ok (.iload 4, 2) := by decide +kernel
theorem dX5_repays_106 : decode cX5_repays 106 = .ok (.ireturn, 1) := by decide +kernel
theorem dX5_prices_0 : decode cX5_prices 0 = .ok (.iload_n 1, 1) := by decide +kernel
theorem dX5_prices_1 : decode cX5_prices 1 = .ok (.iconst 0, 1) := by decide +kernel
theorem dX5_prices_2 : decode cX5_prices 2 = .ok (.iconst 2, 1) := by decide +kernel
theorem dX5_prices_3 : decode cX5_prices 3 = .ok (.invokestatic 67, 3) := by decide +kernel
theorem dX5_prices_6 : decode cX5_prices 6 = .ok (.ifCond .eq 13, 3) := by decide +kernel
theorem dX5_prices_9 : decode cX5_prices 9 = .ok (.iload_n 2, 1) := by decide +kernel
theorem dX5_prices_10 : decode cX5_prices 10 = .ok (.iconst 1, 1) := by decide +kernel
theorem dX5_prices_11 : decode cX5_prices 11 = .ok (.bipush 99, 2) := by decide +kernel
theorem dX5_prices_13 : decode cX5_prices 13 = .ok (.invokestatic 67, 3) := by decide +kernel
theorem dX5_prices_16 : decode cX5_prices 16 = .ok (.ifCond .ne 6, 3) := by decide +kernel
theorem dX5_prices_19 : decode cX5_prices 19 = .ok (.ldc 25, 2) := by decide +kernel
theorem dX5_prices_21 : decode cX5_prices 21 = .ok (.ireturn, 1) := by decide +kernel
theorem dX5_prices_22 : decode cX5_prices 22 = .ok (.aload_n 0, 1) := by decide +kernel
theorem dX5_prices_23 : decode cX5_prices 23 = .ok (.getfield 7, 3) := by decide +kernel
theorem dX5_prices_26 : decode cX5_prices 26 = .ok (.bipush 10, 2) := by decide +kernel
theorem dX5_prices_28 : decode cX5_prices 28 = .ok (.iload_n 1, 1) := by decide +kernel
theorem dX5_prices_29 : decode cX5_prices 29 = .ok (.iadd, 1) := by decide +kernel
theorem dX5_prices_30 : decode cX5_prices 30 = .ok (.iaload, 1) := by decide +kernel
theorem dX5_prices_31 : decode cX5_prices 31 = .ok (.istore_n 3, 1) := by decide +kernel
theorem dX5_prices_32 : decode cX5_prices 32 = .ok (.aload_n 0, 1) := by decide +kernel
theorem dX5_prices_33 : decode cX5_prices 33 = .ok (.getfield 7, 3) := by decide +kernel
theorem dX5_prices_36 : decode cX5_prices 36 = .ok (.bipush 10, 2) := by decide +kernel
theorem dX5_prices_38 : decode cX5_prices 38 = .ok (.iload_n 1, 1) := by decide +kernel
theorem dX5_prices_39 : decode cX5_prices 39 = .ok (.iadd, 1) := by decide +kernel
theorem dX5_prices_40 : decode cX5_prices 40 = .ok (.iload_n 2, 1) := by decide +kernel
theorem dX5_prices_41 : decode cX5_prices 41 = .ok (.iastore, 1) := by decide +kernel
theorem dX5_prices_42 : decode cX5_prices 42 = .ok (.iload_n 3, 1) := by decide +kernel
theorem dX5_prices_43 : decode cX5_prices 43 = .ok (.ireturn, 1) := by decide +kernel
theorem dX5_wouldCall_0 : decode cX5_wouldCall 0 = .ok (.aload_n 0, 1) := by decide +kernel
theorem dX5_wouldCall_1 : decode cX5_wouldCall 1 = .ok (.iload_n 1, 1) := by decide +kernel
theorem dX5_wouldCall_2 : decode cX5_wouldCall 2 = .ok (.iconst 4, 1) := by decide +kernel
theorem dX5_wouldCall_3 : decode cX5_wouldCall 3 = .ok (.invokevirtual 33, 3) := by decide +kernel
theorem dX5_wouldCall_6 : decode cX5_wouldCall 6 = .ok (.iload_n 2, 1) := by decide +kernel
theorem dX5_wouldCall_7 : decode cX5_wouldCall 7 = .ok (.if_icmp .ne 25, 3) := by decide +kernel
theorem dX5_wouldCall_10 : decode cX5_wouldCall 10 = .ok (.aload_n 0, 1) := by decide +kernel
theorem dX5_wouldCall_11 : decode cX5_wouldCall 11 = .ok (.iload_n 1, 1) := by decide +kernel
theorem dX5_wouldCall_12 : decode cX5_wouldCall 12 = .ok (.bipush 6, 2) := by decide +kernel
theorem dX5_wouldCall_14 : decode cX5_wouldCall 14 = .ok (.invokevirtual 33, 3) := by decide +kernel
theorem dX5_wouldCall_17 : decode cX5_wouldCall 17 = .ok (.ifCond .ne 15, 3) := by decide +kernel
theorem dX5_wouldCall_20 : decode cX5_wouldCall 20 = .ok (.aload_n 0, 1) := by decide +kernel
theorem dX5_wouldCall_21 : decode cX5_wouldCall 21 = .ok (.iload_n 1, 1) := by decide +kernel
theorem dX5_wouldCall_22 : decode cX5_wouldCall 22 = .ok (.invokevirtual 94, 3) := by decide +kernel
theorem dX5_wouldCall_25 : decode cX5_wouldCall 25 = .ok (.ifCond .eq 7, 3) := by decide +kernel
theorem dX5_wouldCall_28 : decode cX5_wouldCall 28 = .ok (.iconst 1, 1) := by decide +kernel
theorem dX5_wouldCall_29 : decode cX5_wouldCall 29 = .ok (.goto 4, 3) := by decide +kernel
theorem dX5_wouldCall_32 : decode cX5_wouldCall 32 = .ok (.iconst 0, 1) := by decide +kernel
theorem dX5_wouldCall_33 : decode cX5_wouldCall 33 = .ok (.ireturn, 1) := by decide +kernel
theorem dX5_calls_0 : decode cX5_calls 0 = .ok (.iload_n 1, 1) := by decide +kernel
theorem dX5_calls_1 : decode cX5_calls 1 = .ok (.iconst 0, 1) := by decide +kernel
theorem dX5_calls_2 : decode cX5_calls 2 = .ok (.iconst 2, 1) := by decide +kernel
theorem dX5_calls_3 : decode cX5_calls 3 = .ok (.invokestatic 67, 3) := by decide +kernel
theorem dX5_calls_6 : decode cX5_calls 6 = .ok (.ifCond .ne 6, 3) := by decide +kernel
theorem dX5_calls_9 : decode cX5_calls 9 = .ok (.ldc 25, 2) := by decide +kernel
theorem dX5_calls_11 : decode cX5_calls 11 = .ok (.ireturn, 1) := by decide +kernel
theorem dX5_calls_12 : decode cX5_calls 12 = .ok (.iconst 0, 1) := by decide +kernel
theorem dX5_calls_13 : decode cX5_calls 13 = .ok (.istore_n 2, 1) := by decide +kernel
theorem dX5_calls_14 : decode cX5_calls 14 = .ok (.iconst 0, 1) := by decide +kernel
theorem dX5_calls_15 : decode cX5_calls 15 = .ok (.istore_n 3, 1) := by decide +kernel
theorem dX5_calls_16 : decode cX5_calls 16 = .ok (.iload_n 3, 1) := by decide +kernel
theorem dX5_calls_17 : decode cX5_calls 17 = .ok (.aload_n 0, 1) := by decide +kernel
theorem dX5_calls_18 : decode cX5_calls 18 = .ok (.getfield 7, 3) := by decide +kernel
theorem dX5_calls_21 : decode cX5_calls 21 = .ok (.iconst 0, 1) := by decide +kernel
theorem dX5_calls_22 : decode cX5_calls 22 = .ok (.iaload, 1) := by decide +kernel
theorem dX5_calls_23 : decode cX5_calls 23 = .ok (.if_icmp .ge 35, 3) := by decide +kernel
theorem dX5_calls_26 : decode cX5_calls 26 = .ok (.aload_n 0, 1) := by decide +kernel
theorem dX5_calls_27 : decode cX5_calls 27 = .ok (.iload_n 3, 1) := by decide +kernel
theorem dX5_calls_28 : decode cX5_calls 28 = .ok (.iload_n 1, 1) := by decide +kernel
theorem dX5_calls_29 : decode cX5_calls 29 = .ok (.invokevirtual 97, 3) := by decide +kernel
theorem dX5_calls_32 : decode cX5_calls 32 = .ok (.ifCond .eq 20, 3) := by decide +kernel
theorem dX5_calls_35 : decode cX5_calls 35 = .ok (.aload_n 0, 1) := by decide +kernel
theorem dX5_calls_36 : decode cX5_calls 36 = .ok (.iload_n 3, 1) := by decide +kernel
theorem dX5_calls_37 : decode cX5_calls 37 = .ok (.bipush 6, 2) := by decide +kernel
theorem dX5_calls_39 : decode cX5_calls 39 = .ok (.aload_n 0, 1) := by decide +kernel
theorem dX5_calls_40 : decode cX5_calls 40 = .ok (.getfield 7, 3) := by decide +kernel
theorem dX5_calls_43 : decode cX5_calls 43 = .ok (.bipush 8, 2) := by decide +kernel
theorem dX5_calls_45 : decode cX5_calls 45 = .ok (.iaload, 1) := by decide +kernel
theorem dX5_calls_46 : decode cX5_calls 46 = .ok (.invokevirtual 37, 3) := by decide +kernel
theorem dX5_calls_49 : decode cX5_calls 49 = .ok (.iinc 2 1, 3) := by decide +kernel
theorem dX5_calls_52 : decode cX5_calls 52 = .ok (.iinc 3 1, 3) := by decide +kernel
theorem dX5_calls_55 : decode cX5_calls 55 = .ok (.goto (-39), 3) := by decide +kernel
theorem dX5_calls_58 : decode cX5_calls 58 = .ok (.iload_n 2, 1) := by decide +kernel
theorem dX5_calls_59 : decode cX5_calls 59 = .ok (.ireturn, 1) := by decide +kernel
theorem dX5_seizes_0 : decode cX5_seizes 0 = .ok (.aload_n 0, 1) := by decide +kernel
theorem dX5_seizes_1 : decode cX5_seizes 1 = .ok (.iload_n 1, 1) := by decide +kernel
theorem dX5_seizes_2 : decode cX5_seizes 2 = .ok (.iconst 4, 1) := by decide +kernel
theorem dX5_seizes_3 : decode cX5_seizes 3 = .ok (.invokevirtual 33, 3) := by decide +kernel
theorem dX5_seizes_6 : decode cX5_seizes 6 = .ok (.istore_n 2, 1) := by decide +kernel
theorem dX5_seizes_7 : decode cX5_seizes 7 = .ok (.aload_n 0, 1) := by decide +kernel
theorem dX5_seizes_8 : decode cX5_seizes 8 = .ok (.getfield 7, 3) := by decide +kernel
theorem dX5_seizes_11 : decode cX5_seizes 11 = .ok (.bipush 21, 2) := by decide +kernel
theorem dX5_seizes_13 : decode cX5_seizes 13 = .ok (.iload_n 2, 1) := by decide +kernel
theorem dX5_seizes_14 : decode cX5_seizes 14 = .ok (.iadd, 1) := by decide +kernel
theorem dX5_seizes_15 : decode cX5_seizes 15 = .ok (.dup2, 1) := by decide +kernel
theorem dX5_seizes_16 : decode cX5_seizes 16 = .ok (.iaload, 1) := by decide +kernel
theorem dX5_seizes_17 : decode cX5_seizes 17 = .ok (.aload_n 0, 1) := by decide +kernel
theorem dX5_seizes_18 : decode cX5_seizes 18 = .ok (.iload_n 1, 1) := by decide +kernel
theorem dX5_seizes_19 : decode cX5_seizes 19 = .ok (.iconst 5, 1) := by decide +kernel
theorem dX5_seizes_20 : decode cX5_seizes 20 = .ok (.invokevirtual 33, 3) := by decide +kernel
theorem dX5_seizes_23 : decode cX5_seizes 23 = .ok (.iadd, 1) := by decide +kernel
theorem dX5_seizes_24 : decode cX5_seizes 24 = .ok (.iastore, 1) := by decide +kernel
theorem dX5_seizes_25 : decode cX5_seizes 25 = .ok (.aload_n 0, 1) := by decide +kernel
theorem dX5_seizes_26 : decode cX5_seizes 26 = .ok (.getfield 7, 3) := by decide +kernel
theorem dX5_seizes_29 : decode cX5_seizes 29 = .ok (.iconst 3, 1) := by decide +kernel
theorem dX5_seizes_30 : decode cX5_seizes 30 = .ok (.dup2, 1) := by decide +kernel
theorem dX5_seizes_31 : decode cX5_seizes 31 = .ok (.iaload, 1) := by decide +kernel
theorem dX5_seizes_32 : decode cX5_seizes 32 = .ok (.iconst 1, 1) := by decide +kernel
theorem dX5_seizes_33 : decode cX5_seizes 33 = .ok (.iadd, 1) := by decide +kernel
theorem dX5_seizes_34 : decode cX5_seizes 34 = .ok (.iastore, 1) := by decide +kernel
theorem dX5_seizes_35 : decode cX5_seizes 35 = .ok (.aload_n 0, 1) := by decide +kernel
theorem dX5_seizes_36 : decode cX5_seizes 36 = .ok (.iload_n 1, 1) := by decide +kernel
theorem dX5_seizes_37 : decode cX5_seizes 37 = .ok (.iconst 1, 1) := by decide +kernel
theorem dX5_seizes_38 : decode cX5_seizes 38 = .ok (.iconst 5, 1) := by decide +kernel
theorem dX5_seizes_39 : decode cX5_seizes 39 = .ok (.iload_n 2, 1) := by decide +kernel
theorem dX5_seizes_40 : decode cX5_seizes 40 = .ok (.iadd, 1) := by decide +kernel
theorem dX5_seizes_41 : decode cX5_seizes 41 = .ok (.invokevirtual 37, 3) := by decide +kernel
theorem dX5_seizes_44 : decode cX5_seizes 44 = .ok (.aload_n 0, 1) := by decide +kernel
theorem dX5_seizes_45 : decode cX5_seizes 45 = .ok (.iload_n 1, 1) := by decide +kernel
theorem dX5_seizes_46 : decode cX5_seizes 46 = .ok (.invokevirtual 41, 3) := by decide +kernel
theorem dX5_seizes_49 : decode cX5_seizes 49 = .ok (.return_, 1) := by decide +kernel
theorem dX5_day_0 : decode cX5_day 0 = .ok (.iconst 0, 1) := by decide +kernel
theorem dX5_day_1 : decode cX5_day 1 = .ok (.istore_n 1, 1) := by decide +kernel
theorem dX5_day_2 : decode cX5_day 2 = .ok (.iload_n 1, 1) := by decide +kernel
theorem dX5_day_3 : decode cX5_day 3 = .ok (.aload_n 0, 1) := by decide +kernel
theorem dX5_day_4 : decode cX5_day 4 = .ok (.getfield 7, 3) := by decide +kernel
theorem dX5_day_7 : decode cX5_day 7 = .ok (.iconst 0, 1) := by decide +kernel
theorem dX5_day_8 : decode cX5_day 8 = .ok (.iaload, 1) := by decide +kernel
theorem dX5_day_9 : decode cX5_day 9 = .ok (.if_icmp .ge 69, 3) := by decide +kernel
theorem dX5_day_12 : decode cX5_day 12 = .ok (.aload_n 0, 1) := by decide +kernel
theorem dX5_day_13 : decode cX5_day 13 = .ok (.iload_n 1, 1) := by decide +kernel
theorem dX5_day_14 : decode cX5_day 14 = .ok (.bipush 6, 2) := by decide +kernel
theorem dX5_day_16 : decode cX5_day 16 = .ok (.invokevirtual 33, 3) := by decide +kernel
theorem dX5_day_19 : decode cX5_day 19 = .ok (.ifCond .le 53, 3) := by decide +kernel
theorem dX5_day_22 : decode cX5_day 22 = .ok (.aload_n 0, 1) := by decide +kernel
theorem dX5_day_23 : decode cX5_day 23 = .ok (.iload_n 1, 1) := by decide +kernel
theorem dX5_day_24 : decode cX5_day 24 = .ok (.bipush 6, 2) := by decide +kernel
theorem dX5_day_26 : decode cX5_day 26 = .ok (.aload_n 0, 1) := by decide +kernel
theorem dX5_day_27 : decode cX5_day 27 = .ok (.iload_n 1, 1) := by decide +kernel
theorem dX5_day_28 : decode cX5_day 28 = .ok (.bipush 6, 2) := by decide +kernel
theorem dX5_day_30 : decode cX5_day 30 = .ok (.invokevirtual 33, 3) := by decide +kernel
theorem dX5_day_33 : decode cX5_day 33 = .ok (.iconst 1, 1) := by decide +kernel
theorem dX5_day_34 : decode cX5_day 34 = .ok (.isub, 1) := by decide +kernel
theorem dX5_day_35 : decode cX5_day 35 = .ok (.invokevirtual 37, 3) := by decide +kernel
theorem dX5_day_38 : decode cX5_day 38 = .ok (.aload_n 0, 1) := by decide +kernel
theorem dX5_day_39 : decode cX5_day 39 = .ok (.iload_n 1, 1) := by decide +kernel
theorem dX5_day_40 : decode cX5_day 40 = .ok (.invokevirtual 94, 3) := by decide +kernel
theorem dX5_day_43 : decode cX5_day 43 = .ok (.ifCond .ne 14, 3) := by decide +kernel
theorem dX5_day_46 : decode cX5_day 46 = .ok (.aload_n 0, 1) := by decide +kernel
theorem dX5_day_47 : decode cX5_day 47 = .ok (.iload_n 1, 1) := by decide +kernel
theorem dX5_day_48 : decode cX5_day 48 = .ok (.bipush 6, 2) := by decide +kernel
theorem dX5_day_50 : decode cX5_day 50 = .ok (.iconst 0, 1) := by decide +kernel
theorem dX5_day_51 : decode cX5_day 51 = .ok (.invokevirtual 37, 3) := by decide +kernel
theorem dX5_day_54 : decode cX5_day 54 = .ok (.goto 18, 3) := by decide +kernel
theorem dX5_day_57 : decode cX5_day 57 = .ok (.aload_n 0, 1) := by decide +kernel
theorem dX5_day_58 : decode cX5_day 58 = .ok (.iload_n 1, 1) := by decide +kernel
theorem dX5_day_59 : decode cX5_day 59 = .ok (.bipush 6, 2) := by decide +kernel
theorem dX5_day_61 : decode cX5_day 61 = .ok (.invokevirtual 33, 3) := by decide +kernel
theorem dX5_day_64 : decode cX5_day 64 = .ok (.ifCond .ne 8, 3) := by decide +kernel
theorem dX5_day_67 : decode cX5_day 67 = .ok (.aload_n 0, 1) := by decide +kernel
theorem dX5_day_68 : decode cX5_day 68 = .ok (.iload_n 1, 1) := by decide +kernel
theorem dX5_day_69 : decode cX5_day 69 = .ok (.invokevirtual 101, 3) := by decide +kernel
theorem dX5_day_72 : decode cX5_day 72 = .ok (.iinc 1 1, 3) := by decide +kernel
theorem dX5_day_75 : decode cX5_day 75 = .ok (.goto (-73), 3) := by decide +kernel
theorem dX5_day_78 : decode cX5_day 78 = .ok (.aload_n 0, 1) := by decide +kernel
theorem dX5_day_79 : decode cX5_day 79 = .ok (.getfield 7, 3) := by decide +kernel
theorem dX5_day_82 : decode cX5_day 82 = .ok (.iconst 1, 1) := by decide +kernel
theorem dX5_day_83 : decode cX5_day 83 = .ok (.dup2, 1) := by decide +kernel
theorem dX5_day_84 : decode cX5_day 84 = .ok (.iaload, 1) := by decide +kernel
theorem dX5_day_85 : decode cX5_day 85 = .ok (.iconst 1, 1) := by decide +kernel
theorem dX5_day_86 : decode cX5_day 86 = .ok (.iadd, 1) := by decide +kernel
theorem dX5_day_87 : decode cX5_day 87 = .ok (.iastore, 1) := by decide +kernel
theorem dX5_day_88 : decode cX5_day 88 = .ok (.return_, 1) := by decide +kernel
theorem dX5_lets_0 : decode cX5_lets 0 = .ok (.iload_n 1, 1) := by decide +kernel
theorem dX5_lets_1 : decode cX5_lets 1 = .ok (.iconst 1, 1) := by decide +kernel
theorem dX5_lets_2 : decode cX5_lets 2 = .ok (.bipush 99, 2) := by decide +kernel
theorem dX5_lets_4 : decode cX5_lets 4 = .ok (.invokestatic 67, 3) := by decide +kernel
theorem dX5_lets_7 : decode cX5_lets 7 = .ok (.ifCond .ne 6, 3) := by decide +kernel
theorem dX5_lets_10 : decode cX5_lets 10 = .ok (.ldc 25, 2) := by decide +kernel
theorem dX5_lets_12 : decode cX5_lets 12 = .ok (.ireturn, 1) := by decide +kernel
theorem dX5_lets_13 : decode cX5_lets 13 = .ok (.aload_n 0, 1) := by decide +kernel
theorem dX5_lets_14 : decode cX5_lets 14 = .ok (.getfield 7, 3) := by decide +kernel
theorem dX5_lets_17 : decode cX5_lets 17 = .ok (.iconst 3, 1) := by decide +kernel
theorem dX5_lets_18 : decode cX5_lets 18 = .ok (.iaload, 1) := by decide +kernel
theorem dX5_lets_19 : decode cX5_lets 19 = .ok (.istore_n 2, 1) := by decide +kernel
theorem dX5_lets_20 : decode cX5_lets 20 = .ok (.iconst 0, 1) := by decide +kernel
theorem dX5_lets_21 : decode cX5_lets 21 = .ok (.istore_n 3, 1) := by decide +kernel
theorem dX5_lets_22 : decode cX5_lets 22 = .ok (.iload_n 3, 1) := by decide +kernel
theorem dX5_lets_23 : decode cX5_lets 23 = .ok (.iload_n 1, 1) := by decide +kernel
theorem dX5_lets_24 : decode cX5_lets 24 = .ok (.if_icmp .ge 13, 3) := by decide +kernel
theorem dX5_lets_27 : decode cX5_lets 27 = .ok (.aload_n 0, 1) := by decide +kernel
theorem dX5_lets_28 : decode cX5_lets 28 = .ok (.invokevirtual 104, 3) := by decide +kernel
theorem dX5_lets_31 : decode cX5_lets 31 = .ok (.iinc 3 1, 3) := by decide +kernel
theorem dX5_lets_34 : decode cX5_lets 34 = .ok (.goto (-12), 3) := by decide +kernel
theorem dX5_lets_37 : decode cX5_lets 37 = .ok (.aload_n 0, 1) := by decide +kernel
theorem dX5_lets_38 : decode cX5_lets 38 = .ok (.getfield 7, 3) := by decide +kernel
theorem dX5_lets_41 : decode cX5_lets 41 = .ok (.iconst 3, 1) := by decide +kernel
theorem dX5_lets_42 : decode cX5_lets 42 = .ok (.iaload, 1) := by decide +kernel
theorem dX5_lets_43 : decode cX5_lets 43 = .ok (.iload_n 2, 1) := by decide +kernel
theorem dX5_lets_44 : decode cX5_lets 44 = .ok (.isub, 1) := by decide +kernel
theorem dX5_lets_45 : decode cX5_lets 45 = .ok (.ireturn, 1) := by decide +kernel
theorem dX5_store_0 : decode cX5_store 0 = .ok (.aload_n 0, 1) := by decide +kernel
theorem dX5_store_1 : decode cX5_store 1 = .ok (.invokevirtual 107, 3) := by decide +kernel
theorem dX5_store_4 : decode cX5_store 4 = .ok (.aload_n 0, 1) := by decide +kernel
theorem dX5_store_5 : decode cX5_store 5 = .ok (.aload_n 0, 1) := by decide +kernel
theorem dX5_store_6 : decode cX5_store 6 = .ok (.iload_n 1, 1) := by decide +kernel
theorem dX5_store_7 : decode cX5_store 7 = .ok (.iload_n 2, 1) := by decide +kernel
theorem dX5_store_8 : decode cX5_store 8 = .ok (.iload_n 3, 1) := by decide +kernel
theorem dX5_store_9 : decode cX5_store 9 = .ok (.invokevirtual 110, 3) := by decide +kernel
theorem dX5_store_12 : decode cX5_store 12 = .ok (.invokevirtual 113, 3) := by decide +kernel
theorem dX5_store_15 : decode cX5_store 15 = .ok (.ireturn, 1) := by decide +kernel
theorem dX5_split_0 : decode cX5_split 0 = .ok (.aload_n 0, 1) := by decide +kernel
theorem dX5_split_1 : decode cX5_split 1 = .ok (.invokevirtual 107, 3) := by decide +kernel
theorem dX5_split_4 : decode cX5_split 4 = .ok (.aload_n 0, 1) := by decide +kernel
theorem dX5_split_5 : decode cX5_split 5 = .ok (.aload_n 0, 1) := by decide +kernel
theorem dX5_split_6 : decode cX5_split 6 = .ok (.iload_n 1, 1) := by decide +kernel
theorem dX5_split_7 : decode cX5_split 7 = .ok (.iload_n 2, 1) := by decide +kernel
theorem dX5_split_8 : decode cX5_split 8 = .ok (.invokevirtual 116, 3) := by decide +kernel
theorem dX5_split_11 : decode cX5_split 11 = .ok (.invokevirtual 113, 3) := by decide +kernel
theorem dX5_split_14 : decode cX5_split 14 = .ok (.ireturn, 1) := by decide +kernel
theorem dX5_join_0 : decode cX5_join 0 = .ok (.aload_n 0, 1) := by decide +kernel
theorem dX5_join_1 : decode cX5_join 1 = .ok (.invokevirtual 107, 3) := by decide +kernel
theorem dX5_join_4 : decode cX5_join 4 = .ok (.aload_n 0, 1) := by decide +kernel
theorem dX5_join_5 : decode cX5_join 5 = .ok (.aload_n 0, 1) := by decide +kernel
theorem dX5_join_6 : decode cX5_join 6 = .ok (.iload_n 1, 1) := by decide +kernel
theorem dX5_join_7 : decode cX5_join 7 = .ok (.iload_n 2, 1) := by decide +kernel
theorem dX5_join_8 : decode cX5_join 8 = .ok (.invokevirtual 119, 3) := by decide +kernel
theorem dX5_join_11 : decode cX5_join 11 = .ok (.invokevirtual 113, 3) := by decide +kernel
theorem dX5_join_14 : decode cX5_join 14 = .ok (.ireturn, 1) := by decide +kernel
theorem dX5_hand_0 : decode cX5_hand 0 = .ok (.aload_n 0, 1) := by decide +kernel
theorem dX5_hand_1 : decode cX5_hand 1 = .ok (.invokevirtual 107, 3) := by decide +kernel
theorem dX5_hand_4 : decode cX5_hand 4 = .ok (.aload_n 0, 1) := by decide +kernel
theorem dX5_hand_5 : decode cX5_hand 5 = .ok (.iload_n 1, 1) := by decide +kernel
theorem dX5_hand_6 : decode cX5_hand 6 = .ok (.invokevirtual 83, 3) := by decide +kernel
theorem dX5_hand_9 : decode cX5_hand 9 = .ok (.istore_n 3, 1) := by decide +kernel
theorem dX5_hand_10 : decode cX5_hand 10 = .ok (.iload_n 3, 1) := by decide +kernel
theorem dX5_hand_11 : decode cX5_hand 11 = .ok (.ifCond .lt 13, 3) := by decide +kernel
theorem dX5_hand_14 : decode cX5_hand 14 = .ok (.iload_n 2, 1) := by decide +kernel
theorem dX5_hand_15 : decode cX5_hand 15 = .ok (.iconst 0, 1) := by decide +kernel
theorem dX5_hand_16 : decode cX5_hand 16 = .ok (.bipush 7, 2) := by decide +kernel
theorem dX5_hand_18 : decode cX5_hand 18 = .ok (.invokestatic 67, 3) := by decide +kernel
theorem dX5_hand_21 : decode cX5_hand 21 = .ok (.ifCond .ne 6, 3) := by decide +kernel
theorem dX5_hand_24 : decode cX5_hand 24 = .ok (.ldc 25, 2) := by decide +kernel
theorem dX5_hand_26 : decode cX5_hand 26 = .ok (.ireturn, 1) := by decide +kernel
theorem dX5_hand_27 : decode cX5_hand 27 = .ok (.aload_n 0, 1) := by decide +kernel
theorem dX5_hand_28 : decode cX5_hand 28 = .ok (.iload_n 3, 1) := by decide +kernel
theorem dX5_hand_29 : decode cX5_hand 29 = .ok (.iconst 1, 1) := by decide +kernel
theorem dX5_hand_30 : decode cX5_hand 30 = .ok (.invokevirtual 33, 3) := by decide +kernel
theorem dX5_hand_33 : decode cX5_hand 33 = .ok (.istore 4, 2) := by decide +kernel
theorem dX5_hand_35 : decode cX5_hand 35 = .ok (.iload 4, 2) := by decide +kernel
theorem dX5_hand_37 : decode cX5_hand 37 = .ok (.iload_n 2, 1) := by decide +kernel
theorem dX5_hand_38 : decode cX5_hand 38 = .ok (.if_icmp .eq 11, 3) := by decide +kernel
theorem dX5_hand_41 : decode cX5_hand 41 = .ok (.aload_n 0, 1) := by decide +kernel
theorem dX5_hand_42 : decode cX5_hand 42 = .ok (.iload_n 3, 1) := by decide +kernel
theorem dX5_hand_43 : decode cX5_hand 43 = .ok (.invokevirtual 87, 3) := by decide +kernel
theorem dX5_hand_46 : decode cX5_hand 46 = .ok (.ifCond .eq 6, 3) := by decide +kernel
theorem dX5_hand_49 : decode cX5_hand 49 = .ok (.ldc 86, 2) := by decide +kernel
theorem dX5_hand_51 : decode cX5_hand 51 = .ok (.ireturn, 1) := by decide +kernel
theorem dX5_hand_52 : decode cX5_hand 52 = .ok (.aload_n 0, 1) := by decide +kernel
theorem dX5_hand_53 : decode cX5_hand 53 = .ok (.iload_n 3, 1) := by decide +kernel
theorem dX5_hand_54 : decode cX5_hand 54 = .ok (.iconst 1, 1) := by decide +kernel
theorem dX5_hand_55 : decode cX5_hand 55 = .ok (.iload_n 2, 1) := by decide +kernel
theorem dX5_hand_56 : decode cX5_hand 56 = .ok (.invokevirtual 37, 3) := by decide +kernel
theorem dX5_hand_59 : decode cX5_hand 59 = .ok (.aload_n 0, 1) := by decide +kernel
theorem dX5_hand_60 : decode cX5_hand 60 = .ok (.iload 4, 2) := by decide +kernel
theorem dX5_hand_62 : decode cX5_hand 62 = .ok (.invokevirtual 113, 3) := by decide +kernel
theorem dX5_hand_65 : decode cX5_hand 65 = .ok (.ireturn, 1) := by decide +kernel
theorem dX5_deliver_0 : decode cX5_deliver 0 = .ok (.aload_n 0, 1) := by decide +kernel
theorem dX5_deliver_1 : decode cX5_deliver 1 = .ok (.invokevirtual 107, 3) := by decide +kernel
theorem dX5_deliver_4 : decode cX5_deliver 4 = .ok (.aload_n 0, 1) := by decide +kernel
theorem dX5_deliver_5 : decode cX5_deliver 5 = .ok (.aload_n 0, 1) := by decide +kernel
theorem dX5_deliver_6 : decode cX5_deliver 6 = .ok (.iload_n 1, 1) := by decide +kernel
theorem dX5_deliver_7 : decode cX5_deliver 7 = .ok (.invokevirtual 122, 3) := by decide +kernel
theorem dX5_deliver_10 : decode cX5_deliver 10 = .ok (.invokevirtual 113, 3) := by decide +kernel
theorem dX5_deliver_13 : decode cX5_deliver 13 = .ok (.ireturn, 1) := by decide +kernel
theorem dX5_pledge_0 : decode cX5_pledge 0 = .ok (.aload_n 0, 1) := by decide +kernel
theorem dX5_pledge_1 : decode cX5_pledge 1 = .ok (.invokevirtual 107, 3) := by decide +kernel
theorem dX5_pledge_4 : decode cX5_pledge 4 = .ok (.aload_n 0, 1) := by decide +kernel
theorem dX5_pledge_5 : decode cX5_pledge 5 = .ok (.aload_n 0, 1) := by decide +kernel
theorem dX5_pledge_6 : decode cX5_pledge 6 = .ok (.iload_n 1, 1) := by decide +kernel
theorem dX5_pledge_7 : decode cX5_pledge 7 = .ok (.iload_n 2, 1) := by decide +kernel
theorem dX5_pledge_8 : decode cX5_pledge 8 = .ok (.iload_n 3, 1) := by decide +kernel
theorem dX5_pledge_9 : decode cX5_pledge 9 = .ok (.invokevirtual 125, 3) := by decide +kernel
theorem dX5_pledge_12 : decode cX5_pledge 12 = .ok (.invokevirtual 113, 3) := by decide +kernel
theorem dX5_pledge_15 : decode cX5_pledge 15 = .ok (.ireturn, 1) := by decide +kernel
theorem dX5_repay_0 : decode cX5_repay 0 = .ok (.aload_n 0, 1) := by decide +kernel
theorem dX5_repay_1 : decode cX5_repay 1 = .ok (.invokevirtual 107, 3) := by decide +kernel
theorem dX5_repay_4 : decode cX5_repay 4 = .ok (.aload_n 0, 1) := by decide +kernel
theorem dX5_repay_5 : decode cX5_repay 5 = .ok (.aload_n 0, 1) := by decide +kernel
theorem dX5_repay_6 : decode cX5_repay 6 = .ok (.iload_n 1, 1) := by decide +kernel
theorem dX5_repay_7 : decode cX5_repay 7 = .ok (.iload_n 2, 1) := by decide +kernel
theorem dX5_repay_8 : decode cX5_repay 8 = .ok (.invokevirtual 128, 3) := by decide +kernel
theorem dX5_repay_11 : decode cX5_repay 11 = .ok (.invokevirtual 113, 3) := by decide +kernel
theorem dX5_repay_14 : decode cX5_repay 14 = .ok (.ireturn, 1) := by decide +kernel
theorem dX5_price_0 : decode cX5_price 0 = .ok (.aload_n 0, 1) := by decide +kernel
theorem dX5_price_1 : decode cX5_price 1 = .ok (.invokevirtual 107, 3) := by decide +kernel
theorem dX5_price_4 : decode cX5_price 4 = .ok (.aload_n 0, 1) := by decide +kernel
theorem dX5_price_5 : decode cX5_price 5 = .ok (.aload_n 0, 1) := by decide +kernel
theorem dX5_price_6 : decode cX5_price 6 = .ok (.iload_n 1, 1) := by decide +kernel
theorem dX5_price_7 : decode cX5_price 7 = .ok (.iload_n 2, 1) := by decide +kernel
theorem dX5_price_8 : decode cX5_price 8 = .ok (.invokevirtual 131, 3) := by decide +kernel
theorem dX5_price_11 : decode cX5_price 11 = .ok (.invokevirtual 113, 3) := by decide +kernel
theorem dX5_price_14 : decode cX5_price 14 = .ok (.ireturn, 1) := by decide +kernel
theorem dX5_call_0 : decode cX5_call 0 = .ok (.aload_n 0, 1) := by decide +kernel
theorem dX5_call_1 : decode cX5_call 1 = .ok (.invokevirtual 107, 3) := by decide +kernel
theorem dX5_call_4 : decode cX5_call 4 = .ok (.aload_n 0, 1) := by decide +kernel
theorem dX5_call_5 : decode cX5_call 5 = .ok (.aload_n 0, 1) := by decide +kernel
theorem dX5_call_6 : decode cX5_call 6 = .ok (.iload_n 1, 1) := by decide +kernel
theorem dX5_call_7 : decode cX5_call 7 = .ok (.invokevirtual 134, 3) := by decide +kernel
theorem dX5_call_10 : decode cX5_call 10 = .ok (.invokevirtual 113, 3) := by decide +kernel
theorem dX5_call_13 : decode cX5_call 13 = .ok (.ireturn, 1) := by decide +kernel
theorem dX5_pass_0 : decode cX5_pass 0 = .ok (.aload_n 0, 1) := by decide +kernel
theorem dX5_pass_1 : decode cX5_pass 1 = .ok (.invokevirtual 107, 3) := by decide +kernel
theorem dX5_pass_4 : decode cX5_pass 4 = .ok (.aload_n 0, 1) := by decide +kernel
theorem dX5_pass_5 : decode cX5_pass 5 = .ok (.aload_n 0, 1) := by decide +kernel
theorem dX5_pass_6 : decode cX5_pass 6 = .ok (.iload_n 1, 1) := by decide +kernel
theorem dX5_pass_7 : decode cX5_pass 7 = .ok (.invokevirtual 137, 3) := by decide +kernel
theorem dX5_pass_10 : decode cX5_pass 10 = .ok (.invokevirtual 113, 3) := by decide +kernel
theorem dX5_pass_13 : decode cX5_pass 13 = .ok (.ireturn, 1) := by decide +kernel
theorem dX5_lose_0 : decode cX5_lose 0 = .ok (.aload_n 0, 1) := by decide +kernel
theorem dX5_lose_1 : decode cX5_lose 1 = .ok (.invokevirtual 107, 3) := by decide +kernel
theorem dX5_lose_4 : decode cX5_lose 4 = .ok (.iload_n 1, 1) := by decide +kernel
theorem dX5_lose_5 : decode cX5_lose 5 = .ok (.iconst 0, 1) := by decide +kernel
theorem dX5_lose_6 : decode cX5_lose 6 = .ok (.iconst 4, 1) := by decide +kernel
theorem dX5_lose_7 : decode cX5_lose 7 = .ok (.invokestatic 67, 3) := by decide +kernel
theorem dX5_lose_10 : decode cX5_lose 10 = .ok (.ifCond .eq 8, 3) := by decide +kernel
theorem dX5_lose_13 : decode cX5_lose 13 = .ok (.iload_n 2, 1) := by decide +kernel
theorem dX5_lose_14 : decode cX5_lose 14 = .ok (.iconst 1, 1) := by decide +kernel
theorem dX5_lose_15 : decode cX5_lose 15 = .ok (.if_icmp .ge 6, 3) := by decide +kernel
theorem dX5_lose_18 : decode cX5_lose 18 = .ok (.ldc 25, 2) := by decide +kernel
theorem dX5_lose_20 : decode cX5_lose 20 = .ok (.ireturn, 1) := by decide +kernel
theorem dX5_lose_21 : decode cX5_lose 21 = .ok (.aload_n 0, 1) := by decide +kernel
theorem dX5_lose_22 : decode cX5_lose 22 = .ok (.iload_n 1, 1) := by decide +kernel
theorem dX5_lose_23 : decode cX5_lose 23 = .ok (.invokevirtual 55, 3) := by decide +kernel
theorem dX5_lose_26 : decode cX5_lose 26 = .ok (.iload_n 2, 1) := by decide +kernel
theorem dX5_lose_27 : decode cX5_lose 27 = .ok (.if_icmp .ge 6, 3) := by decide +kernel
theorem dX5_lose_30 : decode cX5_lose 30 = .ok (.ldc 86, 2) := by decide +kernel
theorem dX5_lose_32 : decode cX5_lose 32 = .ok (.ireturn, 1) := by decide +kernel
theorem dX5_lose_33 : decode cX5_lose 33 = .ok (.aload_n 0, 1) := by decide +kernel
theorem dX5_lose_34 : decode cX5_lose 34 = .ok (.iload_n 1, 1) := by decide +kernel
theorem dX5_lose_35 : decode cX5_lose 35 = .ok (.iload_n 2, 1) := by decide +kernel
theorem dX5_lose_36 : decode cX5_lose 36 = .ok (.ineg, 1) := by decide +kernel
theorem dX5_lose_37 : decode cX5_lose 37 = .ok (.invokevirtual 75, 3) := by decide +kernel
theorem dX5_lose_40 : decode cX5_lose 40 = .ok (.aload_n 0, 1) := by decide +kernel
theorem dX5_lose_41 : decode cX5_lose 41 = .ok (.getfield 7, 3) := by decide +kernel
theorem dX5_lose_44 : decode cX5_lose 44 = .ok (.iconst 5, 1) := by decide +kernel
theorem dX5_lose_45 : decode cX5_lose 45 = .ok (.dup2, 1) := by decide +kernel
theorem dX5_lose_46 : decode cX5_lose 46 = .ok (.iaload, 1) := by decide +kernel
theorem dX5_lose_47 : decode cX5_lose 47 = .ok (.iload_n 2, 1) := by decide +kernel
theorem dX5_lose_48 : decode cX5_lose 48 = .ok (.iadd, 1) := by decide +kernel
theorem dX5_lose_49 : decode cX5_lose 49 = .ok (.iastore, 1) := by decide +kernel
theorem dX5_lose_50 : decode cX5_lose 50 = .ok (.aload_n 0, 1) := by decide +kernel
theorem dX5_lose_51 : decode cX5_lose 51 = .ok (.aload_n 0, 1) := by decide +kernel
theorem dX5_lose_52 : decode cX5_lose 52 = .ok (.invokevirtual 140, 3) := by decide +kernel
theorem dX5_lose_55 : decode cX5_lose 55 = .ok (.ifCond .eq 11, 3) := by decide +kernel
theorem dX5_lose_58 : decode cX5_lose 58 = .ok (.aload_n 0, 1) := by decide +kernel
theorem dX5_lose_59 : decode cX5_lose 59 = .ok (.iload_n 1, 1) := by decide +kernel
theorem dX5_lose_60 : decode cX5_lose 60 = .ok (.invokevirtual 55, 3) := by decide +kernel
theorem dX5_lose_63 : decode cX5_lose 63 = .ok (.goto 5, 3) := by decide +kernel
theorem dX5_lose_66 : decode cX5_lose 66 = .ok (.ldc 86, 2) := by decide +kernel
theorem dX5_lose_68 : decode cX5_lose 68 = .ok (.invokevirtual 113, 3) := by decide +kernel
theorem dX5_lose_71 : decode cX5_lose 71 = .ok (.ireturn, 1) := by decide +kernel
theorem dX5_regrade_0 : decode cX5_regrade 0 = .ok (.aload_n 0, 1) := by decide +kernel
theorem dX5_regrade_1 : decode cX5_regrade 1 = .ok (.invokevirtual 107, 3) := by decide +kernel
theorem dX5_regrade_4 : decode cX5_regrade 4 = .ok (.iload_n 1, 1) := by decide +kernel
theorem dX5_regrade_5 : decode cX5_regrade 5 = .ok (.iconst 0, 1) := by decide +kernel
theorem dX5_regrade_6 : decode cX5_regrade 6 = .ok (.iconst 4, 1) := by decide +kernel
theorem dX5_regrade_7 : decode cX5_regrade 7 = .ok (.invokestatic 67, 3) := by decide +kernel
theorem dX5_regrade_10 : decode cX5_regrade 10 = .ok (.ifCond .eq 12, 3) := by decide +kernel
theorem dX5_regrade_13 : decode cX5_regrade 13 = .ok (.iload_n 2, 1) := by decide +kernel
theorem dX5_regrade_14 : decode cX5_regrade 14 = .ok (.iconst 0, 1) := by decide +kernel
theorem dX5_regrade_15 : decode cX5_regrade 15 = .ok (.iconst 2, 1) := by decide +kernel
theorem dX5_regrade_16 : decode cX5_regrade 16 = .ok (.invokestatic 67, 3) := by decide +kernel
theorem dX5_regrade_19 : decode cX5_regrade 19 = .ok (.ifCond .ne 6, 3) := by decide +kernel
theorem dX5_regrade_22 : decode cX5_regrade 22 = .ok (.ldc 25, 2) := by decide +kernel
theorem dX5_regrade_24 : decode cX5_regrade 24 = .ok (.ireturn, 1) := by decide +kernel
theorem dX5_regrade_25 : decode cX5_regrade 25 = .ok (.aload_n 0, 1) := by decide +kernel
theorem dX5_regrade_26 : decode cX5_regrade 26 = .ok (.iload_n 1, 1) := by decide +kernel
theorem dX5_regrade_27 : decode cX5_regrade 27 = .ok (.invokevirtual 52, 3) := by decide +kernel
theorem dX5_regrade_30 : decode cX5_regrade 30 = .ok (.istore_n 3, 1) := by decide +kernel
theorem dX5_regrade_31 : decode cX5_regrade 31 = .ok (.iload_n 2, 1) := by decide +kernel
theorem dX5_regrade_32 : decode cX5_regrade 32 = .ok (.iload_n 3, 1) := by decide +kernel
theorem dX5_regrade_33 : decode cX5_regrade 33 = .ok (.if_icmp .ge 14, 3) := by decide +kernel
theorem dX5_regrade_36 : decode cX5_regrade 36 = .ok (.aload_n 0, 1) := by decide +kernel
theorem dX5_regrade_37 : decode cX5_regrade 37 = .ok (.iload_n 1, 1) := by decide +kernel
theorem dX5_regrade_38 : decode cX5_regrade 38 = .ok (.invokevirtual 55, 3) := by decide +kernel
theorem dX5_regrade_41 : decode cX5_regrade 41 = .ok (.ifCond .le 6, 3) := by decide +kernel
theorem dX5_regrade_44 : decode cX5_regrade 44 = .ok (.ldc 86, 2) := by decide +kernel
theorem dX5_regrade_46 : decode cX5_regrade 46 = .ok (.ireturn, 1) := by decide +kernel
theorem dX5_regrade_47 : decode cX5_regrade 47 = .ok (.aload_n 0, 1) := by decide +kernel
theorem dX5_regrade_48 : decode cX5_regrade 48 = .ok (.getfield 7, 3) := by decide +kernel
theorem dX5_regrade_51 : decode cX5_regrade 51 = .ok (.bipush 24, 2) := by decide +kernel
theorem dX5_regrade_53 : decode cX5_regrade 53 = .ok (.iconst 2, 1) := by decide +kernel
theorem dX5_regrade_54 : decode cX5_regrade 54 = .ok (.iload_n 1, 1) := by decide +kernel
theorem dX5_regrade_55 : decode cX5_regrade 55 = .ok (.imul, 1) := by decide +kernel
theorem dX5_regrade_56 : decode cX5_regrade 56 = .ok (.iadd, 1) := by decide +kernel
theorem dX5_regrade_57 : decode cX5_regrade 57 = .ok (.iload_n 2, 1) := by decide +kernel
theorem dX5_regrade_58 : decode cX5_regrade 58 = .ok (.iastore, 1) := by decide +kernel
theorem dX5_regrade_59 : decode cX5_regrade 59 = .ok (.aload_n 0, 1) := by decide +kernel
theorem dX5_regrade_60 : decode cX5_regrade 60 = .ok (.aload_n 0, 1) := by decide +kernel
theorem dX5_regrade_61 : decode cX5_regrade 61 = .ok (.invokevirtual 140, 3) := by decide +kernel
theorem dX5_regrade_64 : decode cX5_regrade 64 = .ok (.ifCond .eq 7, 3) := by decide +kernel
theorem dX5_regrade_67 : decode cX5_regrade 67 = .ok (.iload_n 3, 1) := by decide +kernel
theorem dX5_regrade_68 : decode cX5_regrade 68 = .ok (.goto 5, 3) := by decide +kernel
theorem dX5_regrade_71 : decode cX5_regrade 71 = .ok (.ldc 86, 2) := by decide +kernel
theorem dX5_regrade_73 : decode cX5_regrade 73 = .ok (.invokevirtual 113, 3) := by decide +kernel
theorem dX5_regrade_76 : decode cX5_regrade 76 = .ok (.ireturn, 1) := by decide +kernel
theorem dX5_set_0 : decode cX5_set 0 = .ok (.aload_n 0, 1) := by decide +kernel
theorem dX5_set_1 : decode cX5_set 1 = .ok (.invokevirtual 107, 3) := by decide +kernel
theorem dX5_set_4 : decode cX5_set 4 = .ok (.iload_n 1, 1) := by decide +kernel
theorem dX5_set_5 : decode cX5_set 5 = .ok (.iconst 2, 1) := by decide +kernel
theorem dX5_set_6 : decode cX5_set 6 = .ok (.if_icmp .ne 7, 3) := by decide +kernel
theorem dX5_set_9 : decode cX5_set 9 = .ok (.iconst 1, 1) := by decide +kernel
theorem dX5_set_10 : decode cX5_set 10 = .ok (.goto 14, 3) := by decide +kernel
theorem dX5_set_13 : decode cX5_set 13 = .ok (.iload_n 1, 1) := by decide +kernel
theorem dX5_set_14 : decode cX5_set 14 = .ok (.iconst 3, 1) := by decide +kernel
theorem dX5_set_15 : decode cX5_set 15 = .ok (.if_icmp .ne 7, 3) := by decide +kernel
theorem dX5_set_18 : decode cX5_set 18 = .ok (.iconst 0, 1) := by decide +kernel
theorem dX5_set_19 : decode cX5_set 19 = .ok (.goto 5, 3) := by decide +kernel
theorem dX5_set_22 : decode cX5_set 22 = .ok (.bipush 10, 2) := by decide +kernel
theorem dX5_set_24 : decode cX5_set 24 = .ok (.istore_n 3, 1) := by decide +kernel
theorem dX5_set_25 : decode cX5_set 25 = .ok (.iload_n 1, 1) := by decide +kernel
theorem dX5_set_26 : decode cX5_set 26 = .ok (.ifCond .ne 8, 3) := by decide +kernel
theorem dX5_set_29 : decode cX5_set 29 = .ok (.bipush 100, 2) := by decide +kernel
theorem dX5_set_31 : decode cX5_set 31 = .ok (.goto 26, 3) := by decide +kernel
theorem dX5_set_34 : decode cX5_set 34 = .ok (.iload_n 1, 1) := by decide +kernel
theorem dX5_set_35 : decode cX5_set 35 = .ok (.iconst 1, 1) := by decide +kernel
theorem dX5_set_36 : decode cX5_set 36 = .ok (.if_icmp .ne 9, 3) := by decide +kernel
theorem dX5_set_39 : decode cX5_set 39 = .ok (.sipush 150, 3) := by decide +kernel
theorem dX5_set_42 : decode cX5_set 42 = .ok (.goto 15, 3) := by decide +kernel
theorem dX5_set_45 : decode cX5_set 45 = .ok (.iload_n 1, 1) := by decide +kernel
theorem dX5_set_46 : decode cX5_set 46 = .ok (.iconst 2, 1) := by decide +kernel
theorem dX5_set_47 : decode cX5_set 47 = .ok (.if_icmp .ne 8, 3) := by decide +kernel
theorem dX5_set_50 : decode cX5_set 50 = .ok (.bipush 30, 2) := by decide +kernel
theorem dX5_set_52 : decode cX5_set 52 = .ok (.goto 5, 3) := by decide +kernel
theorem dX5_set_55 : decode cX5_set 55 = .ok (.bipush 20, 2) := by decide +kernel
theorem dX5_set_57 : decode cX5_set 57 = .ok (.istore 4, 2) := by decide +kernel
theorem dX5_set_59 : decode cX5_set 59 = .ok (.iload_n 1, 1) := by decide +kernel
theorem dX5_set_60 : decode cX5_set 60 = .ok (.iconst 0, 1) := by decide +kernel
theorem dX5_set_61 : decode cX5_set 61 = .ok (.iconst 3, 1) := by decide +kernel
theorem dX5_set_62 : decode cX5_set 62 = .ok (.invokestatic 67, 3) := by decide +kernel
theorem dX5_set_65 : decode cX5_set 65 = .ok (.ifCond .eq 13, 3) := by decide +kernel
theorem dX5_set_68 : decode cX5_set 68 = .ok (.iload_n 2, 1) := by decide +kernel
theorem dX5_set_69 : decode cX5_set 69 = .ok (.iload_n 3, 1) := by decide +kernel
theorem dX5_set_70 : decode cX5_set 70 = .ok (.iload 4, 2) := by decide +kernel
theorem dX5_set_72 : decode cX5_set 72 = .ok (.invokestatic 67, 3) := by decide +kernel
theorem dX5_set_75 : decode cX5_set 75 = .ok (.ifCond .ne 6, 3) := by decide +kernel
theorem dX5_set_78 : decode cX5_set 78 = .ok (.ldc 25, 2) := by decide +kernel
theorem dX5_set_80 : decode cX5_set 80 = .ok (.ireturn, 1) := by decide +kernel
theorem dX5_set_81 : decode cX5_set 81 = .ok (.aload_n 0, 1) := by decide +kernel
theorem dX5_set_82 : decode cX5_set 82 = .ok (.getfield 7, 3) := by decide +kernel
theorem dX5_set_85 : decode cX5_set 85 = .ok (.bipush 6, 2) := by decide +kernel
theorem dX5_set_87 : decode cX5_set 87 = .ok (.iload_n 1, 1) := by decide +kernel
theorem dX5_set_88 : decode cX5_set 88 = .ok (.iadd, 1) := by decide +kernel
theorem dX5_set_89 : decode cX5_set 89 = .ok (.iaload, 1) := by decide +kernel
theorem dX5_set_90 : decode cX5_set 90 = .ok (.istore 5, 2) := by decide +kernel
theorem dX5_set_92 : decode cX5_set 92 = .ok (.aload_n 0, 1) := by decide +kernel
theorem dX5_set_93 : decode cX5_set 93 = .ok (.getfield 7, 3) := by decide +kernel
theorem dX5_set_96 : decode cX5_set 96 = .ok (.bipush 6, 2) := by decide +kernel
theorem dX5_set_98 : decode cX5_set 98 = .ok (.iload_n 1, 1) := by decide +kernel
theorem dX5_set_99 : decode cX5_set 99 = .ok (.iadd, 1) := by decide +kernel
theorem dX5_set_100 : decode cX5_set 100 = .ok (.iload_n 2, 1) := by decide +kernel
theorem dX5_set_101 : decode cX5_set 101 = .ok (.iastore, 1) := by decide +kernel
theorem dX5_set_102 : decode cX5_set 102 = .ok (.aload_n 0, 1) := by decide +kernel
theorem dX5_set_103 : decode cX5_set 103 = .ok (.iload 5, 2) := by decide +kernel
theorem dX5_set_105 : decode cX5_set 105 = .ok (.invokevirtual 113, 3) := by decide +kernel
theorem dX5_set_108 : decode cX5_set 108 = .ok (.ireturn, 1) := by decide +kernel
theorem dX5_bits_0 : decode cX5_bits 0 = .ok (.aload_n 0, 1) := by decide +kernel
theorem dX5_bits_1 : decode cX5_bits 1 = .ok (.iload_n 1, 1) := by decide +kernel
theorem dX5_bits_2 : decode cX5_bits 2 = .ok (.iconst 5, 1) := by decide +kernel
theorem dX5_bits_3 : decode cX5_bits 3 = .ok (.invokevirtual 33, 3) := by decide +kernel
theorem dX5_bits_6 : decode cX5_bits 6 = .ok (.i2f, 1) := by decide +kernel
theorem dX5_bits_7 : decode cX5_bits 7 = .ok (.fstore_n 2, 1) := by decide +kernel
theorem dX5_bits_8 : decode cX5_bits 8 = .ok (.aload_n 0, 1) := by decide +kernel
theorem dX5_bits_9 : decode cX5_bits 9 = .ok (.iload_n 1, 1) := by decide +kernel
theorem dX5_bits_10 : decode cX5_bits 10 = .ok (.invokevirtual 45, 3) := by decide +kernel
theorem dX5_bits_13 : decode cX5_bits 13 = .ok (.i2f, 1) := by decide +kernel
theorem dX5_bits_14 : decode cX5_bits 14 = .ok (.fstore_n 3, 1) := by decide +kernel
theorem dX5_bits_15 : decode cX5_bits 15 = .ok (.fload_n 2, 1) := by decide +kernel
theorem dX5_bits_16 : decode cX5_bits 16 = .ok (.fload_n 3, 1) := by decide +kernel
theorem dX5_bits_17 : decode cX5_bits 17 = .ok (.fdiv, 1) := by decide +kernel
theorem dX5_bits_18 : decode cX5_bits 18 = .ok (.invokestatic 144, 3) := by decide +kernel
theorem dX5_bits_21 : decode cX5_bits 21 = .ok (.ireturn, 1) := by decide +kernel
theorem dX5_receiptOf_0 : decode cX5_receiptOf 0 = .ok (.aload_n 0, 1) := by decide +kernel
theorem dX5_receiptOf_1 : decode cX5_receiptOf 1 = .ok (.iload_n 1, 1) := by decide +kernel
theorem dX5_receiptOf_2 : decode cX5_receiptOf 2 = .ok (.invokevirtual 83, 3) := by decide +kernel
theorem dX5_receiptOf_5 : decode cX5_receiptOf 5 = .ok (.istore_n 3, 1) := by decide +kernel
theorem dX5_receiptOf_6 : decode cX5_receiptOf 6 = .ok (.iload_n 3, 1) := by decide +kernel
theorem dX5_receiptOf_7 : decode cX5_receiptOf 7 = .ok (.ifCond .lt 13, 3) := by decide +kernel
theorem dX5_receiptOf_10 : decode cX5_receiptOf 10 = .ok (.iload_n 2, 1) := by decide +kernel
theorem dX5_receiptOf_11 : decode cX5_receiptOf 11 = .ok (.iconst 0, 1) := by decide +kernel
theorem dX5_receiptOf_12 : decode cX5_receiptOf 12 = .ok (.bipush 9, 2) := by decide +kernel
theorem dX5_receiptOf_14 : decode cX5_receiptOf 14 = .ok (.invokestatic 67, 3) := by decide +kernel
theorem dX5_receiptOf_17 : decode cX5_receiptOf 17 = .ok (.ifCond .ne 6, 3) := by decide +kernel
theorem dX5_receiptOf_20 : decode cX5_receiptOf 20 = .ok (.ldc 25, 2) := by decide +kernel
theorem dX5_receiptOf_22 : decode cX5_receiptOf 22 = .ok (.ireturn, 1) := by decide +kernel
theorem dX5_receiptOf_23 : decode cX5_receiptOf 23 = .ok (.iload_n 2, 1) := by decide +kernel
theorem dX5_receiptOf_24 : decode cX5_receiptOf 24 = .ok (.tableswitch 132 3 9 #[44, 50, 50, 70, 93, 100, 126], 44) := by decide +kernel
theorem dX5_receiptOf_68 : decode cX5_receiptOf 68 = .ok (.aload_n 0, 1) := by decide +kernel
theorem dX5_receiptOf_69 : decode cX5_receiptOf 69 = .ok (.iload_n 3, 1) := by decide +kernel
theorem dX5_receiptOf_70 : decode cX5_receiptOf 70 = .ok (.invokevirtual 45, 3) := by decide +kernel
theorem dX5_receiptOf_73 : decode cX5_receiptOf 73 = .ok (.ireturn, 1) := by decide +kernel
theorem dX5_receiptOf_74 : decode cX5_receiptOf 74 = .ok (.aload_n 0, 1) := by decide +kernel
theorem dX5_receiptOf_75 : decode cX5_receiptOf 75 = .ok (.iload_n 3, 1) := by decide +kernel
theorem dX5_receiptOf_76 : decode cX5_receiptOf 76 = .ok (.invokevirtual 87, 3) := by decide +kernel
theorem dX5_receiptOf_79 : decode cX5_receiptOf 79 = .ok (.ifCond .eq 12, 3) := by decide +kernel
theorem dX5_receiptOf_82 : decode cX5_receiptOf 82 = .ok (.aload_n 0, 1) := by decide +kernel
theorem dX5_receiptOf_83 : decode cX5_receiptOf 83 = .ok (.iload_n 3, 1) := by decide +kernel
theorem dX5_receiptOf_84 : decode cX5_receiptOf 84 = .ok (.iload_n 2, 1) := by decide +kernel
theorem dX5_receiptOf_85 : decode cX5_receiptOf 85 = .ok (.invokevirtual 33, 3) := by decide +kernel
theorem dX5_receiptOf_88 : decode cX5_receiptOf 88 = .ok (.goto 5, 3) := by decide +kernel
theorem dX5_receiptOf_91 : decode cX5_receiptOf 91 = .ok (.ldc 150, 2) := by decide +kernel
theorem dX5_receiptOf_93 : decode cX5_receiptOf 93 = .ok (.ireturn, 1) := by decide +kernel
theorem dX5_receiptOf_94 : decode cX5_receiptOf 94 = .ok (.aload_n 0, 1) := by decide +kernel
theorem dX5_receiptOf_95 : decode cX5_receiptOf 95 = .ok (.iload_n 3, 1) := by decide +kernel
theorem dX5_receiptOf_96 : decode cX5_receiptOf 96 = .ok (.bipush 6, 2) := by decide +kernel
theorem dX5_receiptOf_98 : decode cX5_receiptOf 98 = .ok (.invokevirtual 33, 3) := by decide +kernel
theorem dX5_receiptOf_101 : decode cX5_receiptOf 101 = .ok (.ifCond .le 13, 3) := by decide +kernel
theorem dX5_receiptOf_104 : decode cX5_receiptOf 104 = .ok (.aload_n 0, 1) := by decide +kernel
theorem dX5_receiptOf_105 : decode cX5_receiptOf 105 = .ok (.iload_n 3, 1) := by decide +kernel
theorem dX5_receiptOf_106 : decode cX5_receiptOf 106 = .ok (.bipush 6, 2) := by decide +kernel
theorem dX5_receiptOf_108 : decode cX5_receiptOf 108 = .ok (.invokevirtual 33, 3) := by decide +kernel
theorem dX5_receiptOf_111 : decode cX5_receiptOf 111 = .ok (.goto 5, 3) := by decide +kernel
theorem dX5_receiptOf_114 : decode cX5_receiptOf 114 = .ok (.ldc 150, 2) := by decide +kernel
theorem dX5_receiptOf_116 : decode cX5_receiptOf 116 = .ok (.ireturn, 1) := by decide +kernel
theorem dX5_receiptOf_117 : decode cX5_receiptOf 117 = .ok (.aload_n 0, 1) := by decide +kernel
theorem dX5_receiptOf_118 : decode cX5_receiptOf 118 = .ok (.iload_n 3, 1) := by decide +kernel
theorem dX5_receiptOf_119 : decode cX5_receiptOf 119 = .ok (.iconst 0, 1) := by decide +kernel
theorem dX5_receiptOf_120 : decode cX5_receiptOf 120 = .ok (.invokevirtual 49, 3) := by decide +kernel
theorem dX5_receiptOf_123 : decode cX5_receiptOf 123 = .ok (.ireturn, 1) := by decide +kernel
theorem dX5_receiptOf_124 : decode cX5_receiptOf 124 = .ok (.aload_n 0, 1) := by decide +kernel
theorem dX5_receiptOf_125 : decode cX5_receiptOf 125 = .ok (.iload_n 3, 1) := by decide +kernel
theorem dX5_receiptOf_126 : decode cX5_receiptOf 126 = .ok (.invokevirtual 94, 3) := by decide +kernel
theorem dX5_receiptOf_129 : decode cX5_receiptOf 129 = .ok (.ifCond .eq 19, 3) := by decide +kernel
theorem dX5_receiptOf_132 : decode cX5_receiptOf 132 = .ok (.aload_n 0, 1) := by decide +kernel
theorem dX5_receiptOf_133 : decode cX5_receiptOf 133 = .ok (.iload_n 3, 1) := by decide +kernel
theorem dX5_receiptOf_134 : decode cX5_receiptOf 134 = .ok (.iconst 5, 1) := by decide +kernel
theorem dX5_receiptOf_135 : decode cX5_receiptOf 135 = .ok (.invokevirtual 33, 3) := by decide +kernel
theorem dX5_receiptOf_138 : decode cX5_receiptOf 138 = .ok (.aload_n 0, 1) := by decide +kernel
theorem dX5_receiptOf_139 : decode cX5_receiptOf 139 = .ok (.iload_n 3, 1) := by decide +kernel
theorem dX5_receiptOf_140 : decode cX5_receiptOf 140 = .ok (.iconst 1, 1) := by decide +kernel
theorem dX5_receiptOf_141 : decode cX5_receiptOf 141 = .ok (.invokevirtual 49, 3) := by decide +kernel
theorem dX5_receiptOf_144 : decode cX5_receiptOf 144 = .ok (.isub, 1) := by decide +kernel
theorem dX5_receiptOf_145 : decode cX5_receiptOf 145 = .ok (.goto 4, 3) := by decide +kernel
theorem dX5_receiptOf_148 : decode cX5_receiptOf 148 = .ok (.iconst 0, 1) := by decide +kernel
theorem dX5_receiptOf_149 : decode cX5_receiptOf 149 = .ok (.ireturn, 1) := by decide +kernel
theorem dX5_receiptOf_150 : decode cX5_receiptOf 150 = .ok (.aload_n 0, 1) := by decide +kernel
theorem dX5_receiptOf_151 : decode cX5_receiptOf 151 = .ok (.iload_n 3, 1) := by decide +kernel
theorem dX5_receiptOf_152 : decode cX5_receiptOf 152 = .ok (.invokevirtual 151, 3) := by decide +kernel
theorem dX5_receiptOf_155 : decode cX5_receiptOf 155 = .ok (.ireturn, 1) := by decide +kernel
theorem dX5_receiptOf_156 : decode cX5_receiptOf 156 = .ok (.aload_n 0, 1) := by decide +kernel
theorem dX5_receiptOf_157 : decode cX5_receiptOf 157 = .ok (.iload_n 3, 1) := by decide +kernel
theorem dX5_receiptOf_158 : decode cX5_receiptOf 158 = .ok (.iload_n 2, 1) := by decide +kernel
theorem dX5_receiptOf_159 : decode cX5_receiptOf 159 = .ok (.iconst 1, 1) := by decide +kernel
theorem dX5_receiptOf_160 : decode cX5_receiptOf 160 = .ok (.iadd, 1) := by decide +kernel
theorem dX5_receiptOf_161 : decode cX5_receiptOf 161 = .ok (.invokevirtual 33, 3) := by decide +kernel
theorem dX5_receiptOf_164 : decode cX5_receiptOf 164 = .ok (.ireturn, 1) := by decide +kernel
theorem dX5_receipt_0 : decode cX5_receipt 0 = .ok (.iload_n 1, 1) := by decide +kernel
theorem dX5_receipt_1 : decode cX5_receipt 1 = .ok (.ifCond .ge 6, 3) := by decide +kernel
theorem dX5_receipt_4 : decode cX5_receipt 4 = .ok (.ldc 25, 2) := by decide +kernel
theorem dX5_receipt_6 : decode cX5_receipt 6 = .ok (.ireturn, 1) := by decide +kernel
theorem dX5_receipt_7 : decode cX5_receipt 7 = .ok (.iload_n 1, 1) := by decide +kernel
theorem dX5_receipt_8 : decode cX5_receipt 8 = .ok (.aload_n 0, 1) := by decide +kernel
theorem dX5_receipt_9 : decode cX5_receipt 9 = .ok (.getfield 7, 3) := by decide +kernel
theorem dX5_receipt_12 : decode cX5_receipt 12 = .ok (.iconst 0, 1) := by decide +kernel
theorem dX5_receipt_13 : decode cX5_receipt 13 = .ok (.iaload, 1) := by decide +kernel
theorem dX5_receipt_14 : decode cX5_receipt 14 = .ok (.if_icmp .ge 12, 3) := by decide +kernel
theorem dX5_receipt_17 : decode cX5_receipt 17 = .ok (.aload_n 0, 1) := by decide +kernel
theorem dX5_receipt_18 : decode cX5_receipt 18 = .ok (.iload_n 1, 1) := by decide +kernel
theorem dX5_receipt_19 : decode cX5_receipt 19 = .ok (.iconst 0, 1) := by decide +kernel
theorem dX5_receipt_20 : decode cX5_receipt 20 = .ok (.invokevirtual 33, 3) := by decide +kernel
theorem dX5_receipt_23 : decode cX5_receipt 23 = .ok (.goto 5, 3) := by decide +kernel
theorem dX5_receipt_26 : decode cX5_receipt 26 = .ok (.ldc 150, 2) := by decide +kernel
theorem dX5_receipt_28 : decode cX5_receipt 28 = .ok (.ireturn, 1) := by decide +kernel
theorem dX5_couldLose_0 : decode cX5_couldLose 0 = .ok (.aload_n 0, 1) := by decide +kernel
theorem dX5_couldLose_1 : decode cX5_couldLose 1 = .ok (.iload_n 1, 1) := by decide +kernel
theorem dX5_couldLose_2 : decode cX5_couldLose 2 = .ok (.invokevirtual 55, 3) := by decide +kernel
theorem dX5_couldLose_5 : decode cX5_couldLose 5 = .ok (.istore_n 2, 1) := by decide +kernel
theorem dX5_couldLose_6 : decode cX5_couldLose 6 = .ok (.aload_n 0, 1) := by decide +kernel
theorem dX5_couldLose_7 : decode cX5_couldLose 7 = .ok (.iload_n 1, 1) := by decide +kernel
theorem dX5_couldLose_8 : decode cX5_couldLose 8 = .ok (.invokevirtual 52, 3) := by decide +kernel
theorem dX5_couldLose_11 : decode cX5_couldLose 11 = .ok (.istore_n 3, 1) := by decide +kernel
theorem dX5_couldLose_12 : decode cX5_couldLose 12 = .ok (.iload_n 3, 1) := by decide +kernel
theorem dX5_couldLose_13 : decode cX5_couldLose 13 = .ok (.iconst 3, 1) := by decide +kernel
theorem dX5_couldLose_14 : decode cX5_couldLose 14 = .ok (.if_icmp .ge 28, 3) := by decide +kernel
theorem dX5_couldLose_17 : decode cX5_couldLose 17 = .ok (.aload_n 0, 1) := by decide +kernel
theorem dX5_couldLose_18 : decode cX5_couldLose 18 = .ok (.iload_n 3, 1) := by decide +kernel
theorem dX5_couldLose_19 : decode cX5_couldLose 19 = .ok (.invokevirtual 64, 3) := by decide +kernel
theorem dX5_couldLose_22 : decode cX5_couldLose 22 = .ok (.iload_n 2, 1) := by decide +kernel
theorem dX5_couldLose_23 : decode cX5_couldLose 23 = .ok (.if_icmp .ge 11, 3) := by decide +kernel
theorem dX5_couldLose_26 : decode cX5_couldLose 26 = .ok (.aload_n 0, 1) := by decide +kernel
theorem dX5_couldLose_27 : decode cX5_couldLose 27 = .ok (.iload_n 3, 1) := by decide +kernel
theorem dX5_couldLose_28 : decode cX5_couldLose 28 = .ok (.invokevirtual 64, 3) := by decide +kernel
theorem dX5_couldLose_31 : decode cX5_couldLose 31 = .ok (.goto 4, 3) := by decide +kernel
theorem dX5_couldLose_34 : decode cX5_couldLose 34 = .ok (.iload_n 2, 1) := by decide +kernel
theorem dX5_couldLose_35 : decode cX5_couldLose 35 = .ok (.istore_n 2, 1) := by decide +kernel
theorem dX5_couldLose_36 : decode cX5_couldLose 36 = .ok (.iinc 3 1, 3) := by decide +kernel
theorem dX5_couldLose_39 : decode cX5_couldLose 39 = .ok (.goto (-27), 3) := by decide +kernel
theorem dX5_couldLose_42 : decode cX5_couldLose 42 = .ok (.iload_n 2, 1) := by decide +kernel
theorem dX5_couldLose_43 : decode cX5_couldLose 43 = .ok (.ireturn, 1) := by decide +kernel
theorem dX5_binOf_0 : decode cX5_binOf 0 = .ok (.iload_n 1, 1) := by decide +kernel
theorem dX5_binOf_1 : decode cX5_binOf 1 = .ok (.iconst 0, 1) := by decide +kernel
theorem dX5_binOf_2 : decode cX5_binOf 2 = .ok (.iconst 4, 1) := by decide +kernel
theorem dX5_binOf_3 : decode cX5_binOf 3 = .ok (.invokestatic 67, 3) := by decide +kernel
theorem dX5_binOf_6 : decode cX5_binOf 6 = .ok (.ifCond .eq 12, 3) := by decide +kernel
theorem dX5_binOf_9 : decode cX5_binOf 9 = .ok (.iload_n 2, 1) := by decide +kernel
theorem dX5_binOf_10 : decode cX5_binOf 10 = .ok (.iconst 0, 1) := by decide +kernel
theorem dX5_binOf_11 : decode cX5_binOf 11 = .ok (.iconst 2, 1) := by decide +kernel
theorem dX5_binOf_12 : decode cX5_binOf 12 = .ok (.invokestatic 67, 3) := by decide +kernel
theorem dX5_binOf_15 : decode cX5_binOf 15 = .ok (.ifCond .ne 6, 3) := by decide +kernel
theorem dX5_binOf_18 : decode cX5_binOf 18 = .ok (.ldc 25, 2) := by decide +kernel
theorem dX5_binOf_20 : decode cX5_binOf 20 = .ok (.ireturn, 1) := by decide +kernel
theorem dX5_binOf_21 : decode cX5_binOf 21 = .ok (.iload_n 2, 1) := by decide +kernel
theorem dX5_binOf_22 : decode cX5_binOf 22 = .ok (.iconst 2, 1) := by decide +kernel
theorem dX5_binOf_23 : decode cX5_binOf 23 = .ok (.if_icmp .ne 11, 3) := by decide +kernel
theorem dX5_binOf_26 : decode cX5_binOf 26 = .ok (.aload_n 0, 1) := by decide +kernel
theorem dX5_binOf_27 : decode cX5_binOf 27 = .ok (.iload_n 1, 1) := by decide +kernel
theorem dX5_binOf_28 : decode cX5_binOf 28 = .ok (.invokevirtual 154, 3) := by decide +kernel
theorem dX5_binOf_31 : decode cX5_binOf 31 = .ok (.goto 16, 3) := by decide +kernel
theorem dX5_binOf_34 : decode cX5_binOf 34 = .ok (.aload_n 0, 1) := by decide +kernel
theorem dX5_binOf_35 : decode cX5_binOf 35 = .ok (.getfield 7, 3) := by decide +kernel
theorem dX5_binOf_38 : decode cX5_binOf 38 = .ok (.bipush 24, 2) := by decide +kernel
theorem dX5_binOf_40 : decode cX5_binOf 40 = .ok (.iconst 2, 1) := by decide +kernel
theorem dX5_binOf_41 : decode cX5_binOf 41 = .ok (.iload_n 1, 1) := by decide +kernel
theorem dX5_binOf_42 : decode cX5_binOf 42 = .ok (.imul, 1) := by decide +kernel
theorem dX5_binOf_43 : decode cX5_binOf 43 = .ok (.iadd, 1) := by decide +kernel
theorem dX5_binOf_44 : decode cX5_binOf 44 = .ok (.iload_n 2, 1) := by decide +kernel
theorem dX5_binOf_45 : decode cX5_binOf 45 = .ok (.iadd, 1) := by decide +kernel
theorem dX5_binOf_46 : decode cX5_binOf 46 = .ok (.iaload, 1) := by decide +kernel
theorem dX5_binOf_47 : decode cX5_binOf 47 = .ok (.ireturn, 1) := by decide +kernel
theorem dX5_gradeOf_0 : decode cX5_gradeOf 0 = .ok (.iload_n 1, 1) := by decide +kernel
theorem dX5_gradeOf_1 : decode cX5_gradeOf 1 = .ok (.iconst 0, 1) := by decide +kernel
theorem dX5_gradeOf_2 : decode cX5_gradeOf 2 = .ok (.iconst 2, 1) := by decide +kernel
theorem dX5_gradeOf_3 : decode cX5_gradeOf 3 = .ok (.invokestatic 67, 3) := by decide +kernel
theorem dX5_gradeOf_6 : decode cX5_gradeOf 6 = .ok (.ifCond .eq 12, 3) := by decide +kernel
theorem dX5_gradeOf_9 : decode cX5_gradeOf 9 = .ok (.iload_n 2, 1) := by decide +kernel
theorem dX5_gradeOf_10 : decode cX5_gradeOf 10 = .ok (.iconst 0, 1) := by decide +kernel
theorem dX5_gradeOf_11 : decode cX5_gradeOf 11 = .ok (.iconst 4, 1) := by decide +kernel
theorem dX5_gradeOf_12 : decode cX5_gradeOf 12 = .ok (.invokestatic 67, 3) := by decide +kernel
theorem dX5_gradeOf_15 : decode cX5_gradeOf 15 = .ok (.ifCond .ne 6, 3) := by decide +kernel
theorem dX5_gradeOf_18 : decode cX5_gradeOf 18 = .ok (.ldc 25, 2) := by decide +kernel
theorem dX5_gradeOf_20 : decode cX5_gradeOf 20 = .ok (.ireturn, 1) := by decide +kernel
theorem dX5_gradeOf_21 : decode cX5_gradeOf 21 = .ok (.iload_n 2, 1) := by decide +kernel
theorem dX5_gradeOf_22 : decode cX5_gradeOf 22 = .ok (.tableswitch 58 0 3 #[30, 40, 46, 52], 30) := by decide +kernel
theorem dX5_gradeOf_52 : decode cX5_gradeOf 52 = .ok (.aload_n 0, 1) := by decide +kernel
theorem dX5_gradeOf_53 : decode cX5_gradeOf 53 = .ok (.getfield 7, 3) := by decide +kernel
theorem dX5_gradeOf_56 : decode cX5_gradeOf 56 = .ok (.bipush 10, 2) := by decide +kernel
theorem dX5_gradeOf_58 : decode cX5_gradeOf 58 = .ok (.iload_n 1, 1) := by decide +kernel
theorem dX5_gradeOf_59 : decode cX5_gradeOf 59 = .ok (.iadd, 1) := by decide +kernel
theorem dX5_gradeOf_60 : decode cX5_gradeOf 60 = .ok (.iaload, 1) := by decide +kernel
theorem dX5_gradeOf_61 : decode cX5_gradeOf 61 = .ok (.ireturn, 1) := by decide +kernel
theorem dX5_gradeOf_62 : decode cX5_gradeOf 62 = .ok (.aload_n 0, 1) := by decide +kernel
theorem dX5_gradeOf_63 : decode cX5_gradeOf 63 = .ok (.iload_n 1, 1) := by decide +kernel
theorem dX5_gradeOf_64 : decode cX5_gradeOf 64 = .ok (.invokevirtual 58, 3) := by decide +kernel
theorem dX5_gradeOf_67 : decode cX5_gradeOf 67 = .ok (.ireturn, 1) := by decide +kernel
theorem dX5_gradeOf_68 : decode cX5_gradeOf 68 = .ok (.aload_n 0, 1) := by decide +kernel
theorem dX5_gradeOf_69 : decode cX5_gradeOf 69 = .ok (.iload_n 1, 1) := by decide +kernel
theorem dX5_gradeOf_70 : decode cX5_gradeOf 70 = .ok (.invokevirtual 61, 3) := by decide +kernel
theorem dX5_gradeOf_73 : decode cX5_gradeOf 73 = .ok (.ireturn, 1) := by decide +kernel
theorem dX5_gradeOf_74 : decode cX5_gradeOf 74 = .ok (.aload_n 0, 1) := by decide +kernel
theorem dX5_gradeOf_75 : decode cX5_gradeOf 75 = .ok (.iload_n 1, 1) := by decide +kernel
theorem dX5_gradeOf_76 : decode cX5_gradeOf 76 = .ok (.invokevirtual 64, 3) := by decide +kernel
theorem dX5_gradeOf_79 : decode cX5_gradeOf 79 = .ok (.ireturn, 1) := by decide +kernel
theorem dX5_gradeOf_80 : decode cX5_gradeOf 80 = .ok (.aload_n 0, 1) := by decide +kernel
theorem dX5_gradeOf_81 : decode cX5_gradeOf 81 = .ok (.iload_n 1, 1) := by decide +kernel
theorem dX5_gradeOf_82 : decode cX5_gradeOf 82 = .ok (.invokevirtual 71, 3) := by decide +kernel
theorem dX5_gradeOf_85 : decode cX5_gradeOf 85 = .ok (.ireturn, 1) := by decide +kernel
theorem dX5_ownerOf_0 : decode cX5_ownerOf 0 = .ok (.iload_n 1, 1) := by decide +kernel
theorem dX5_ownerOf_1 : decode cX5_ownerOf 1 = .ok (.iconst 0, 1) := by decide +kernel
theorem dX5_ownerOf_2 : decode cX5_ownerOf 2 = .ok (.bipush 7, 2) := by decide +kernel
theorem dX5_ownerOf_4 : decode cX5_ownerOf 4 = .ok (.invokestatic 67, 3) := by decide +kernel
theorem dX5_ownerOf_7 : decode cX5_ownerOf 7 = .ok (.ifCond .eq 12, 3) := by decide +kernel
theorem dX5_ownerOf_10 : decode cX5_ownerOf 10 = .ok (.iload_n 2, 1) := by decide +kernel
theorem dX5_ownerOf_11 : decode cX5_ownerOf 11 = .ok (.iconst 0, 1) := by decide +kernel
theorem dX5_ownerOf_12 : decode cX5_ownerOf 12 = .ok (.iconst 4, 1) := by decide +kernel
theorem dX5_ownerOf_13 : decode cX5_ownerOf 13 = .ok (.invokestatic 67, 3) := by decide +kernel
theorem dX5_ownerOf_16 : decode cX5_ownerOf 16 = .ok (.ifCond .ne 6, 3) := by decide +kernel
theorem dX5_ownerOf_19 : decode cX5_ownerOf 19 = .ok (.ldc 25, 2) := by decide +kernel
theorem dX5_ownerOf_21 : decode cX5_ownerOf 21 = .ok (.ireturn, 1) := by decide +kernel
theorem dX5_ownerOf_22 : decode cX5_ownerOf 22 = .ok (.iconst 0, 1) := by decide +kernel
theorem dX5_ownerOf_23 : decode cX5_ownerOf 23 = .ok (.istore_n 3, 1) := by decide +kernel
theorem dX5_ownerOf_24 : decode cX5_ownerOf 24 = .ok (.iconst 0, 1) := by decide +kernel
theorem dX5_ownerOf_25 : decode cX5_ownerOf 25 = .ok (.istore 4, 2) := by decide +kernel
theorem dX5_ownerOf_27 : decode cX5_ownerOf 27 = .ok (.iconst 0, 1) := by decide +kernel
theorem dX5_ownerOf_28 : decode cX5_ownerOf 28 = .ok (.istore 5, 2) := by decide +kernel
theorem dX5_ownerOf_30 : decode cX5_ownerOf 30 = .ok (.aload_n 0, 1) := by decide +kernel
theorem dX5_ownerOf_31 : decode cX5_ownerOf 31 = .ok (.getfield 7, 3) := by decide +kernel
theorem dX5_ownerOf_34 : decode cX5_ownerOf 34 = .ok (.bipush 13, 2) := by decide +kernel
theorem dX5_ownerOf_36 : decode cX5_ownerOf 36 = .ok (.iload_n 1, 1) := by decide +kernel
theorem dX5_ownerOf_37 : decode cX5_ownerOf 37 = .ok (.iadd, 1) := by decide +kernel
theorem dX5_ownerOf_38 : decode cX5_ownerOf 38 = .ok (.iaload, 1) := by decide +kernel
theorem dX5_ownerOf_39 : decode cX5_ownerOf 39 = .ok (.istore 6, 2) := by decide +kernel
theorem dX5_ownerOf_41 : decode cX5_ownerOf 41 = .ok (.iconst 0, 1) := by decide +kernel
theorem dX5_ownerOf_42 : decode cX5_ownerOf 42 = .ok (.istore 7, 2) := by decide +kernel
theorem dX5_ownerOf_44 : decode cX5_ownerOf 44 = .ok (.iload 7, 2) := by decide +kernel
theorem dX5_ownerOf_46 : decode cX5_ownerOf 46 = .ok (.aload_n 0, 1) := by decide +kernel
theorem dX5_ownerOf_47 : decode cX5_ownerOf 47 = .ok (.getfield 7, 3) := by decide +kernel
theorem dX5_ownerOf_50 : decode cX5_ownerOf 50 = .ok (.iconst 0, 1) := by decide +kernel
theorem dX5_ownerOf_51 : decode cX5_ownerOf 51 = .ok (.iaload, 1) := by decide +kernel
theorem dX5_ownerOf_52 : decode cX5_ownerOf 52 = .ok (.if_icmp .ge 83, 3) := by decide +kernel
theorem dX5_ownerOf_55 : decode cX5_ownerOf 55 = .ok (.aload_n 0, 1) := by decide +kernel
theorem dX5_ownerOf_56 : decode cX5_ownerOf 56 = .ok (.iload 7, 2) := by decide +kernel
theorem dX5_ownerOf_58 : decode cX5_ownerOf 58 = .ok (.iconst 1, 1) := by decide +kernel
theorem dX5_ownerOf_59 : decode cX5_ownerOf 59 = .ok (.invokevirtual 33, 3) := by decide +kernel
theorem dX5_ownerOf_62 : decode cX5_ownerOf 62 = .ok (.iload_n 1, 1) := by decide +kernel
theorem dX5_ownerOf_63 : decode cX5_ownerOf 63 = .ok (.if_icmp .ne 66, 3) := by decide +kernel
theorem dX5_ownerOf_66 : decode cX5_ownerOf 66 = .ok (.iinc 3 1, 3) := by decide +kernel
theorem dX5_ownerOf_69 : decode cX5_ownerOf 69 = .ok (.iload 4, 2) := by decide +kernel
theorem dX5_ownerOf_71 : decode cX5_ownerOf 71 = .ok (.aload_n 0, 1) := by decide +kernel
theorem dX5_ownerOf_72 : decode cX5_ownerOf 72 = .ok (.iload 7, 2) := by decide +kernel
theorem dX5_ownerOf_74 : decode cX5_ownerOf 74 = .ok (.iconst 3, 1) := by decide +kernel
theorem dX5_ownerOf_75 : decode cX5_ownerOf 75 = .ok (.invokevirtual 33, 3) := by decide +kernel
theorem dX5_ownerOf_78 : decode cX5_ownerOf 78 = .ok (.iadd, 1) := by decide +kernel
theorem dX5_ownerOf_79 : decode cX5_ownerOf 79 = .ok (.istore 4, 2) := by decide +kernel
theorem dX5_ownerOf_81 : decode cX5_ownerOf 81 = .ok (.iload 5, 2) := by decide +kernel
theorem dX5_ownerOf_83 : decode cX5_ownerOf 83 = .ok (.aload_n 0, 1) := by decide +kernel
theorem dX5_ownerOf_84 : decode cX5_ownerOf 84 = .ok (.iload 7, 2) := by decide +kernel
theorem dX5_ownerOf_86 : decode cX5_ownerOf 86 = .ok (.iconst 5, 1) := by decide +kernel
theorem dX5_ownerOf_87 : decode cX5_ownerOf 87 = .ok (.invokevirtual 33, 3) := by decide +kernel
theorem dX5_ownerOf_90 : decode cX5_ownerOf 90 = .ok (.iadd, 1) := by decide +kernel
theorem dX5_ownerOf_91 : decode cX5_ownerOf 91 = .ok (.istore 5, 2) := by decide +kernel
theorem dX5_ownerOf_93 : decode cX5_ownerOf 93 = .ok (.iload 6, 2) := by decide +kernel
theorem dX5_ownerOf_95 : decode cX5_ownerOf 95 = .ok (.aload_n 0, 1) := by decide +kernel
theorem dX5_ownerOf_96 : decode cX5_ownerOf 96 = .ok (.iload 7, 2) := by decide +kernel
theorem dX5_ownerOf_98 : decode cX5_ownerOf 98 = .ok (.iconst 3, 1) := by decide +kernel
theorem dX5_ownerOf_99 : decode cX5_ownerOf 99 = .ok (.invokevirtual 33, 3) := by decide +kernel
theorem dX5_ownerOf_102 : decode cX5_ownerOf 102 = .ok (.aload_n 0, 1) := by decide +kernel
theorem dX5_ownerOf_103 : decode cX5_ownerOf 103 = .ok (.getfield 7, 3) := by decide +kernel
theorem dX5_ownerOf_106 : decode cX5_ownerOf 106 = .ok (.bipush 10, 2) := by decide +kernel
theorem dX5_ownerOf_108 : decode cX5_ownerOf 108 = .ok (.aload_n 0, 1) := by decide +kernel
theorem dX5_ownerOf_109 : decode cX5_ownerOf 109 = .ok (.iload 7, 2) := by decide +kernel
theorem dX5_ownerOf_111 : decode cX5_ownerOf 111 = .ok (.iconst 2, 1) := by decide +kernel
theorem dX5_ownerOf_112 : decode cX5_ownerOf 112 = .ok (.invokevirtual 33, 3) := by decide +kernel
theorem dX5_ownerOf_115 : decode cX5_ownerOf 115 = .ok (.iadd, 1) := by decide +kernel
theorem dX5_ownerOf_116 : decode cX5_ownerOf 116 = .ok (.iaload, 1) := by decide +kernel
theorem dX5_ownerOf_117 : decode cX5_ownerOf 117 = .ok (.imul, 1) := by decide +kernel
theorem dX5_ownerOf_118 : decode cX5_ownerOf 118 = .ok (.aload_n 0, 1) := by decide +kernel
theorem dX5_ownerOf_119 : decode cX5_ownerOf 119 = .ok (.iload 7, 2) := by decide +kernel
theorem dX5_ownerOf_121 : decode cX5_ownerOf 121 = .ok (.iconst 5, 1) := by decide +kernel
theorem dX5_ownerOf_122 : decode cX5_ownerOf 122 = .ok (.invokevirtual 33, 3) := by decide +kernel
theorem dX5_ownerOf_125 : decode cX5_ownerOf 125 = .ok (.isub, 1) := by decide +kernel
theorem dX5_ownerOf_126 : decode cX5_ownerOf 126 = .ok (.iadd, 1) := by decide +kernel
theorem dX5_ownerOf_127 : decode cX5_ownerOf 127 = .ok (.istore 6, 2) := by decide +kernel
theorem dX5_ownerOf_129 : decode cX5_ownerOf 129 = .ok (.iinc 7 1, 3) := by decide +kernel
theorem dX5_ownerOf_132 : decode cX5_ownerOf 132 = .ok (.goto (-88), 3) := by decide +kernel
theorem dX5_ownerOf_135 : decode cX5_ownerOf 135 = .ok (.iload_n 2, 1) := by decide +kernel
theorem dX5_ownerOf_136 : decode cX5_ownerOf 136 = .ok (.tableswitch 50 0 3 #[32, 42, 44, 47], 32) := by decide +kernel
theorem dX5_ownerOf_168 : decode cX5_ownerOf 168 = .ok (.aload_n 0, 1) := by decide +kernel
theorem dX5_ownerOf_169 : decode cX5_ownerOf 169 = .ok (.getfield 7, 3) := by decide +kernel
theorem dX5_ownerOf_172 : decode cX5_ownerOf 172 = .ok (.bipush 13, 2) := by decide +kernel
theorem dX5_ownerOf_174 : decode cX5_ownerOf 174 = .ok (.iload_n 1, 1) := by decide +kernel
theorem dX5_ownerOf_175 : decode cX5_ownerOf 175 = .ok (.iadd, 1) := by decide +kernel
theorem dX5_ownerOf_176 : decode cX5_ownerOf 176 = .ok (.iaload, 1) := by decide +kernel
theorem dX5_ownerOf_177 : decode cX5_ownerOf 177 = .ok (.ireturn, 1) := by decide +kernel
theorem dX5_ownerOf_178 : decode cX5_ownerOf 178 = .ok (.iload_n 3, 1) := by decide +kernel
theorem dX5_ownerOf_179 : decode cX5_ownerOf 179 = .ok (.ireturn, 1) := by decide +kernel
theorem dX5_ownerOf_180 : decode cX5_ownerOf 180 = .ok (.iload 4, 2) := by decide +kernel
theorem dX5_ownerOf_182 : decode cX5_ownerOf 182 = .ok (.ireturn, 1) := by decide +kernel
theorem dX5_ownerOf_183 : decode cX5_ownerOf 183 = .ok (.iload 5, 2) := by decide +kernel
theorem dX5_ownerOf_185 : decode cX5_ownerOf 185 = .ok (.ireturn, 1) := by decide +kernel
theorem dX5_ownerOf_186 : decode cX5_ownerOf 186 = .ok (.iload 6, 2) := by decide +kernel
theorem dX5_ownerOf_188 : decode cX5_ownerOf 188 = .ok (.ireturn, 1) := by decide +kernel
theorem dX5_lenderOf_0 : decode cX5_lenderOf 0 = .ok (.iload_n 1, 1) := by decide +kernel
theorem dX5_lenderOf_1 : decode cX5_lenderOf 1 = .ok (.iconst 0, 1) := by decide +kernel
theorem dX5_lenderOf_2 : decode cX5_lenderOf 2 = .ok (.iconst 2, 1) := by decide +kernel
theorem dX5_lenderOf_3 : decode cX5_lenderOf 3 = .ok (.invokestatic 67, 3) := by decide +kernel
theorem dX5_lenderOf_6 : decode cX5_lenderOf 6 = .ok (.ifCond .eq 12, 3) := by decide +kernel
theorem dX5_lenderOf_9 : decode cX5_lenderOf 9 = .ok (.iload_n 2, 1) := by decide +kernel
theorem dX5_lenderOf_10 : decode cX5_lenderOf 10 = .ok (.iconst 0, 1) := by decide +kernel
theorem dX5_lenderOf_11 : decode cX5_lenderOf 11 = .ok (.iconst 5, 1) := by decide +kernel
theorem dX5_lenderOf_12 : decode cX5_lenderOf 12 = .ok (.invokestatic 67, 3) := by decide +kernel
theorem dX5_lenderOf_15 : decode cX5_lenderOf 15 = .ok (.ifCond .ne 6, 3) := by decide +kernel
theorem dX5_lenderOf_18 : decode cX5_lenderOf 18 = .ok (.ldc 25, 2) := by decide +kernel
theorem dX5_lenderOf_20 : decode cX5_lenderOf 20 = .ok (.ireturn, 1) := by decide +kernel
theorem dX5_lenderOf_21 : decode cX5_lenderOf 21 = .ok (.iload_n 2, 1) := by decide +kernel
theorem dX5_lenderOf_22 : decode cX5_lenderOf 22 = .ok (.iconst 4, 1) := by decide +kernel
theorem dX5_lenderOf_23 : decode cX5_lenderOf 23 = .ok (.if_icmp .ne 13, 3) := by decide +kernel
theorem dX5_lenderOf_26 : decode cX5_lenderOf 26 = .ok (.aload_n 0, 1) := by decide +kernel
theorem dX5_lenderOf_27 : decode cX5_lenderOf 27 = .ok (.getfield 7, 3) := by decide +kernel
theorem dX5_lenderOf_30 : decode cX5_lenderOf 30 = .ok (.bipush 21, 2) := by decide +kernel
theorem dX5_lenderOf_32 : decode cX5_lenderOf 32 = .ok (.iload_n 1, 1) := by decide +kernel
theorem dX5_lenderOf_33 : decode cX5_lenderOf 33 = .ok (.iadd, 1) := by decide +kernel
theorem dX5_lenderOf_34 : decode cX5_lenderOf 34 = .ok (.iaload, 1) := by decide +kernel
theorem dX5_lenderOf_35 : decode cX5_lenderOf 35 = .ok (.ireturn, 1) := by decide +kernel
theorem dX5_lenderOf_36 : decode cX5_lenderOf 36 = .ok (.iconst 0, 1) := by decide +kernel
theorem dX5_lenderOf_37 : decode cX5_lenderOf 37 = .ok (.istore_n 3, 1) := by decide +kernel
theorem dX5_lenderOf_38 : decode cX5_lenderOf 38 = .ok (.iconst 0, 1) := by decide +kernel
theorem dX5_lenderOf_39 : decode cX5_lenderOf 39 = .ok (.istore 4, 2) := by decide +kernel
theorem dX5_lenderOf_41 : decode cX5_lenderOf 41 = .ok (.iload 4, 2) := by decide +kernel
theorem dX5_lenderOf_43 : decode cX5_lenderOf 43 = .ok (.aload_n 0, 1) := by decide +kernel
theorem dX5_lenderOf_44 : decode cX5_lenderOf 44 = .ok (.getfield 7, 3) := by decide +kernel
theorem dX5_lenderOf_47 : decode cX5_lenderOf 47 = .ok (.iconst 0, 1) := by decide +kernel
theorem dX5_lenderOf_48 : decode cX5_lenderOf 48 = .ok (.iaload, 1) := by decide +kernel
theorem dX5_lenderOf_49 : decode cX5_lenderOf 49 = .ok (.if_icmp .ge 104, 3) := by decide +kernel
theorem dX5_lenderOf_52 : decode cX5_lenderOf 52 = .ok (.aload_n 0, 1) := by decide +kernel
theorem dX5_lenderOf_53 : decode cX5_lenderOf 53 = .ok (.iload 4, 2) := by decide +kernel
theorem dX5_lenderOf_55 : decode cX5_lenderOf 55 = .ok (.iconst 4, 1) := by decide +kernel
theorem dX5_lenderOf_56 : decode cX5_lenderOf 56 = .ok (.invokevirtual 33, 3) := by decide +kernel
theorem dX5_lenderOf_59 : decode cX5_lenderOf 59 = .ok (.iload_n 1, 1) := by decide +kernel
theorem dX5_lenderOf_60 : decode cX5_lenderOf 60 = .ok (.if_icmp .ne 87, 3) := by decide +kernel
theorem dX5_lenderOf_63 : decode cX5_lenderOf 63 = .ok (.iload_n 2, 1) := by decide +kernel
theorem dX5_lenderOf_64 : decode cX5_lenderOf 64 = .ok (.ifCond .eq 34, 3) := by decide +kernel
theorem dX5_lenderOf_67 : decode cX5_lenderOf 67 = .ok (.iload_n 2, 1) := by decide +kernel
theorem dX5_lenderOf_68 : decode cX5_lenderOf 68 = .ok (.iconst 3, 1) := by decide +kernel
theorem dX5_lenderOf_69 : decode cX5_lenderOf 69 = .ok (.if_icmp .ne 14, 3) := by decide +kernel
theorem dX5_lenderOf_72 : decode cX5_lenderOf 72 = .ok (.aload_n 0, 1) := by decide +kernel
theorem dX5_lenderOf_73 : decode cX5_lenderOf 73 = .ok (.iload 4, 2) := by decide +kernel
theorem dX5_lenderOf_75 : decode cX5_lenderOf 75 = .ok (.bipush 6, 2) := by decide +kernel
theorem dX5_lenderOf_77 : decode cX5_lenderOf 77 = .ok (.invokevirtual 33, 3) := by decide +kernel
theorem dX5_lenderOf_80 : decode cX5_lenderOf 80 = .ok (.ifCond .gt 18, 3) := by decide +kernel
theorem dX5_lenderOf_83 : decode cX5_lenderOf 83 = .ok (.iload_n 2, 1) := by decide +kernel
theorem dX5_lenderOf_84 : decode cX5_lenderOf 84 = .ok (.iconst 5, 1) := by decide +kernel
theorem dX5_lenderOf_85 : decode cX5_lenderOf 85 = .ok (.if_icmp .ne 17, 3) := by decide +kernel
theorem dX5_lenderOf_88 : decode cX5_lenderOf 88 = .ok (.aload_n 0, 1) := by decide +kernel
theorem dX5_lenderOf_89 : decode cX5_lenderOf 89 = .ok (.iload 4, 2) := by decide +kernel
theorem dX5_lenderOf_91 : decode cX5_lenderOf 91 = .ok (.iload_n 1, 1) := by decide +kernel
theorem dX5_lenderOf_92 : decode cX5_lenderOf 92 = .ok (.invokevirtual 97, 3) := by decide +kernel
theorem dX5_lenderOf_95 : decode cX5_lenderOf 95 = .ok (.ifCond .eq 7, 3) := by decide +kernel
theorem dX5_lenderOf_98 : decode cX5_lenderOf 98 = .ok (.iconst 1, 1) := by decide +kernel
theorem dX5_lenderOf_99 : decode cX5_lenderOf 99 = .ok (.goto 4, 3) := by decide +kernel
theorem dX5_lenderOf_102 : decode cX5_lenderOf 102 = .ok (.iconst 0, 1) := by decide +kernel
theorem dX5_lenderOf_103 : decode cX5_lenderOf 103 = .ok (.istore 5, 2) := by decide +kernel
theorem dX5_lenderOf_105 : decode cX5_lenderOf 105 = .ok (.iload_n 3, 1) := by decide +kernel
theorem dX5_lenderOf_106 : decode cX5_lenderOf 106 = .ok (.iload_n 2, 1) := by decide +kernel
theorem dX5_lenderOf_107 : decode cX5_lenderOf 107 = .ok (.iconst 1, 1) := by decide +kernel
theorem dX5_lenderOf_108 : decode cX5_lenderOf 108 = .ok (.if_icmp .ne 13, 3) := by decide +kernel
theorem dX5_lenderOf_111 : decode cX5_lenderOf 111 = .ok (.aload_n 0, 1) := by decide +kernel
theorem dX5_lenderOf_112 : decode cX5_lenderOf 112 = .ok (.iload 4, 2) := by decide +kernel
theorem dX5_lenderOf_114 : decode cX5_lenderOf 114 = .ok (.iconst 5, 1) := by decide +kernel
theorem dX5_lenderOf_115 : decode cX5_lenderOf 115 = .ok (.invokevirtual 33, 3) := by decide +kernel
theorem dX5_lenderOf_118 : decode cX5_lenderOf 118 = .ok (.goto 27, 3) := by decide +kernel
theorem dX5_lenderOf_121 : decode cX5_lenderOf 121 = .ok (.iload_n 2, 1) := by decide +kernel
theorem dX5_lenderOf_122 : decode cX5_lenderOf 122 = .ok (.iconst 2, 1) := by decide +kernel
theorem dX5_lenderOf_123 : decode cX5_lenderOf 123 = .ok (.if_icmp .ne 12, 3) := by decide +kernel
theorem dX5_lenderOf_126 : decode cX5_lenderOf 126 = .ok (.aload_n 0, 1) := by decide +kernel
theorem dX5_lenderOf_127 : decode cX5_lenderOf 127 = .ok (.iload 4, 2) := by decide +kernel
theorem dX5_lenderOf_129 : decode cX5_lenderOf 129 = .ok (.invokevirtual 45, 3) := by decide +kernel
theorem dX5_lenderOf_132 : decode cX5_lenderOf 132 = .ok (.goto 13, 3) := by decide +kernel
theorem dX5_lenderOf_135 : decode cX5_lenderOf 135 = .ok (.iload 5, 2) := by decide +kernel
theorem dX5_lenderOf_137 : decode cX5_lenderOf 137 = .ok (.ifCond .eq 7, 3) := by decide +kernel
theorem dX5_lenderOf_140 : decode cX5_lenderOf 140 = .ok (.iconst 1, 1) := by decide +kernel
theorem dX5_lenderOf_141 : decode cX5_lenderOf 141 = .ok (.goto 4, 3) := by decide +kernel
theorem dX5_lenderOf_144 : decode cX5_lenderOf 144 = .ok (.iconst 0, 1) := by decide +kernel
theorem dX5_lenderOf_145 : decode cX5_lenderOf 145 = .ok (.iadd, 1) := by decide +kernel
theorem dX5_lenderOf_146 : decode cX5_lenderOf 146 = .ok (.istore_n 3, 1) := by decide +kernel
theorem dX5_lenderOf_147 : decode cX5_lenderOf 147 = .ok (.iinc 4 1, 3) := by decide +kernel
theorem dX5_lenderOf_150 : decode cX5_lenderOf 150 = .ok (.goto (-109), 3) := by decide +kernel
theorem dX5_lenderOf_153 : decode cX5_lenderOf 153 = .ok (.iload_n 3, 1) := by decide +kernel
theorem dX5_lenderOf_154 : decode cX5_lenderOf 154 = .ok (.ireturn, 1) := by decide +kernel
theorem dX5_wouldFallTo_0 : decode cX5_wouldFallTo 0 = .ok (.iconst 0, 1) := by decide +kernel
theorem dX5_wouldFallTo_1 : decode cX5_wouldFallTo 1 = .ok (.istore_n 3, 1) := by decide +kernel
theorem dX5_wouldFallTo_2 : decode cX5_wouldFallTo 2 = .ok (.iconst 0, 1) := by decide +kernel
theorem dX5_wouldFallTo_3 : decode cX5_wouldFallTo 3 = .ok (.istore 4, 2) := by decide +kernel
theorem dX5_wouldFallTo_5 : decode cX5_wouldFallTo 5 = .ok (.iload 4, 2) := by decide +kernel
theorem dX5_wouldFallTo_7 : decode cX5_wouldFallTo 7 = .ok (.aload_n 0, 1) := by decide +kernel
theorem dX5_wouldFallTo_8 : decode cX5_wouldFallTo 8 = .ok (.getfield 7, 3) := by decide +kernel
theorem dX5_wouldFallTo_11 : decode cX5_wouldFallTo 11 = .ok (.iconst 0, 1) := by decide +kernel
theorem dX5_wouldFallTo_12 : decode cX5_wouldFallTo 12 = .ok (.iaload, 1) := by decide +kernel
theorem dX5_wouldFallTo_13 : decode cX5_wouldFallTo 13 = .ok (.if_icmp .ge 75, 3) := by decide +kernel
theorem dX5_wouldFallTo_16 : decode cX5_wouldFallTo 16 = .ok (.aload_n 0, 1) := by decide +kernel
theorem dX5_wouldFallTo_17 : decode cX5_wouldFallTo 17 = .ok (.iload 4, 2) := by decide +kernel
theorem dX5_wouldFallTo_19 : decode cX5_wouldFallTo 19 = .ok (.iconst 3, 1) := by decide +kernel
theorem dX5_wouldFallTo_20 : decode cX5_wouldFallTo 20 = .ok (.invokevirtual 33, 3) := by decide +kernel
theorem dX5_wouldFallTo_23 : decode cX5_wouldFallTo 23 = .ok (.iload_n 2, 1) := by decide +kernel
theorem dX5_wouldFallTo_24 : decode cX5_wouldFallTo 24 = .ok (.imul, 1) := by decide +kernel
theorem dX5_wouldFallTo_25 : decode cX5_wouldFallTo 25 = .ok (.aload_n 0, 1) := by decide +kernel
theorem dX5_wouldFallTo_26 : decode cX5_wouldFallTo 26 = .ok (.getfield 7, 3) := by decide +kernel
theorem dX5_wouldFallTo_29 : decode cX5_wouldFallTo 29 = .ok (.bipush 7, 2) := by decide +kernel
theorem dX5_wouldFallTo_31 : decode cX5_wouldFallTo 31 = .ok (.iaload, 1) := by decide +kernel
theorem dX5_wouldFallTo_32 : decode cX5_wouldFallTo 32 = .ok (.imul, 1) := by decide +kernel
theorem dX5_wouldFallTo_33 : decode cX5_wouldFallTo 33 = .ok (.bipush 100, 2) := by decide +kernel
theorem dX5_wouldFallTo_35 : decode cX5_wouldFallTo 35 = .ok (.idiv, 1) := by decide +kernel
theorem dX5_wouldFallTo_36 : decode cX5_wouldFallTo 36 = .ok (.istore 5, 2) := by decide +kernel
theorem dX5_wouldFallTo_38 : decode cX5_wouldFallTo 38 = .ok (.iload_n 3, 1) := by decide +kernel
theorem dX5_wouldFallTo_39 : decode cX5_wouldFallTo 39 = .ok (.ifCond .ne 37, 3) := by decide +kernel
theorem dX5_wouldFallTo_42 : decode cX5_wouldFallTo 42 = .ok (.aload_n 0, 1) := by decide +kernel
theorem dX5_wouldFallTo_43 : decode cX5_wouldFallTo 43 = .ok (.iload 4, 2) := by decide +kernel
theorem dX5_wouldFallTo_45 : decode cX5_wouldFallTo 45 = .ok (.iconst 4, 1) := by decide +kernel
theorem dX5_wouldFallTo_46 : decode cX5_wouldFallTo 46 = .ok (.invokevirtual 33, 3) := by decide +kernel
theorem dX5_wouldFallTo_49 : decode cX5_wouldFallTo 49 = .ok (.iload_n 1, 1) := by decide +kernel
theorem dX5_wouldFallTo_50 : decode cX5_wouldFallTo 50 = .ok (.if_icmp .ne 30, 3) := by decide +kernel
theorem dX5_wouldFallTo_53 : decode cX5_wouldFallTo 53 = .ok (.aload_n 0, 1) := by decide +kernel
theorem dX5_wouldFallTo_54 : decode cX5_wouldFallTo 54 = .ok (.iload 4, 2) := by decide +kernel
theorem dX5_wouldFallTo_56 : decode cX5_wouldFallTo 56 = .ok (.bipush 6, 2) := by decide +kernel
theorem dX5_wouldFallTo_58 : decode cX5_wouldFallTo 58 = .ok (.invokevirtual 33, 3) := by decide +kernel
theorem dX5_wouldFallTo_61 : decode cX5_wouldFallTo 61 = .ok (.ifCond .ne 19, 3) := by decide +kernel
theorem dX5_wouldFallTo_64 : decode cX5_wouldFallTo 64 = .ok (.aload_n 0, 1) := by decide +kernel
theorem dX5_wouldFallTo_65 : decode cX5_wouldFallTo 65 = .ok (.iload 4, 2) := by decide +kernel
theorem dX5_wouldFallTo_67 : decode cX5_wouldFallTo 67 = .ok (.iconst 5, 1) := by decide +kernel
theorem dX5_wouldFallTo_68 : decode cX5_wouldFallTo 68 = .ok (.invokevirtual 33, 3) := by decide +kernel
theorem dX5_wouldFallTo_71 : decode cX5_wouldFallTo 71 = .ok (.iload 5, 2) := by decide +kernel
theorem dX5_wouldFallTo_73 : decode cX5_wouldFallTo 73 = .ok (.if_icmp .le 7, 3) := by decide +kernel
theorem dX5_wouldFallTo_76 : decode cX5_wouldFallTo 76 = .ok (.iconst 1, 1) := by decide +kernel
theorem dX5_wouldFallTo_77 : decode cX5_wouldFallTo 77 = .ok (.goto 4, 3) := by decide +kernel
theorem dX5_wouldFallTo_80 : decode cX5_wouldFallTo 80 = .ok (.iconst 0, 1) := by decide +kernel
theorem dX5_wouldFallTo_81 : decode cX5_wouldFallTo 81 = .ok (.istore_n 3, 1) := by decide +kernel
theorem dX5_wouldFallTo_82 : decode cX5_wouldFallTo 82 = .ok (.iinc 4 1, 3) := by decide +kernel
theorem dX5_wouldFallTo_85 : decode cX5_wouldFallTo 85 = .ok (.goto (-80), 3) := by decide +kernel
theorem dX5_wouldFallTo_88 : decode cX5_wouldFallTo 88 = .ok (.iload_n 3, 1) := by decide +kernel
theorem dX5_wouldFallTo_89 : decode cX5_wouldFallTo 89 = .ok (.ireturn, 1) := by decide +kernel
theorem dX5_fallTo_0 : decode cX5_fallTo 0 = .ok (.iload_n 1, 1) := by decide +kernel
theorem dX5_fallTo_1 : decode cX5_fallTo 1 = .ok (.iconst 0, 1) := by decide +kernel
theorem dX5_fallTo_2 : decode cX5_fallTo 2 = .ok (.iconst 2, 1) := by decide +kernel
theorem dX5_fallTo_3 : decode cX5_fallTo 3 = .ok (.invokestatic 67, 3) := by decide +kernel
theorem dX5_fallTo_6 : decode cX5_fallTo 6 = .ok (.ifCond .ne 6, 3) := by decide +kernel
theorem dX5_fallTo_9 : decode cX5_fallTo 9 = .ok (.ldc 25, 2) := by decide +kernel
theorem dX5_fallTo_11 : decode cX5_fallTo 11 = .ok (.ireturn, 1) := by decide +kernel
theorem dX5_fallTo_12 : decode cX5_fallTo 12 = .ok (.bipush 99, 2) := by decide +kernel
theorem dX5_fallTo_14 : decode cX5_fallTo 14 = .ok (.istore_n 2, 1) := by decide +kernel
theorem dX5_fallTo_15 : decode cX5_fallTo 15 = .ok (.iload_n 2, 1) := by decide +kernel
theorem dX5_fallTo_16 : decode cX5_fallTo 16 = .ok (.ifCond .le 18, 3) := by decide +kernel
theorem dX5_fallTo_19 : decode cX5_fallTo 19 = .ok (.aload_n 0, 1) := by decide +kernel
theorem dX5_fallTo_20 : decode cX5_fallTo 20 = .ok (.iload_n 1, 1) := by decide +kernel
theorem dX5_fallTo_21 : decode cX5_fallTo 21 = .ok (.iload_n 2, 1) := by decide +kernel
theorem dX5_fallTo_22 : decode cX5_fallTo 22 = .ok (.invokevirtual 157, 3) := by decide +kernel
theorem dX5_fallTo_25 : decode cX5_fallTo 25 = .ok (.ifCond .ne 9, 3) := by decide +kernel
theorem dX5_fallTo_28 : decode cX5_fallTo 28 = .ok (.iinc 2 (-1), 3) := by decide +kernel
theorem dX5_fallTo_31 : decode cX5_fallTo 31 = .ok (.goto (-16), 3) := by decide +kernel
theorem dX5_fallTo_34 : decode cX5_fallTo 34 = .ok (.iload_n 2, 1) := by decide +kernel
theorem dX5_fallTo_35 : decode cX5_fallTo 35 = .ok (.ifCond .ne 8, 3) := by decide +kernel
theorem dX5_fallTo_38 : decode cX5_fallTo 38 = .ok (.ldc 150, 2) := by decide +kernel
theorem dX5_fallTo_40 : decode cX5_fallTo 40 = .ok (.goto 4, 3) := by decide +kernel
theorem dX5_fallTo_43 : decode cX5_fallTo 43 = .ok (.iload_n 2, 1) := by decide +kernel
theorem dX5_fallTo_44 : decode cX5_fallTo 44 = .ok (.ireturn, 1) := by decide +kernel
theorem dX5_sumOf_0 : decode cX5_sumOf 0 = .ok (.iconst 0, 1) := by decide +kernel
theorem dX5_sumOf_1 : decode cX5_sumOf 1 = .ok (.istore_n 2, 1) := by decide +kernel
theorem dX5_sumOf_2 : decode cX5_sumOf 2 = .ok (.iconst 0, 1) := by decide +kernel
theorem dX5_sumOf_3 : decode cX5_sumOf 3 = .ok (.istore_n 3, 1) := by decide +kernel
theorem dX5_sumOf_4 : decode cX5_sumOf 4 = .ok (.iload_n 3, 1) := by decide +kernel
theorem dX5_sumOf_5 : decode cX5_sumOf 5 = .ok (.iconst 3, 1) := by decide +kernel
theorem dX5_sumOf_6 : decode cX5_sumOf 6 = .ok (.if_icmp .ge 30, 3) := by decide +kernel
theorem dX5_sumOf_9 : decode cX5_sumOf 9 = .ok (.iload_n 2, 1) := by decide +kernel
theorem dX5_sumOf_10 : decode cX5_sumOf 10 = .ok (.iload_n 1, 1) := by decide +kernel
theorem dX5_sumOf_11 : decode cX5_sumOf 11 = .ok (.iconst 1, 1) := by decide +kernel
theorem dX5_sumOf_12 : decode cX5_sumOf 12 = .ok (.if_icmp .ne 11, 3) := by decide +kernel
theorem dX5_sumOf_15 : decode cX5_sumOf 15 = .ok (.aload_n 0, 1) := by decide +kernel
theorem dX5_sumOf_16 : decode cX5_sumOf 16 = .ok (.iload_n 3, 1) := by decide +kernel
theorem dX5_sumOf_17 : decode cX5_sumOf 17 = .ok (.invokevirtual 61, 3) := by decide +kernel
theorem dX5_sumOf_20 : decode cX5_sumOf 20 = .ok (.goto 8, 3) := by decide +kernel
theorem dX5_sumOf_23 : decode cX5_sumOf 23 = .ok (.aload_n 0, 1) := by decide +kernel
theorem dX5_sumOf_24 : decode cX5_sumOf 24 = .ok (.iload_n 3, 1) := by decide +kernel
theorem dX5_sumOf_25 : decode cX5_sumOf 25 = .ok (.invokevirtual 58, 3) := by decide +kernel
theorem dX5_sumOf_28 : decode cX5_sumOf 28 = .ok (.iadd, 1) := by decide +kernel
theorem dX5_sumOf_29 : decode cX5_sumOf 29 = .ok (.istore_n 2, 1) := by decide +kernel
theorem dX5_sumOf_30 : decode cX5_sumOf 30 = .ok (.iinc 3 1, 3) := by decide +kernel
theorem dX5_sumOf_33 : decode cX5_sumOf 33 = .ok (.goto (-29), 3) := by decide +kernel
theorem dX5_sumOf_36 : decode cX5_sumOf 36 = .ok (.iload_n 2, 1) := by decide +kernel
theorem dX5_sumOf_37 : decode cX5_sumOf 37 = .ok (.ireturn, 1) := by decide +kernel
theorem dX5_count_0 : decode cX5_count 0 = .ok (.iload_n 1, 1) := by decide +kernel
theorem dX5_count_1 : decode cX5_count 1 = .ok (.tableswitch 96 0 9 #[55, 62, 62, 68, 75, 75, 75, 75, 86, 91], 55) := by decide +kernel
theorem dX5_count_56 : decode cX5_count 56 = .ok (.aload_n 0, 1) := by decide +kernel
theorem dX5_count_57 : decode cX5_count 57 = .ok (.getfield 7, 3) := by decide +kernel
theorem dX5_count_60 : decode cX5_count 60 = .ok (.iconst 0, 1) := by decide +kernel
theorem dX5_count_61 : decode cX5_count 61 = .ok (.iaload, 1) := by decide +kernel
theorem dX5_count_62 : decode cX5_count 62 = .ok (.ireturn, 1) := by decide +kernel
theorem dX5_count_63 : decode cX5_count 63 = .ok (.aload_n 0, 1) := by decide +kernel
theorem dX5_count_64 : decode cX5_count 64 = .ok (.iload_n 1, 1) := by decide +kernel
theorem dX5_count_65 : decode cX5_count 65 = .ok (.invokevirtual 160, 3) := by decide +kernel
theorem dX5_count_68 : decode cX5_count 68 = .ok (.ireturn, 1) := by decide +kernel
theorem dX5_count_69 : decode cX5_count 69 = .ok (.aload_n 0, 1) := by decide +kernel
theorem dX5_count_70 : decode cX5_count 70 = .ok (.getfield 7, 3) := by decide +kernel
theorem dX5_count_73 : decode cX5_count 73 = .ok (.iconst 1, 1) := by decide +kernel
theorem dX5_count_74 : decode cX5_count 74 = .ok (.iaload, 1) := by decide +kernel
theorem dX5_count_75 : decode cX5_count 75 = .ok (.ireturn, 1) := by decide +kernel
theorem dX5_count_76 : decode cX5_count 76 = .ok (.aload_n 0, 1) := by decide +kernel
theorem dX5_count_77 : decode cX5_count 77 = .ok (.getfield 7, 3) := by decide +kernel
theorem dX5_count_80 : decode cX5_count 80 = .ok (.iconst 2, 1) := by decide +kernel
theorem dX5_count_81 : decode cX5_count 81 = .ok (.iload_n 1, 1) := by decide +kernel
theorem dX5_count_82 : decode cX5_count 82 = .ok (.iadd, 1) := by decide +kernel
theorem dX5_count_83 : decode cX5_count 83 = .ok (.iconst 4, 1) := by decide +kernel
theorem dX5_count_84 : decode cX5_count 84 = .ok (.isub, 1) := by decide +kernel
theorem dX5_count_85 : decode cX5_count 85 = .ok (.iaload, 1) := by decide +kernel
theorem dX5_count_86 : decode cX5_count 86 = .ok (.ireturn, 1) := by decide +kernel
theorem dX5_count_87 : decode cX5_count 87 = .ok (.aload_n 0, 1) := by decide +kernel
theorem dX5_count_88 : decode cX5_count 88 = .ok (.getfield 29, 3) := by decide +kernel
theorem dX5_count_91 : decode cX5_count 91 = .ok (.ireturn, 1) := by decide +kernel
theorem dX5_count_92 : decode cX5_count 92 = .ok (.aload_n 0, 1) := by decide +kernel
theorem dX5_count_93 : decode cX5_count 93 = .ok (.getfield 163, 3) := by decide +kernel
theorem dX5_count_96 : decode cX5_count 96 = .ok (.ireturn, 1) := by decide +kernel
theorem dX5_count_97 : decode cX5_count 97 = .ok (.iload_n 1, 1) := by decide +kernel
theorem dX5_count_98 : decode cX5_count 98 = .ok (.bipush 20, 2) := by decide +kernel
theorem dX5_count_100 : decode cX5_count 100 = .ok (.bipush 23, 2) := by decide +kernel
theorem dX5_count_102 : decode cX5_count 102 = .ok (.invokestatic 67, 3) := by decide +kernel
theorem dX5_count_105 : decode cX5_count 105 = .ok (.ifCond .eq 18, 3) := by decide +kernel
theorem dX5_count_108 : decode cX5_count 108 = .ok (.aload_n 0, 1) := by decide +kernel
theorem dX5_count_109 : decode cX5_count 109 = .ok (.getfield 7, 3) := by decide +kernel
theorem dX5_count_112 : decode cX5_count 112 = .ok (.bipush 6, 2) := by decide +kernel
theorem dX5_count_114 : decode cX5_count 114 = .ok (.iload_n 1, 1) := by decide +kernel
theorem dX5_count_115 : decode cX5_count 115 = .ok (.iadd, 1) := by decide +kernel
theorem dX5_count_116 : decode cX5_count 116 = .ok (.bipush 20, 2) := by decide +kernel
theorem dX5_count_118 : decode cX5_count 118 = .ok (.isub, 1) := by decide +kernel
theorem dX5_count_119 : decode cX5_count 119 = .ok (.iaload, 1) := by decide +kernel
theorem dX5_count_120 : decode cX5_count 120 = .ok (.goto 5, 3) := by decide +kernel
theorem dX5_count_123 : decode cX5_count 123 = .ok (.ldc 25, 2) := by decide +kernel
theorem dX5_count_125 : decode cX5_count 125 = .ok (.ireturn, 1) := by decide +kernel
theorem dX5_undo_0 : decode cX5_undo 0 = .ok (.aload_n 0, 1) := by decide +kernel
theorem dX5_undo_1 : decode cX5_undo 1 = .ok (.getfield 29, 3) := by decide +kernel
theorem dX5_undo_4 : decode cX5_undo 4 = .ok (.ifCond .ne 6, 3) := by decide +kernel
theorem dX5_undo_7 : decode cX5_undo 7 = .ok (.ldc 86, 2) := by decide +kernel
theorem dX5_undo_9 : decode cX5_undo 9 = .ok (.ireturn, 1) := by decide +kernel
theorem dX5_undo_10 : decode cX5_undo 10 = .ok (.aload_n 0, 1) := by decide +kernel
theorem dX5_undo_11 : decode cX5_undo 11 = .ok (.dup, 1) := by decide +kernel
theorem dX5_undo_12 : decode cX5_undo 12 = .ok (.getfield 29, 3) := by decide +kernel
theorem dX5_undo_15 : decode cX5_undo 15 = .ok (.iconst 1, 1) := by decide +kernel
theorem dX5_undo_16 : decode cX5_undo 16 = .ok (.isub, 1) := by decide +kernel
theorem dX5_undo_17 : decode cX5_undo 17 = .ok (.putfield 29, 3) := by decide +kernel
theorem dX5_undo_20 : decode cX5_undo 20 = .ok (.iconst 0, 1) := by decide +kernel
theorem dX5_undo_21 : decode cX5_undo 21 = .ok (.istore_n 1, 1) := by decide +kernel
theorem dX5_undo_22 : decode cX5_undo 22 = .ok (.iload_n 1, 1) := by decide +kernel
theorem dX5_undo_23 : decode cX5_undo 23 = .ok (.sipush 146, 3) := by decide +kernel
theorem dX5_undo_26 : decode cX5_undo 26 = .ok (.if_icmp .ge 30, 3) := by decide +kernel
theorem dX5_undo_29 : decode cX5_undo 29 = .ok (.aload_n 0, 1) := by decide +kernel
theorem dX5_undo_30 : decode cX5_undo 30 = .ok (.getfield 7, 3) := by decide +kernel
theorem dX5_undo_33 : decode cX5_undo 33 = .ok (.iload_n 1, 1) := by decide +kernel
theorem dX5_undo_34 : decode cX5_undo 34 = .ok (.aload_n 0, 1) := by decide +kernel
theorem dX5_undo_35 : decode cX5_undo 35 = .ok (.getfield 16, 3) := by decide +kernel
theorem dX5_undo_38 : decode cX5_undo 38 = .ok (.sipush 146, 3) := by decide +kernel
theorem dX5_undo_41 : decode cX5_undo 41 = .ok (.aload_n 0, 1) := by decide +kernel
theorem dX5_undo_42 : decode cX5_undo 42 = .ok (.getfield 29, 3) := by decide +kernel
theorem dX5_undo_45 : decode cX5_undo 45 = .ok (.imul, 1) := by decide +kernel
theorem dX5_undo_46 : decode cX5_undo 46 = .ok (.iload_n 1, 1) := by decide +kernel
theorem dX5_undo_47 : decode cX5_undo 47 = .ok (.iadd, 1) := by decide +kernel
theorem dX5_undo_48 : decode cX5_undo 48 = .ok (.iaload, 1) := by decide +kernel
theorem dX5_undo_49 : decode cX5_undo 49 = .ok (.iastore, 1) := by decide +kernel
theorem dX5_undo_50 : decode cX5_undo 50 = .ok (.iinc 1 1, 3) := by decide +kernel
theorem dX5_undo_53 : decode cX5_undo 53 = .ok (.goto (-31), 3) := by decide +kernel
theorem dX5_undo_56 : decode cX5_undo 56 = .ok (.aload_n 0, 1) := by decide +kernel
theorem dX5_undo_57 : decode cX5_undo 57 = .ok (.getfield 29, 3) := by decide +kernel
theorem dX5_undo_60 : decode cX5_undo 60 = .ok (.ireturn, 1) := by decide +kernel
theorem dX5_type_0 : decode cX5_type 0 = .ok (.iload_n 1, 1) := by decide +kernel
theorem dX5_type_1 : decode cX5_type 1 = .ok (.bipush 32, 2) := by decide +kernel
theorem dX5_type_3 : decode cX5_type 3 = .ok (.bipush 126, 2) := by decide +kernel
theorem dX5_type_5 : decode cX5_type 5 = .ok (.invokestatic 67, 3) := by decide +kernel
theorem dX5_type_8 : decode cX5_type 8 = .ok (.ifCond .ne 6, 3) := by decide +kernel
theorem dX5_type_11 : decode cX5_type 11 = .ok (.ldc 25, 2) := by decide +kernel
theorem dX5_type_13 : decode cX5_type 13 = .ok (.ireturn, 1) := by decide +kernel
theorem dX5_type_14 : decode cX5_type 14 = .ok (.aload_n 0, 1) := by decide +kernel
theorem dX5_type_15 : decode cX5_type 15 = .ok (.getfield 163, 3) := by decide +kernel
theorem dX5_type_18 : decode cX5_type 18 = .ok (.bipush 60, 2) := by decide +kernel
theorem dX5_type_20 : decode cX5_type 20 = .ok (.if_icmp .ne 6, 3) := by decide +kernel
theorem dX5_type_23 : decode cX5_type 23 = .ok (.ldc 74, 2) := by decide +kernel
theorem dX5_type_25 : decode cX5_type 25 = .ok (.ireturn, 1) := by decide +kernel
theorem dX5_type_26 : decode cX5_type 26 = .ok (.aload_n 0, 1) := by decide +kernel
theorem dX5_type_27 : decode cX5_type 27 = .ok (.getfield 19, 3) := by decide +kernel
theorem dX5_type_30 : decode cX5_type 30 = .ok (.aload_n 0, 1) := by decide +kernel
theorem dX5_type_31 : decode cX5_type 31 = .ok (.getfield 163, 3) := by decide +kernel
theorem dX5_type_34 : decode cX5_type 34 = .ok (.iload_n 1, 1) := by decide +kernel
theorem dX5_type_35 : decode cX5_type 35 = .ok (.iastore, 1) := by decide +kernel
theorem dX5_type_36 : decode cX5_type 36 = .ok (.aload_n 0, 1) := by decide +kernel
theorem dX5_type_37 : decode cX5_type 37 = .ok (.dup, 1) := by decide +kernel
theorem dX5_type_38 : decode cX5_type 38 = .ok (.getfield 163, 3) := by decide +kernel
theorem dX5_type_41 : decode cX5_type 41 = .ok (.iconst 1, 1) := by decide +kernel
theorem dX5_type_42 : decode cX5_type 42 = .ok (.iadd, 1) := by decide +kernel
theorem dX5_type_43 : decode cX5_type 43 = .ok (.putfield 163, 3) := by decide +kernel
theorem dX5_type_46 : decode cX5_type 46 = .ok (.aload_n 0, 1) := by decide +kernel
theorem dX5_type_47 : decode cX5_type 47 = .ok (.getfield 163, 3) := by decide +kernel
theorem dX5_type_50 : decode cX5_type 50 = .ok (.ireturn, 1) := by decide +kernel
theorem dX5_clearText_0 : decode cX5_clearText 0 = .ok (.aload_n 0, 1) := by decide +kernel
theorem dX5_clearText_1 : decode cX5_clearText 1 = .ok (.getfield 163, 3) := by decide +kernel
theorem dX5_clearText_4 : decode cX5_clearText 4 = .ok (.istore_n 1, 1) := by decide +kernel
theorem dX5_clearText_5 : decode cX5_clearText 5 = .ok (.aload_n 0, 1) := by decide +kernel
theorem dX5_clearText_6 : decode cX5_clearText 6 = .ok (.iconst 0, 1) := by decide +kernel
theorem dX5_clearText_7 : decode cX5_clearText 7 = .ok (.putfield 163, 3) := by decide +kernel
theorem dX5_clearText_10 : decode cX5_clearText 10 = .ok (.iload_n 1, 1) := by decide +kernel
theorem dX5_clearText_11 : decode cX5_clearText 11 = .ok (.ireturn, 1) := by decide +kernel
theorem dX5_here_0 : decode cX5_here 0 = .ok (.aload_n 0, 1) := by decide +kernel
theorem dX5_here_1 : decode cX5_here 1 = .ok (.getfield 166, 3) := by decide +kernel
theorem dX5_here_4 : decode cX5_here 4 = .ok (.aload_n 0, 1) := by decide +kernel
theorem dX5_here_5 : decode cX5_here 5 = .ok (.getfield 163, 3) := by decide +kernel
theorem dX5_here_8 : decode cX5_here 8 = .ok (.if_icmp .ge 15, 3) := by decide +kernel
theorem dX5_here_11 : decode cX5_here 11 = .ok (.aload_n 0, 1) := by decide +kernel
theorem dX5_here_12 : decode cX5_here 12 = .ok (.getfield 19, 3) := by decide +kernel
theorem dX5_here_15 : decode cX5_here 15 = .ok (.aload_n 0, 1) := by decide +kernel
theorem dX5_here_16 : decode cX5_here 16 = .ok (.getfield 166, 3) := by decide +kernel
theorem dX5_here_19 : decode cX5_here 19 = .ok (.iaload, 1) := by decide +kernel
theorem dX5_here_20 : decode cX5_here 20 = .ok (.goto 4, 3) := by decide +kernel
theorem dX5_here_23 : decode cX5_here 23 = .ok (.iconst (-1), 1) := by decide +kernel
theorem dX5_here_24 : decode cX5_here 24 = .ok (.ireturn, 1) := by decide +kernel
theorem dX5_isDigit_0 : decode cX5_isDigit 0 = .ok (.aload_n 0, 1) := by decide +kernel
theorem dX5_isDigit_1 : decode cX5_isDigit 1 = .ok (.invokevirtual 169, 3) := by decide +kernel
theorem dX5_isDigit_4 : decode cX5_isDigit 4 = .ok (.bipush 48, 2) := by decide +kernel
theorem dX5_isDigit_6 : decode cX5_isDigit 6 = .ok (.bipush 57, 2) := by decide +kernel
theorem dX5_isDigit_8 : decode cX5_isDigit 8 = .ok (.invokestatic 67, 3) := by decide +kernel
theorem dX5_isDigit_11 : decode cX5_isDigit 11 = .ok (.ireturn, 1) := by decide +kernel
theorem dX5_takesSign_0 : decode cX5_takesSign 0 = .ok (.aload_n 0, 1) := by decide +kernel
theorem dX5_takesSign_1 : decode cX5_takesSign 1 = .ok (.aload_n 0, 1) := by decide +kernel
theorem dX5_takesSign_2 : decode cX5_takesSign 2 = .ok (.getfield 173, 3) := by decide +kernel
theorem dX5_takesSign_5 : decode cX5_takesSign 5 = .ok (.ifCond .eq 15, 3) := by decide +kernel
theorem dX5_takesSign_8 : decode cX5_takesSign 8 = .ok (.aload_n 0, 1) := by decide +kernel
theorem dX5_takesSign_9 : decode cX5_takesSign 9 = .ok (.invokevirtual 169, 3) := by decide +kernel
theorem dX5_takesSign_12 : decode cX5_takesSign 12 = .ok (.iload_n 1, 1) := by decide +kernel
theorem dX5_takesSign_13 : decode cX5_takesSign 13 = .ok (.if_icmp .ne 7, 3) := by decide +kernel
theorem dX5_takesSign_16 : decode cX5_takesSign 16 = .ok (.iconst 1, 1) := by decide +kernel
theorem dX5_takesSign_17 : decode cX5_takesSign 17 = .ok (.goto 4, 3) := by decide +kernel
theorem dX5_takesSign_20 : decode cX5_takesSign 20 = .ok (.iconst 0, 1) := by decide +kernel
theorem dX5_takesSign_21 : decode cX5_takesSign 21 = .ok (.putfield 173, 3) := by decide +kernel
theorem dX5_takesSign_24 : decode cX5_takesSign 24 = .ok (.aload_n 0, 1) := by decide +kernel
theorem dX5_takesSign_25 : decode cX5_takesSign 25 = .ok (.dup, 1) := by decide +kernel
theorem dX5_takesSign_26 : decode cX5_takesSign 26 = .ok (.getfield 166, 3) := by decide +kernel
theorem dX5_takesSign_29 : decode cX5_takesSign 29 = .ok (.aload_n 0, 1) := by decide +kernel
theorem dX5_takesSign_30 : decode cX5_takesSign 30 = .ok (.getfield 173, 3) := by decide +kernel
theorem dX5_takesSign_33 : decode cX5_takesSign 33 = .ok (.ifCond .eq 7, 3) := by decide +kernel
theorem dX5_takesSign_36 : decode cX5_takesSign 36 = .ok (.iconst 1, 1) := by decide +kernel
theorem dX5_takesSign_37 : decode cX5_takesSign 37 = .ok (.goto 4, 3) := by decide +kernel
theorem dX5_takesSign_40 : decode cX5_takesSign 40 = .ok (.iconst 0, 1) := by decide +kernel
theorem dX5_takesSign_41 : decode cX5_takesSign 41 = .ok (.iadd, 1) := by decide +kernel
theorem dX5_takesSign_42 : decode cX5_takesSign 42 = .ok (.putfield 166, 3) := by decide +kernel
theorem dX5_takesSign_45 : decode cX5_takesSign 45 = .ok (.return_, 1) := by decide +kernel
theorem dX5_number_0 : decode cX5_number 0 = .ok (.aload_n 0, 1) := by decide +kernel
theorem dX5_number_1 : decode cX5_number 1 = .ok (.aload_n 0, 1) := by decide +kernel
theorem dX5_number_2 : decode cX5_number 2 = .ok (.getfield 173, 3) := by decide +kernel
theorem dX5_number_5 : decode cX5_number 5 = .ok (.ifCond .eq 14, 3) := by decide +kernel
theorem dX5_number_8 : decode cX5_number 8 = .ok (.aload_n 0, 1) := by decide +kernel
theorem dX5_number_9 : decode cX5_number 9 = .ok (.invokevirtual 177, 3) := by decide +kernel
theorem dX5_number_12 : decode cX5_number 12 = .ok (.ifCond .eq 7, 3) := by decide +kernel
theorem dX5_number_15 : decode cX5_number 15 = .ok (.iconst 1, 1) := by decide +kernel
theorem dX5_number_16 : decode cX5_number 16 = .ok (.goto 4, 3) := by decide +kernel
theorem dX5_number_19 : decode cX5_number 19 = .ok (.iconst 0, 1) := by decide +kernel
theorem dX5_number_20 : decode cX5_number 20 = .ok (.putfield 173, 3) := by decide +kernel
theorem dX5_number_23 : decode cX5_number 23 = .ok (.iconst 0, 1) := by decide +kernel
theorem dX5_number_24 : decode cX5_number 24 = .ok (.istore_n 1, 1) := by decide +kernel
theorem dX5_number_25 : decode cX5_number 25 = .ok (.iconst 0, 1) := by decide +kernel
theorem dX5_number_26 : decode cX5_number 26 = .ok (.istore_n 2, 1) := by decide +kernel
theorem dX5_number_27 : decode cX5_number 27 = .ok (.iload_n 2, 1) := by decide +kernel
theorem dX5_number_28 : decode cX5_number 28 = .ok (.bipush 6, 2) := by decide +kernel
theorem dX5_number_30 : decode cX5_number 30 = .ok (.if_icmp .ge 46, 3) := by decide +kernel
theorem dX5_number_33 : decode cX5_number 33 = .ok (.aload_n 0, 1) := by decide +kernel
theorem dX5_number_34 : decode cX5_number 34 = .ok (.getfield 173, 3) := by decide +kernel
theorem dX5_number_37 : decode cX5_number 37 = .ok (.ifCond .eq 39, 3) := by decide +kernel
theorem dX5_number_40 : decode cX5_number 40 = .ok (.aload_n 0, 1) := by decide +kernel
theorem dX5_number_41 : decode cX5_number 41 = .ok (.invokevirtual 177, 3) := by decide +kernel
theorem dX5_number_44 : decode cX5_number 44 = .ok (.ifCond .eq 32, 3) := by decide +kernel
theorem dX5_number_47 : decode cX5_number 47 = .ok (.bipush 10, 2) := by decide +kernel
theorem dX5_number_49 : decode cX5_number 49 = .ok (.iload_n 1, 1) := by decide +kernel
theorem dX5_number_50 : decode cX5_number 50 = .ok (.imul, 1) := by decide +kernel
theorem dX5_number_51 : decode cX5_number 51 = .ok (.aload_n 0, 1) := by decide +kernel
theorem dX5_number_52 : decode cX5_number 52 = .ok (.invokevirtual 169, 3) := by decide +kernel
theorem dX5_number_55 : decode cX5_number 55 = .ok (.iadd, 1) := by decide +kernel
theorem dX5_number_56 : decode cX5_number 56 = .ok (.bipush 48, 2) := by decide +kernel
theorem dX5_number_58 : decode cX5_number 58 = .ok (.isub, 1) := by decide +kernel
theorem dX5_number_59 : decode cX5_number 59 = .ok (.istore_n 1, 1) := by decide +kernel
theorem dX5_number_60 : decode cX5_number 60 = .ok (.aload_n 0, 1) := by decide +kernel
theorem dX5_number_61 : decode cX5_number 61 = .ok (.dup, 1) := by decide +kernel
theorem dX5_number_62 : decode cX5_number 62 = .ok (.getfield 166, 3) := by decide +kernel
theorem dX5_number_65 : decode cX5_number 65 = .ok (.iconst 1, 1) := by decide +kernel
theorem dX5_number_66 : decode cX5_number 66 = .ok (.iadd, 1) := by decide +kernel
theorem dX5_number_67 : decode cX5_number 67 = .ok (.putfield 166, 3) := by decide +kernel
theorem dX5_number_70 : decode cX5_number 70 = .ok (.iinc 2 1, 3) := by decide +kernel
theorem dX5_number_73 : decode cX5_number 73 = .ok (.goto (-46), 3) := by decide +kernel
theorem dX5_number_76 : decode cX5_number 76 = .ok (.iload_n 1, 1) := by decide +kernel
theorem dX5_number_77 : decode cX5_number 77 = .ok (.ireturn, 1) := by decide +kernel
theorem dX5_wants_0 : decode cX5_wants 0 = .ok (.iload_n 0, 1) := by decide +kernel
theorem dX5_wants_1 : decode cX5_wants 1 = .ok (.lookupswitch 39 #[(108, 35), (112, 37), (115, 35)], 35) := by decide +kernel
theorem dX5_wants_36 : decode cX5_wants 36 = .ok (.iconst 3, 1) := by decide +kernel
theorem dX5_wants_37 : decode cX5_wants 37 = .ok (.ireturn, 1) := by decide +kernel
theorem dX5_wants_38 : decode cX5_wants 38 = .ok (.iconst 2, 1) := by decide +kernel
theorem dX5_wants_39 : decode cX5_wants 39 = .ok (.ireturn, 1) := by decide +kernel
theorem dX5_wants_40 : decode cX5_wants 40 = .ok (.iload_n 0, 1) := by decide +kernel
theorem dX5_wants_41 : decode cX5_wants 41 = .ok (.bipush 99, 2) := by decide +kernel
theorem dX5_wants_43 : decode cX5_wants 43 = .ok (.if_icmp .eq 15, 3) := by decide +kernel
theorem dX5_wants_46 : decode cX5_wants 46 = .ok (.iload_n 0, 1) := by decide +kernel
theorem dX5_wants_47 : decode cX5_wants 47 = .ok (.bipush 100, 2) := by decide +kernel
theorem dX5_wants_49 : decode cX5_wants 49 = .ok (.if_icmp .eq 9, 3) := by decide +kernel
theorem dX5_wants_52 : decode cX5_wants 52 = .ok (.iload_n 0, 1) := by decide +kernel
theorem dX5_wants_53 : decode cX5_wants 53 = .ok (.bipush 116, 2) := by decide +kernel
theorem dX5_wants_55 : decode cX5_wants 55 = .ok (.if_icmp .ne 7, 3) := by decide +kernel
theorem dX5_wants_58 : decode cX5_wants 58 = .ok (.iconst 1, 1) := by decide +kernel
theorem dX5_wants_59 : decode cX5_wants 59 = .ok (.goto 4, 3) := by decide +kernel
theorem dX5_wants_62 : decode cX5_wants 62 = .ok (.iconst 0, 1) := by decide +kernel
theorem dX5_wants_63 : decode cX5_wants 63 = .ok (.ireturn, 1) := by decide +kernel
theorem dX5_called_0 : decode cX5_called 0 = .ok (.iload_n 1, 1) := by decide +kernel
theorem dX5_called_1 : decode cX5_called 1 = .ok (.lookupswitch 136 #[(99, 114), (100, 125), (108, 74), (112, 97), (115, 51)], 51) := by decide +kernel
theorem dX5_called_52 : decode cX5_called 52 = .ok (.aload_n 0, 1) := by decide +kernel
theorem dX5_called_53 : decode cX5_called 53 = .ok (.aload_n 0, 1) := by decide +kernel
theorem dX5_called_54 : decode cX5_called 54 = .ok (.getfield 22, 3) := by decide +kernel
theorem dX5_called_57 : decode cX5_called 57 = .ok (.iconst 0, 1) := by decide +kernel
theorem dX5_called_58 : decode cX5_called 58 = .ok (.iaload, 1) := by decide +kernel
theorem dX5_called_59 : decode cX5_called 59 = .ok (.aload_n 0, 1) := by decide +kernel
theorem dX5_called_60 : decode cX5_called 60 = .ok (.getfield 22, 3) := by decide +kernel
theorem dX5_called_63 : decode cX5_called 63 = .ok (.iconst 1, 1) := by decide +kernel
theorem dX5_called_64 : decode cX5_called 64 = .ok (.iaload, 1) := by decide +kernel
theorem dX5_called_65 : decode cX5_called 65 = .ok (.aload_n 0, 1) := by decide +kernel
theorem dX5_called_66 : decode cX5_called 66 = .ok (.getfield 22, 3) := by decide +kernel
theorem dX5_called_69 : decode cX5_called 69 = .ok (.iconst 2, 1) := by decide +kernel
theorem dX5_called_70 : decode cX5_called 70 = .ok (.iaload, 1) := by decide +kernel
theorem dX5_called_71 : decode cX5_called 71 = .ok (.invokevirtual 110, 3) := by decide +kernel
theorem dX5_called_74 : decode cX5_called 74 = .ok (.ireturn, 1) := by decide +kernel
theorem dX5_called_75 : decode cX5_called 75 = .ok (.aload_n 0, 1) := by decide +kernel
theorem dX5_called_76 : decode cX5_called 76 = .ok (.aload_n 0, 1) := by decide +kernel
theorem dX5_called_77 : decode cX5_called 77 = .ok (.getfield 22, 3) := by decide +kernel
theorem dX5_called_80 : decode cX5_called 80 = .ok (.iconst 0, 1) := by decide +kernel
theorem dX5_called_81 : decode cX5_called 81 = .ok (.iaload, 1) := by decide +kernel
theorem dX5_called_82 : decode cX5_called 82 = .ok (.aload_n 0, 1) := by decide +kernel
theorem dX5_called_83 : decode cX5_called 83 = .ok (.getfield 22, 3) := by decide +kernel
theorem dX5_called_86 : decode cX5_called 86 = .ok (.iconst 1, 1) := by decide +kernel
theorem dX5_called_87 : decode cX5_called 87 = .ok (.iaload, 1) := by decide +kernel
theorem dX5_called_88 : decode cX5_called 88 = .ok (.aload_n 0, 1) := by decide +kernel
theorem dX5_called_89 : decode cX5_called 89 = .ok (.getfield 22, 3) := by decide +kernel
theorem dX5_called_92 : decode cX5_called 92 = .ok (.iconst 2, 1) := by decide +kernel
theorem dX5_called_93 : decode cX5_called 93 = .ok (.iaload, 1) := by decide +kernel
theorem dX5_called_94 : decode cX5_called 94 = .ok (.invokevirtual 125, 3) := by decide +kernel
theorem dX5_called_97 : decode cX5_called 97 = .ok (.ireturn, 1) := by decide +kernel
theorem dX5_called_98 : decode cX5_called 98 = .ok (.aload_n 0, 1) := by decide +kernel
theorem dX5_called_99 : decode cX5_called 99 = .ok (.aload_n 0, 1) := by decide +kernel
theorem dX5_called_100 : decode cX5_called 100 = .ok (.getfield 22, 3) := by decide +kernel
theorem dX5_called_103 : decode cX5_called 103 = .ok (.iconst 0, 1) := by decide +kernel
theorem dX5_called_104 : decode cX5_called 104 = .ok (.iaload, 1) := by decide +kernel
theorem dX5_called_105 : decode cX5_called 105 = .ok (.aload_n 0, 1) := by decide +kernel
theorem dX5_called_106 : decode cX5_called 106 = .ok (.getfield 22, 3) := by decide +kernel
theorem dX5_called_109 : decode cX5_called 109 = .ok (.iconst 1, 1) := by decide +kernel
theorem dX5_called_110 : decode cX5_called 110 = .ok (.iaload, 1) := by decide +kernel
theorem dX5_called_111 : decode cX5_called 111 = .ok (.invokevirtual 131, 3) := by decide +kernel
theorem dX5_called_114 : decode cX5_called 114 = .ok (.ireturn, 1) := by decide +kernel
theorem dX5_called_115 : decode cX5_called 115 = .ok (.aload_n 0, 1) := by decide +kernel
theorem dX5_called_116 : decode cX5_called 116 = .ok (.aload_n 0, 1) := by decide +kernel
theorem dX5_called_117 : decode cX5_called 117 = .ok (.getfield 22, 3) := by decide +kernel
theorem dX5_called_120 : decode cX5_called 120 = .ok (.iconst 0, 1) := by decide +kernel
theorem dX5_called_121 : decode cX5_called 121 = .ok (.iaload, 1) := by decide +kernel
theorem dX5_called_122 : decode cX5_called 122 = .ok (.invokevirtual 134, 3) := by decide +kernel
theorem dX5_called_125 : decode cX5_called 125 = .ok (.ireturn, 1) := by decide +kernel
theorem dX5_called_126 : decode cX5_called 126 = .ok (.aload_n 0, 1) := by decide +kernel
theorem dX5_called_127 : decode cX5_called 127 = .ok (.aload_n 0, 1) := by decide +kernel
theorem dX5_called_128 : decode cX5_called 128 = .ok (.getfield 22, 3) := by decide +kernel
theorem dX5_called_131 : decode cX5_called 131 = .ok (.iconst 0, 1) := by decide +kernel
theorem dX5_called_132 : decode cX5_called 132 = .ok (.iaload, 1) := by decide +kernel
theorem dX5_called_133 : decode cX5_called 133 = .ok (.invokevirtual 122, 3) := by decide +kernel
theorem dX5_called_136 : decode cX5_called 136 = .ok (.ireturn, 1) := by decide +kernel
theorem dX5_called_137 : decode cX5_called 137 = .ok (.aload_n 0, 1) := by decide +kernel
theorem dX5_called_138 : decode cX5_called 138 = .ok (.aload_n 0, 1) := by decide +kernel
theorem dX5_called_139 : decode cX5_called 139 = .ok (.getfield 22, 3) := by decide +kernel
theorem dX5_called_142 : decode cX5_called 142 = .ok (.iconst 0, 1) := by decide +kernel
theorem dX5_called_143 : decode cX5_called 143 = .ok (.iaload, 1) := by decide +kernel
theorem dX5_called_144 : decode cX5_called 144 = .ok (.invokevirtual 137, 3) := by decide +kernel
theorem dX5_called_147 : decode cX5_called 147 = .ok (.ireturn, 1) := by decide +kernel
theorem dX5_does_0 : decode cX5_does 0 = .ok (.aload_n 0, 1) := by decide +kernel
theorem dX5_does_1 : decode cX5_does 1 = .ok (.iconst 0, 1) := by decide +kernel
theorem dX5_does_2 : decode cX5_does 2 = .ok (.putfield 166, 3) := by decide +kernel
theorem dX5_does_5 : decode cX5_does 5 = .ok (.aload_n 0, 1) := by decide +kernel
theorem dX5_does_6 : decode cX5_does 6 = .ok (.iconst 0, 1) := by decide +kernel
theorem dX5_does_7 : decode cX5_does 7 = .ok (.putfield 180, 3) := by decide +kernel
theorem dX5_does_10 : decode cX5_does 10 = .ok (.aload_n 0, 1) := by decide +kernel
theorem dX5_does_11 : decode cX5_does 11 = .ok (.getfield 166, 3) := by decide +kernel
theorem dX5_does_14 : decode cX5_does 14 = .ok (.aload_n 0, 1) := by decide +kernel
theorem dX5_does_15 : decode cX5_does 15 = .ok (.getfield 163, 3) := by decide +kernel
theorem dX5_does_18 : decode cX5_does 18 = .ok (.if_icmp .ge 146, 3) := by decide +kernel
theorem dX5_does_21 : decode cX5_does 21 = .ok (.aload_n 0, 1) := by decide +kernel
theorem dX5_does_22 : decode cX5_does 22 = .ok (.aload_n 0, 1) := by decide +kernel
theorem dX5_does_23 : decode cX5_does 23 = .ok (.getfield 166, 3) := by decide +kernel
theorem dX5_does_26 : decode cX5_does 26 = .ok (.putfield 183, 3) := by decide +kernel
theorem dX5_does_29 : decode cX5_does 29 = .ok (.aload_n 0, 1) := by decide +kernel
theorem dX5_does_30 : decode cX5_does 30 = .ok (.invokevirtual 169, 3) := by decide +kernel
theorem dX5_does_33 : decode cX5_does 33 = .ok (.istore_n 1, 1) := by decide +kernel
theorem dX5_does_34 : decode cX5_does 34 = .ok (.aload_n 0, 1) := by decide +kernel
theorem dX5_does_35 : decode cX5_does 35 = .ok (.iload_n 1, 1) := by decide +kernel
theorem dX5_does_36 : decode cX5_does 36 = .ok (.invokestatic 186, 3) := by decide +kernel
theorem dX5_does_39 : decode cX5_does 39 = .ok (.ifCond .le 7, 3) := by decide +kernel
theorem dX5_does_42 : decode cX5_does 42 = .ok (.iconst 1, 1) := by decide +kernel
theorem dX5_does_43 : decode cX5_does 43 = .ok (.goto 4, 3) := by decide +kernel
theorem dX5_does_46 : decode cX5_does 46 = .ok (.iconst 0, 1) := by decide +kernel
theorem dX5_does_47 : decode cX5_does 47 = .ok (.putfield 173, 3) := by decide +kernel
theorem dX5_does_50 : decode cX5_does 50 = .ok (.aload_n 0, 1) := by decide +kernel
theorem dX5_does_51 : decode cX5_does 51 = .ok (.dup, 1) := by decide +kernel
theorem dX5_does_52 : decode cX5_does 52 = .ok (.getfield 166, 3) := by decide +kernel
theorem dX5_does_55 : decode cX5_does 55 = .ok (.aload_n 0, 1) := by decide +kernel
theorem dX5_does_56 : decode cX5_does 56 = .ok (.getfield 173, 3) := by decide +kernel
theorem dX5_does_59 : decode cX5_does 59 = .ok (.ifCond .eq 7, 3) := by decide +kernel
theorem dX5_does_62 : decode cX5_does 62 = .ok (.iconst 1, 1) := by decide +kernel
theorem dX5_does_63 : decode cX5_does 63 = .ok (.goto 4, 3) := by decide +kernel
theorem dX5_does_66 : decode cX5_does 66 = .ok (.iconst 0, 1) := by decide +kernel
theorem dX5_does_67 : decode cX5_does 67 = .ok (.iadd, 1) := by decide +kernel
theorem dX5_does_68 : decode cX5_does 68 = .ok (.putfield 166, 3) := by decide +kernel
theorem dX5_does_71 : decode cX5_does 71 = .ok (.iconst 0, 1) := by decide +kernel
theorem dX5_does_72 : decode cX5_does 72 = .ok (.istore_n 2, 1) := by decide +kernel
theorem dX5_does_73 : decode cX5_does 73 = .ok (.iload_n 2, 1) := by decide +kernel
theorem dX5_does_74 : decode cX5_does 74 = .ok (.iload_n 1, 1) := by decide +kernel
theorem dX5_does_75 : decode cX5_does 75 = .ok (.invokestatic 186, 3) := by decide +kernel
theorem dX5_does_78 : decode cX5_does 78 = .ok (.if_icmp .ge 29, 3) := by decide +kernel
theorem dX5_does_81 : decode cX5_does 81 = .ok (.iload_n 2, 1) := by decide +kernel
theorem dX5_does_82 : decode cX5_does 82 = .ok (.ifCond .le 9, 3) := by decide +kernel
theorem dX5_does_85 : decode cX5_does 85 = .ok (.aload_n 0, 1) := by decide +kernel
theorem dX5_does_86 : decode cX5_does 86 = .ok (.bipush 44, 2) := by decide +kernel
theorem dX5_does_88 : decode cX5_does 88 = .ok (.invokevirtual 189, 3) := by decide +kernel
theorem dX5_does_91 : decode cX5_does 91 = .ok (.aload_n 0, 1) := by decide +kernel
theorem dX5_does_92 : decode cX5_does 92 = .ok (.getfield 22, 3) := by decide +kernel
theorem dX5_does_95 : decode cX5_does 95 = .ok (.iload_n 2, 1) := by decide +kernel
theorem dX5_does_96 : decode cX5_does 96 = .ok (.aload_n 0, 1) := by decide +kernel
theorem dX5_does_97 : decode cX5_does 97 = .ok (.invokevirtual 192, 3) := by decide +kernel
theorem dX5_does_100 : decode cX5_does 100 = .ok (.iastore, 1) := by decide +kernel
theorem dX5_does_101 : decode cX5_does 101 = .ok (.iinc 2 1, 3) := by decide +kernel
theorem dX5_does_104 : decode cX5_does 104 = .ok (.goto (-31), 3) := by decide +kernel
theorem dX5_does_107 : decode cX5_does 107 = .ok (.aload_n 0, 1) := by decide +kernel
theorem dX5_does_108 : decode cX5_does 108 = .ok (.bipush 59, 2) := by decide +kernel
theorem dX5_does_110 : decode cX5_does 110 = .ok (.invokevirtual 189, 3) := by decide +kernel
theorem dX5_does_113 : decode cX5_does 113 = .ok (.aload_n 0, 1) := by decide +kernel
theorem dX5_does_114 : decode cX5_does 114 = .ok (.aload_n 0, 1) := by decide +kernel
theorem dX5_does_115 : decode cX5_does 115 = .ok (.getfield 173, 3) := by decide +kernel
theorem dX5_does_118 : decode cX5_does 118 = .ok (.ifCond .eq 11, 3) := by decide +kernel
theorem dX5_does_121 : decode cX5_does 121 = .ok (.aload_n 0, 1) := by decide +kernel
theorem dX5_does_122 : decode cX5_does 122 = .ok (.iload_n 1, 1) := by decide +kernel
theorem dX5_does_123 : decode cX5_does 123 = .ok (.invokevirtual 195, 3) := by decide +kernel
theorem dX5_does_126 : decode cX5_does 126 = .ok (.goto 4, 3) := by decide +kernel
theorem dX5_does_129 : decode cX5_does 129 = .ok (.iconst 0, 1) := by decide +kernel
theorem dX5_does_130 : decode cX5_does 130 = .ok (.putfield 198, 3) := by decide +kernel
theorem dX5_does_133 : decode cX5_does 133 = .ok (.aload_n 0, 1) := by decide +kernel
theorem dX5_does_134 : decode cX5_does 134 = .ok (.getfield 173, 3) := by decide +kernel
theorem dX5_does_137 : decode cX5_does 137 = .ok (.ifCond .eq 12, 3) := by decide +kernel
theorem dX5_does_140 : decode cX5_does 140 = .ok (.aload_n 0, 1) := by decide +kernel
theorem dX5_does_141 : decode cX5_does 141 = .ok (.getfield 198, 3) := by decide +kernel
theorem dX5_does_144 : decode cX5_does 144 = .ok (.ldc 25, 2) := by decide +kernel
theorem dX5_does_146 : decode cX5_does 146 = .ok (.if_icmp .gt 5, 3) := by decide +kernel
theorem dX5_does_149 : decode cX5_does 149 = .ok (.iconst 0, 1) := by decide +kernel
theorem dX5_does_150 : decode cX5_does 150 = .ok (.ireturn, 1) := by decide +kernel
theorem dX5_does_151 : decode cX5_does 151 = .ok (.aload_n 0, 1) := by decide +kernel
theorem dX5_does_152 : decode cX5_does 152 = .ok (.dup, 1) := by decide +kernel
theorem dX5_does_153 : decode cX5_does 153 = .ok (.getfield 180, 3) := by decide +kernel
theorem dX5_does_156 : decode cX5_does 156 = .ok (.iconst 1, 1) := by decide +kernel
theorem dX5_does_157 : decode cX5_does 157 = .ok (.iadd, 1) := by decide +kernel
theorem dX5_does_158 : decode cX5_does 158 = .ok (.putfield 180, 3) := by decide +kernel
theorem dX5_does_161 : decode cX5_does 161 = .ok (.goto (-151), 3) := by decide +kernel
theorem dX5_does_164 : decode cX5_does 164 = .ok (.iconst 1, 1) := by decide +kernel
theorem dX5_does_165 : decode cX5_does 165 = .ok (.ireturn, 1) := by decide +kernel
theorem dX5_fault_0 : decode cX5_fault 0 = .ok (.iload_n 1, 1) := by decide +kernel
theorem dX5_fault_1 : decode cX5_fault 1 = .ok (.iconst 0, 1) := by decide +kernel
theorem dX5_fault_2 : decode cX5_fault 2 = .ok (.iconst 2, 1) := by decide +kernel
theorem dX5_fault_3 : decode cX5_fault 3 = .ok (.invokestatic 67, 3) := by decide +kernel
theorem dX5_fault_6 : decode cX5_fault 6 = .ok (.ifCond .ne 6, 3) := by decide +kernel
theorem dX5_fault_9 : decode cX5_fault 9 = .ok (.ldc 25, 2) := by decide +kernel
theorem dX5_fault_11 : decode cX5_fault 11 = .ok (.ireturn, 1) := by decide +kernel
theorem dX5_fault_12 : decode cX5_fault 12 = .ok (.aload_n 0, 1) := by decide +kernel
theorem dX5_fault_13 : decode cX5_fault 13 = .ok (.invokevirtual 107, 3) := by decide +kernel
theorem dX5_fault_16 : decode cX5_fault 16 = .ok (.aload_n 0, 1) := by decide +kernel
theorem dX5_fault_17 : decode cX5_fault 17 = .ok (.invokevirtual 201, 3) := by decide +kernel
theorem dX5_fault_20 : decode cX5_fault 20 = .ok (.istore_n 2, 1) := by decide +kernel
theorem dX5_fault_21 : decode cX5_fault 21 = .ok (.aload_n 0, 1) := by decide +kernel
theorem dX5_fault_22 : decode cX5_fault 22 = .ok (.invokevirtual 26, 3) := by decide +kernel
theorem dX5_fault_25 : decode cX5_fault 25 = .ok (.iload_n 2, 1) := by decide +kernel
theorem dX5_fault_26 : decode cX5_fault 26 = .ok (.ifCond .eq 6, 3) := by decide +kernel
theorem dX5_fault_29 : decode cX5_fault 29 = .ok (.ldc 150, 2) := by decide +kernel
theorem dX5_fault_31 : decode cX5_fault 31 = .ok (.ireturn, 1) := by decide +kernel
theorem dX5_fault_32 : decode cX5_fault 32 = .ok (.iload_n 1, 1) := by decide +kernel
theorem dX5_fault_33 : decode cX5_fault 33 = .ok (.ifCond .ne 10, 3) := by decide +kernel
theorem dX5_fault_36 : decode cX5_fault 36 = .ok (.aload_n 0, 1) := by decide +kernel
theorem dX5_fault_37 : decode cX5_fault 37 = .ok (.getfield 183, 3) := by decide +kernel
theorem dX5_fault_40 : decode cX5_fault 40 = .ok (.goto 46, 3) := by decide +kernel
theorem dX5_fault_43 : decode cX5_fault 43 = .ok (.iload_n 1, 1) := by decide +kernel
theorem dX5_fault_44 : decode cX5_fault 44 = .ok (.iconst 1, 1) := by decide +kernel
theorem dX5_fault_45 : decode cX5_fault 45 = .ok (.if_icmp .ne 18, 3) := by decide +kernel
theorem dX5_fault_48 : decode cX5_fault 48 = .ok (.aload_n 0, 1) := by decide +kernel
theorem dX5_fault_49 : decode cX5_fault 49 = .ok (.getfield 173, 3) := by decide +kernel
theorem dX5_fault_52 : decode cX5_fault 52 = .ok (.ifCond .eq 7, 3) := by decide +kernel
theorem dX5_fault_55 : decode cX5_fault 55 = .ok (.iconst 2, 1) := by decide +kernel
theorem dX5_fault_56 : decode cX5_fault 56 = .ok (.goto 30, 3) := by decide +kernel
theorem dX5_fault_59 : decode cX5_fault 59 = .ok (.iconst 1, 1) := by decide +kernel
theorem dX5_fault_60 : decode cX5_fault 60 = .ok (.goto 26, 3) := by decide +kernel
theorem dX5_fault_63 : decode cX5_fault 63 = .ok (.aload_n 0, 1) := by decide +kernel
theorem dX5_fault_64 : decode cX5_fault 64 = .ok (.getfield 173, 3) := by decide +kernel
theorem dX5_fault_67 : decode cX5_fault 67 = .ok (.ifCond .eq 10, 3) := by decide +kernel
theorem dX5_fault_70 : decode cX5_fault 70 = .ok (.aload_n 0, 1) := by decide +kernel
theorem dX5_fault_71 : decode cX5_fault 71 = .ok (.getfield 198, 3) := by decide +kernel
theorem dX5_fault_74 : decode cX5_fault 74 = .ok (.goto 12, 3) := by decide +kernel
theorem dX5_fault_77 : decode cX5_fault 77 = .ok (.aload_n 0, 1) := by decide +kernel
theorem dX5_fault_78 : decode cX5_fault 78 = .ok (.getfield 166, 3) := by decide +kernel
theorem dX5_fault_81 : decode cX5_fault 81 = .ok (.aload_n 0, 1) := by decide +kernel
theorem dX5_fault_82 : decode cX5_fault 82 = .ok (.getfield 183, 3) := by decide +kernel
theorem dX5_fault_85 : decode cX5_fault 85 = .ok (.isub, 1) := by decide +kernel
theorem dX5_fault_86 : decode cX5_fault 86 = .ok (.ireturn, 1) := by decide +kernel
theorem dX5_play_0 : decode cX5_play 0 = .ok (.aload_n 0, 1) := by decide +kernel
theorem dX5_play_1 : decode cX5_play 1 = .ok (.invokevirtual 107, 3) := by decide +kernel
theorem dX5_play_4 : decode cX5_play 4 = .ok (.aload_n 0, 1) := by decide +kernel
theorem dX5_play_5 : decode cX5_play 5 = .ok (.aload_n 0, 1) := by decide +kernel
theorem dX5_play_6 : decode cX5_play 6 = .ok (.invokevirtual 201, 3) := by decide +kernel
theorem dX5_play_9 : decode cX5_play 9 = .ok (.ifCond .eq 10, 3) := by decide +kernel
theorem dX5_play_12 : decode cX5_play 12 = .ok (.aload_n 0, 1) := by decide +kernel
theorem dX5_play_13 : decode cX5_play 13 = .ok (.getfield 180, 3) := by decide +kernel
theorem dX5_play_16 : decode cX5_play 16 = .ok (.goto 5, 3) := by decide +kernel
theorem dX5_play_19 : decode cX5_play 19 = .ok (.ldc 86, 2) := by decide +kernel
theorem dX5_play_21 : decode cX5_play 21 = .ok (.invokevirtual 113, 3) := by decide +kernel
theorem dX5_play_24 : decode cX5_play 24 = .ok (.ireturn, 1) := by decide +kernel
theorem dJxf58ca_isNaN_12338_0 : decode cJxf58ca_isNaN_12338 0 = .ok (.fload_n 0, 1) := by decide +kernel
theorem dJxf58ca_isNaN_12338_1 : decode cJxf58ca_isNaN_12338 1 = .ok (.fload_n 0, 1) := by decide +kernel
theorem dJxf58ca_isNaN_12338_2 : decode cJxf58ca_isNaN_12338 2 = .ok (.fcmp .l, 1) := by decide +kernel
theorem dJxf58ca_isNaN_12338_3 : decode cJxf58ca_isNaN_12338 3 = .ok (.ifCond .eq 7, 3) := by decide +kernel
theorem dJxf58ca_isNaN_12338_6 : decode cJxf58ca_isNaN_12338 6 = .ok (.iconst 1, 1) := by decide +kernel
theorem dJxf58ca_isNaN_12338_7 : decode cJxf58ca_isNaN_12338 7 = .ok (.goto 4, 3) := by decide +kernel
theorem dJxf58ca_isNaN_12338_10 : decode cJxf58ca_isNaN_12338 10 = .ok (.iconst 0, 1) := by decide +kernel
theorem dJxf58ca_isNaN_12338_11 : decode cJxf58ca_isNaN_12338 11 = .ok (.ireturn, 1) := by decide +kernel
theorem dJxf58ca_floatToIntBits_5c35a_0 : decode cJxf58ca_floatToIntBits_5c35a 0 = .ok (.fload_n 0, 1) := by decide +kernel
theorem dJxf58ca_floatToIntBits_5c35a_1 : decode cJxf58ca_floatToIntBits_5c35a 1 = .ok (.invokestatic 59, 3) := by decide +kernel
theorem dJxf58ca_floatToIntBits_5c35a_4 : decode cJxf58ca_floatToIntBits_5c35a 4 = .ok (.ifCond .ne 8, 3) := by decide +kernel
theorem dJxf58ca_floatToIntBits_5c35a_7 : decode cJxf58ca_floatToIntBits_5c35a 7 = .ok (.fload_n 0, 1) := by decide +kernel
theorem dJxf58ca_floatToIntBits_5c35a_8 : decode cJxf58ca_floatToIntBits_5c35a 8 = .ok (.invokestatic 74, 3) := by decide +kernel
theorem dJxf58ca_floatToIntBits_5c35a_11 : decode cJxf58ca_floatToIntBits_5c35a 11 = .ok (.ireturn, 1) := by decide +kernel
theorem dJxf58ca_floatToIntBits_5c35a_12 : decode cJxf58ca_floatToIntBits_5c35a 12 = .ok (.ldc 77, 2) := by decide +kernel
theorem dJxf58ca_floatToIntBits_5c35a_14 : decode cJxf58ca_floatToIntBits_5c35a 14 = .ok (.ireturn, 1) := by decide +kernel
theorem dJ9_max_7cf53_0 : decode cJ9_max_7cf53 0 = .ok (.iload_n 0, 1) := by decide +kernel
theorem dJ9_max_7cf53_1 : decode cJ9_max_7cf53 1 = .ok (.iload_n 1, 1) := by decide +kernel
theorem dJ9_max_7cf53_2 : decode cJ9_max_7cf53 2 = .ok (.if_icmp .lt 7, 3) := by decide +kernel
theorem dJ9_max_7cf53_5 : decode cJ9_max_7cf53 5 = .ok (.iload_n 0, 1) := by decide +kernel
theorem dJ9_max_7cf53_6 : decode cJ9_max_7cf53 6 = .ok (.goto 4, 3) := by decide +kernel
theorem dJ9_max_7cf53_9 : decode cJ9_max_7cf53 9 = .ok (.iload_n 1, 1) := by decide +kernel
theorem dJ9_max_7cf53_10 : decode cJ9_max_7cf53 10 = .ok (.ireturn, 1) := by decide +kernel
theorem dJ9_min_7cf53_0 : decode cJ9_min_7cf53 0 = .ok (.iload_n 0, 1) := by decide +kernel
theorem dJ9_min_7cf53_1 : decode cJ9_min_7cf53 1 = .ok (.iload_n 1, 1) := by decide +kernel
theorem dJ9_min_7cf53_2 : decode cJ9_min_7cf53 2 = .ok (.if_icmp .gt 7, 3) := by decide +kernel
theorem dJ9_min_7cf53_5 : decode cJ9_min_7cf53 5 = .ok (.iload_n 0, 1) := by decide +kernel
theorem dJ9_min_7cf53_6 : decode cJ9_min_7cf53 6 = .ok (.goto 4, 3) := by decide +kernel
theorem dJ9_min_7cf53_9 : decode cJ9_min_7cf53 9 = .ok (.iload_n 1, 1) := by decide +kernel
theorem dJ9_min_7cf53_10 : decode cJ9_min_7cf53 10 = .ok (.ireturn, 1) := by decide +kernel
theorem dL_law_0 : decode cL_law 0 = .ok (.new 7, 3) := by decide +kernel
theorem dL_law_3 : decode cL_law 3 = .ok (.dup, 1) := by decide +kernel
theorem dL_law_4 : decode cL_law 4 = .ok (.invokespecial 9, 3) := by decide +kernel
theorem dL_law_7 : decode cL_law 7 = .ok (.astore_n 1, 1) := by decide +kernel
theorem dL_law_8 : decode cL_law 8 = .ok (.new 10, 3) := by decide +kernel
theorem dL_law_11 : decode cL_law 11 = .ok (.dup, 1) := by decide +kernel
theorem dL_law_12 : decode cL_law 12 = .ok (.invokespecial 12, 3) := by decide +kernel
theorem dL_law_15 : decode cL_law 15 = .ok (.astore_n 2, 1) := by decide +kernel
theorem dL_law_16 : decode cL_law 16 = .ok (.iconst 0, 1) := by decide +kernel
theorem dL_law_17 : decode cL_law 17 = .ok (.istore_n 3, 1) := by decide +kernel
theorem dL_law_18 : decode cL_law 18 = .ok (.iload_n 3, 1) := by decide +kernel
theorem dL_law_19 : decode cL_law 19 = .ok (.aload_n 0, 1) := by decide +kernel
theorem dL_law_20 : decode cL_law 20 = .ok (.arraylength, 1) := by decide +kernel
theorem dL_law_21 : decode cL_law 21 = .ok (.iconst 4, 1) := by decide +kernel
theorem dL_law_22 : decode cL_law 22 = .ok (.isub, 1) := by decide +kernel
theorem dL_law_23 : decode cL_law 23 = .ok (.if_icmp .gt 873, 3) := by decide +kernel
theorem dL_law_26 : decode cL_law 26 = .ok (.aload_n 0, 1) := by decide +kernel
theorem dL_law_27 : decode cL_law 27 = .ok (.iload_n 3, 1) := by decide +kernel
theorem dL_law_28 : decode cL_law 28 = .ok (.iaload, 1) := by decide +kernel
theorem dL_law_29 : decode cL_law 29 = .ok (.bipush 31, 2) := by decide +kernel
theorem dL_law_31 : decode cL_law 31 = .ok (.iand, 1) := by decide +kernel
theorem dL_law_32 : decode cL_law 32 = .ok (.tableswitch 858 0 25 #[120, 163, 196, 229, 262, 285, 328, 361, 394, 417, 440, 473, 506, 539, 572, 595, 628, 661, 694, 727, 750, 773, 786, 809, 822, 845], 120) := by decide +kernel
theorem dL_law_152 : decode cL_law 152 = .ok (.aload_n 1, 1) := by decide +kernel
theorem dL_law_153 : decode cL_law 153 = .ok (.aload_n 0, 1) := by decide +kernel
theorem dL_law_154 : decode cL_law 154 = .ok (.iload_n 3, 1) := by decide +kernel
theorem dL_law_155 : decode cL_law 155 = .ok (.iconst 1, 1) := by decide +kernel
theorem dL_law_156 : decode cL_law 156 = .ok (.iadd, 1) := by decide +kernel
theorem dL_law_157 : decode cL_law 157 = .ok (.iaload, 1) := by decide +kernel
theorem dL_law_158 : decode cL_law 158 = .ok (.aload_n 0, 1) := by decide +kernel
theorem dL_law_159 : decode cL_law 159 = .ok (.iload_n 3, 1) := by decide +kernel
theorem dL_law_160 : decode cL_law 160 = .ok (.iconst 2, 1) := by decide +kernel
theorem dL_law_161 : decode cL_law 161 = .ok (.iadd, 1) := by decide +kernel
theorem dL_law_162 : decode cL_law 162 = .ok (.iaload, 1) := by decide +kernel
theorem dL_law_163 : decode cL_law 163 = .ok (.aload_n 0, 1) := by decide +kernel
theorem dL_law_164 : decode cL_law 164 = .ok (.iload_n 3, 1) := by decide +kernel
theorem dL_law_165 : decode cL_law 165 = .ok (.iconst 3, 1) := by decide +kernel
theorem dL_law_166 : decode cL_law 166 = .ok (.iadd, 1) := by decide +kernel
theorem dL_law_167 : decode cL_law 167 = .ok (.iaload, 1) := by decide +kernel
theorem dL_law_168 : decode cL_law 168 = .ok (.invokevirtual 13, 3) := by decide +kernel
theorem dL_law_171 : decode cL_law 171 = .ok (.aload_n 2, 1) := by decide +kernel
theorem dL_law_172 : decode cL_law 172 = .ok (.aload_n 0, 1) := by decide +kernel
theorem dL_law_173 : decode cL_law 173 = .ok (.iload_n 3, 1) := by decide +kernel
theorem dL_law_174 : decode cL_law 174 = .ok (.iconst 1, 1) := by decide +kernel
theorem dL_law_175 : decode cL_law 175 = .ok (.iadd, 1) := by decide +kernel
theorem dL_law_176 : decode cL_law 176 = .ok (.iaload, 1) := by decide +kernel
theorem dL_law_177 : decode cL_law 177 = .ok (.aload_n 0, 1) := by decide +kernel
theorem dL_law_178 : decode cL_law 178 = .ok (.iload_n 3, 1) := by decide +kernel
theorem dL_law_179 : decode cL_law 179 = .ok (.iconst 2, 1) := by decide +kernel
theorem dL_law_180 : decode cL_law 180 = .ok (.iadd, 1) := by decide +kernel
theorem dL_law_181 : decode cL_law 181 = .ok (.iaload, 1) := by decide +kernel
theorem dL_law_182 : decode cL_law 182 = .ok (.aload_n 0, 1) := by decide +kernel
theorem dL_law_183 : decode cL_law 183 = .ok (.iload_n 3, 1) := by decide +kernel
theorem dL_law_184 : decode cL_law 184 = .ok (.iconst 3, 1) := by decide +kernel
theorem dL_law_185 : decode cL_law 185 = .ok (.iadd, 1) := by decide +kernel
theorem dL_law_186 : decode cL_law 186 = .ok (.iaload, 1) := by decide +kernel
theorem dL_law_187 : decode cL_law 187 = .ok (.invokevirtual 17, 3) := by decide +kernel
theorem dL_law_190 : decode cL_law 190 = .ok (.if_icmp .eq 700, 3) := by decide +kernel
theorem dL_law_193 : decode cL_law 193 = .ok (.iconst 0, 1) := by decide +kernel
theorem dL_law_194 : decode cL_law 194 = .ok (.ireturn, 1) := by decide +kernel
theorem dL_law_195 : decode cL_law 195 = .ok (.aload_n 1, 1) := by decide +kernel
theorem dL_law_196 : decode cL_law 196 = .ok (.aload_n 0, 1) := by decide +kernel
theorem dL_law_197 : decode cL_law 197 = .ok (.iload_n 3, 1) := by decide +kernel
theorem dL_law_198 : decode cL_law 198 = .ok (.iconst 1, 1) := by decide +kernel
theorem dL_law_199 : decode cL_law 199 = .ok (.iadd, 1) := by decide +kernel
theorem dL_law_200 : decode cL_law 200 = .ok (.iaload, 1) := by decide +kernel
theorem dL_law_201 : decode cL_law 201 = .ok (.aload_n 0, 1) := by decide +kernel
theorem dL_law_202 : decode cL_law 202 = .ok (.iload_n 3, 1) := by decide +kernel
theorem dL_law_203 : decode cL_law 203 = .ok (.iconst 2, 1) := by decide +kernel
theorem dL_law_204 : decode cL_law 204 = .ok (.iadd, 1) := by decide +kernel
theorem dL_law_205 : decode cL_law 205 = .ok (.iaload, 1) := by decide +kernel
theorem dL_law_206 : decode cL_law 206 = .ok (.invokevirtual 18, 3) := by decide +kernel
theorem dL_law_209 : decode cL_law 209 = .ok (.aload_n 2, 1) := by decide +kernel
theorem dL_law_210 : decode cL_law 210 = .ok (.aload_n 0, 1) := by decide +kernel
theorem dL_law_211 : decode cL_law 211 = .ok (.iload_n 3, 1) := by decide +kernel
theorem dL_law_212 : decode cL_law 212 = .ok (.iconst 1, 1) := by decide +kernel
theorem dL_law_213 : decode cL_law 213 = .ok (.iadd, 1) := by decide +kernel
theorem dL_law_214 : decode cL_law 214 = .ok (.iaload, 1) := by decide +kernel
theorem dL_law_215 : decode cL_law 215 = .ok (.aload_n 0, 1) := by decide +kernel
theorem dL_law_216 : decode cL_law 216 = .ok (.iload_n 3, 1) := by decide +kernel
theorem dL_law_217 : decode cL_law 217 = .ok (.iconst 2, 1) := by decide +kernel
theorem dL_law_218 : decode cL_law 218 = .ok (.iadd, 1) := by decide +kernel
theorem dL_law_219 : decode cL_law 219 = .ok (.iaload, 1) := by decide +kernel
theorem dL_law_220 : decode cL_law 220 = .ok (.invokevirtual 22, 3) := by decide +kernel
theorem dL_law_223 : decode cL_law 223 = .ok (.if_icmp .eq 667, 3) := by decide +kernel
theorem dL_law_226 : decode cL_law 226 = .ok (.iconst 0, 1) := by decide +kernel
theorem dL_law_227 : decode cL_law 227 = .ok (.ireturn, 1) := by decide +kernel
theorem dL_law_228 : decode cL_law 228 = .ok (.aload_n 1, 1) := by decide +kernel
theorem dL_law_229 : decode cL_law 229 = .ok (.aload_n 0, 1) := by decide +kernel
theorem dL_law_230 : decode cL_law 230 = .ok (.iload_n 3, 1) := by decide +kernel
theorem dL_law_231 : decode cL_law 231 = .ok (.iconst 1, 1) := by decide +kernel
theorem dL_law_232 : decode cL_law 232 = .ok (.iadd, 1) := by decide +kernel
theorem dL_law_233 : decode cL_law 233 = .ok (.iaload, 1) := by decide +kernel
theorem dL_law_234 : decode cL_law 234 = .ok (.aload_n 0, 1) := by decide +kernel
theorem dL_law_235 : decode cL_law 235 = .ok (.iload_n 3, 1) := by decide +kernel
theorem dL_law_236 : decode cL_law 236 = .ok (.iconst 2, 1) := by decide +kernel
theorem dL_law_237 : decode cL_law 237 = .ok (.iadd, 1) := by decide +kernel
theorem dL_law_238 : decode cL_law 238 = .ok (.iaload, 1) := by decide +kernel
theorem dL_law_239 : decode cL_law 239 = .ok (.invokevirtual 23, 3) := by decide +kernel
theorem dL_law_242 : decode cL_law 242 = .ok (.aload_n 2, 1) := by decide +kernel
theorem dL_law_243 : decode cL_law 243 = .ok (.aload_n 0, 1) := by decide +kernel
theorem dL_law_244 : decode cL_law 244 = .ok (.iload_n 3, 1) := by decide +kernel
theorem dL_law_245 : decode cL_law 245 = .ok (.iconst 1, 1) := by decide +kernel
theorem dL_law_246 : decode cL_law 246 = .ok (.iadd, 1) := by decide +kernel
theorem dL_law_247 : decode cL_law 247 = .ok (.iaload, 1) := by decide +kernel
theorem dL_law_248 : decode cL_law 248 = .ok (.aload_n 0, 1) := by decide +kernel
theorem dL_law_249 : decode cL_law 249 = .ok (.iload_n 3, 1) := by decide +kernel
theorem dL_law_250 : decode cL_law 250 = .ok (.iconst 2, 1) := by decide +kernel
theorem dL_law_251 : decode cL_law 251 = .ok (.iadd, 1) := by decide +kernel
theorem dL_law_252 : decode cL_law 252 = .ok (.iaload, 1) := by decide +kernel
theorem dL_law_253 : decode cL_law 253 = .ok (.invokevirtual 26, 3) := by decide +kernel
theorem dL_law_256 : decode cL_law 256 = .ok (.if_icmp .eq 634, 3) := by decide +kernel
theorem dL_law_259 : decode cL_law 259 = .ok (.iconst 0, 1) := by decide +kernel
theorem dL_law_260 : decode cL_law 260 = .ok (.ireturn, 1) := by decide +kernel
theorem dL_law_261 : decode cL_law 261 = .ok (.aload_n 1, 1) := by decide +kernel
theorem dL_law_262 : decode cL_law 262 = .ok (.aload_n 0, 1) := by decide +kernel
theorem dL_law_263 : decode cL_law 263 = .ok (.iload_n 3, 1) := by decide +kernel
theorem dL_law_264 : decode cL_law 264 = .ok (.iconst 1, 1) := by decide +kernel
theorem dL_law_265 : decode cL_law 265 = .ok (.iadd, 1) := by decide +kernel
theorem dL_law_266 : decode cL_law 266 = .ok (.iaload, 1) := by decide +kernel
theorem dL_law_267 : decode cL_law 267 = .ok (.aload_n 0, 1) := by decide +kernel
theorem dL_law_268 : decode cL_law 268 = .ok (.iload_n 3, 1) := by decide +kernel
theorem dL_law_269 : decode cL_law 269 = .ok (.iconst 2, 1) := by decide +kernel
theorem dL_law_270 : decode cL_law 270 = .ok (.iadd, 1) := by decide +kernel
theorem dL_law_271 : decode cL_law 271 = .ok (.iaload, 1) := by decide +kernel
theorem dL_law_272 : decode cL_law 272 = .ok (.invokevirtual 27, 3) := by decide +kernel
theorem dL_law_275 : decode cL_law 275 = .ok (.aload_n 2, 1) := by decide +kernel
theorem dL_law_276 : decode cL_law 276 = .ok (.aload_n 0, 1) := by decide +kernel
theorem dL_law_277 : decode cL_law 277 = .ok (.iload_n 3, 1) := by decide +kernel
theorem dL_law_278 : decode cL_law 278 = .ok (.iconst 1, 1) := by decide +kernel
theorem dL_law_279 : decode cL_law 279 = .ok (.iadd, 1) := by decide +kernel
theorem dL_law_280 : decode cL_law 280 = .ok (.iaload, 1) := by decide +kernel
theorem dL_law_281 : decode cL_law 281 = .ok (.aload_n 0, 1) := by decide +kernel
theorem dL_law_282 : decode cL_law 282 = .ok (.iload_n 3, 1) := by decide +kernel
theorem dL_law_283 : decode cL_law 283 = .ok (.iconst 2, 1) := by decide +kernel
theorem dL_law_284 : decode cL_law 284 = .ok (.iadd, 1) := by decide +kernel
theorem dL_law_285 : decode cL_law 285 = .ok (.iaload, 1) := by decide +kernel
theorem dL_law_286 : decode cL_law 286 = .ok (.invokevirtual 30, 3) := by decide +kernel
theorem dL_law_289 : decode cL_law 289 = .ok (.if_icmp .eq 601, 3) := by decide +kernel
theorem dL_law_292 : decode cL_law 292 = .ok (.iconst 0, 1) := by decide +kernel
theorem dL_law_293 : decode cL_law 293 = .ok (.ireturn, 1) := by decide +kernel
theorem dL_law_294 : decode cL_law 294 = .ok (.aload_n 1, 1) := by decide +kernel
theorem dL_law_295 : decode cL_law 295 = .ok (.aload_n 0, 1) := by decide +kernel
theorem dL_law_296 : decode cL_law 296 = .ok (.iload_n 3, 1) := by decide +kernel
theorem dL_law_297 : decode cL_law 297 = .ok (.iconst 1, 1) := by decide +kernel
theorem dL_law_298 : decode cL_law 298 = .ok (.iadd, 1) := by decide +kernel
theorem dL_law_299 : decode cL_law 299 = .ok (.iaload, 1) := by decide +kernel
theorem dL_law_300 : decode cL_law 300 = .ok (.invokevirtual 31, 3) := by decide +kernel
theorem dL_law_303 : decode cL_law 303 = .ok (.aload_n 2, 1) := by decide +kernel
theorem dL_law_304 : decode cL_law 304 = .ok (.aload_n 0, 1) := by decide +kernel
theorem dL_law_305 : decode cL_law 305 = .ok (.iload_n 3, 1) := by decide +kernel
theorem dL_law_306 : decode cL_law 306 = .ok (.iconst 1, 1) := by decide +kernel
theorem dL_law_307 : decode cL_law 307 = .ok (.iadd, 1) := by decide +kernel
theorem dL_law_308 : decode cL_law 308 = .ok (.iaload, 1) := by decide +kernel
theorem dL_law_309 : decode cL_law 309 = .ok (.invokevirtual 35, 3) := by decide +kernel
theorem dL_law_312 : decode cL_law 312 = .ok (.if_icmp .eq 578, 3) := by decide +kernel
theorem dL_law_315 : decode cL_law 315 = .ok (.iconst 0, 1) := by decide +kernel
theorem dL_law_316 : decode cL_law 316 = .ok (.ireturn, 1) := by decide +kernel
theorem dL_law_317 : decode cL_law 317 = .ok (.aload_n 1, 1) := by decide +kernel
theorem dL_law_318 : decode cL_law 318 = .ok (.aload_n 0, 1) := by decide +kernel
theorem dL_law_319 : decode cL_law 319 = .ok (.iload_n 3, 1) := by decide +kernel
theorem dL_law_320 : decode cL_law 320 = .ok (.iconst 1, 1) := by decide +kernel
theorem dL_law_321 : decode cL_law 321 = .ok (.iadd, 1) := by decide +kernel
theorem dL_law_322 : decode cL_law 322 = .ok (.iaload, 1) := by decide +kernel
theorem dL_law_323 : decode cL_law 323 = .ok (.aload_n 0, 1) := by decide +kernel
theorem dL_law_324 : decode cL_law 324 = .ok (.iload_n 3, 1) := by decide +kernel
theorem dL_law_325 : decode cL_law 325 = .ok (.iconst 2, 1) := by decide +kernel
theorem dL_law_326 : decode cL_law 326 = .ok (.iadd, 1) := by decide +kernel
theorem dL_law_327 : decode cL_law 327 = .ok (.iaload, 1) := by decide +kernel
theorem dL_law_328 : decode cL_law 328 = .ok (.aload_n 0, 1) := by decide +kernel
theorem dL_law_329 : decode cL_law 329 = .ok (.iload_n 3, 1) := by decide +kernel
theorem dL_law_330 : decode cL_law 330 = .ok (.iconst 3, 1) := by decide +kernel
theorem dL_law_331 : decode cL_law 331 = .ok (.iadd, 1) := by decide +kernel
theorem dL_law_332 : decode cL_law 332 = .ok (.iaload, 1) := by decide +kernel
theorem dL_law_333 : decode cL_law 333 = .ok (.invokevirtual 36, 3) := by decide +kernel
theorem dL_law_336 : decode cL_law 336 = .ok (.aload_n 2, 1) := by decide +kernel
theorem dL_law_337 : decode cL_law 337 = .ok (.aload_n 0, 1) := by decide +kernel
theorem dL_law_338 : decode cL_law 338 = .ok (.iload_n 3, 1) := by decide +kernel
theorem dL_law_339 : decode cL_law 339 = .ok (.iconst 1, 1) := by decide +kernel
theorem dL_law_340 : decode cL_law 340 = .ok (.iadd, 1) := by decide +kernel
theorem dL_law_341 : decode cL_law 341 = .ok (.iaload, 1) := by decide +kernel
theorem dL_law_342 : decode cL_law 342 = .ok (.aload_n 0, 1) := by decide +kernel
theorem dL_law_343 : decode cL_law 343 = .ok (.iload_n 3, 1) := by decide +kernel
theorem dL_law_344 : decode cL_law 344 = .ok (.iconst 2, 1) := by decide +kernel
theorem dL_law_345 : decode cL_law 345 = .ok (.iadd, 1) := by decide +kernel
theorem dL_law_346 : decode cL_law 346 = .ok (.iaload, 1) := by decide +kernel
theorem dL_law_347 : decode cL_law 347 = .ok (.aload_n 0, 1) := by decide +kernel
theorem dL_law_348 : decode cL_law 348 = .ok (.iload_n 3, 1) := by decide +kernel
theorem dL_law_349 : decode cL_law 349 = .ok (.iconst 3, 1) := by decide +kernel
theorem dL_law_350 : decode cL_law 350 = .ok (.iadd, 1) := by decide +kernel
theorem dL_law_351 : decode cL_law 351 = .ok (.iaload, 1) := by decide +kernel
theorem dL_law_352 : decode cL_law 352 = .ok (.invokevirtual 39, 3) := by decide +kernel
theorem dL_law_355 : decode cL_law 355 = .ok (.if_icmp .eq 535, 3) := by decide +kernel
theorem dL_law_358 : decode cL_law 358 = .ok (.iconst 0, 1) := by decide +kernel
theorem dL_law_359 : decode cL_law 359 = .ok (.ireturn, 1) := by decide +kernel
theorem dL_law_360 : decode cL_law 360 = .ok (.aload_n 1, 1) := by decide +kernel
theorem dL_law_361 : decode cL_law 361 = .ok (.aload_n 0, 1) := by decide +kernel
theorem dL_law_362 : decode cL_law 362 = .ok (.iload_n 3, 1) := by decide +kernel
theorem dL_law_363 : decode cL_law 363 = .ok (.iconst 1, 1) := by decide +kernel
theorem dL_law_364 : decode cL_law 364 = .ok (.iadd, 1) := by decide +kernel
theorem dL_law_365 : decode cL_law 365 = .ok (.iaload, 1) := by decide +kernel
theorem dL_law_366 : decode cL_law 366 = .ok (.aload_n 0, 1) := by decide +kernel
theorem dL_law_367 : decode cL_law 367 = .ok (.iload_n 3, 1) := by decide +kernel
theorem dL_law_368 : decode cL_law 368 = .ok (.iconst 2, 1) := by decide +kernel
theorem dL_law_369 : decode cL_law 369 = .ok (.iadd, 1) := by decide +kernel
theorem dL_law_370 : decode cL_law 370 = .ok (.iaload, 1) := by decide +kernel
theorem dL_law_371 : decode cL_law 371 = .ok (.invokevirtual 40, 3) := by decide +kernel
theorem dL_law_374 : decode cL_law 374 = .ok (.aload_n 2, 1) := by decide +kernel
theorem dL_law_375 : decode cL_law 375 = .ok (.aload_n 0, 1) := by decide +kernel
theorem dL_law_376 : decode cL_law 376 = .ok (.iload_n 3, 1) := by decide +kernel
theorem dL_law_377 : decode cL_law 377 = .ok (.iconst 1, 1) := by decide +kernel
theorem dL_law_378 : decode cL_law 378 = .ok (.iadd, 1) := by decide +kernel
theorem dL_law_379 : decode cL_law 379 = .ok (.iaload, 1) := by decide +kernel
theorem dL_law_380 : decode cL_law 380 = .ok (.aload_n 0, 1) := by decide +kernel
theorem dL_law_381 : decode cL_law 381 = .ok (.iload_n 3, 1) := by decide +kernel
theorem dL_law_382 : decode cL_law 382 = .ok (.iconst 2, 1) := by decide +kernel
theorem dL_law_383 : decode cL_law 383 = .ok (.iadd, 1) := by decide +kernel
theorem dL_law_384 : decode cL_law 384 = .ok (.iaload, 1) := by decide +kernel
theorem dL_law_385 : decode cL_law 385 = .ok (.invokevirtual 43, 3) := by decide +kernel
theorem dL_law_388 : decode cL_law 388 = .ok (.if_icmp .eq 502, 3) := by decide +kernel
theorem dL_law_391 : decode cL_law 391 = .ok (.iconst 0, 1) := by decide +kernel
theorem dL_law_392 : decode cL_law 392 = .ok (.ireturn, 1) := by decide +kernel
theorem dL_law_393 : decode cL_law 393 = .ok (.aload_n 1, 1) := by decide +kernel
theorem dL_law_394 : decode cL_law 394 = .ok (.aload_n 0, 1) := by decide +kernel
theorem dL_law_395 : decode cL_law 395 = .ok (.iload_n 3, 1) := by decide +kernel
theorem dL_law_396 : decode cL_law 396 = .ok (.iconst 1, 1) := by decide +kernel
theorem dL_law_397 : decode cL_law 397 = .ok (.iadd, 1) := by decide +kernel
theorem dL_law_398 : decode cL_law 398 = .ok (.iaload, 1) := by decide +kernel
theorem dL_law_399 : decode cL_law 399 = .ok (.aload_n 0, 1) := by decide +kernel
theorem dL_law_400 : decode cL_law 400 = .ok (.iload_n 3, 1) := by decide +kernel
theorem dL_law_401 : decode cL_law 401 = .ok (.iconst 2, 1) := by decide +kernel
theorem dL_law_402 : decode cL_law 402 = .ok (.iadd, 1) := by decide +kernel
theorem dL_law_403 : decode cL_law 403 = .ok (.iaload, 1) := by decide +kernel
theorem dL_law_404 : decode cL_law 404 = .ok (.invokevirtual 44, 3) := by decide +kernel
theorem dL_law_407 : decode cL_law 407 = .ok (.aload_n 2, 1) := by decide +kernel
theorem dL_law_408 : decode cL_law 408 = .ok (.aload_n 0, 1) := by decide +kernel
theorem dL_law_409 : decode cL_law 409 = .ok (.iload_n 3, 1) := by decide +kernel
theorem dL_law_410 : decode cL_law 410 = .ok (.iconst 1, 1) := by decide +kernel
theorem dL_law_411 : decode cL_law 411 = .ok (.iadd, 1) := by decide +kernel
theorem dL_law_412 : decode cL_law 412 = .ok (.iaload, 1) := by decide +kernel
theorem dL_law_413 : decode cL_law 413 = .ok (.aload_n 0, 1) := by decide +kernel
theorem dL_law_414 : decode cL_law 414 = .ok (.iload_n 3, 1) := by decide +kernel
theorem dL_law_415 : decode cL_law 415 = .ok (.iconst 2, 1) := by decide +kernel
theorem dL_law_416 : decode cL_law 416 = .ok (.iadd, 1) := by decide +kernel
theorem dL_law_417 : decode cL_law 417 = .ok (.iaload, 1) := by decide +kernel
theorem dL_law_418 : decode cL_law 418 = .ok (.invokevirtual 47, 3) := by decide +kernel
theorem dL_law_421 : decode cL_law 421 = .ok (.if_icmp .eq 469, 3) := by decide +kernel
theorem dL_law_424 : decode cL_law 424 = .ok (.iconst 0, 1) := by decide +kernel
theorem dL_law_425 : decode cL_law 425 = .ok (.ireturn, 1) := by decide +kernel
theorem dL_law_426 : decode cL_law 426 = .ok (.aload_n 1, 1) := by decide +kernel
theorem dL_law_427 : decode cL_law 427 = .ok (.aload_n 0, 1) := by decide +kernel
theorem dL_law_428 : decode cL_law 428 = .ok (.iload_n 3, 1) := by decide +kernel
theorem dL_law_429 : decode cL_law 429 = .ok (.iconst 1, 1) := by decide +kernel
theorem dL_law_430 : decode cL_law 430 = .ok (.iadd, 1) := by decide +kernel
theorem dL_law_431 : decode cL_law 431 = .ok (.iaload, 1) := by decide +kernel
theorem dL_law_432 : decode cL_law 432 = .ok (.invokevirtual 48, 3) := by decide +kernel
theorem dL_law_435 : decode cL_law 435 = .ok (.aload_n 2, 1) := by decide +kernel
theorem dL_law_436 : decode cL_law 436 = .ok (.aload_n 0, 1) := by decide +kernel
theorem dL_law_437 : decode cL_law 437 = .ok (.iload_n 3, 1) := by decide +kernel
theorem dL_law_438 : decode cL_law 438 = .ok (.iconst 1, 1) := by decide +kernel
theorem dL_law_439 : decode cL_law 439 = .ok (.iadd, 1) := by decide +kernel
theorem dL_law_440 : decode cL_law 440 = .ok (.iaload, 1) := by decide +kernel
theorem dL_law_441 : decode cL_law 441 = .ok (.invokevirtual 51, 3) := by decide +kernel
theorem dL_law_444 : decode cL_law 444 = .ok (.if_icmp .eq 446, 3) := by decide +kernel
theorem dL_law_447 : decode cL_law 447 = .ok (.iconst 0, 1) := by decide +kernel
theorem dL_law_448 : decode cL_law 448 = .ok (.ireturn, 1) := by decide +kernel
theorem dL_law_449 : decode cL_law 449 = .ok (.aload_n 1, 1) := by decide +kernel
theorem dL_law_450 : decode cL_law 450 = .ok (.aload_n 0, 1) := by decide +kernel
theorem dL_law_451 : decode cL_law 451 = .ok (.iload_n 3, 1) := by decide +kernel
theorem dL_law_452 : decode cL_law 452 = .ok (.iconst 1, 1) := by decide +kernel
theorem dL_law_453 : decode cL_law 453 = .ok (.iadd, 1) := by decide +kernel
theorem dL_law_454 : decode cL_law 454 = .ok (.iaload, 1) := by decide +kernel
theorem dL_law_455 : decode cL_law 455 = .ok (.invokevirtual 52, 3) := by decide +kernel
theorem dL_law_458 : decode cL_law 458 = .ok (.aload_n 2, 1) := by decide +kernel
theorem dL_law_459 : decode cL_law 459 = .ok (.aload_n 0, 1) := by decide +kernel
theorem dL_law_460 : decode cL_law 460 = .ok (.iload_n 3, 1) := by decide +kernel
theorem dL_law_461 : decode cL_law 461 = .ok (.iconst 1, 1) := by decide +kernel
theorem dL_law_462 : decode cL_law 462 = .ok (.iadd, 1) := by decide +kernel
theorem dL_law_463 : decode cL_law 463 = .ok (.iaload, 1) := by decide +kernel
theorem dL_law_464 : decode cL_law 464 = .ok (.invokevirtual 55, 3) := by decide +kernel
theorem dL_law_467 : decode cL_law 467 = .ok (.if_icmp .eq 423, 3) := by decide +kernel
theorem dL_law_470 : decode cL_law 470 = .ok (.iconst 0, 1) := by decide +kernel
theorem dL_law_471 : decode cL_law 471 = .ok (.ireturn, 1) := by decide +kernel
theorem dL_law_472 : decode cL_law 472 = .ok (.aload_n 1, 1) := by decide +kernel
theorem dL_law_473 : decode cL_law 473 = .ok (.aload_n 0, 1) := by decide +kernel
theorem dL_law_474 : decode cL_law 474 = .ok (.iload_n 3, 1) := by decide +kernel
theorem dL_law_475 : decode cL_law 475 = .ok (.iconst 1, 1) := by decide +kernel
theorem dL_law_476 : decode cL_law 476 = .ok (.iadd, 1) := by decide +kernel
theorem dL_law_477 : decode cL_law 477 = .ok (.iaload, 1) := by decide +kernel
theorem dL_law_478 : decode cL_law 478 = .ok (.aload_n 0, 1) := by decide +kernel
theorem dL_law_479 : decode cL_law 479 = .ok (.iload_n 3, 1) := by decide +kernel
theorem dL_law_480 : decode cL_law 480 = .ok (.iconst 2, 1) := by decide +kernel
theorem dL_law_481 : decode cL_law 481 = .ok (.iadd, 1) := by decide +kernel
theorem dL_law_482 : decode cL_law 482 = .ok (.iaload, 1) := by decide +kernel
theorem dL_law_483 : decode cL_law 483 = .ok (.invokevirtual 56, 3) := by decide +kernel
theorem dL_law_486 : decode cL_law 486 = .ok (.aload_n 2, 1) := by decide +kernel
theorem dL_law_487 : decode cL_law 487 = .ok (.aload_n 0, 1) := by decide +kernel
theorem dL_law_488 : decode cL_law 488 = .ok (.iload_n 3, 1) := by decide +kernel
theorem dL_law_489 : decode cL_law 489 = .ok (.iconst 1, 1) := by decide +kernel
theorem dL_law_490 : decode cL_law 490 = .ok (.iadd, 1) := by decide +kernel
theorem dL_law_491 : decode cL_law 491 = .ok (.iaload, 1) := by decide +kernel
theorem dL_law_492 : decode cL_law 492 = .ok (.aload_n 0, 1) := by decide +kernel
theorem dL_law_493 : decode cL_law 493 = .ok (.iload_n 3, 1) := by decide +kernel
theorem dL_law_494 : decode cL_law 494 = .ok (.iconst 2, 1) := by decide +kernel
theorem dL_law_495 : decode cL_law 495 = .ok (.iadd, 1) := by decide +kernel
theorem dL_law_496 : decode cL_law 496 = .ok (.iaload, 1) := by decide +kernel
theorem dL_law_497 : decode cL_law 497 = .ok (.invokevirtual 59, 3) := by decide +kernel
theorem dL_law_500 : decode cL_law 500 = .ok (.if_icmp .eq 390, 3) := by decide +kernel
theorem dL_law_503 : decode cL_law 503 = .ok (.iconst 0, 1) := by decide +kernel
theorem dL_law_504 : decode cL_law 504 = .ok (.ireturn, 1) := by decide +kernel
theorem dL_law_505 : decode cL_law 505 = .ok (.aload_n 1, 1) := by decide +kernel
theorem dL_law_506 : decode cL_law 506 = .ok (.aload_n 0, 1) := by decide +kernel
theorem dL_law_507 : decode cL_law 507 = .ok (.iload_n 3, 1) := by decide +kernel
theorem dL_law_508 : decode cL_law 508 = .ok (.iconst 1, 1) := by decide +kernel
theorem dL_law_509 : decode cL_law 509 = .ok (.iadd, 1) := by decide +kernel
theorem dL_law_510 : decode cL_law 510 = .ok (.iaload, 1) := by decide +kernel
theorem dL_law_511 : decode cL_law 511 = .ok (.aload_n 0, 1) := by decide +kernel
theorem dL_law_512 : decode cL_law 512 = .ok (.iload_n 3, 1) := by decide +kernel
theorem dL_law_513 : decode cL_law 513 = .ok (.iconst 2, 1) := by decide +kernel
theorem dL_law_514 : decode cL_law 514 = .ok (.iadd, 1) := by decide +kernel
theorem dL_law_515 : decode cL_law 515 = .ok (.iaload, 1) := by decide +kernel
theorem dL_law_516 : decode cL_law 516 = .ok (.invokevirtual 60, 3) := by decide +kernel
theorem dL_law_519 : decode cL_law 519 = .ok (.aload_n 2, 1) := by decide +kernel
theorem dL_law_520 : decode cL_law 520 = .ok (.aload_n 0, 1) := by decide +kernel
theorem dL_law_521 : decode cL_law 521 = .ok (.iload_n 3, 1) := by decide +kernel
theorem dL_law_522 : decode cL_law 522 = .ok (.iconst 1, 1) := by decide +kernel
theorem dL_law_523 : decode cL_law 523 = .ok (.iadd, 1) := by decide +kernel
theorem dL_law_524 : decode cL_law 524 = .ok (.iaload, 1) := by decide +kernel
theorem dL_law_525 : decode cL_law 525 = .ok (.aload_n 0, 1) := by decide +kernel
theorem dL_law_526 : decode cL_law 526 = .ok (.iload_n 3, 1) := by decide +kernel
theorem dL_law_527 : decode cL_law 527 = .ok (.iconst 2, 1) := by decide +kernel
theorem dL_law_528 : decode cL_law 528 = .ok (.iadd, 1) := by decide +kernel
theorem dL_law_529 : decode cL_law 529 = .ok (.iaload, 1) := by decide +kernel
theorem dL_law_530 : decode cL_law 530 = .ok (.invokevirtual 63, 3) := by decide +kernel
theorem dL_law_533 : decode cL_law 533 = .ok (.if_icmp .eq 357, 3) := by decide +kernel
theorem dL_law_536 : decode cL_law 536 = .ok (.iconst 0, 1) := by decide +kernel
theorem dL_law_537 : decode cL_law 537 = .ok (.ireturn, 1) := by decide +kernel
theorem dL_law_538 : decode cL_law 538 = .ok (.aload_n 1, 1) := by decide +kernel
theorem dL_law_539 : decode cL_law 539 = .ok (.aload_n 0, 1) := by decide +kernel
theorem dL_law_540 : decode cL_law 540 = .ok (.iload_n 3, 1) := by decide +kernel
theorem dL_law_541 : decode cL_law 541 = .ok (.iconst 1, 1) := by decide +kernel
theorem dL_law_542 : decode cL_law 542 = .ok (.iadd, 1) := by decide +kernel
theorem dL_law_543 : decode cL_law 543 = .ok (.iaload, 1) := by decide +kernel
theorem dL_law_544 : decode cL_law 544 = .ok (.aload_n 0, 1) := by decide +kernel
theorem dL_law_545 : decode cL_law 545 = .ok (.iload_n 3, 1) := by decide +kernel
theorem dL_law_546 : decode cL_law 546 = .ok (.iconst 2, 1) := by decide +kernel
theorem dL_law_547 : decode cL_law 547 = .ok (.iadd, 1) := by decide +kernel
theorem dL_law_548 : decode cL_law 548 = .ok (.iaload, 1) := by decide +kernel
theorem dL_law_549 : decode cL_law 549 = .ok (.invokevirtual 64, 3) := by decide +kernel
theorem dL_law_552 : decode cL_law 552 = .ok (.aload_n 2, 1) := by decide +kernel
theorem dL_law_553 : decode cL_law 553 = .ok (.aload_n 0, 1) := by decide +kernel
theorem dL_law_554 : decode cL_law 554 = .ok (.iload_n 3, 1) := by decide +kernel
theorem dL_law_555 : decode cL_law 555 = .ok (.iconst 1, 1) := by decide +kernel
theorem dL_law_556 : decode cL_law 556 = .ok (.iadd, 1) := by decide +kernel
theorem dL_law_557 : decode cL_law 557 = .ok (.iaload, 1) := by decide +kernel
theorem dL_law_558 : decode cL_law 558 = .ok (.aload_n 0, 1) := by decide +kernel
theorem dL_law_559 : decode cL_law 559 = .ok (.iload_n 3, 1) := by decide +kernel
theorem dL_law_560 : decode cL_law 560 = .ok (.iconst 2, 1) := by decide +kernel
theorem dL_law_561 : decode cL_law 561 = .ok (.iadd, 1) := by decide +kernel
theorem dL_law_562 : decode cL_law 562 = .ok (.iaload, 1) := by decide +kernel
theorem dL_law_563 : decode cL_law 563 = .ok (.invokevirtual 67, 3) := by decide +kernel
theorem dL_law_566 : decode cL_law 566 = .ok (.if_icmp .eq 324, 3) := by decide +kernel
theorem dL_law_569 : decode cL_law 569 = .ok (.iconst 0, 1) := by decide +kernel
theorem dL_law_570 : decode cL_law 570 = .ok (.ireturn, 1) := by decide +kernel
theorem dL_law_571 : decode cL_law 571 = .ok (.aload_n 1, 1) := by decide +kernel
theorem dL_law_572 : decode cL_law 572 = .ok (.aload_n 0, 1) := by decide +kernel
theorem dL_law_573 : decode cL_law 573 = .ok (.iload_n 3, 1) := by decide +kernel
theorem dL_law_574 : decode cL_law 574 = .ok (.iconst 1, 1) := by decide +kernel
theorem dL_law_575 : decode cL_law 575 = .ok (.iadd, 1) := by decide +kernel
theorem dL_law_576 : decode cL_law 576 = .ok (.iaload, 1) := by decide +kernel
theorem dL_law_577 : decode cL_law 577 = .ok (.aload_n 0, 1) := by decide +kernel
theorem dL_law_578 : decode cL_law 578 = .ok (.iload_n 3, 1) := by decide +kernel
theorem dL_law_579 : decode cL_law 579 = .ok (.iconst 2, 1) := by decide +kernel
theorem dL_law_580 : decode cL_law 580 = .ok (.iadd, 1) := by decide +kernel
theorem dL_law_581 : decode cL_law 581 = .ok (.iaload, 1) := by decide +kernel
theorem dL_law_582 : decode cL_law 582 = .ok (.invokevirtual 68, 3) := by decide +kernel
theorem dL_law_585 : decode cL_law 585 = .ok (.aload_n 2, 1) := by decide +kernel
theorem dL_law_586 : decode cL_law 586 = .ok (.aload_n 0, 1) := by decide +kernel
theorem dL_law_587 : decode cL_law 587 = .ok (.iload_n 3, 1) := by decide +kernel
theorem dL_law_588 : decode cL_law 588 = .ok (.iconst 1, 1) := by decide +kernel
theorem dL_law_589 : decode cL_law 589 = .ok (.iadd, 1) := by decide +kernel
theorem dL_law_590 : decode cL_law 590 = .ok (.iaload, 1) := by decide +kernel
theorem dL_law_591 : decode cL_law 591 = .ok (.aload_n 0, 1) := by decide +kernel
theorem dL_law_592 : decode cL_law 592 = .ok (.iload_n 3, 1) := by decide +kernel
theorem dL_law_593 : decode cL_law 593 = .ok (.iconst 2, 1) := by decide +kernel
theorem dL_law_594 : decode cL_law 594 = .ok (.iadd, 1) := by decide +kernel
theorem dL_law_595 : decode cL_law 595 = .ok (.iaload, 1) := by decide +kernel
theorem dL_law_596 : decode cL_law 596 = .ok (.invokevirtual 71, 3) := by decide +kernel
theorem dL_law_599 : decode cL_law 599 = .ok (.if_icmp .eq 291, 3) := by decide +kernel
theorem dL_law_602 : decode cL_law 602 = .ok (.iconst 0, 1) := by decide +kernel
theorem dL_law_603 : decode cL_law 603 = .ok (.ireturn, 1) := by decide +kernel
theorem dL_law_604 : decode cL_law 604 = .ok (.aload_n 1, 1) := by decide +kernel
theorem dL_law_605 : decode cL_law 605 = .ok (.aload_n 0, 1) := by decide +kernel
theorem dL_law_606 : decode cL_law 606 = .ok (.iload_n 3, 1) := by decide +kernel
theorem dL_law_607 : decode cL_law 607 = .ok (.iconst 1, 1) := by decide +kernel
theorem dL_law_608 : decode cL_law 608 = .ok (.iadd, 1) := by decide +kernel
theorem dL_law_609 : decode cL_law 609 = .ok (.iaload, 1) := by decide +kernel
theorem dL_law_610 : decode cL_law 610 = .ok (.invokevirtual 72, 3) := by decide +kernel
theorem dL_law_613 : decode cL_law 613 = .ok (.aload_n 2, 1) := by decide +kernel
theorem dL_law_614 : decode cL_law 614 = .ok (.aload_n 0, 1) := by decide +kernel
theorem dL_law_615 : decode cL_law 615 = .ok (.iload_n 3, 1) := by decide +kernel
theorem dL_law_616 : decode cL_law 616 = .ok (.iconst 1, 1) := by decide +kernel
theorem dL_law_617 : decode cL_law 617 = .ok (.iadd, 1) := by decide +kernel
theorem dL_law_618 : decode cL_law 618 = .ok (.iaload, 1) := by decide +kernel
theorem dL_law_619 : decode cL_law 619 = .ok (.invokevirtual 75, 3) := by decide +kernel
theorem dL_law_622 : decode cL_law 622 = .ok (.if_icmp .eq 268, 3) := by decide +kernel
theorem dL_law_625 : decode cL_law 625 = .ok (.iconst 0, 1) := by decide +kernel
theorem dL_law_626 : decode cL_law 626 = .ok (.ireturn, 1) := by decide +kernel
theorem dL_law_627 : decode cL_law 627 = .ok (.aload_n 1, 1) := by decide +kernel
theorem dL_law_628 : decode cL_law 628 = .ok (.aload_n 0, 1) := by decide +kernel
theorem dL_law_629 : decode cL_law 629 = .ok (.iload_n 3, 1) := by decide +kernel
theorem dL_law_630 : decode cL_law 630 = .ok (.iconst 1, 1) := by decide +kernel
theorem dL_law_631 : decode cL_law 631 = .ok (.iadd, 1) := by decide +kernel
theorem dL_law_632 : decode cL_law 632 = .ok (.iaload, 1) := by decide +kernel
theorem dL_law_633 : decode cL_law 633 = .ok (.aload_n 0, 1) := by decide +kernel
theorem dL_law_634 : decode cL_law 634 = .ok (.iload_n 3, 1) := by decide +kernel
theorem dL_law_635 : decode cL_law 635 = .ok (.iconst 2, 1) := by decide +kernel
theorem dL_law_636 : decode cL_law 636 = .ok (.iadd, 1) := by decide +kernel
theorem dL_law_637 : decode cL_law 637 = .ok (.iaload, 1) := by decide +kernel
theorem dL_law_638 : decode cL_law 638 = .ok (.invokevirtual 76, 3) := by decide +kernel
theorem dL_law_641 : decode cL_law 641 = .ok (.aload_n 2, 1) := by decide +kernel
theorem dL_law_642 : decode cL_law 642 = .ok (.aload_n 0, 1) := by decide +kernel
theorem dL_law_643 : decode cL_law 643 = .ok (.iload_n 3, 1) := by decide +kernel
theorem dL_law_644 : decode cL_law 644 = .ok (.iconst 1, 1) := by decide +kernel
theorem dL_law_645 : decode cL_law 645 = .ok (.iadd, 1) := by decide +kernel
theorem dL_law_646 : decode cL_law 646 = .ok (.iaload, 1) := by decide +kernel
theorem dL_law_647 : decode cL_law 647 = .ok (.aload_n 0, 1) := by decide +kernel
theorem dL_law_648 : decode cL_law 648 = .ok (.iload_n 3, 1) := by decide +kernel
theorem dL_law_649 : decode cL_law 649 = .ok (.iconst 2, 1) := by decide +kernel
theorem dL_law_650 : decode cL_law 650 = .ok (.iadd, 1) := by decide +kernel
theorem dL_law_651 : decode cL_law 651 = .ok (.iaload, 1) := by decide +kernel
theorem dL_law_652 : decode cL_law 652 = .ok (.invokevirtual 79, 3) := by decide +kernel
theorem dL_law_655 : decode cL_law 655 = .ok (.if_icmp .eq 235, 3) := by decide +kernel
theorem dL_law_658 : decode cL_law 658 = .ok (.iconst 0, 1) := by decide +kernel
theorem dL_law_659 : decode cL_law 659 = .ok (.ireturn, 1) := by decide +kernel
theorem dL_law_660 : decode cL_law 660 = .ok (.aload_n 1, 1) := by decide +kernel
theorem dL_law_661 : decode cL_law 661 = .ok (.aload_n 0, 1) := by decide +kernel
theorem dL_law_662 : decode cL_law 662 = .ok (.iload_n 3, 1) := by decide +kernel
theorem dL_law_663 : decode cL_law 663 = .ok (.iconst 1, 1) := by decide +kernel
theorem dL_law_664 : decode cL_law 664 = .ok (.iadd, 1) := by decide +kernel
theorem dL_law_665 : decode cL_law 665 = .ok (.iaload, 1) := by decide +kernel
theorem dL_law_666 : decode cL_law 666 = .ok (.aload_n 0, 1) := by decide +kernel
theorem dL_law_667 : decode cL_law 667 = .ok (.iload_n 3, 1) := by decide +kernel
theorem dL_law_668 : decode cL_law 668 = .ok (.iconst 2, 1) := by decide +kernel
theorem dL_law_669 : decode cL_law 669 = .ok (.iadd, 1) := by decide +kernel
theorem dL_law_670 : decode cL_law 670 = .ok (.iaload, 1) := by decide +kernel
theorem dL_law_671 : decode cL_law 671 = .ok (.invokevirtual 80, 3) := by decide +kernel
theorem dL_law_674 : decode cL_law 674 = .ok (.aload_n 2, 1) := by decide +kernel
theorem dL_law_675 : decode cL_law 675 = .ok (.aload_n 0, 1) := by decide +kernel
theorem dL_law_676 : decode cL_law 676 = .ok (.iload_n 3, 1) := by decide +kernel
theorem dL_law_677 : decode cL_law 677 = .ok (.iconst 1, 1) := by decide +kernel
theorem dL_law_678 : decode cL_law 678 = .ok (.iadd, 1) := by decide +kernel
theorem dL_law_679 : decode cL_law 679 = .ok (.iaload, 1) := by decide +kernel
theorem dL_law_680 : decode cL_law 680 = .ok (.aload_n 0, 1) := by decide +kernel
theorem dL_law_681 : decode cL_law 681 = .ok (.iload_n 3, 1) := by decide +kernel
theorem dL_law_682 : decode cL_law 682 = .ok (.iconst 2, 1) := by decide +kernel
theorem dL_law_683 : decode cL_law 683 = .ok (.iadd, 1) := by decide +kernel
theorem dL_law_684 : decode cL_law 684 = .ok (.iaload, 1) := by decide +kernel
theorem dL_law_685 : decode cL_law 685 = .ok (.invokevirtual 83, 3) := by decide +kernel
theorem dL_law_688 : decode cL_law 688 = .ok (.if_icmp .eq 202, 3) := by decide +kernel
theorem dL_law_691 : decode cL_law 691 = .ok (.iconst 0, 1) := by decide +kernel
theorem dL_law_692 : decode cL_law 692 = .ok (.ireturn, 1) := by decide +kernel
theorem dL_law_693 : decode cL_law 693 = .ok (.aload_n 1, 1) := by decide +kernel
theorem dL_law_694 : decode cL_law 694 = .ok (.aload_n 0, 1) := by decide +kernel
theorem dL_law_695 : decode cL_law 695 = .ok (.iload_n 3, 1) := by decide +kernel
theorem dL_law_696 : decode cL_law 696 = .ok (.iconst 1, 1) := by decide +kernel
theorem dL_law_697 : decode cL_law 697 = .ok (.iadd, 1) := by decide +kernel
theorem dL_law_698 : decode cL_law 698 = .ok (.iaload, 1) := by decide +kernel
theorem dL_law_699 : decode cL_law 699 = .ok (.aload_n 0, 1) := by decide +kernel
theorem dL_law_700 : decode cL_law 700 = .ok (.iload_n 3, 1) := by decide +kernel
theorem dL_law_701 : decode cL_law 701 = .ok (.iconst 2, 1) := by decide +kernel
theorem dL_law_702 : decode cL_law 702 = .ok (.iadd, 1) := by decide +kernel
theorem dL_law_703 : decode cL_law 703 = .ok (.iaload, 1) := by decide +kernel
theorem dL_law_704 : decode cL_law 704 = .ok (.invokevirtual 84, 3) := by decide +kernel
theorem dL_law_707 : decode cL_law 707 = .ok (.aload_n 2, 1) := by decide +kernel
theorem dL_law_708 : decode cL_law 708 = .ok (.aload_n 0, 1) := by decide +kernel
theorem dL_law_709 : decode cL_law 709 = .ok (.iload_n 3, 1) := by decide +kernel
theorem dL_law_710 : decode cL_law 710 = .ok (.iconst 1, 1) := by decide +kernel
theorem dL_law_711 : decode cL_law 711 = .ok (.iadd, 1) := by decide +kernel
theorem dL_law_712 : decode cL_law 712 = .ok (.iaload, 1) := by decide +kernel
theorem dL_law_713 : decode cL_law 713 = .ok (.aload_n 0, 1) := by decide +kernel
theorem dL_law_714 : decode cL_law 714 = .ok (.iload_n 3, 1) := by decide +kernel
theorem dL_law_715 : decode cL_law 715 = .ok (.iconst 2, 1) := by decide +kernel
theorem dL_law_716 : decode cL_law 716 = .ok (.iadd, 1) := by decide +kernel
theorem dL_law_717 : decode cL_law 717 = .ok (.iaload, 1) := by decide +kernel
theorem dL_law_718 : decode cL_law 718 = .ok (.invokevirtual 87, 3) := by decide +kernel
theorem dL_law_721 : decode cL_law 721 = .ok (.if_icmp .eq 169, 3) := by decide +kernel
theorem dL_law_724 : decode cL_law 724 = .ok (.iconst 0, 1) := by decide +kernel
theorem dL_law_725 : decode cL_law 725 = .ok (.ireturn, 1) := by decide +kernel
theorem dL_law_726 : decode cL_law 726 = .ok (.aload_n 1, 1) := by decide +kernel
theorem dL_law_727 : decode cL_law 727 = .ok (.aload_n 0, 1) := by decide +kernel
theorem dL_law_728 : decode cL_law 728 = .ok (.iload_n 3, 1) := by decide +kernel
theorem dL_law_729 : decode cL_law 729 = .ok (.iconst 1, 1) := by decide +kernel
theorem dL_law_730 : decode cL_law 730 = .ok (.iadd, 1) := by decide +kernel
theorem dL_law_731 : decode cL_law 731 = .ok (.iaload, 1) := by decide +kernel
theorem dL_law_732 : decode cL_law 732 = .ok (.aload_n 0, 1) := by decide +kernel
theorem dL_law_733 : decode cL_law 733 = .ok (.iload_n 3, 1) := by decide +kernel
theorem dL_law_734 : decode cL_law 734 = .ok (.iconst 2, 1) := by decide +kernel
theorem dL_law_735 : decode cL_law 735 = .ok (.iadd, 1) := by decide +kernel
theorem dL_law_736 : decode cL_law 736 = .ok (.iaload, 1) := by decide +kernel
theorem dL_law_737 : decode cL_law 737 = .ok (.invokevirtual 88, 3) := by decide +kernel
theorem dL_law_740 : decode cL_law 740 = .ok (.aload_n 2, 1) := by decide +kernel
theorem dL_law_741 : decode cL_law 741 = .ok (.aload_n 0, 1) := by decide +kernel
theorem dL_law_742 : decode cL_law 742 = .ok (.iload_n 3, 1) := by decide +kernel
theorem dL_law_743 : decode cL_law 743 = .ok (.iconst 1, 1) := by decide +kernel
theorem dL_law_744 : decode cL_law 744 = .ok (.iadd, 1) := by decide +kernel
theorem dL_law_745 : decode cL_law 745 = .ok (.iaload, 1) := by decide +kernel
theorem dL_law_746 : decode cL_law 746 = .ok (.aload_n 0, 1) := by decide +kernel
theorem dL_law_747 : decode cL_law 747 = .ok (.iload_n 3, 1) := by decide +kernel
theorem dL_law_748 : decode cL_law 748 = .ok (.iconst 2, 1) := by decide +kernel
theorem dL_law_749 : decode cL_law 749 = .ok (.iadd, 1) := by decide +kernel
theorem dL_law_750 : decode cL_law 750 = .ok (.iaload, 1) := by decide +kernel
theorem dL_law_751 : decode cL_law 751 = .ok (.invokevirtual 91, 3) := by decide +kernel
theorem dL_law_754 : decode cL_law 754 = .ok (.if_icmp .eq 136, 3) := by decide +kernel
theorem dL_law_757 : decode cL_law 757 = .ok (.iconst 0, 1) := by decide +kernel
theorem dL_law_758 : decode cL_law 758 = .ok (.ireturn, 1) := by decide +kernel
theorem dL_law_759 : decode cL_law 759 = .ok (.aload_n 1, 1) := by decide +kernel
theorem dL_law_760 : decode cL_law 760 = .ok (.aload_n 0, 1) := by decide +kernel
theorem dL_law_761 : decode cL_law 761 = .ok (.iload_n 3, 1) := by decide +kernel
theorem dL_law_762 : decode cL_law 762 = .ok (.iconst 1, 1) := by decide +kernel
theorem dL_law_763 : decode cL_law 763 = .ok (.iadd, 1) := by decide +kernel
theorem dL_law_764 : decode cL_law 764 = .ok (.iaload, 1) := by decide +kernel
theorem dL_law_765 : decode cL_law 765 = .ok (.invokevirtual 92, 3) := by decide +kernel
theorem dL_law_768 : decode cL_law 768 = .ok (.aload_n 2, 1) := by decide +kernel
theorem dL_law_769 : decode cL_law 769 = .ok (.aload_n 0, 1) := by decide +kernel
theorem dL_law_770 : decode cL_law 770 = .ok (.iload_n 3, 1) := by decide +kernel
theorem dL_law_771 : decode cL_law 771 = .ok (.iconst 1, 1) := by decide +kernel
theorem dL_law_772 : decode cL_law 772 = .ok (.iadd, 1) := by decide +kernel
theorem dL_law_773 : decode cL_law 773 = .ok (.iaload, 1) := by decide +kernel
theorem dL_law_774 : decode cL_law 774 = .ok (.invokevirtual 95, 3) := by decide +kernel
theorem dL_law_777 : decode cL_law 777 = .ok (.if_icmp .eq 113, 3) := by decide +kernel
theorem dL_law_780 : decode cL_law 780 = .ok (.iconst 0, 1) := by decide +kernel
theorem dL_law_781 : decode cL_law 781 = .ok (.ireturn, 1) := by decide +kernel
theorem dL_law_782 : decode cL_law 782 = .ok (.aload_n 1, 1) := by decide +kernel
theorem dL_law_783 : decode cL_law 783 = .ok (.aload_n 0, 1) := by decide +kernel
theorem dL_law_784 : decode cL_law 784 = .ok (.iload_n 3, 1) := by decide +kernel
theorem dL_law_785 : decode cL_law 785 = .ok (.iconst 1, 1) := by decide +kernel
theorem dL_law_786 : decode cL_law 786 = .ok (.iadd, 1) := by decide +kernel
theorem dL_law_787 : decode cL_law 787 = .ok (.iaload, 1) := by decide +kernel
theorem dL_law_788 : decode cL_law 788 = .ok (.invokevirtual 96, 3) := by decide +kernel
theorem dL_law_791 : decode cL_law 791 = .ok (.aload_n 2, 1) := by decide +kernel
theorem dL_law_792 : decode cL_law 792 = .ok (.aload_n 0, 1) := by decide +kernel
theorem dL_law_793 : decode cL_law 793 = .ok (.iload_n 3, 1) := by decide +kernel
theorem dL_law_794 : decode cL_law 794 = .ok (.iconst 1, 1) := by decide +kernel
theorem dL_law_795 : decode cL_law 795 = .ok (.iadd, 1) := by decide +kernel
theorem dL_law_796 : decode cL_law 796 = .ok (.iaload, 1) := by decide +kernel
theorem dL_law_797 : decode cL_law 797 = .ok (.invokevirtual 99, 3) := by decide +kernel
theorem dL_law_800 : decode cL_law 800 = .ok (.if_icmp .eq 90, 3) := by decide +kernel
theorem dL_law_803 : decode cL_law 803 = .ok (.iconst 0, 1) := by decide +kernel
theorem dL_law_804 : decode cL_law 804 = .ok (.ireturn, 1) := by decide +kernel
theorem dL_law_805 : decode cL_law 805 = .ok (.aload_n 1, 1) := by decide +kernel
theorem dL_law_806 : decode cL_law 806 = .ok (.invokevirtual 100, 3) := by decide +kernel
theorem dL_law_809 : decode cL_law 809 = .ok (.aload_n 2, 1) := by decide +kernel
theorem dL_law_810 : decode cL_law 810 = .ok (.invokevirtual 104, 3) := by decide +kernel
theorem dL_law_813 : decode cL_law 813 = .ok (.if_icmp .eq 77, 3) := by decide +kernel
theorem dL_law_816 : decode cL_law 816 = .ok (.iconst 0, 1) := by decide +kernel
theorem dL_law_817 : decode cL_law 817 = .ok (.ireturn, 1) := by decide +kernel
theorem dL_law_818 : decode cL_law 818 = .ok (.aload_n 1, 1) := by decide +kernel
theorem dL_law_819 : decode cL_law 819 = .ok (.aload_n 0, 1) := by decide +kernel
theorem dL_law_820 : decode cL_law 820 = .ok (.iload_n 3, 1) := by decide +kernel
theorem dL_law_821 : decode cL_law 821 = .ok (.iconst 1, 1) := by decide +kernel
theorem dL_law_822 : decode cL_law 822 = .ok (.iadd, 1) := by decide +kernel
theorem dL_law_823 : decode cL_law 823 = .ok (.iaload, 1) := by decide +kernel
theorem dL_law_824 : decode cL_law 824 = .ok (.invokevirtual 105, 3) := by decide +kernel
theorem dL_law_827 : decode cL_law 827 = .ok (.aload_n 2, 1) := by decide +kernel
theorem dL_law_828 : decode cL_law 828 = .ok (.aload_n 0, 1) := by decide +kernel
theorem dL_law_829 : decode cL_law 829 = .ok (.iload_n 3, 1) := by decide +kernel
theorem dL_law_830 : decode cL_law 830 = .ok (.iconst 1, 1) := by decide +kernel
theorem dL_law_831 : decode cL_law 831 = .ok (.iadd, 1) := by decide +kernel
theorem dL_law_832 : decode cL_law 832 = .ok (.iaload, 1) := by decide +kernel
theorem dL_law_833 : decode cL_law 833 = .ok (.invokevirtual 108, 3) := by decide +kernel
theorem dL_law_836 : decode cL_law 836 = .ok (.if_icmp .eq 54, 3) := by decide +kernel
theorem dL_law_839 : decode cL_law 839 = .ok (.iconst 0, 1) := by decide +kernel
theorem dL_law_840 : decode cL_law 840 = .ok (.ireturn, 1) := by decide +kernel
theorem dL_law_841 : decode cL_law 841 = .ok (.aload_n 1, 1) := by decide +kernel
theorem dL_law_842 : decode cL_law 842 = .ok (.invokevirtual 109, 3) := by decide +kernel
theorem dL_law_845 : decode cL_law 845 = .ok (.aload_n 2, 1) := by decide +kernel
theorem dL_law_846 : decode cL_law 846 = .ok (.invokevirtual 112, 3) := by decide +kernel
theorem dL_law_849 : decode cL_law 849 = .ok (.if_icmp .eq 41, 3) := by decide +kernel
theorem dL_law_852 : decode cL_law 852 = .ok (.iconst 0, 1) := by decide +kernel
theorem dL_law_853 : decode cL_law 853 = .ok (.ireturn, 1) := by decide +kernel
theorem dL_law_854 : decode cL_law 854 = .ok (.aload_n 1, 1) := by decide +kernel
theorem dL_law_855 : decode cL_law 855 = .ok (.aload_n 0, 1) := by decide +kernel
theorem dL_law_856 : decode cL_law 856 = .ok (.iload_n 3, 1) := by decide +kernel
theorem dL_law_857 : decode cL_law 857 = .ok (.iconst 1, 1) := by decide +kernel
theorem dL_law_858 : decode cL_law 858 = .ok (.iadd, 1) := by decide +kernel
theorem dL_law_859 : decode cL_law 859 = .ok (.iaload, 1) := by decide +kernel
theorem dL_law_860 : decode cL_law 860 = .ok (.invokevirtual 113, 3) := by decide +kernel
theorem dL_law_863 : decode cL_law 863 = .ok (.aload_n 2, 1) := by decide +kernel
theorem dL_law_864 : decode cL_law 864 = .ok (.aload_n 0, 1) := by decide +kernel
theorem dL_law_865 : decode cL_law 865 = .ok (.iload_n 3, 1) := by decide +kernel
theorem dL_law_866 : decode cL_law 866 = .ok (.iconst 1, 1) := by decide +kernel
theorem dL_law_867 : decode cL_law 867 = .ok (.iadd, 1) := by decide +kernel
theorem dL_law_868 : decode cL_law 868 = .ok (.iaload, 1) := by decide +kernel
theorem dL_law_869 : decode cL_law 869 = .ok (.invokevirtual 116, 3) := by decide +kernel
theorem dL_law_872 : decode cL_law 872 = .ok (.if_icmp .eq 18, 3) := by decide +kernel
theorem dL_law_875 : decode cL_law 875 = .ok (.iconst 0, 1) := by decide +kernel
theorem dL_law_876 : decode cL_law 876 = .ok (.ireturn, 1) := by decide +kernel
theorem dL_law_877 : decode cL_law 877 = .ok (.aload_n 1, 1) := by decide +kernel
theorem dL_law_878 : decode cL_law 878 = .ok (.invokevirtual 117, 3) := by decide +kernel
theorem dL_law_881 : decode cL_law 881 = .ok (.aload_n 2, 1) := by decide +kernel
theorem dL_law_882 : decode cL_law 882 = .ok (.invokevirtual 120, 3) := by decide +kernel
theorem dL_law_885 : decode cL_law 885 = .ok (.if_icmp .eq 5, 3) := by decide +kernel
theorem dL_law_888 : decode cL_law 888 = .ok (.iconst 0, 1) := by decide +kernel
theorem dL_law_889 : decode cL_law 889 = .ok (.ireturn, 1) := by decide +kernel
theorem dL_law_890 : decode cL_law 890 = .ok (.iinc 3 4, 3) := by decide +kernel
theorem dL_law_893 : decode cL_law 893 = .ok (.goto (-875), 3) := by decide +kernel
theorem dL_law_896 : decode cL_law 896 = .ok (.iconst 1, 1) := by decide +kernel
theorem dL_law_897 : decode cL_law 897 = .ok (.ireturn, 1) := by decide +kernel
end
section
/-! ===== the layer of this claim: one picture of all cells, as numbers by region, cell and place ===== -/
/-- the words that every method's contract takes: those of the tables that stay -/
def g_tbl : List Cond := lw_tbl.filter goodWord
abbrev g_ws (y : MethodName) (cd : ByteArray) (n : Nat) (ret : Option FieldType) : List Cond := Cond.code y cd n ret :: g_tbl
theorem g_in {w : Cond} (i : Nat) (h : lw_tbl[i]? = some w) (hg : goodWord w = true) : w ∈ g_tbl := List.mem_filter.mpr ⟨List.mem_of_getElem? h, hg⟩
theorem g_of_tbl {args : Array Value} {s : State} (h : ∀ w ∈ lw_tbl, w.before args s = true) : ∀ w ∈ g_tbl, w.before args s = true := fun w hw => h w (List.mem_filter.mp hw).1
/-- regions: 0 to 5 the states, 6 the class' own object with its script, 7 the reference -/
def g_ok (r c : Nat) : Bool := if r < 6 then decide (c < 28) else if r = 6 then decide (c < 5) else if r = 7 then decide (c < 6) else false
def g_L : List (Nat × Nat) := (List.range 8).flatMap (fun r => ((List.range 28).filter (fun c => g_ok r c)).map (fun c => (r, c)))
theorem g_L_ok {q : Nat × Nat} (h : q ∈ g_L) : g_ok q.1 q.2 = true := by
  obtain ⟨r, -, h1⟩ := List.mem_flatMap.mp h
  obtain ⟨c, h2, rfl⟩ := List.mem_map.mp h1
  exact (List.mem_filter.mp h2).2
theorem g_ok_lt {r c : Nat} (h : g_ok r c = true) : r < 8 ∧ c < 28 := by
  unfold g_ok at h
  split at h
  · have := of_decide_eq_true h; omega
  · split at h
    · have := of_decide_eq_true h; omega
    · split at h
      · have := of_decide_eq_true h; omega
      · cases h
theorem g_L_mem {r c : Nat} (h : g_ok r c = true) : (r, c) ∈ g_L := by
  have h1 := g_ok_lt h
  exact List.mem_flatMap.mpr ⟨r, List.mem_range.mpr h1.1, List.mem_map.mpr ⟨c, List.mem_filter.mpr ⟨List.mem_range.mpr h1.2, h⟩, rfl⟩⟩
theorem g_L_nd : g_L.Nodup := by decide +kernel
theorem g_nd {l : List (Nat × Nat)} (h : l.Nodup) {i j : Nat} {x : Nat × Nat} (hi : l[i]? = some x) (hj : l[j]? = some x) : i = j := by
  obtain ⟨i1, e1⟩ := List.getElem?_eq_some_iff.mp hi
  obtain ⟨j1, e2⟩ := List.getElem?_eq_some_iff.mp hj
  rcases Nat.lt_trichotomy i j with h1 | h1 | h1
  · exact absurd (e1.trans e2.symm) (List.pairwise_iff_getElem.mp h i j i1 j1 h1)
  · exact h1
  · exact absurd (e2.trans e1.symm) (List.pairwise_iff_getElem.mp h j i j1 i1 h1)
abbrev g_V : Type := Nat → Nat → Int32
abbrev g_M : Type := Nat → Nat → Nat → Int32
abbrev g_P : Type := Nat → Nat
abbrev g_Ad : Type := Nat → Nat → Nat
abbrev g_T : Type := Nat → ClassId
abbrev g_rf (n : Nat) (f : Nat → Nat) (c : ClassId) : va_E := .inl (c, n, .inr (.inr (.inr (.inr (fun i => some (f i))))))
def g_S (tb : g_T) (ad : g_Ad) (V : g_V) (r c : Nat) : va_E :=
  if 12 ≤ c then .inr (1, [.int (V c 0), .int (V c 1), .int (V c 2), .int (V c 3), .int (V c 4), .int (V c 5), .int (V c 6)])
  else if 7 ≤ c then .inr (0, [.int (V c 0), .int (V c 1)])
  else if c = 0 then .inr (3, [.ref (ad r 1), .ref (ad r 2), .ref (ad r 3), .ref (ad r 4), .ref (ad r 5), .ref (ad r 6), .int (V 0 6), .int (V 0 7), .int (V 0 8), .int (V 0 9), .int (V 0 10)])
  else if c = 1 then g_rf 5 (fun i => ad r (7 + i)) (tb 2)
  else if c = 2 then g_rf 16 (fun i => ad r (12 + i)) (tb 3)
  else if c = 3 then .inl (tb 0, 3, .inl (V 3))
  else if c = 4 then .inl (tb 0, 4, .inl (V 4))
  else if c = 5 then .inl (tb 0, 8, .inl (V 5))
  else .inl (tb 0, 3, .inl (V 6))
def g_G (tb : g_T) (ad : g_Ad) (P : g_P) (V : g_V) (c : Nat) : va_E :=
  if c = 0 then .inr (4, [.ref (ad 6 1), .ref (ad 6 4), .int (V 0 2), .ref (ad (P 0) 0), .ref (ad (P 1) 0)])
  else if c = 1 then .inr (2, [.ref (ad 6 2), .ref (ad 6 3), .int (V 1 2), .int (V 1 3), .int (V 1 4), .int (V 1 5), .int (V 1 6), .int (V 1 7)])
  else if c = 2 then .inl (tb 1, 60, .inl (V 2))
  else if c = 3 then .inl (tb 0, 3, .inl (V 3))
  else g_rf 4 (fun i => ad (P (2 + i)) 0) (tb 4)
def g_X (tb : g_T) (ad : g_Ad) (V : g_V) (c : Nat) : va_E :=
  if c = 0 then .inr (5, [.ref (ad 7 1), .ref (ad 7 2), .ref (ad 7 3), .int (V 0 3), .ref (ad 7 4), .int (V 0 5), .int (V 0 6), .int (V 0 7), .int (V 0 8), .int (V 0 9), .int (V 0 10), .ref (ad 7 5)])
  else if c = 1 then .inl (tb 0, 146, .inl (V 1))
  else if c = 2 then .inl (tb 0, 146, .inl (V 2))
  else if c = 3 then .inl (tb 0, 584, .inl (V 3))
  else if c = 4 then .inl (tb 0, 60, .inl (V 4))
  else .inl (tb 0, 3, .inl (V 5))
def g_E (tb : g_T) (ad : g_Ad) (P : g_P) (M : g_M) (r c : Nat) : va_E :=
  if r < 6 then g_S tb ad (M r) r c else if r = 6 then g_G tb ad P (M 6) c else g_X tb ad (M 7) c
def g_W (tb : g_T) (ad : g_Ad) (P : g_P) (M : g_M) : va_W := g_L.map (fun q => (ad q.1 q.2, g_E tb ad P M q.1 q.2))
def g_tys (tb : g_T) : List (ClassId × FieldType) := [(tb 0, .int), (tb 1, .char), (tb 2, .object RX0), (tb 3, .object RX1), (tb 4, .object RX3)]
theorem g_at {tb : g_T} {ad : g_Ad} {P : g_P} {M : g_M} {r c : Nat} (h : g_ok r c = true) {e : va_E} (he : g_E tb ad P M r c = e) : ∃ q : Nat, g_L[q]? = some (r, c) ∧ (g_W tb ad P M)[q]? = some (ad r c, e) := by
  obtain ⟨q, hq⟩ := List.getElem?_of_mem (g_L_mem h)
  refine ⟨q, hq, ?_⟩
  rw [g_W, List.getElem?_map, hq, ← he]
  rfl
/-- one cell written: the picture's list with one entry set is the new picture's -/
theorem g_W_set {tb : g_T} {ad : g_Ad} {P P' : g_P} {M M' : g_M} {r c q : Nat} {e : va_E} (hq : g_L[q]? = some (r, c)) (he : g_E tb ad P' M' r c = e) (hs : ∀ r' c', g_ok r' c' = true → ¬ (r' = r ∧ c' = c) → g_E tb ad P' M' r' c' = g_E tb ad P M r' c') : (g_W tb ad P M).set q (ad r c, e) = g_W tb ad P' M' := by
  have hl := (List.getElem?_eq_some_iff.mp hq).1
  apply List.ext_getElem?
  intro k
  by_cases hk : k = q
  · subst hk
    rw [List.getElem?_set_self (by rw [g_W, List.length_map]; exact hl), g_W, List.getElem?_map, hq, ← he]
    rfl
  · rw [List.getElem?_set_ne (Ne.symm hk), g_W, g_W, List.getElem?_map, List.getElem?_map]
    cases hx : g_L[k]? with
    | none => rfl
    | some p =>
      obtain ⟨r', c'⟩ := p
      have hne : ¬ (r' = r ∧ c' = c) := fun z => by
        obtain ⟨rfl, rfl⟩ := z
        exact hk (g_nd g_L_nd hx hq)
      show some (ad r' c', _) = some (ad r' c', _)
      rw [hs r' c' (g_L_ok (List.mem_of_getElem? hx)) hne]
/-- the addresses are apart -/
def g_inj (ad : g_Ad) : Prop := ∀ r c r' c', g_ok r c = true → g_ok r' c' = true → ad r c = ad r' c' → r = r' ∧ c = c'
def g_A (ad : g_Ad) : Nat → Prop := fun q => ∃ r c, g_ok r c = true ∧ q = ad r c
theorem g_D {A : Nat → Prop} {tb : g_T} {ad : g_Ad} {P : g_P} {M : g_M} (hi : g_inj ad) (hA : ∀ r c, g_ok r c = true → A (ad r c)) : va_D A (g_W tb ad P M) := by
  have key : ∀ (k : Nat) (p : Nat × va_E), (g_W tb ad P M)[k]? = some p → ∃ r c, g_L[k]? = some (r, c) ∧ g_ok r c = true ∧ p.1 = ad r c := by
    intro k p hk
    rw [g_W, List.getElem?_map] at hk
    cases hx : g_L[k]? with
    | none => rw [hx] at hk; cases hk
    | some q =>
      rw [hx] at hk
      cases hk
      exact ⟨q.1, q.2, rfl, g_L_ok (List.mem_of_getElem? hx), rfl⟩
  refine ⟨fun i j x y hx hy hxy => ?_, fun k q hk => ?_⟩
  · obtain ⟨r, c, h1, h2, h3⟩ := key i x hx
    obtain ⟨r', c', h4, h5, h6⟩ := key j y hy
    obtain ⟨rfl, rfl⟩ := hi r c r' c' h2 h5 (h3.symm.trans (hxy.trans h6))
    exact g_nd g_L_nd h1 h4
  · obtain ⟨r, c, -, h2, h3⟩ := key k q hk
    rw [h3]
    exact hA r c h2
/-- words of the nest, and the two static tables -/
def g_nest : List Cond := [.methodLinkNest RX3 70 yX4_isGrade RX4, .methodLinkNest RX3 122 yX4_isOwner RX4, .methodLinkNest RX3 129 yX4_isLender RX4, .methodLinkNest RX3 165 yX4_isBin RX4, .methodLinkNest RX3 176 yX4_isSetting RX4, .methodLinkNest RX3 221 yX4_bitsOf RX4, .methodLinkNest RX2 50 yX4_isError RX4,
  .fieldLinkNest RX4 104 RX2 "length" "I" RX4, .fieldLinkNest RX4 131 RX2 "ordersDone" "I" RX4, .fieldLinkNest RX4 122 RX2 "faultPosition" "I" RX4, .fieldLinkNest RX4 118 RX2 "faultReason" "I" RX4, .fieldLinkNest RX4 125 RX2 "faultCause" "I" RX4, .fieldLinkNest RX3 179 RX4 "LEAST_SETTINGS" "[I" RX4, .fieldLinkNest RX3 182 RX4 "GREATEST_SETTINGS" "[I" RX4]
def g_N (U : State) : Prop := ∀ w ∈ g_nest, va_Nw w U
theorem g_N.warm {s U : State} (hW : s.WarmedH U.vm) (h : g_N s) : g_N U := by
  intro w hw
  have h1 := h w hw
  simp only [g_nest, List.mem_cons, List.not_mem_nil, or_false] at hw
  rcases hw with rfl | rfl | rfl | rfl | rfl | rfl | rfl | rfl | rfl | rfl | rfl | rfl | rfl | rfl <;> first | exact h1.warmF hW | exact h1.warmM hW
def g_least (j : Nat) : Int32 := if j = 2 then 1 else if j = 3 then 0 else 10
def g_great (j : Nat) : Int32 := if j = 0 then 100 else if j = 1 then 150 else if j = 2 then 30 else 20
def g_sta (A : Nat → Prop) (U : State) (H : Heap) : Prop :=
  (∃ t, va_Z "GrainReceipts" "LEAST_SETTINGS" "[I" (.ref t) A U H ∧ va_T .int t 4 (fun j => .int (g_least j)) A U H) ∧ ∃ t, va_Z "GrainReceipts" "GREATEST_SETTINGS" "[I" (.ref t) A U H ∧ va_T .int t 4 (fun j => .int (g_great j)) A U H
theorem g_sta.moved {A : Nat → Prop} {u U : State} {H : Heap} (hvm : u.vm.Alike U.vm) (h : g_sta A u H) : g_sta A U H := by
  obtain ⟨⟨t, h1, h2⟩, t', h3, h4⟩ := h
  exact ⟨⟨t, h1.moved hvm, h2.moved hvm⟩, t', h3.moved hvm, h4.moved hvm⟩
theorem g_sta.kept {A : Nat → Prop} {U : State} {H H1 : Heap} (h : g_sta A U H) (hq : ∀ a : Nat, a < H.size → ¬ A a → H1[a]? = H[a]?) : g_sta A U H1 := by
  obtain ⟨⟨t, h1, h2⟩, t', h3, h4⟩ := h
  exact ⟨⟨t, h1.kept hq, h2.kept hq⟩, t', h3.kept hq, h4.kept hq⟩
theorem g_sta.narrow {A B : Nat → Prop} {U : State} {H : Heap} (h : g_sta A U H) (hAB : ∀ q, B q → A q) : g_sta B U H := by
  obtain ⟨⟨t, h1, h2⟩, t', h3, h4⟩ := h
  exact ⟨⟨t, h1.narrow hAB, h2.narrow hAB⟩, t', h3.narrow hAB, h4.narrow hAB⟩
/-- what stands at a method's start, and at its end -/
def g_pre (D : va_G) (tb : g_T) (ad : g_Ad) (P : g_P) (M : g_M) (U : State) : Prop :=
  va_P D vwCl (g_W tb ad P M) U.heap ∧ va_K D vwCl (g_tys tb) U ∧ g_N U ∧ g_sta (g_A ad) U U.heap
/-- what stands all through a method -/
def g_C (D : va_G) (tb : g_T) (ad : g_Ad) (A : Nat → Prop) (s : State) : Prop :=
  va_K D vwCl (g_tys tb) s ∧ g_N s ∧ g_sta A s s.heap ∧ g_inj ad ∧ ∀ r c, g_ok r c = true → A (ad r c)
/-- what stands at a point -/
def g_I (D : va_G) (tb : g_T) (ad : g_Ad) (A : Nat → Prop) (s : State) (H : Heap) (locs : List Loc) (P : g_P) (M : g_M) : Prop :=
  va_P D vwCl (g_W tb ad P M) H ∧ va_S A s.heap H locs
theorem g_C.A {D : va_G} {tb : g_T} {ad : g_Ad} {A : Nat → Prop} {s : State} (h : g_C D tb ad A s) : ∀ q, g_A ad q → A q := by
  rintro q ⟨r, c, hk, rfl⟩
  exact h.2.2.2.2 r c hk
section GL
variable {p : Program} {l : Launch} {e : Env} {R : Room} {s : State} {m : MethodId} {args : Array Value} {below : List Frame} {meth : Method} {c : Code} {H : Heap} {locs : List Loc} {cells slots : Nat} {Q : State → Prop}
variable {cc : ByteArray} {pc : Nat} {ls : Array Slot} {rest : List Value} {D : va_G} {tb : g_T} {ad : g_Ad} {A : Nat → Prop} {P P' : g_P} {M M' : g_M} {r0 c0 : Nat} {own : String} {index : Nat}
/-- a field is read -/
theorem g_get (k : Nat) {ci : Nat} {C ref : String} {T : u_T} {N : Nat} {fs : List Value} {v : Value} (hexec : p.tables.exec = Jvm.exec) (hb : c.code = cc) (hts : ∀ w ∈ g_tbl, w.before args s = true) (hown : s.vm.findClass own = some m.cls) (hC : g_C D tb ad A s) (hI : g_I D tb ad A s H locs P M) (hin : ∀ w ∈ u_ws C T N, w ∈ g_tbl)
    (hok : g_ok r0 c0 = true) (he : g_E tb ad P M r0 c0 = .inr (ci, fs)) (hc : vwCl[ci]? = some (C, T, N)) (hk : k < N) (hlink : (Cond.fieldLink own index ref (T k).2.1 (T k).2.2.1) ∈ g_tbl) (hr : (T k).1 = ref) (hv : fs[k]? = some v) (hdg : decode cc pc = .ok (.getfield index, 3))
    (kk : W p l e R s m args below meth c H locs cells slots Q (F0 m (pc + 3) ls (v :: rest))) : W p l e R s m args below meth c H locs cells slots Q (F0 m pc ls (.ref (ad r0 c0) :: rest)) := by
  obtain ⟨q, -, hq⟩ := g_at hok he
  subst hr
  exact va_get hexec hb hts hin hown hC.1 hI.1 q hq hc k hk (hts _ hlink) (fun _ h => h) hv hdg kk
/-- a field of a nest mate is read -/
theorem g_getN (k : Nat) {ci : Nat} {C ref host : String} {T : u_T} {N : Nat} {fs : List Value} {v : Value} (hexec : p.tables.exec = Jvm.exec) (hb : c.code = cc) (hts : ∀ w ∈ g_tbl, w.before args s = true) (hown : s.vm.findClass own = some m.cls) (hC : g_C D tb ad A s) (hI : g_I D tb ad A s H locs P M) (hin : ∀ w ∈ u_ws C T N, w ∈ g_tbl)
    (hok : g_ok r0 c0 = true) (he : g_E tb ad P M r0 c0 = .inr (ci, fs)) (hc : vwCl[ci]? = some (C, T, N)) (hk : k < N) (hlink : (Cond.fieldLinkNest own index ref (T k).2.1 (T k).2.2.1 host) ∈ g_nest) (hr : (T k).1 = ref) (hv : fs[k]? = some v) (hdg : decode cc pc = .ok (.getfield index, 3))
    (kk : W p l e R s m args below meth c H locs cells slots Q (F0 m (pc + 3) ls (v :: rest))) : W p l e R s m args below meth c H locs cells slots Q (F0 m pc ls (.ref (ad r0 c0) :: rest)) := by
  obtain ⟨q, -, hq⟩ := g_at hok he
  subst hr
  exact va_getN hexec hb hts hin hown hC.1 hI.1 q hq hc k hk (va_Nw.use rfl (hC.2.1 _ hlink)) (fun _ h => h) hv hdg kk
/-- a field is written -/
theorem g_put (k : Nat) {ci : Nat} {C ref : String} {T : u_T} {N : Nat} {fs : List Value} {v : Value} {ty : FieldType} {ty0 : Nat → FieldType} (hexec : p.tables.exec = Jvm.exec) (hb : c.code = cc) (hts : ∀ w ∈ g_tbl, w.before args s = true) (hown : s.vm.findClass own = some m.cls) (hC : g_C D tb ad A s) (hI : g_I D tb ad A s H locs P M) (hin : ∀ w ∈ u_ws C T N, w ∈ g_tbl)
    (hty : ∀ k, k < N → parseFieldDescriptor (T k).2.2.1 = some (ty0 k)) (hnm : ∀ a, a < N → ∀ b, b < N → a ≠ b → (T a).2.1 ≠ (T b).2.1) (hok : g_ok r0 c0 = true) (he : g_E tb ad P M r0 c0 = .inr (ci, fs)) (hc : vwCl[ci]? = some (C, T, N)) (hk : k < N) (hlink : (Cond.fieldLink own index ref (T k).2.1 (T k).2.2.1) ∈ g_tbl) (hr : (T k).1 = ref)
    (hfin : (T k).2.2.2 = false) (htyk : ty0 k = ty) (hn : narrow ty v = v) (hfit : fits ty v = true) (hl : k < fs.length) (he' : g_E tb ad P' M' r0 c0 = .inr (ci, fs.set k v)) (hs : ∀ r' c', g_ok r' c' = true → ¬ (r' = r0 ∧ c' = c0) → g_E tb ad P' M' r' c' = g_E tb ad P M r' c') (hdg : decode cc pc = .ok (.putfield index, 3))
    (kk : ∀ (H1 : Heap) (locs1 : List Loc), g_I D tb ad A s H1 locs1 P' M' → W p l e R s m args below meth c H1 locs1 cells slots Q (F0 m (pc + 3) ls rest)) : W p l e R s m args below meth c H locs cells slots Q (F0 m pc ls (v :: .ref (ad r0 c0) :: rest)) := by
  obtain ⟨q, hq0, hq⟩ := g_at hok he
  subst hr
  refine va_put hexec hb hts hin ty0 hty hnm hown hC.1 hI.1 (g_D hC.2.2.2.1 hC.2.2.2.2) hI.2 q hq hc k hk (hts _ hlink) (fun _ h => h) hfin ((hty k hk).trans (congrArg some htyk)) hn hfit hl hdg (fun H1 locs1 h1 h2 h3 => kk H1 locs1 ⟨?_, h3⟩)
  rw [g_W_set hq0 he' hs] at h1
  exact h1
/-- a field of a nest mate is written -/
theorem g_putN (k : Nat) {ci : Nat} {C ref host : String} {T : u_T} {N : Nat} {fs : List Value} {v : Value} {ty : FieldType} {ty0 : Nat → FieldType} (hexec : p.tables.exec = Jvm.exec) (hb : c.code = cc) (hts : ∀ w ∈ g_tbl, w.before args s = true) (hown : s.vm.findClass own = some m.cls) (hC : g_C D tb ad A s) (hI : g_I D tb ad A s H locs P M) (hin : ∀ w ∈ u_ws C T N, w ∈ g_tbl)
    (hty : ∀ k, k < N → parseFieldDescriptor (T k).2.2.1 = some (ty0 k)) (hnm : ∀ a, a < N → ∀ b, b < N → a ≠ b → (T a).2.1 ≠ (T b).2.1) (hok : g_ok r0 c0 = true) (he : g_E tb ad P M r0 c0 = .inr (ci, fs)) (hc : vwCl[ci]? = some (C, T, N)) (hk : k < N) (hlink : (Cond.fieldLinkNest own index ref (T k).2.1 (T k).2.2.1 host) ∈ g_nest) (hr : (T k).1 = ref)
    (hfin : (T k).2.2.2 = false) (htyk : ty0 k = ty) (hn : narrow ty v = v) (hfit : fits ty v = true) (hl : k < fs.length) (he' : g_E tb ad P' M' r0 c0 = .inr (ci, fs.set k v)) (hs : ∀ r' c', g_ok r' c' = true → ¬ (r' = r0 ∧ c' = c0) → g_E tb ad P' M' r' c' = g_E tb ad P M r' c') (hdg : decode cc pc = .ok (.putfield index, 3))
    (kk : ∀ (H1 : Heap) (locs1 : List Loc), g_I D tb ad A s H1 locs1 P' M' → W p l e R s m args below meth c H1 locs1 cells slots Q (F0 m (pc + 3) ls rest)) : W p l e R s m args below meth c H locs cells slots Q (F0 m pc ls (v :: .ref (ad r0 c0) :: rest)) := by
  obtain ⟨q, hq0, hq⟩ := g_at hok he
  subst hr
  refine va_putN hexec hb hts hin ty0 hty hnm hown hC.1 hI.1 (g_D hC.2.2.2.1 hC.2.2.2.2) hI.2 q hq hc k hk (va_Nw.use rfl (hC.2.1 _ hlink)) (fun _ h => h) hfin ((hty k hk).trans (congrArg some htyk)) hn hfit hl hdg (fun H1 locs1 h1 h2 h3 => kk H1 locs1 ⟨?_, h3⟩)
  rw [g_W_set hq0 he' hs] at h1
  exact h1
/-- an int of an int array -/
theorem g_iald {n : Nat} {f : Nat → Int32} {i : Int32} (j : Nat) (hexec : p.tables.exec = Jvm.exec) (hb : c.code = cc) (hC : g_C D tb ad A s) (hI : g_I D tb ad A s H locs P M) (hok : g_ok r0 c0 = true) (he : g_E tb ad P M r0 c0 = .inl (tb 0, n, .inl f)) (hin : vp_in i n) (hj : i.toNatClampNeg = j) (hdg : decode cc pc = .ok (.iaload, 1))
    (kk : W p l e R s m args below meth c H locs cells slots Q (F0 m (pc + 1) ls (.int (f j) :: rest))) : W p l e R s m args below meth c H locs cells slots Q (F0 m pc ls (.int i :: .ref (ad r0 c0) :: rest)) := by
  obtain ⟨q, -, hq⟩ := g_at hok he
  subst hj
  exact va_iald hexec hb hC.1 hI.1 q 0 hq rfl hin hdg kk
theorem g_iast {n : Nat} {f : Nat → Int32} {i x : Int32} (j : Nat) (hexec : p.tables.exec = Jvm.exec) (hb : c.code = cc) (hC : g_C D tb ad A s) (hI : g_I D tb ad A s H locs P M) (hok : g_ok r0 c0 = true) (he : g_E tb ad P M r0 c0 = .inl (tb 0, n, .inl f)) (hin : vp_in i n) (hj : i.toNatClampNeg = j)
    (he' : g_E tb ad P' M' r0 c0 = .inl (tb 0, n, .inl (upd f j x))) (hs : ∀ r' c', g_ok r' c' = true → ¬ (r' = r0 ∧ c' = c0) → g_E tb ad P' M' r' c' = g_E tb ad P M r' c') (hdg : decode cc pc = .ok (.iastore, 1))
    (kk : ∀ (H1 : Heap) (locs1 : List Loc), g_I D tb ad A s H1 locs1 P' M' → W p l e R s m args below meth c H1 locs1 cells slots Q (F0 m (pc + 1) ls rest)) : W p l e R s m args below meth c H locs cells slots Q (F0 m pc ls (.int x :: .int i :: .ref (ad r0 c0) :: rest)) := by
  obtain ⟨q, hq0, hq⟩ := g_at hok he
  subst hj
  refine va_iast hexec hb hC.1 hI.1 (g_D hC.2.2.2.1 hC.2.2.2.2) hI.2 q 0 hq rfl hin hdg (fun H1 locs1 h1 h2 h3 => kk H1 locs1 ⟨?_, h3⟩)
  rw [g_W_set hq0 he' hs] at h1
  exact h1
theorem g_cald {n : Nat} {f : Nat → Int32} {i : Int32} (j : Nat) (hexec : p.tables.exec = Jvm.exec) (hb : c.code = cc) (hC : g_C D tb ad A s) (hI : g_I D tb ad A s H locs P M) (hok : g_ok r0 c0 = true) (he : g_E tb ad P M r0 c0 = .inl (tb 1, n, .inl f)) (hin : vp_in i n) (hj : i.toNatClampNeg = j) (hdg : decode cc pc = .ok (.caload, 1))
    (kk : W p l e R s m args below meth c H locs cells slots Q (F0 m (pc + 1) ls (.int (f j) :: rest))) : W p l e R s m args below meth c H locs cells slots Q (F0 m pc ls (.int i :: .ref (ad r0 c0) :: rest)) := by
  obtain ⟨q, -, hq⟩ := g_at hok he
  subst hj
  exact va_cald hexec hb hC.1 hI.1 q 1 hq rfl hin hdg kk
theorem g_cast {n : Nat} {f : Nat → Int32} {i x : Int32} (j : Nat) (hexec : p.tables.exec = Jvm.exec) (hb : c.code = cc) (hC : g_C D tb ad A s) (hI : g_I D tb ad A s H locs P M) (hok : g_ok r0 c0 = true) (he : g_E tb ad P M r0 c0 = .inl (tb 1, n, .inl f)) (hin : vp_in i n) (hj : i.toNatClampNeg = j)
    (he' : g_E tb ad P' M' r0 c0 = .inl (tb 1, n, .inl (upd f j (vp_nar .char x)))) (hs : ∀ r' c', g_ok r' c' = true → ¬ (r' = r0 ∧ c' = c0) → g_E tb ad P' M' r' c' = g_E tb ad P M r' c') (hdg : decode cc pc = .ok (.castore, 1))
    (kk : ∀ (H1 : Heap) (locs1 : List Loc), g_I D tb ad A s H1 locs1 P' M' → W p l e R s m args below meth c H1 locs1 cells slots Q (F0 m (pc + 1) ls rest)) : W p l e R s m args below meth c H locs cells slots Q (F0 m pc ls (.int x :: .int i :: .ref (ad r0 c0) :: rest)) := by
  obtain ⟨q, hq0, hq⟩ := g_at hok he
  subst hj
  refine va_cast hexec hb hC.1 hI.1 (g_D hC.2.2.2.1 hC.2.2.2.2) hI.2 q 1 hq rfl hin hdg (fun H1 locs1 h1 h2 h3 => kk H1 locs1 ⟨?_, h3⟩)
  rw [g_W_set hq0 he' hs] at h1
  exact h1
/-- a reference of an array of them; t0: which kind of array -/
theorem g_aald (t0 : Nat) {n : Nat} {f : Nat → Nat} {C : String} {i : Int32} (j : Nat) (hexec : p.tables.exec = Jvm.exec) (hb : c.code = cc) (hC : g_C D tb ad A s) (hI : g_I D tb ad A s H locs P M) (hok : g_ok r0 c0 = true) (he : g_E tb ad P M r0 c0 = g_rf n f (tb t0)) (ht : (g_tys tb)[t0]? = some (tb t0, .object C)) (hin : vp_in i n) (hj : i.toNatClampNeg = j) (hdg : decode cc pc = .ok (.aaload, 1))
    (kk : W p l e R s m args below meth c H locs cells slots Q (F0 m (pc + 1) ls (.ref (f j) :: rest))) : W p l e R s m args below meth c H locs cells slots Q (F0 m pc ls (.int i :: .ref (ad r0 c0) :: rest)) := by
  obtain ⟨q, -, hq⟩ := g_at hok he
  subst hj
  exact va_aldq hexec hb hC.1 hI.1 q t0 hq ht hin hdg kk
theorem g_aast (t0 ci : Nat) {n : Nat} {f f' : Nat → Nat} {r : vw_C} {vs : List Value} {rv cv : Nat} {i : Int32} (j : Nat) (hexec : p.tables.exec = Jvm.exec) (hb : c.code = cc) (hC : g_C D tb ad A s) (hI : g_I D tb ad A s H locs P M) (hok : g_ok r0 c0 = true) (he : g_E tb ad P M r0 c0 = g_rf n f (tb t0)) (ht : (g_tys tb)[t0]? = some (tb t0, .object r.1)) (hokv : g_ok rv cv = true) (hev : g_E tb ad P M rv cv = .inr (ci, vs)) (hcv : vwCl[ci]? = some r) (hin : vp_in i n) (hj : i.toNatClampNeg = j)
    (hf : ∀ k, f' k = if k = j then ad rv cv else f k) (he' : g_E tb ad P' M' r0 c0 = g_rf n f' (tb t0)) (hs : ∀ r' c', g_ok r' c' = true → ¬ (r' = r0 ∧ c' = c0) → g_E tb ad P' M' r' c' = g_E tb ad P M r' c') (hdg : decode cc pc = .ok (.aastore, 1))
    (kk : ∀ (H1 : Heap) (locs1 : List Loc), g_I D tb ad A s H1 locs1 P' M' → W p l e R s m args below meth c H1 locs1 cells slots Q (F0 m (pc + 1) ls rest)) : W p l e R s m args below meth c H locs cells slots Q (F0 m pc ls (.ref (ad rv cv) :: .int i :: .ref (ad r0 c0) :: rest)) := by
  obtain ⟨q, hq0, hq⟩ := g_at hok he
  obtain ⟨qv, -, hqv⟩ := g_at hokv hev
  subst hj
  refine va_astq hexec hb hC.1 hI.1 (g_D hC.2.2.2.1 hC.2.2.2.2) hI.2 q t0 qv ci hq ht hqv hcv hin hdg (fun H1 locs1 h1 h2 h3 => kk H1 locs1 ⟨?_, h3⟩)
  have e1 : va_up (fun i => some (f i)) i.toNatClampNeg (some (ad rv cv)) = fun k => some (f' k) := by
    funext k
    rw [hf k]
    unfold va_up
    split <;> rfl
  rw [e1, g_W_set hq0 he' hs] at h1
  exact h1
theorem g_alen (t0 : Nat) {x : vp_A} {ty : FieldType} {v : Int32} (hexec : p.tables.exec = Jvm.exec) (hb : c.code = cc) (hC : g_C D tb ad A s) (hI : g_I D tb ad A s H locs P M) (hok : g_ok r0 c0 = true) (he : g_E tb ad P M r0 c0 = .inl (tb t0, x)) (ht : (g_tys tb)[t0]? = some (tb t0, ty)) (hv : Int32.ofNat x.1 = v) (hdg : decode cc pc = .ok (.arraylength, 1))
    (kk : W p l e R s m args below meth c H locs cells slots Q (F0 m (pc + 1) ls (.int v :: rest))) : W p l e R s m args below meth c H locs cells slots Q (F0 m pc ls (.ref (ad r0 c0) :: rest)) := by
  obtain ⟨q, -, hq⟩ := g_at hok he
  exact va_alen hexec hb hC.1 hI.1 q t0 hq ht hv hdg kk
end GL
end
section
/-! ===== contracts over the picture, calls, starts and ends ===== -/
def g_w2 (V : g_V) (c k : Nat) (x : Int32) : g_V := va_up V c (upd (V c) k x)
theorem g_eta (M : g_M) (r : Nat) : va_up M r (M r) = M := by
  funext j
  unfold va_up
  split
  · next h => rw [h]
  · rfl
theorem g_up2 {α : Type} (M : Nat → α) (r : Nat) (x y : α) : va_up (va_up M r x) r y = va_up M r y := by
  funext j
  unfold va_up
  split <;> rfl
theorem g_S_congr {tb : g_T} {ad : g_Ad} {V V' : g_V} {r c : Nat} (h : V c = V' c) : g_S tb ad V r c = g_S tb ad V' r c := by
  unfold g_S
  by_cases h0 : c = 0
  · subst h0; simp [h]
  by_cases h3 : c = 3
  · subst h3; simp [h]
  by_cases h4 : c = 4
  · subst h4; simp [h]
  by_cases h5 : c = 5
  · subst h5; simp [h]
  by_cases h1 : c = 1
  · subst h1; simp
  by_cases h2 : c = 2
  · subst h2; simp
  by_cases h6 : c = 6
  · subst h6; simp [h]
  by_cases h7 : 7 ≤ c
  · simp [h0, h1, h2, h3, h4, h5, h7, h]
  · omega
theorem g_G_congr {tb : g_T} {ad : g_Ad} {P : g_P} {V V' : g_V} {c : Nat} (hc : c < 5) (h : V c = V' c) : g_G tb ad P V c = g_G tb ad P V' c := by
  unfold g_G
  rcases (show c = 0 ∨ c = 1 ∨ c = 2 ∨ c = 3 ∨ c = 4 by omega) with rfl | rfl | rfl | rfl | rfl <;> simp [h]
theorem g_X_congr {tb : g_T} {ad : g_Ad} {V V' : g_V} {c : Nat} (hc : c < 6) (h : V c = V' c) : g_X tb ad V c = g_X tb ad V' c := by
  unfold g_X
  rcases (show c = 0 ∨ c = 1 ∨ c = 2 ∨ c = 3 ∨ c = 4 ∨ c = 5 by omega) with rfl | rfl | rfl | rfl | rfl | rfl <;> simp [h]
theorem g_G_big {tb : g_T} {ad : g_Ad} {P : g_P} {V V' : g_V} {c : Nat} (hc : 5 ≤ c) : g_G tb ad P V c = g_G tb ad P V' c := by
  unfold g_G
  rw [if_neg (by omega), if_neg (by omega), if_neg (by omega), if_neg (by omega), if_neg (by omega), if_neg (by omega), if_neg (by omega), if_neg (by omega)]
theorem g_E_congr {tb : g_T} {ad : g_Ad} {P : g_P} {M M' : g_M} {r c : Nat} (h : M (if r < 6 then r else if r = 6 then 6 else 7) (if r < 6 then c else if r = 6 then c else if c < 6 then c else 5) = M' (if r < 6 then r else if r = 6 then 6 else 7) (if r < 6 then c else if r = 6 then c else if c < 6 then c else 5)) : g_E tb ad P M r c = g_E tb ad P M' r c := by
  unfold g_E
  by_cases hr : r < 6
  · rw [if_pos hr, if_pos hr]
    rw [if_pos hr, if_pos hr] at h
    exact g_S_congr h
  · by_cases h6 : r = 6
    · rw [if_neg hr, if_neg hr, if_pos h6, if_pos h6]
      rw [if_neg hr, if_neg hr, if_pos h6, if_pos h6] at h
      by_cases hc : c < 5
      · exact g_G_congr hc h
      · exact g_G_big (by omega)
    · rw [if_neg hr, if_neg hr, if_neg h6, if_neg h6]
      rw [if_neg hr, if_neg hr, if_neg h6, if_neg h6] at h
      by_cases hc : c < 6
      · rw [if_pos hc] at h
        exact g_X_congr hc h
      · rw [if_neg hc] at h
        unfold g_X
        rw [if_neg (by omega), if_neg (by omega), if_neg (by omega), if_neg (by omega), if_neg (by omega), if_neg (by omega), if_neg (by omega), if_neg (by omega), if_neg (by omega), if_neg (by omega), h]
/-- a region written at one cell: all else shows as before -/
theorem g_ok_2 {r c : Nat} (h : g_ok r c = true) : r < 8 ∧ (r = 7 → c < 6) := by
  refine ⟨(g_ok_lt h).1, fun e => ?_⟩
  subst e
  simpa [g_ok] using h
theorem g_hs {tb : g_T} {ad : g_Ad} {P : g_P} {M : g_M} {V : g_V} {r c k : Nat} {x : Int32} : ∀ r' c', g_ok r' c' = true → ¬ (r' = r ∧ c' = c) → g_E tb ad P (va_up M r (g_w2 V c k x)) r' c' = g_E tb ad P (va_up M r V) r' c' := by
  intro r' c' hk h
  obtain ⟨h8, h7⟩ := g_ok_2 hk
  refine g_E_congr ?_
  have e1 : (if r' < 6 then r' else if r' = 6 then 6 else 7) = r' := by split; rfl; split <;> omega
  have e2 : (if r' < 6 then c' else if r' = 6 then c' else if c' < 6 then c' else 5) = c' := by
    split
    · rfl
    · split
      · rfl
      · rw [if_pos (h7 (by omega))]
  rw [e1, e2]
  by_cases hrr : r' = r
  · subst hrr
    rw [va_up_self, va_up_self]
    exact va_up_ne V _ (fun z => h ⟨rfl, z⟩)
  · rw [va_up_ne M _ hrr, va_up_ne M _ hrr]
def g_Ci (l : Launch) (y : MethodName) (cd : ByteArray) (n : Nat) (ret : Option FieldType) (rm : Room) (D : va_G) (tb : g_T) (ad : g_Ad) (av : List Value) (P : g_P) (M : g_M) (fr : Int32) (P' : g_P) (M' : g_M) : Prop :=
  Met l y (g_ws y cd n ret) rm (va_Pc av (g_pre D tb ad P M)) (va_Qi (fun r (_ : Unit) => r = fr) (fun _ => g_pre D tb ad P' M') (g_A ad)) 0 0 (g_A ad)
def g_Cv (l : Launch) (y : MethodName) (cd : ByteArray) (n : Nat) (ret : Option FieldType) (rm : Room) (D : va_G) (tb : g_T) (ad : g_Ad) (av : List Value) (P : g_P) (M : g_M) (P' : g_P) (M' : g_M) : Prop :=
  Met l y (g_ws y cd n ret) rm (va_Pc av (g_pre D tb ad P M)) (va_Qv (fun (_ : Unit) => True) (fun _ => g_pre D tb ad P' M') (g_A ad)) 0 0 (g_A ad)
def g_Cq (l : Launch) (y : MethodName) (cd : ByteArray) (n : Nat) (ret : Option FieldType) (rm : Room) (D : va_G) (tb : g_T) (ad : g_Ad) (av : List Value) (P : g_P) (M : g_M) (fr : Option Nat) (P' : g_P) (M' : g_M) : Prop :=
  Met l y (g_ws y cd n ret) rm (va_Pc av (g_pre D tb ad P M)) (va_Qq (fun r (_ : Unit) => r = fr) (fun _ => g_pre D tb ad P' M') (g_A ad)) 0 0 (g_A ad)
def g_mC (y : MethodName) (cd : ByteArray) (n : Nat) (ret : Option FieldType) (np : Nat) : Prop :=
  (Cond.code y cd n ret ∈ g_tbl ∧ Cond.initialized y.cls ∈ g_tbl) ∧ (y.cls ≠ "java/lang/invoke/MethodHandle" ∧ y.cls ≠ "java/lang/invoke/VarHandle") ∧ (parseMethodDescriptor y.desc).map (fun d => d.parameters.length) = some np
def g_mV (y : MethodName) (cd : ByteArray) (n : Nat) (ret : Option FieldType) (np : Nat) : Prop :=
  g_mC y cd n ret np ∧ Cond.instanceMethod y ∈ g_tbl ∧ Cond.selects y.cls y y ∈ g_tbl
def g_mS (y : MethodName) (cd : ByteArray) (n : Nat) (ret : Option FieldType) (np : Nat) : Prop :=
  g_mC y cd n ret np ∧ Cond.static y ∈ g_tbl
theorem g_pay {args : Array Value} {s : State} (ht : ∀ w ∈ g_tbl, w.before args s = true) {y : MethodName} {cd : ByteArray} {n : Nat} {ret : Option FieldType} (hc : Cond.code y cd n ret ∈ g_tbl) : ∀ w ∈ g_ws y cd n ret, ∀ (a' : Array Value) (U : State), s.WarmedH U.vm → w.before a' U = true := by
  intro w hw a' U hW
  have hm : w ∈ g_tbl := by
    rcases List.mem_cons.mp hw with rfl | h
    · exact hc
    · exact h
  exact word_at hW (good_of_word (List.mem_filter.mp hm).2) (ht w hm)
/-- room for a call -/
def g_R (rm : Room) (n : Nat) (R : Room) : Prop := rm.cells = 0 ∧ rm.slots = 0 ∧ rm.frames + 1 ≤ R.frames ∧ 8 + (n + 11) + rm.locals ≤ R.locals
theorem g_cB {R : Room} {args : Array Value} {s : State} (ht : ∀ w ∈ g_tbl, w.before args s = true) {y : MethodName} {cd : ByteArray} {n np : Nat} {ret : Option FieldType} {own : String} {index : Nat} {rm : Room} (hm : g_mC y cd n ret np) (hl : (Cond.methodLink own index y) ∈ g_tbl) (hR : g_R rm n R) : CallB R s args own index y cd n ret (g_ws y cd n ret) rm 0 0 np := by
  refine ⟨hR.1, hR.2.1, hR.2.2.1, hR.2.2.2, g_pay ht hm.1.1, List.mem_cons_self, ht _ hm.1.1, ht _ hm.1.2, hm.2.1, fun sig h => ?_, ht _ hl⟩
  have h2 := hm.2.2
  rw [h] at h2
  exact (Option.some.inj h2).symm
theorem g_cN {R : Room} {args : Array Value} {s : State} (ht : ∀ w ∈ g_tbl, w.before args s = true) {y : MethodName} {cd : ByteArray} {n np : Nat} {ret : Option FieldType} {own host : String} {index : Nat} {rm : Room} (hm : g_mC y cd n ret np) (hl : va_Nw (Cond.methodLinkNest own index y host) s) (hR : g_R rm n R) : va_CN R s args own index y host cd n ret (g_ws y cd n ret) rm 0 0 np := by
  refine ⟨⟨hR.1, hR.2.1, hR.2.2.1, hR.2.2.2, g_pay ht hm.1.1, List.mem_cons_self⟩, ht _ hm.1.1, ht _ hm.1.2, hm.2.1, fun sig h => ?_, va_Nw.use rfl hl⟩
  have h2 := hm.2.2
  rw [h] at h2
  exact (Option.some.inj h2).symm
theorem g_N.call {U : State} {g : JFrame} {mk : MethodId} {a : Array Value} (h : g_N U) : g_N (U.calling g mk a) := by
  intro w hw
  have h1 : g_nest.all (fun w => w.onTables) = true := by decide +kernel
  exact va_Nw.same (List.all_eq_true.mp h1 w hw) (u := U) (U := U.calling g mk a) rfl (h w hw)
theorem g_pre.blind {D : va_G} {tb : g_T} {ad : g_Ad} {P : g_P} {M : g_M} {av : List Value} : FrameBlind (va_Pc av (g_pre D tb ad P M)) := by
  rintro a U g mk ⟨h0, h1, h2, h3, h4⟩
  exact ⟨h0, h1, va_K.moved (u := U) (U := U.calling g mk a) (Vm.Alike.refl U.vm) h2, h3.call, h4.moved (u := U) (U := U.calling g mk a) (Vm.Alike.refl U.vm)⟩
theorem g_pre.of {D : va_G} {tb : g_T} {ad : g_Ad} {A : Nat → Prop} {s : State} {H : Heap} {locs : List Loc} {P : g_P} {M : g_M} (hC : g_C D tb ad A s) (hI : g_I D tb ad A s H locs P M) (U : State) (hU : U.heap = H) (hW : s.WarmedH U.vm) : g_pre D tb ad P M U := by
  refine ⟨by rw [hU]; exact hI.1, va_K.moved hW.alike hC.1, g_N.warm hW hC.2.1, ?_⟩
  rw [hU]
  exact (((hC.2.2.1).kept hI.2.2.1).moved hW.alike).narrow hC.A
section GC
variable {p : Program} {l : Launch} {e : Env} {R : Room} {s : State} {m : MethodId} {args : Array Value} {below : List Frame} {meth : Method} {c : Code} {H : Heap} {locs : List Loc} {cells slots : Nat} {Q : State → Prop}
variable {cc : ByteArray} {pc nL : Nat} {ls : Array Slot} {rest As st0 : List Value} {D : va_G} {tb : g_T} {ad : g_Ad} {A : Nat → Prop} {P P' Pa : g_P} {M M' Ma : g_M} {r0 c0 : Nat} {own : String} {index : Nat}
variable {y : MethodName} {cd : ByteArray} {n np : Nat} {ret : Option FieldType} {rm : Room} {fr : Int32} {fq : Option Nat}
/-- what a call of an instance method needs of its receiver -/
theorem g_PV {ci : Nat} {q : vw_C} {fs : List Value} (hC : g_C D tb ad A s) (hI : g_I D tb ad A s H locs P M) (hok : g_ok r0 c0 = true) (he : g_E tb ad P M r0 c0 = .inr (ci, fs)) (hc : vwCl[ci]? = some q) (hcls : q.1 = y.cls) : PreV s H y.cls (ad r0 c0) (va_Pc (.ref (ad r0 c0) :: As) (g_pre D tb ad P M)) As := by
  obtain ⟨qq, -, hq⟩ := g_at hok he
  refine ⟨g_pre.blind, ?_, fun U hU hW => ⟨rfl, g_pre.of hC hI U hU hW⟩⟩
  rw [← hcls]
  exact va_recv hC.1 hI.1 hc hq
theorem g_callVi {ci : Nat} {q : vw_C} {fs : List Value} (hCt : g_Ci l y cd n ret rm D tb ad (.ref (ad r0 c0) :: As) Pa Ma fr P' M') (hPa : Pa = P) (hMa : Ma = M) (hm : g_mV y cd n ret np) (hx : p.tables.exec = Jvm.exec) (hb : c.code = cc) (hml : c.maxLocals = nL) (hown : s.vm.findClass own = some m.cls) (hts : ∀ w ∈ g_tbl, w.before args s = true) (hC : g_C D tb ad A s) (hI : g_I D tb ad A s H locs P M)
    (hok : g_ok r0 c0 = true) (he : g_E tb ad P M r0 c0 = .inr (ci, fs)) (hc : vwCl[ci]? = some q) (hcls : q.1 = y.cls) (hlink : (Cond.methodLink own index y) ∈ g_tbl) (hnp : As.length = np) (hl : ls.size = nL) (hst : st0 = As.reverse ++ .ref (ad r0 c0) :: rest) (hR : g_R rm n R) (hW : (rest.map fun v => v.category).sum ≤ 8) (hcap : cells ≤ R.cells ∧ slots ≤ R.slots) (hdg : decode cc pc = .ok (.invokevirtual index, 3))
    (kk : ∀ (H1 : Heap) (locs1 : List Loc), g_I D tb ad A s H1 locs1 P' M' → W p l e R s m args below meth c H1 locs1 cells slots Q (F0 m (pc + 3) ls (.int fr :: rest))) : W p l e R s m args below meth c H locs cells slots Q (F0 m pc ls st0) := by
  subst hst; subst hPa; subst hMa
  refine va_calli (va_runV (As := As) (rest := rest) ⟨hx, hb, hml, hown, hts⟩ hCt ⟨g_cB hts hm.1 hlink hR, hts _ hm.2.1, hts _ hm.2.2⟩ (g_PV hC hI hok he hc hcls) rfl hnp hl rfl (lv_room hW) hdg hcap) hI.2 (fun q _ h => hC.A q h) hC.A (fun r u t H1 locs1 ht hvm hw hB hz1 hk1 hS1 => ?_)
  subst hw
  exact kk H1 locs1 ⟨by rw [← ht]; exact hB.1, hS1⟩
theorem g_callVv {ci : Nat} {q : vw_C} {fs : List Value} (hCt : g_Cv l y cd n ret rm D tb ad (.ref (ad r0 c0) :: As) Pa Ma P' M') (hPa : Pa = P) (hMa : Ma = M) (hm : g_mV y cd n ret np) (hx : p.tables.exec = Jvm.exec) (hb : c.code = cc) (hml : c.maxLocals = nL) (hown : s.vm.findClass own = some m.cls) (hts : ∀ w ∈ g_tbl, w.before args s = true) (hC : g_C D tb ad A s) (hI : g_I D tb ad A s H locs P M)
    (hok : g_ok r0 c0 = true) (he : g_E tb ad P M r0 c0 = .inr (ci, fs)) (hc : vwCl[ci]? = some q) (hcls : q.1 = y.cls) (hlink : (Cond.methodLink own index y) ∈ g_tbl) (hnp : As.length = np) (hl : ls.size = nL) (hst : st0 = As.reverse ++ .ref (ad r0 c0) :: rest) (hR : g_R rm n R) (hW : (rest.map fun v => v.category).sum ≤ 8) (hcap : cells ≤ R.cells ∧ slots ≤ R.slots) (hdg : decode cc pc = .ok (.invokevirtual index, 3))
    (kk : ∀ (H1 : Heap) (locs1 : List Loc), g_I D tb ad A s H1 locs1 P' M' → W p l e R s m args below meth c H1 locs1 cells slots Q (F0 m (pc + 3) ls rest)) : W p l e R s m args below meth c H locs cells slots Q (F0 m pc ls st0) := by
  subst hst; subst hPa; subst hMa
  refine va_callv (va_runV (As := As) (rest := rest) ⟨hx, hb, hml, hown, hts⟩ hCt ⟨g_cB hts hm.1 hlink hR, hts _ hm.2.1, hts _ hm.2.2⟩ (g_PV hC hI hok he hc hcls) rfl hnp hl rfl (lv_room hW) hdg hcap) hI.2 (fun q _ h => hC.A q h) hC.A (fun u t H1 locs1 ht hvm hw hB hz1 hk1 hS1 => ?_)
  exact kk H1 locs1 ⟨by rw [← ht]; exact hB.1, hS1⟩
theorem g_callVq {ci : Nat} {q : vw_C} {fs : List Value} (hCt : g_Cq l y cd n ret rm D tb ad (.ref (ad r0 c0) :: As) Pa Ma fq P' M') (hPa : Pa = P) (hMa : Ma = M) (hm : g_mV y cd n ret np) (hx : p.tables.exec = Jvm.exec) (hb : c.code = cc) (hml : c.maxLocals = nL) (hown : s.vm.findClass own = some m.cls) (hts : ∀ w ∈ g_tbl, w.before args s = true) (hC : g_C D tb ad A s) (hI : g_I D tb ad A s H locs P M)
    (hok : g_ok r0 c0 = true) (he : g_E tb ad P M r0 c0 = .inr (ci, fs)) (hc : vwCl[ci]? = some q) (hcls : q.1 = y.cls) (hlink : (Cond.methodLink own index y) ∈ g_tbl) (hnp : As.length = np) (hl : ls.size = nL) (hst : st0 = As.reverse ++ .ref (ad r0 c0) :: rest) (hR : g_R rm n R) (hW : (rest.map fun v => v.category).sum ≤ 8) (hcap : cells ≤ R.cells ∧ slots ≤ R.slots) (hdg : decode cc pc = .ok (.invokevirtual index, 3))
    (kk : ∀ (H1 : Heap) (locs1 : List Loc), g_I D tb ad A s H1 locs1 P' M' → W p l e R s m args below meth c H1 locs1 cells slots Q (F0 m (pc + 3) ls (va_rf fq :: rest))) : W p l e R s m args below meth c H locs cells slots Q (F0 m pc ls st0) := by
  subst hst; subst hPa; subst hMa
  refine va_callq (va_runV (As := As) (rest := rest) ⟨hx, hb, hml, hown, hts⟩ hCt ⟨g_cB hts hm.1 hlink hR, hts _ hm.2.1, hts _ hm.2.2⟩ (g_PV hC hI hok he hc hcls) rfl hnp hl rfl (lv_room hW) hdg hcap) hI.2 (fun q _ h => hC.A q h) hC.A (fun r u t H1 locs1 ht hvm hw hB hz1 hk1 hS1 => ?_)
  subst hw
  exact kk H1 locs1 ⟨by rw [← ht]; exact hB.1, hS1⟩
/-- a static method of the class that calls -/
theorem g_callSi (hCt : g_Ci l y cd n ret rm D tb ad As Pa Ma fr P' M') (hPa : Pa = P) (hMa : Ma = M) (hm : g_mS y cd n ret np) (hx : p.tables.exec = Jvm.exec) (hb : c.code = cc) (hml : c.maxLocals = nL) (hown : s.vm.findClass own = some m.cls) (hts : ∀ w ∈ g_tbl, w.before args s = true) (hC : g_C D tb ad A s) (hI : g_I D tb ad A s H locs P M)
    (hlink : (Cond.methodLink own index y) ∈ g_tbl) (hnp : As.length = np) (hl : ls.size = nL) (hst : st0 = As.reverse ++ rest) (hR : g_R rm n R) (hW : (rest.map fun v => v.category).sum ≤ 8) (hcap : cells ≤ R.cells ∧ slots ≤ R.slots) (hdg : decode cc pc = .ok (.invokestatic index, 3))
    (kk : ∀ (H1 : Heap) (locs1 : List Loc), g_I D tb ad A s H1 locs1 P' M' → W p l e R s m args below meth c H1 locs1 cells slots Q (F0 m (pc + 3) ls (.int fr :: rest))) : W p l e R s m args below meth c H locs cells slots Q (F0 m pc ls st0) := by
  subst hst; subst hPa; subst hMa
  refine va_calli (va_runS (As := As) (rest := rest) ⟨hx, hb, hml, hown, hts⟩ hCt ⟨g_cB hts hm.1 hlink hR, hts _ hm.2⟩ ⟨g_pre.blind, fun U hU hW => ⟨rfl, g_pre.of hC hI U hU hW⟩⟩ rfl hnp hl rfl (lv_room hW) hdg hcap) hI.2 (fun q _ h => hC.A q h) hC.A (fun r u t H1 locs1 ht hvm hw hB hz1 hk1 hS1 => ?_)
  subst hw
  exact kk H1 locs1 ⟨by rw [← ht]; exact hB.1, hS1⟩
/-- a private static method of a nest mate -/
theorem g_callNi {host : String} (hCt : g_Ci l y cd n ret rm D tb ad As Pa Ma fr P' M') (hPa : Pa = P) (hMa : Ma = M) (hm : g_mS y cd n ret np) (hx : p.tables.exec = Jvm.exec) (hb : c.code = cc) (hml : c.maxLocals = nL) (hown : s.vm.findClass own = some m.cls) (hts : ∀ w ∈ g_tbl, w.before args s = true) (hC : g_C D tb ad A s) (hI : g_I D tb ad A s H locs P M)
    (hlink : (Cond.methodLinkNest own index y host) ∈ g_nest) (hnp : As.length = np) (hl : ls.size = nL) (hst : st0 = As.reverse ++ rest) (hR : g_R rm n R) (hW : (rest.map fun v => v.category).sum ≤ 8) (hcap : cells ≤ R.cells ∧ slots ≤ R.slots) (hdg : decode cc pc = .ok (.invokestatic index, 3))
    (kk : ∀ (H1 : Heap) (locs1 : List Loc), g_I D tb ad A s H1 locs1 P' M' → W p l e R s m args below meth c H1 locs1 cells slots Q (F0 m (pc + 3) ls (.int fr :: rest))) : W p l e R s m args below meth c H locs cells slots Q (F0 m pc ls st0) := by
  subst hst; subst hPa; subst hMa
  refine va_calli (va_runSN (As := As) (rest := rest) ⟨hx, hb, hml, hown, hts⟩ hCt ⟨g_cN hts hm.1 (hC.2.1 _ hlink) hR, hts _ hm.2, trivial⟩ ⟨g_pre.blind, fun U hU hW => ⟨rfl, g_pre.of hC hI U hU hW⟩⟩ rfl hnp hl rfl (lv_room hW) hdg hcap) hI.2 (fun q _ h => hC.A q h) hC.A (fun r u t H1 locs1 ht hvm hw hB hz1 hk1 hS1 => ?_)
  subst hw
  exact kk H1 locs1 ⟨by rw [← ht]; exact hB.1, hS1⟩
/-- a method's start -/
theorem g_start {av : List Value} {Qc : Array Value → State → Outcome → State → Prop} {free : Addr → Prop} (hy : plainName y.cls = true) (hav : (lg_sl av).length ≤ n) (hj : g_inj ad)
    (body : ∀ (p : Program) (e : Env) (s : State) (m : MethodId) (below : List Frame) (meth : Method) (c : Code) (ls : Array Slot), p.tables.exec = Jvm.exec → c.code = cd → c.maxLocals = n → meth.sig.returnType = ret → meth.locks = false → s.vm.findClass y.cls = some m.cls → (∀ w ∈ g_tbl, w.before av.toArray s = true) → g_C D tb ad (g_A ad) s → g_I D tb ad (g_A ad) s s.heap [] P M → lv_has ls n (lv_args 0 av) →
      W p l e rm s m av.toArray below meth c s.heap [] 0 0 (MQ below Qc av.toArray s 0 0 free) (F0 m 0 ls [])) :
    Met l y (g_ws y cd n ret) rm (va_Pc av (g_pre D tb ad P M)) Qc 0 0 free := by
  refine Met.ofW (cc := cd) (maxL := n) (ret := ret) hy rfl ?_
  intro p e s m args below meth c s₁ B hml hv
  obtain ⟨rfl, hP, hK, hN, hZ⟩ := hv
  have hts := atoms_spec (ws := g_ws y cd n ret) B.pre
  have hl := lv_entry av (n := n) hav
  rw [lg_entry_eq]
  exact body p e s m below meth c _ B.exec B.bytes hml B.returns B.notSynchronized (findClass_of_methodNamed B.named) (fun w h => hts w (List.mem_cons_of_mem _ h)) ⟨hK, hN, hZ, hj, fun r c h => ⟨r, c, h, rfl⟩⟩ ⟨hP, va_S.rf⟩ hl
theorem g_iret {v : Int32} {ty : FieldType} (hx : p.tables.exec = Jvm.exec) (hb : c.code = cc) (hr : meth.sig.returnType = some ty) (hlocks : meth.locks = false) (hC : g_C D tb ad (g_A ad) s) (hI : g_I D tb ad (g_A ad) s H locs P M) (hn : narrow ty (.int v) = .int v) (hv : v = fr) (hP : P = P') (hM : M = M') (hdg : decode cc pc = .ok (.ireturn, 1)) :
    W p l e R s m args below meth c H locs 0 0 (MQ below (va_Qi (fun r (_ : Unit) => r = fr) (fun _ => g_pre D tb ad P' M') (g_A ad)) args s 0 0 (g_A ad)) (F0 m pc ls [.int v]) := by
  subst hv; subst hP; subst hM
  exact W.zret hx hb hr hn (fun t ht hW => ⟨⟨v, (), rfl, rfl, g_pre.of hC hI t ht hW⟩, hI.2.F ht⟩) hI.2.2.2 hdg hlocks
theorem g_vret (hx : p.tables.exec = Jvm.exec) (hb : c.code = cc) (hr : meth.sig.returnType = none) (hlocks : meth.locks = false) (hC : g_C D tb ad (g_A ad) s) (hI : g_I D tb ad (g_A ad) s H locs P M) (hP : P = P') (hM : M = M') (hdg : decode cc pc = .ok (.return_, 1)) :
    W p l e R s m args below meth c H locs 0 0 (MQ below (va_Qv (fun (_ : Unit) => True) (fun _ => g_pre D tb ad P' M') (g_A ad)) args s 0 0 (g_A ad)) (F0 m pc ls []) := by
  subst hP; subst hM
  exact W.vret hx hb hr (fun t ht hW => ⟨⟨(), rfl, trivial, g_pre.of hC hI t ht hW⟩, hI.2.F ht⟩) hI.2.2.2 hdg hlocks
theorem g_qret {v : Option Nat} {C : String} (hx : p.tables.exec = Jvm.exec) (hb : c.code = cc) (hr : meth.sig.returnType = some (.object C)) (hlocks : meth.locks = false) (hC : g_C D tb ad (g_A ad) s) (hI : g_I D tb ad (g_A ad) s H locs P M) (hv : v = fq) (hP : P = P') (hM : M = M') (hdg : decode cc pc = .ok (.areturn, 1)) {vv : Value} (hvv : vv = va_rf v) :
    W p l e R s m args below meth c H locs 0 0 (MQ below (va_Qq (fun r (_ : Unit) => r = fq) (fun _ => g_pre D tb ad P' M') (g_A ad)) args s 0 0 (g_A ad)) (F0 m pc ls [vv]) := by
  subst hv; subst hP; subst hM; subst hvv
  exact W.aret hx hb hr (Or.inl ⟨_, rfl⟩) (va_rf_or v) (fun t ht hW => ⟨⟨v, (), rfl, rfl, g_pre.of hC hI t ht hW⟩, hI.2.F ht⟩) hI.2.2.2 hdg hlocks
end GC
end
section
theorem qz_L : Cond.initialized RL ∈ g_tbl := g_in 73 (by decide +kernel) rfl
theorem qz_X4 : Cond.initialized RX4 ∈ g_tbl := g_in 74 (by decide +kernel) rfl
theorem qz_X2 : Cond.initialized RX2 ∈ g_tbl := g_in 75 (by decide +kernel) rfl
theorem qz_X3 : Cond.initialized RX3 ∈ g_tbl := g_in 76 (by decide +kernel) rfl
theorem qz_X0 : Cond.initialized RX0 ∈ g_tbl := g_in 77 (by decide +kernel) rfl
theorem qz_X1 : Cond.initialized RX1 ∈ g_tbl := g_in 78 (by decide +kernel) rfl
theorem qz_X5 : Cond.initialized RX5 ∈ g_tbl := g_in 79 (by decide +kernel) rfl
theorem qz_J10 : Cond.initialized RJ10 ∈ g_tbl := g_in 80 (by decide +kernel) rfl
theorem qz_J9 : Cond.initialized RJ9 ∈ g_tbl := g_in 81 (by decide +kernel) rfl
theorem qz_Jxf58ca : Cond.initialized RJxf58ca ∈ g_tbl := g_in 82 (by decide +kernel) rfl
theorem ql_L_7 : Cond.classLink RL 7 RX4 ∈ g_tbl := g_in 83 (by decide +kernel) rfl
theorem qi_X4 : Cond.instantiable RX4 5 ∈ g_tbl := g_in 84 (by decide +kernel) rfl
theorem qm_L_9 : Cond.methodLink RL 9 yX4_init ∈ g_tbl := g_in 85 (by decide +kernel) rfl
theorem qo_X4_init : Cond.instanceMethod yX4_init ∈ g_tbl := g_in 86 (by decide +kernel) rfl
theorem qk_X4_init : Cond.code yX4_init cX4_init 2 none ∈ g_tbl := g_in 87 (by decide +kernel) rfl
theorem qm_X4_1 : Cond.methodLink RX4 1 ⟨"java/lang/Object", "<init>", "()V"⟩ ∈ g_tbl := g_in 88 (by decide +kernel) rfl
theorem qo_init_Object : Cond.instanceMethod ⟨"java/lang/Object", "<init>", "()V"⟩ ∈ g_tbl := g_in 89 (by decide +kernel) rfl
theorem ql_X4_7 : Cond.classLink RX4 7 RX2 ∈ g_tbl := g_in 91 (by decide +kernel) rfl
theorem qi_X2 : Cond.instantiable RX2 8 ∈ g_tbl := g_in 92 (by decide +kernel) rfl
theorem qo_X2_init : Cond.instanceMethod yX2_init ∈ g_tbl := g_in 94 (by decide +kernel) rfl
theorem qk_X2_init : Cond.code yX2_init cX2_init 1 none ∈ g_tbl := g_in 95 (by decide +kernel) rfl
theorem qm_X2_3 : Cond.methodLink RX2 3 ⟨"java/lang/Object", "<init>", "()V"⟩ ∈ g_tbl := g_in 96 (by decide +kernel) rfl
theorem qf_X2_9 : Cond.fieldLink RX2 9 "GrainReceipts$Script" "characters" "[C" ∈ g_tbl := g_in 97 (by decide +kernel) rfl
theorem qf_X2_15 : Cond.fieldLink RX2 15 "GrainReceipts$Script" "numbers" "[I" ∈ g_tbl := g_in 98 (by decide +kernel) rfl
theorem qf_X2_20 : Cond.fieldLink RX2 20 "GrainReceipts$Script" "length" "I" ∈ g_tbl := g_in 99 (by decide +kernel) rfl
theorem qf_X2_31 : Cond.fieldLink RX2 31 "GrainReceipts$Script" "next" "I" ∈ g_tbl := g_in 101 (by decide +kernel) rfl
theorem qf_X2_25 : Cond.fieldLink RX2 25 "GrainReceipts$Script" "ordersDone" "I" ∈ g_tbl := g_in 102 (by decide +kernel) rfl
theorem qf_X2_54 : Cond.fieldLink RX2 54 "GrainReceipts$Script" "faultPosition" "I" ∈ g_tbl := g_in 104 (by decide +kernel) rfl
theorem qf_X2_28 : Cond.fieldLink RX2 28 "GrainReceipts$Script" "faultReason" "I" ∈ g_tbl := g_in 106 (by decide +kernel) rfl
theorem qf_X2_57 : Cond.fieldLink RX2 57 "GrainReceipts$Script" "faultCause" "I" ∈ g_tbl := g_in 108 (by decide +kernel) rfl
theorem qa_127 : Cond.arrayClass .char ∈ g_tbl := g_in 127 (by decide +kernel) rfl
theorem qa_128 : Cond.arrayClass .int ∈ g_tbl := g_in 128 (by decide +kernel) rfl
theorem ql_X4_16 : Cond.classLink RX4 16 RX3 ∈ g_tbl := g_in 129 (by decide +kernel) rfl
theorem qi_X3 : Cond.instantiable RX3 11 ∈ g_tbl := g_in 131 (by decide +kernel) rfl
theorem qm_X4_22 : Cond.methodLink RX4 22 yX3_init ∈ g_tbl := g_in 132 (by decide +kernel) rfl
theorem qo_X3_init : Cond.instanceMethod yX3_init ∈ g_tbl := g_in 133 (by decide +kernel) rfl
theorem qk_X3_init : Cond.code yX3_init cX3_init 2 none ∈ g_tbl := g_in 134 (by decide +kernel) rfl
theorem qm_X3_3 : Cond.methodLink RX3 3 ⟨"java/lang/Object", "<init>", "()V"⟩ ∈ g_tbl := g_in 135 (by decide +kernel) rfl
theorem ql_X3_9 : Cond.classLink RX3 9 RX0 ∈ g_tbl := g_in 136 (by decide +kernel) rfl
theorem ql_X3_17 : Cond.classLink RX3 17 RX1 ∈ g_tbl := g_in 138 (by decide +kernel) rfl
theorem qi_X0 : Cond.instantiable RX0 2 ∈ g_tbl := g_in 140 (by decide +kernel) rfl
theorem qo_X0_init : Cond.instanceMethod yX0_init ∈ g_tbl := g_in 142 (by decide +kernel) rfl
theorem qk_X0_init : Cond.code yX0_init cX0_init 1 none ∈ g_tbl := g_in 143 (by decide +kernel) rfl
theorem qm_X0_1 : Cond.methodLink RX0 1 ⟨"java/lang/Object", "<init>", "()V"⟩ ∈ g_tbl := g_in 144 (by decide +kernel) rfl
theorem qf_X3_37 : Cond.fieldLink RX3 37 "GrainReceipts$Bin" "grade" "I" ∈ g_tbl := g_in 145 (by decide +kernel) rfl
theorem qf_X0_7 : Cond.fieldLink RX0 7 "GrainReceipts$Bin" "grade" "I" ∈ g_tbl := g_in 146 (by decide +kernel) rfl
theorem qf_X0_13 : Cond.fieldLink RX0 13 "GrainReceipts$Bin" "amount" "I" ∈ g_tbl := g_in 147 (by decide +kernel) rfl
theorem qf_X3_172 : Cond.fieldLink RX3 172 "GrainReceipts$Bin" "amount" "I" ∈ g_tbl := g_in 148 (by decide +kernel) rfl
theorem qi_X1 : Cond.instantiable RX1 7 ∈ g_tbl := g_in 154 (by decide +kernel) rfl
theorem qo_X1_init : Cond.instanceMethod yX1_init ∈ g_tbl := g_in 156 (by decide +kernel) rfl
theorem qk_X1_init : Cond.code yX1_init cX1_init 1 none ∈ g_tbl := g_in 157 (by decide +kernel) rfl
theorem qm_X1_3 : Cond.methodLink RX1 3 ⟨"java/lang/Object", "<init>", "()V"⟩ ∈ g_tbl := g_in 158 (by decide +kernel) rfl
theorem qf_X1_9 : Cond.fieldLink RX1 9 "GrainReceipts$Receipt" "number" "I" ∈ g_tbl := g_in 159 (by decide +kernel) rfl
theorem qf_X3_96 : Cond.fieldLink RX3 96 "GrainReceipts$Receipt" "number" "I" ∈ g_tbl := g_in 160 (by decide +kernel) rfl
theorem qf_X3_107 : Cond.fieldLink RX3 107 "GrainReceipts$Receipt" "owner" "I" ∈ g_tbl := g_in 161 (by decide +kernel) rfl
theorem qf_X1_21 : Cond.fieldLink RX1 21 "GrainReceipts$Receipt" "owner" "I" ∈ g_tbl := g_in 162 (by decide +kernel) rfl
theorem qf_X3_110 : Cond.fieldLink RX3 110 "GrainReceipts$Receipt" "grade" "I" ∈ g_tbl := g_in 163 (by decide +kernel) rfl
theorem qf_X1_24 : Cond.fieldLink RX1 24 "GrainReceipts$Receipt" "grade" "I" ∈ g_tbl := g_in 164 (by decide +kernel) rfl
theorem qf_X3_103 : Cond.fieldLink RX3 103 "GrainReceipts$Receipt" "amount" "I" ∈ g_tbl := g_in 165 (by decide +kernel) rfl
theorem qf_X1_27 : Cond.fieldLink RX1 27 "GrainReceipts$Receipt" "amount" "I" ∈ g_tbl := g_in 166 (by decide +kernel) rfl
theorem qf_X1_15 : Cond.fieldLink RX1 15 "GrainReceipts$Receipt" "lender" "I" ∈ g_tbl := g_in 167 (by decide +kernel) rfl
theorem qf_X3_136 : Cond.fieldLink RX3 136 "GrainReceipts$Receipt" "lender" "I" ∈ g_tbl := g_in 168 (by decide +kernel) rfl
theorem qf_X1_37 : Cond.fieldLink RX1 37 "GrainReceipts$Receipt" "loan" "I" ∈ g_tbl := g_in 169 (by decide +kernel) rfl
theorem qf_X3_139 : Cond.fieldLink RX3 139 "GrainReceipts$Receipt" "loan" "I" ∈ g_tbl := g_in 170 (by decide +kernel) rfl
theorem qf_X1_18 : Cond.fieldLink RX1 18 "GrainReceipts$Receipt" "daysLeft" "I" ∈ g_tbl := g_in 171 (by decide +kernel) rfl
theorem qf_X3_155 : Cond.fieldLink RX3 155 "GrainReceipts$Receipt" "daysLeft" "I" ∈ g_tbl := g_in 172 (by decide +kernel) rfl
theorem qf_X3_11 : Cond.fieldLink RX3 11 "GrainReceipts$State" "bins" "[LGrainReceipts$Bin;" ∈ g_tbl := g_in 188 (by decide +kernel) rfl
theorem qf_X3_19 : Cond.fieldLink RX3 19 "GrainReceipts$State" "receipts" "[LGrainReceipts$Receipt;" ∈ g_tbl := g_in 189 (by decide +kernel) rfl
theorem qf_X3_23 : Cond.fieldLink RX3 23 "GrainReceipts$State" "prices" "[I" ∈ g_tbl := g_in 190 (by decide +kernel) rfl
theorem qf_X3_27 : Cond.fieldLink RX3 27 "GrainReceipts$State" "settings" "[I" ∈ g_tbl := g_in 191 (by decide +kernel) rfl
theorem qf_X3_30 : Cond.fieldLink RX3 30 "GrainReceipts$State" "money" "[I" ∈ g_tbl := g_in 192 (by decide +kernel) rfl
theorem qf_X3_33 : Cond.fieldLink RX3 33 "GrainReceipts$State" "seizedLoans" "[I" ∈ g_tbl := g_in 193 (by decide +kernel) rfl
theorem qf_X3_55 : Cond.fieldLink RX3 55 "GrainReceipts$State" "day" "I" ∈ g_tbl := g_in 194 (by decide +kernel) rfl
theorem qf_X3_58 : Cond.fieldLink RX3 58 "GrainReceipts$State" "receiptsMade" "I" ∈ g_tbl := g_in 195 (by decide +kernel) rfl
theorem qf_X3_61 : Cond.fieldLink RX3 61 "GrainReceipts$State" "receiptsSeized" "I" ∈ g_tbl := g_in 196 (by decide +kernel) rfl
theorem qf_X3_64 : Cond.fieldLink RX3 64 "GrainReceipts$State" "amountDelivered" "I" ∈ g_tbl := g_in 197 (by decide +kernel) rfl
theorem qf_X3_67 : Cond.fieldLink RX3 67 "GrainReceipts$State" "amountLost" "I" ∈ g_tbl := g_in 198 (by decide +kernel) rfl
theorem qf_X4_10 : Cond.fieldLink RX4 10 "GrainReceipts" "script" "LGrainReceipts$Script;" ∈ g_tbl := g_in 222 (by decide +kernel) rfl
theorem qf_X4_18 : Cond.fieldLink RX4 18 "GrainReceipts" "history" "[LGrainReceipts$State;" ∈ g_tbl := g_in 223 (by decide +kernel) rfl
theorem qf_X4_100 : Cond.fieldLink RX4 100 "GrainReceipts" "historyLength" "I" ∈ g_tbl := g_in 224 (by decide +kernel) rfl
theorem qf_X4_23 : Cond.fieldLink RX4 23 "GrainReceipts" "now" "LGrainReceipts$State;" ∈ g_tbl := g_in 225 (by decide +kernel) rfl
theorem qf_X4_27 : Cond.fieldLink RX4 27 "GrainReceipts" "spare" "LGrainReceipts$State;" ∈ g_tbl := g_in 226 (by decide +kernel) rfl
theorem qm_L_13 : Cond.methodLink RL 13 yX4_store ∈ g_tbl := g_in 238 (by decide +kernel) rfl
theorem qo_X4_store : Cond.instanceMethod yX4_store ∈ g_tbl := g_in 239 (by decide +kernel) rfl
theorem qe_X4_store : Cond.selects RX4 yX4_store yX4_store ∈ g_tbl := g_in 240 (by decide +kernel) rfl
theorem qk_X4_store : Cond.code yX4_store cX4_store 4 (some .int) ∈ g_tbl := g_in 241 (by decide +kernel) rfl
theorem qm_X4_30 : Cond.methodLink RX4 30 yX3_copyFrom ∈ g_tbl := g_in 242 (by decide +kernel) rfl
theorem qo_X3_copyFrom : Cond.instanceMethod yX3_copyFrom ∈ g_tbl := g_in 243 (by decide +kernel) rfl
theorem qe_X3_copyFrom : Cond.selects RX3 yX3_copyFrom yX3_copyFrom ∈ g_tbl := g_in 244 (by decide +kernel) rfl
theorem qk_X3_copyFrom : Cond.code yX3_copyFrom cX3_copyFrom 3 none ∈ g_tbl := g_in 245 (by decide +kernel) rfl
theorem qm_X3_42 : Cond.methodLink RX3 42 yX0_copyFrom ∈ g_tbl := g_in 246 (by decide +kernel) rfl
theorem qo_X0_copyFrom : Cond.instanceMethod yX0_copyFrom ∈ g_tbl := g_in 247 (by decide +kernel) rfl
theorem qe_X0_copyFrom : Cond.selects RX0 yX0_copyFrom yX0_copyFrom ∈ g_tbl := g_in 248 (by decide +kernel) rfl
theorem qk_X0_copyFrom : Cond.code yX0_copyFrom cX0_copyFrom 2 none ∈ g_tbl := g_in 249 (by decide +kernel) rfl
theorem qm_X3_46 : Cond.methodLink RX3 46 yX1_copyFrom ∈ g_tbl := g_in 250 (by decide +kernel) rfl
theorem qo_X1_copyFrom : Cond.instanceMethod yX1_copyFrom ∈ g_tbl := g_in 251 (by decide +kernel) rfl
theorem qe_X1_copyFrom : Cond.selects RX1 yX1_copyFrom yX1_copyFrom ∈ g_tbl := g_in 252 (by decide +kernel) rfl
theorem qk_X1_copyFrom : Cond.code yX1_copyFrom cX1_copyFrom 2 none ∈ g_tbl := g_in 253 (by decide +kernel) rfl
theorem qm_X1_30 : Cond.methodLink RX1 30 yX1_use ∈ g_tbl := g_in 254 (by decide +kernel) rfl
theorem qo_X1_use : Cond.instanceMethod yX1_use ∈ g_tbl := g_in 255 (by decide +kernel) rfl
theorem qe_X1_use : Cond.selects RX1 yX1_use yX1_use ∈ g_tbl := g_in 256 (by decide +kernel) rfl
theorem qk_X1_use : Cond.code yX1_use cX1_use 5 none ∈ g_tbl := g_in 257 (by decide +kernel) rfl
theorem qm_X3_49 : Cond.methodLink RX3 49 ⟨"java/lang/System", "arraycopy", "(Ljava/lang/Object;ILjava/lang/Object;II)V"⟩ ∈ g_tbl := g_in 258 (by decide +kernel) rfl
theorem qs_arraycopy_System : Cond.static ⟨"java/lang/System", "arraycopy", "(Ljava/lang/Object;ILjava/lang/Object;II)V"⟩ ∈ g_tbl := g_in 259 (by decide +kernel) rfl
theorem qn_arraycopy_System : Cond.native ⟨"java/lang/System", "arraycopy", "(Ljava/lang/Object;ILjava/lang/Object;II)V"⟩ ∈ g_tbl := g_in 260 (by decide +kernel) rfl
theorem qm_X4_34 : Cond.methodLink RX4 34 yX3_storeGrain ∈ g_tbl := g_in 261 (by decide +kernel) rfl
theorem qo_X3_storeGrain : Cond.instanceMethod yX3_storeGrain ∈ g_tbl := g_in 262 (by decide +kernel) rfl
theorem qe_X3_storeGrain : Cond.selects RX3 yX3_storeGrain yX3_storeGrain ∈ g_tbl := g_in 263 (by decide +kernel) rfl
theorem qk_X3_storeGrain : Cond.code yX3_storeGrain cX3_storeGrain 6 (some .int) ∈ g_tbl := g_in 264 (by decide +kernel) rfl
theorem qs_X4_isGrade : Cond.static yX4_isGrade ∈ g_tbl := g_in 266 (by decide +kernel) rfl
theorem qk_X4_isGrade : Cond.code yX4_isGrade cX4_isGrade 1 (some .boolean) ∈ g_tbl := g_in 267 (by decide +kernel) rfl
theorem qc_X3_74 : Cond.constant RX3 74 (-2000000001) ∈ g_tbl := g_in 268 (by decide +kernel) rfl
theorem qm_X3_75 : Cond.methodLink RX3 75 yX3_freePlace ∈ g_tbl := g_in 269 (by decide +kernel) rfl
theorem qo_X3_freePlace : Cond.instanceMethod yX3_freePlace ∈ g_tbl := g_in 271 (by decide +kernel) rfl
theorem qk_X3_freePlace : Cond.code yX3_freePlace cX3_freePlace 5 (some (.object "GrainReceipts$Receipt")) ∈ g_tbl := g_in 272 (by decide +kernel) rfl
theorem qm_X3_203 : Cond.methodLink RX3 203 yX1_isUsed ∈ g_tbl := g_in 273 (by decide +kernel) rfl
theorem qo_X1_isUsed : Cond.instanceMethod yX1_isUsed ∈ g_tbl := g_in 274 (by decide +kernel) rfl
theorem qe_X1_isUsed : Cond.selects RX1 yX1_isUsed yX1_isUsed ∈ g_tbl := g_in 275 (by decide +kernel) rfl
theorem qk_X1_isUsed : Cond.code yX1_isUsed cX1_isUsed 1 (some .boolean) ∈ g_tbl := g_in 276 (by decide +kernel) rfl
theorem qm_X3_79 : Cond.methodLink RX3 79 yX3_roomIn ∈ g_tbl := g_in 277 (by decide +kernel) rfl
theorem qo_X3_roomIn : Cond.instanceMethod yX3_roomIn ∈ g_tbl := g_in 279 (by decide +kernel) rfl
theorem qk_X3_roomIn : Cond.code yX3_roomIn cX3_roomIn 7 (some .int) ∈ g_tbl := g_in 280 (by decide +kernel) rfl
theorem qc_X3_83 : Cond.constant RX3 83 (-2000000003) ∈ g_tbl := g_in 281 (by decide +kernel) rfl
theorem qm_X3_84 : Cond.methodLink RX3 84 yX3_fillBins ∈ g_tbl := g_in 282 (by decide +kernel) rfl
theorem qo_X3_fillBins : Cond.instanceMethod yX3_fillBins ∈ g_tbl := g_in 284 (by decide +kernel) rfl
theorem qk_X3_fillBins : Cond.code yX3_fillBins cX3_fillBins 9 none ∈ g_tbl := g_in 285 (by decide +kernel) rfl
theorem qm_X3_218 : Cond.methodLink RX3 218 yJ9_min_7cf53 ∈ g_tbl := g_in 286 (by decide +kernel) rfl
theorem qs_J9_min_7cf53 : Cond.static yJ9_min_7cf53 ∈ g_tbl := g_in 287 (by decide +kernel) rfl
theorem qk_J9_min_7cf53 : Cond.code yJ9_min_7cf53 cJ9_min_7cf53 2 (some .int) ∈ g_tbl := g_in 288 (by decide +kernel) rfl
theorem qm_X3_88 : Cond.methodLink RX3 88 yX3_nextNumber ∈ g_tbl := g_in 289 (by decide +kernel) rfl
theorem qo_X3_nextNumber : Cond.instanceMethod yX3_nextNumber ∈ g_tbl := g_in 291 (by decide +kernel) rfl
theorem qk_X3_nextNumber : Cond.code yX3_nextNumber cX3_nextNumber 2 (some .int) ∈ g_tbl := g_in 292 (by decide +kernel) rfl
theorem qm_X3_92 : Cond.methodLink RX3 92 yX1_use ∈ g_tbl := g_in 293 (by decide +kernel) rfl
theorem qm_X4_38 : Cond.methodLink RX4 38 yX4_recorded ∈ g_tbl := g_in 294 (by decide +kernel) rfl
theorem qo_X4_recorded : Cond.instanceMethod yX4_recorded ∈ g_tbl := g_in 296 (by decide +kernel) rfl
theorem qk_X4_recorded : Cond.code yX4_recorded cX4_recorded 2 (some .int) ∈ g_tbl := g_in 297 (by decide +kernel) rfl
theorem qm_X4_134 : Cond.methodLink RX4 134 yX4_isError ∈ g_tbl := g_in 298 (by decide +kernel) rfl
theorem qs_X4_isError : Cond.static yX4_isError ∈ g_tbl := g_in 299 (by decide +kernel) rfl
theorem qk_X4_isError : Cond.code yX4_isError cX4_isError 1 (some .boolean) ∈ g_tbl := g_in 300 (by decide +kernel) rfl
theorem qc_X4_121 : Cond.constant RX4 121 (-2000000004) ∈ g_tbl := g_in 301 (by decide +kernel) rfl
theorem qc_X4_114 : Cond.constant RX4 114 (-2000000001) ∈ g_tbl := g_in 302 (by decide +kernel) rfl
theorem qm_X4_128 : Cond.methodLink RX4 128 yX4_recordSpare ∈ g_tbl := g_in 303 (by decide +kernel) rfl
theorem qo_X4_recordSpare : Cond.instanceMethod yX4_recordSpare ∈ g_tbl := g_in 305 (by decide +kernel) rfl
theorem qk_X4_recordSpare : Cond.code yX4_recordSpare cX4_recordSpare 3 none ∈ g_tbl := g_in 306 (by decide +kernel) rfl
theorem qm_L_18 : Cond.methodLink RL 18 yX4_split ∈ g_tbl := g_in 307 (by decide +kernel) rfl
theorem qo_X4_split : Cond.instanceMethod yX4_split ∈ g_tbl := g_in 308 (by decide +kernel) rfl
theorem qe_X4_split : Cond.selects RX4 yX4_split yX4_split ∈ g_tbl := g_in 309 (by decide +kernel) rfl
theorem qk_X4_split : Cond.code yX4_split cX4_split 3 (some .int) ∈ g_tbl := g_in 310 (by decide +kernel) rfl
theorem qm_X4_42 : Cond.methodLink RX4 42 yX3_splitOff ∈ g_tbl := g_in 311 (by decide +kernel) rfl
theorem qo_X3_splitOff : Cond.instanceMethod yX3_splitOff ∈ g_tbl := g_in 312 (by decide +kernel) rfl
theorem qe_X3_splitOff : Cond.selects RX3 yX3_splitOff yX3_splitOff ∈ g_tbl := g_in 313 (by decide +kernel) rfl
theorem qk_X3_splitOff : Cond.code yX3_splitOff cX3_splitOff 5 (some .int) ∈ g_tbl := g_in 314 (by decide +kernel) rfl
theorem qm_X3_99 : Cond.methodLink RX3 99 yX3_find ∈ g_tbl := g_in 315 (by decide +kernel) rfl
theorem qo_X3_find : Cond.instanceMethod yX3_find ∈ g_tbl := g_in 317 (by decide +kernel) rfl
theorem qk_X3_find : Cond.code yX3_find cX3_find 6 (some (.object "GrainReceipts$Receipt")) ∈ g_tbl := g_in 318 (by decide +kernel) rfl
theorem qc_X3_106 : Cond.constant RX3 106 (-2000000002) ∈ g_tbl := g_in 319 (by decide +kernel) rfl
theorem qm_X3_111 : Cond.methodLink RX3 111 yX3_splitLoan ∈ g_tbl := g_in 320 (by decide +kernel) rfl
theorem qo_X3_splitLoan : Cond.instanceMethod yX3_splitLoan ∈ g_tbl := g_in 322 (by decide +kernel) rfl
theorem qk_X3_splitLoan : Cond.code yX3_splitLoan cX3_splitLoan 4 none ∈ g_tbl := g_in 323 (by decide +kernel) rfl
theorem qm_L_23 : Cond.methodLink RL 23 yX4_join ∈ g_tbl := g_in 324 (by decide +kernel) rfl
theorem qo_X4_join : Cond.instanceMethod yX4_join ∈ g_tbl := g_in 325 (by decide +kernel) rfl
theorem qe_X4_join : Cond.selects RX4 yX4_join yX4_join ∈ g_tbl := g_in 326 (by decide +kernel) rfl
theorem qk_X4_join : Cond.code yX4_join cX4_join 3 (some .int) ∈ g_tbl := g_in 327 (by decide +kernel) rfl
theorem qm_X4_46 : Cond.methodLink RX4 46 yX3_joinInto ∈ g_tbl := g_in 328 (by decide +kernel) rfl
theorem qo_X3_joinInto : Cond.instanceMethod yX3_joinInto ∈ g_tbl := g_in 329 (by decide +kernel) rfl
theorem qe_X3_joinInto : Cond.selects RX3 yX3_joinInto yX3_joinInto ∈ g_tbl := g_in 330 (by decide +kernel) rfl
theorem qk_X3_joinInto : Cond.code yX3_joinInto cX3_joinInto 5 (some .int) ∈ g_tbl := g_in 331 (by decide +kernel) rfl
theorem qm_X3_115 : Cond.methodLink RX3 115 yX1_isPledged ∈ g_tbl := g_in 332 (by decide +kernel) rfl
theorem qo_X1_isPledged : Cond.instanceMethod yX1_isPledged ∈ g_tbl := g_in 333 (by decide +kernel) rfl
theorem qe_X1_isPledged : Cond.selects RX1 yX1_isPledged yX1_isPledged ∈ g_tbl := g_in 334 (by decide +kernel) rfl
theorem qk_X1_isPledged : Cond.code yX1_isPledged cX1_isPledged 1 (some .boolean) ∈ g_tbl := g_in 335 (by decide +kernel) rfl
theorem qm_X3_119 : Cond.methodLink RX3 119 yX1_free ∈ g_tbl := g_in 336 (by decide +kernel) rfl
theorem qo_X1_free : Cond.instanceMethod yX1_free ∈ g_tbl := g_in 337 (by decide +kernel) rfl
theorem qe_X1_free : Cond.selects RX1 yX1_free yX1_free ∈ g_tbl := g_in 338 (by decide +kernel) rfl
theorem qk_X1_free : Cond.code yX1_free cX1_free 1 none ∈ g_tbl := g_in 339 (by decide +kernel) rfl
theorem qm_X1_34 : Cond.methodLink RX1 34 yX1_endPledge ∈ g_tbl := g_in 340 (by decide +kernel) rfl
theorem qo_X1_endPledge : Cond.instanceMethod yX1_endPledge ∈ g_tbl := g_in 341 (by decide +kernel) rfl
theorem qe_X1_endPledge : Cond.selects RX1 yX1_endPledge yX1_endPledge ∈ g_tbl := g_in 342 (by decide +kernel) rfl
theorem qk_X1_endPledge : Cond.code yX1_endPledge cX1_endPledge 1 none ∈ g_tbl := g_in 343 (by decide +kernel) rfl
theorem qm_L_27 : Cond.methodLink RL 27 yX4_hand ∈ g_tbl := g_in 344 (by decide +kernel) rfl
theorem qo_X4_hand : Cond.instanceMethod yX4_hand ∈ g_tbl := g_in 345 (by decide +kernel) rfl
theorem qe_X4_hand : Cond.selects RX4 yX4_hand yX4_hand ∈ g_tbl := g_in 346 (by decide +kernel) rfl
theorem qk_X4_hand : Cond.code yX4_hand cX4_hand 3 (some .int) ∈ g_tbl := g_in 347 (by decide +kernel) rfl
theorem qm_X4_49 : Cond.methodLink RX4 49 yX3_handOn ∈ g_tbl := g_in 348 (by decide +kernel) rfl
theorem qo_X3_handOn : Cond.instanceMethod yX3_handOn ∈ g_tbl := g_in 349 (by decide +kernel) rfl
theorem qe_X3_handOn : Cond.selects RX3 yX3_handOn yX3_handOn ∈ g_tbl := g_in 350 (by decide +kernel) rfl
theorem qk_X3_handOn : Cond.code yX3_handOn cX3_handOn 5 (some .int) ∈ g_tbl := g_in 351 (by decide +kernel) rfl
theorem qs_X4_isOwner : Cond.static yX4_isOwner ∈ g_tbl := g_in 353 (by decide +kernel) rfl
theorem qk_X4_isOwner : Cond.code yX4_isOwner cX4_isOwner 1 (some .boolean) ∈ g_tbl := g_in 354 (by decide +kernel) rfl
theorem qm_L_31 : Cond.methodLink RL 31 yX4_deliver ∈ g_tbl := g_in 355 (by decide +kernel) rfl
theorem qo_X4_deliver : Cond.instanceMethod yX4_deliver ∈ g_tbl := g_in 356 (by decide +kernel) rfl
theorem qe_X4_deliver : Cond.selects RX4 yX4_deliver yX4_deliver ∈ g_tbl := g_in 357 (by decide +kernel) rfl
theorem qk_X4_deliver : Cond.code yX4_deliver cX4_deliver 2 (some .int) ∈ g_tbl := g_in 358 (by decide +kernel) rfl
theorem qm_X4_52 : Cond.methodLink RX4 52 yX3_deliverGrain ∈ g_tbl := g_in 359 (by decide +kernel) rfl
theorem qo_X3_deliverGrain : Cond.instanceMethod yX3_deliverGrain ∈ g_tbl := g_in 360 (by decide +kernel) rfl
theorem qe_X3_deliverGrain : Cond.selects RX3 yX3_deliverGrain yX3_deliverGrain ∈ g_tbl := g_in 361 (by decide +kernel) rfl
theorem qk_X3_deliverGrain : Cond.code yX3_deliverGrain cX3_deliverGrain 6 (some .int) ∈ g_tbl := g_in 362 (by decide +kernel) rfl
theorem qm_X3_125 : Cond.methodLink RX3 125 yX3_takeOut ∈ g_tbl := g_in 363 (by decide +kernel) rfl
theorem qo_X3_takeOut : Cond.instanceMethod yX3_takeOut ∈ g_tbl := g_in 365 (by decide +kernel) rfl
theorem qk_X3_takeOut : Cond.code yX3_takeOut cX3_takeOut 9 (some .int) ∈ g_tbl := g_in 366 (by decide +kernel) rfl
theorem qm_L_36 : Cond.methodLink RL 36 yX4_pledge ∈ g_tbl := g_in 367 (by decide +kernel) rfl
theorem qo_X4_pledge : Cond.instanceMethod yX4_pledge ∈ g_tbl := g_in 368 (by decide +kernel) rfl
theorem qe_X4_pledge : Cond.selects RX4 yX4_pledge yX4_pledge ∈ g_tbl := g_in 369 (by decide +kernel) rfl
theorem qk_X4_pledge : Cond.code yX4_pledge cX4_pledge 4 (some .int) ∈ g_tbl := g_in 370 (by decide +kernel) rfl
theorem qm_X4_55 : Cond.methodLink RX4 55 yX3_pledgeTo ∈ g_tbl := g_in 371 (by decide +kernel) rfl
theorem qo_X3_pledgeTo : Cond.instanceMethod yX3_pledgeTo ∈ g_tbl := g_in 372 (by decide +kernel) rfl
theorem qe_X3_pledgeTo : Cond.selects RX3 yX3_pledgeTo yX3_pledgeTo ∈ g_tbl := g_in 373 (by decide +kernel) rfl
theorem qk_X3_pledgeTo : Cond.code yX3_pledgeTo cX3_pledgeTo 5 (some .int) ∈ g_tbl := g_in 374 (by decide +kernel) rfl
theorem qs_X4_isLender : Cond.static yX4_isLender ∈ g_tbl := g_in 376 (by decide +kernel) rfl
theorem qk_X4_isLender : Cond.code yX4_isLender cX4_isLender 1 (some .boolean) ∈ g_tbl := g_in 377 (by decide +kernel) rfl
theorem qm_X3_132 : Cond.methodLink RX3 132 yX3_greatestLoan ∈ g_tbl := g_in 378 (by decide +kernel) rfl
theorem qo_X3_greatestLoan : Cond.instanceMethod yX3_greatestLoan ∈ g_tbl := g_in 380 (by decide +kernel) rfl
theorem qk_X3_greatestLoan : Cond.code yX3_greatestLoan cX3_greatestLoan 2 (some .int) ∈ g_tbl := g_in 381 (by decide +kernel) rfl
theorem qm_X3_185 : Cond.methodLink RX3 185 yX3_worth ∈ g_tbl := g_in 382 (by decide +kernel) rfl
theorem qo_X3_worth : Cond.instanceMethod yX3_worth ∈ g_tbl := g_in 384 (by decide +kernel) rfl
theorem qk_X3_worth : Cond.code yX3_worth cX3_worth 2 (some .int) ∈ g_tbl := g_in 385 (by decide +kernel) rfl
theorem qm_X3_142 : Cond.methodLink RX3 142 yX3_addMoney ∈ g_tbl := g_in 386 (by decide +kernel) rfl
theorem qo_X3_addMoney : Cond.instanceMethod yX3_addMoney ∈ g_tbl := g_in 388 (by decide +kernel) rfl
theorem qk_X3_addMoney : Cond.code yX3_addMoney cX3_addMoney 3 none ∈ g_tbl := g_in 389 (by decide +kernel) rfl
theorem qm_X3_145 : Cond.methodLink RX3 145 yX3_moneyOf ∈ g_tbl := g_in 390 (by decide +kernel) rfl
theorem qo_X3_moneyOf : Cond.instanceMethod yX3_moneyOf ∈ g_tbl := g_in 392 (by decide +kernel) rfl
theorem qk_X3_moneyOf : Cond.code yX3_moneyOf cX3_moneyOf 2 (some .int) ∈ g_tbl := g_in 393 (by decide +kernel) rfl
theorem qm_L_40 : Cond.methodLink RL 40 yX4_repay ∈ g_tbl := g_in 394 (by decide +kernel) rfl
theorem qo_X4_repay : Cond.instanceMethod yX4_repay ∈ g_tbl := g_in 395 (by decide +kernel) rfl
theorem qe_X4_repay : Cond.selects RX4 yX4_repay yX4_repay ∈ g_tbl := g_in 396 (by decide +kernel) rfl
theorem qk_X4_repay : Cond.code yX4_repay cX4_repay 3 (some .int) ∈ g_tbl := g_in 397 (by decide +kernel) rfl
theorem qm_X4_58 : Cond.methodLink RX4 58 yX3_payBack ∈ g_tbl := g_in 398 (by decide +kernel) rfl
theorem qo_X3_payBack : Cond.instanceMethod yX3_payBack ∈ g_tbl := g_in 399 (by decide +kernel) rfl
theorem qe_X3_payBack : Cond.selects RX3 yX3_payBack yX3_payBack ∈ g_tbl := g_in 400 (by decide +kernel) rfl
theorem qk_X3_payBack : Cond.code yX3_payBack cX3_payBack 4 (some .int) ∈ g_tbl := g_in 401 (by decide +kernel) rfl
theorem qm_X3_148 : Cond.methodLink RX3 148 yX1_endPledge ∈ g_tbl := g_in 402 (by decide +kernel) rfl
theorem qm_X3_151 : Cond.methodLink RX3 151 yX3_isLoanTooHigh ∈ g_tbl := g_in 403 (by decide +kernel) rfl
theorem qo_X3_isLoanTooHigh : Cond.instanceMethod yX3_isLoanTooHigh ∈ g_tbl := g_in 405 (by decide +kernel) rfl
theorem qk_X3_isLoanTooHigh : Cond.code yX3_isLoanTooHigh cX3_isLoanTooHigh 2 (some .boolean) ∈ g_tbl := g_in 406 (by decide +kernel) rfl
theorem qm_X3_192 : Cond.methodLink RX3 192 yX3_callLimit ∈ g_tbl := g_in 407 (by decide +kernel) rfl
theorem qo_X3_callLimit : Cond.instanceMethod yX3_callLimit ∈ g_tbl := g_in 409 (by decide +kernel) rfl
theorem qk_X3_callLimit : Cond.code yX3_callLimit cX3_callLimit 2 (some .int) ∈ g_tbl := g_in 410 (by decide +kernel) rfl
theorem qm_L_44 : Cond.methodLink RL 44 yX4_price ∈ g_tbl := g_in 411 (by decide +kernel) rfl
theorem qo_X4_price : Cond.instanceMethod yX4_price ∈ g_tbl := g_in 412 (by decide +kernel) rfl
theorem qe_X4_price : Cond.selects RX4 yX4_price yX4_price ∈ g_tbl := g_in 413 (by decide +kernel) rfl
theorem qk_X4_price : Cond.code yX4_price cX4_price 3 (some .int) ∈ g_tbl := g_in 414 (by decide +kernel) rfl
theorem qm_X4_61 : Cond.methodLink RX4 61 yX3_changePrice ∈ g_tbl := g_in 415 (by decide +kernel) rfl
theorem qo_X3_changePrice : Cond.instanceMethod yX3_changePrice ∈ g_tbl := g_in 416 (by decide +kernel) rfl
theorem qe_X3_changePrice : Cond.selects RX3 yX3_changePrice yX3_changePrice ∈ g_tbl := g_in 417 (by decide +kernel) rfl
theorem qk_X3_changePrice : Cond.code yX3_changePrice cX3_changePrice 4 (some .int) ∈ g_tbl := g_in 418 (by decide +kernel) rfl
theorem qm_L_48 : Cond.methodLink RL 48 yX4_call ∈ g_tbl := g_in 419 (by decide +kernel) rfl
theorem qo_X4_call : Cond.instanceMethod yX4_call ∈ g_tbl := g_in 420 (by decide +kernel) rfl
theorem qe_X4_call : Cond.selects RX4 yX4_call yX4_call ∈ g_tbl := g_in 421 (by decide +kernel) rfl
theorem qk_X4_call : Cond.code yX4_call cX4_call 2 (some .int) ∈ g_tbl := g_in 422 (by decide +kernel) rfl
theorem qm_X4_64 : Cond.methodLink RX4 64 yX3_callLoans ∈ g_tbl := g_in 423 (by decide +kernel) rfl
theorem qo_X3_callLoans : Cond.instanceMethod yX3_callLoans ∈ g_tbl := g_in 424 (by decide +kernel) rfl
theorem qe_X3_callLoans : Cond.selects RX3 yX3_callLoans yX3_callLoans ∈ g_tbl := g_in 425 (by decide +kernel) rfl
theorem qk_X3_callLoans : Cond.code yX3_callLoans cX3_callLoans 7 (some .int) ∈ g_tbl := g_in 426 (by decide +kernel) rfl
theorem qm_X3_158 : Cond.methodLink RX3 158 yX3_wouldBeCalled ∈ g_tbl := g_in 427 (by decide +kernel) rfl
theorem qo_X3_wouldBeCalled : Cond.instanceMethod yX3_wouldBeCalled ∈ g_tbl := g_in 429 (by decide +kernel) rfl
theorem qk_X3_wouldBeCalled : Cond.code yX3_wouldBeCalled cX3_wouldBeCalled 4 (some .boolean) ∈ g_tbl := g_in 430 (by decide +kernel) rfl
theorem qm_X3_189 : Cond.methodLink RX3 189 yX1_isCalled ∈ g_tbl := g_in 431 (by decide +kernel) rfl
theorem qo_X1_isCalled : Cond.instanceMethod yX1_isCalled ∈ g_tbl := g_in 432 (by decide +kernel) rfl
theorem qe_X1_isCalled : Cond.selects RX1 yX1_isCalled yX1_isCalled ∈ g_tbl := g_in 433 (by decide +kernel) rfl
theorem qk_X1_isCalled : Cond.code yX1_isCalled cX1_isCalled 1 (some .boolean) ∈ g_tbl := g_in 434 (by decide +kernel) rfl
theorem qm_L_52 : Cond.methodLink RL 52 yX4_pass ∈ g_tbl := g_in 435 (by decide +kernel) rfl
theorem qo_X4_pass : Cond.instanceMethod yX4_pass ∈ g_tbl := g_in 436 (by decide +kernel) rfl
theorem qe_X4_pass : Cond.selects RX4 yX4_pass yX4_pass ∈ g_tbl := g_in 437 (by decide +kernel) rfl
theorem qk_X4_pass : Cond.code yX4_pass cX4_pass 2 (some .int) ∈ g_tbl := g_in 438 (by decide +kernel) rfl
theorem qm_X4_67 : Cond.methodLink RX4 67 yX3_passDays ∈ g_tbl := g_in 439 (by decide +kernel) rfl
theorem qo_X3_passDays : Cond.instanceMethod yX3_passDays ∈ g_tbl := g_in 440 (by decide +kernel) rfl
theorem qe_X3_passDays : Cond.selects RX3 yX3_passDays yX3_passDays ∈ g_tbl := g_in 441 (by decide +kernel) rfl
theorem qk_X3_passDays : Cond.code yX3_passDays cX3_passDays 4 (some .int) ∈ g_tbl := g_in 442 (by decide +kernel) rfl
theorem qm_X3_162 : Cond.methodLink RX3 162 yX3_passDay ∈ g_tbl := g_in 443 (by decide +kernel) rfl
theorem qo_X3_passDay : Cond.instanceMethod yX3_passDay ∈ g_tbl := g_in 445 (by decide +kernel) rfl
theorem qk_X3_passDay : Cond.code yX3_passDay cX3_passDay 5 none ∈ g_tbl := g_in 446 (by decide +kernel) rfl
theorem qm_X3_225 : Cond.methodLink RX3 225 yX3_seize ∈ g_tbl := g_in 447 (by decide +kernel) rfl
theorem qo_X3_seize : Cond.instanceMethod yX3_seize ∈ g_tbl := g_in 449 (by decide +kernel) rfl
theorem qk_X3_seize : Cond.code yX3_seize cX3_seize 3 none ∈ g_tbl := g_in 450 (by decide +kernel) rfl
theorem qm_L_56 : Cond.methodLink RL 56 yX4_lose ∈ g_tbl := g_in 451 (by decide +kernel) rfl
theorem qo_X4_lose : Cond.instanceMethod yX4_lose ∈ g_tbl := g_in 452 (by decide +kernel) rfl
theorem qe_X4_lose : Cond.selects RX4 yX4_lose yX4_lose ∈ g_tbl := g_in 453 (by decide +kernel) rfl
theorem qk_X4_lose : Cond.code yX4_lose cX4_lose 3 (some .int) ∈ g_tbl := g_in 454 (by decide +kernel) rfl
theorem qm_X4_70 : Cond.methodLink RX4 70 yX3_loseGrain ∈ g_tbl := g_in 455 (by decide +kernel) rfl
theorem qo_X3_loseGrain : Cond.instanceMethod yX3_loseGrain ∈ g_tbl := g_in 456 (by decide +kernel) rfl
theorem qe_X3_loseGrain : Cond.selects RX3 yX3_loseGrain yX3_loseGrain ∈ g_tbl := g_in 457 (by decide +kernel) rfl
theorem qk_X3_loseGrain : Cond.code yX3_loseGrain cX3_loseGrain 4 (some .int) ∈ g_tbl := g_in 458 (by decide +kernel) rfl
theorem qs_X4_isBin : Cond.static yX4_isBin ∈ g_tbl := g_in 460 (by decide +kernel) rfl
theorem qk_X4_isBin : Cond.code yX4_isBin cX4_isBin 1 (some .boolean) ∈ g_tbl := g_in 461 (by decide +kernel) rfl
theorem qm_X3_168 : Cond.methodLink RX3 168 yX3_greatestLoss ∈ g_tbl := g_in 462 (by decide +kernel) rfl
theorem qo_X3_greatestLoss : Cond.instanceMethod yX3_greatestLoss ∈ g_tbl := g_in 464 (by decide +kernel) rfl
theorem qk_X3_greatestLoss : Cond.code yX3_greatestLoss cX3_greatestLoss 4 (some .int) ∈ g_tbl := g_in 465 (by decide +kernel) rfl
theorem qm_X3_173 : Cond.methodLink RX3 173 yX3_surplus ∈ g_tbl := g_in 466 (by decide +kernel) rfl
theorem qo_X3_surplus : Cond.instanceMethod yX3_surplus ∈ g_tbl := g_in 468 (by decide +kernel) rfl
theorem qk_X3_surplus : Cond.code yX3_surplus cX3_surplus 2 (some .int) ∈ g_tbl := g_in 469 (by decide +kernel) rfl
theorem qm_X3_209 : Cond.methodLink RX3 209 yX3_grainOf ∈ g_tbl := g_in 470 (by decide +kernel) rfl
theorem qo_X3_grainOf : Cond.instanceMethod yX3_grainOf ∈ g_tbl := g_in 472 (by decide +kernel) rfl
theorem qk_X3_grainOf : Cond.code yX3_grainOf cX3_grainOf 8 (some .int) ∈ g_tbl := g_in 473 (by decide +kernel) rfl
theorem qm_X3_212 : Cond.methodLink RX3 212 yX3_receiptsOf ∈ g_tbl := g_in 474 (by decide +kernel) rfl
theorem qo_X3_receiptsOf : Cond.instanceMethod yX3_receiptsOf ∈ g_tbl := g_in 476 (by decide +kernel) rfl
theorem qk_X3_receiptsOf : Cond.code yX3_receiptsOf cX3_receiptsOf 8 (some .int) ∈ g_tbl := g_in 477 (by decide +kernel) rfl
theorem qm_L_60 : Cond.methodLink RL 60 yX4_regrade ∈ g_tbl := g_in 478 (by decide +kernel) rfl
theorem qo_X4_regrade : Cond.instanceMethod yX4_regrade ∈ g_tbl := g_in 479 (by decide +kernel) rfl
theorem qe_X4_regrade : Cond.selects RX4 yX4_regrade yX4_regrade ∈ g_tbl := g_in 480 (by decide +kernel) rfl
theorem qk_X4_regrade : Cond.code yX4_regrade cX4_regrade 3 (some .int) ∈ g_tbl := g_in 481 (by decide +kernel) rfl
theorem qm_X4_73 : Cond.methodLink RX4 73 yX3_regradeBin ∈ g_tbl := g_in 482 (by decide +kernel) rfl
theorem qo_X3_regradeBin : Cond.instanceMethod yX3_regradeBin ∈ g_tbl := g_in 483 (by decide +kernel) rfl
theorem qe_X3_regradeBin : Cond.selects RX3 yX3_regradeBin yX3_regradeBin ∈ g_tbl := g_in 484 (by decide +kernel) rfl
theorem qk_X3_regradeBin : Cond.code yX3_regradeBin cX3_regradeBin 6 (some .int) ∈ g_tbl := g_in 485 (by decide +kernel) rfl
theorem qm_L_64 : Cond.methodLink RL 64 yX4_set ∈ g_tbl := g_in 486 (by decide +kernel) rfl
theorem qo_X4_set : Cond.instanceMethod yX4_set ∈ g_tbl := g_in 487 (by decide +kernel) rfl
theorem qe_X4_set : Cond.selects RX4 yX4_set yX4_set ∈ g_tbl := g_in 488 (by decide +kernel) rfl
theorem qk_X4_set : Cond.code yX4_set cX4_set 3 (some .int) ∈ g_tbl := g_in 489 (by decide +kernel) rfl
theorem qm_X4_76 : Cond.methodLink RX4 76 yX3_changeSetting ∈ g_tbl := g_in 490 (by decide +kernel) rfl
theorem qo_X3_changeSetting : Cond.instanceMethod yX3_changeSetting ∈ g_tbl := g_in 491 (by decide +kernel) rfl
theorem qe_X3_changeSetting : Cond.selects RX3 yX3_changeSetting yX3_changeSetting ∈ g_tbl := g_in 492 (by decide +kernel) rfl
theorem qk_X3_changeSetting : Cond.code yX3_changeSetting cX3_changeSetting 4 (some .int) ∈ g_tbl := g_in 493 (by decide +kernel) rfl
theorem qs_X4_isSetting : Cond.static yX4_isSetting ∈ g_tbl := g_in 495 (by decide +kernel) rfl
theorem qk_X4_isSetting : Cond.code yX4_isSetting cX4_isSetting 1 (some .boolean) ∈ g_tbl := g_in 496 (by decide +kernel) rfl
theorem qm_L_68 : Cond.methodLink RL 68 yX4_receiptOf ∈ g_tbl := g_in 501 (by decide +kernel) rfl
theorem qo_X4_receiptOf : Cond.instanceMethod yX4_receiptOf ∈ g_tbl := g_in 502 (by decide +kernel) rfl
theorem qe_X4_receiptOf : Cond.selects RX4 yX4_receiptOf yX4_receiptOf ∈ g_tbl := g_in 503 (by decide +kernel) rfl
theorem qk_X4_receiptOf : Cond.code yX4_receiptOf cX4_receiptOf 3 (some .int) ∈ g_tbl := g_in 504 (by decide +kernel) rfl
theorem qm_X4_79 : Cond.methodLink RX4 79 yX3_tellReceipt ∈ g_tbl := g_in 505 (by decide +kernel) rfl
theorem qo_X3_tellReceipt : Cond.instanceMethod yX3_tellReceipt ∈ g_tbl := g_in 506 (by decide +kernel) rfl
theorem qe_X3_tellReceipt : Cond.selects RX3 yX3_tellReceipt yX3_tellReceipt ∈ g_tbl := g_in 507 (by decide +kernel) rfl
theorem qk_X3_tellReceipt : Cond.code yX3_tellReceipt cX3_tellReceipt 4 (some .int) ∈ g_tbl := g_in 508 (by decide +kernel) rfl
theorem qc_X3_188 : Cond.constant RX3 188 (-2000000004) ∈ g_tbl := g_in 509 (by decide +kernel) rfl
theorem qm_X3_195 : Cond.methodLink RX3 195 yJ9_max_7cf53 ∈ g_tbl := g_in 510 (by decide +kernel) rfl
theorem qs_J9_max_7cf53 : Cond.static yJ9_max_7cf53 ∈ g_tbl := g_in 511 (by decide +kernel) rfl
theorem qk_J9_max_7cf53 : Cond.code yJ9_max_7cf53 cJ9_max_7cf53 2 (some .int) ∈ g_tbl := g_in 512 (by decide +kernel) rfl
theorem qm_X3_200 : Cond.methodLink RX3 200 yX3_loanRatioBits ∈ g_tbl := g_in 513 (by decide +kernel) rfl
theorem qo_X3_loanRatioBits : Cond.instanceMethod yX3_loanRatioBits ∈ g_tbl := g_in 515 (by decide +kernel) rfl
theorem qk_X3_loanRatioBits : Cond.code yX3_loanRatioBits cX3_loanRatioBits 3 (some .int) ∈ g_tbl := g_in 516 (by decide +kernel) rfl
theorem qs_X4_bitsOf : Cond.static yX4_bitsOf ∈ g_tbl := g_in 518 (by decide +kernel) rfl
theorem qk_X4_bitsOf : Cond.code yX4_bitsOf cX4_bitsOf 4 (some .int) ∈ g_tbl := g_in 519 (by decide +kernel) rfl
theorem qcf_X4_138 : Cond.constantFloat RX4 138 (1258291200) ∈ g_tbl := g_in 520 (by decide +kernel) rfl
theorem qc_X4_139 : Cond.constant RX4 139 (8388608) ∈ g_tbl := g_in 521 (by decide +kernel) rfl
theorem qm_L_72 : Cond.methodLink RL 72 yX4_receipt ∈ g_tbl := g_in 522 (by decide +kernel) rfl
theorem qo_X4_receipt : Cond.instanceMethod yX4_receipt ∈ g_tbl := g_in 523 (by decide +kernel) rfl
theorem qe_X4_receipt : Cond.selects RX4 yX4_receipt yX4_receipt ∈ g_tbl := g_in 524 (by decide +kernel) rfl
theorem qk_X4_receipt : Cond.code yX4_receipt cX4_receipt 2 (some .int) ∈ g_tbl := g_in 525 (by decide +kernel) rfl
theorem qm_X4_82 : Cond.methodLink RX4 82 yX3_numberAt ∈ g_tbl := g_in 526 (by decide +kernel) rfl
theorem qo_X3_numberAt : Cond.instanceMethod yX3_numberAt ∈ g_tbl := g_in 527 (by decide +kernel) rfl
theorem qe_X3_numberAt : Cond.selects RX3 yX3_numberAt yX3_numberAt ∈ g_tbl := g_in 528 (by decide +kernel) rfl
theorem qk_X3_numberAt : Cond.code yX3_numberAt cX3_numberAt 6 (some .int) ∈ g_tbl := g_in 529 (by decide +kernel) rfl
theorem qm_X3_206 : Cond.methodLink RX3 206 yX3_receiptsBelow ∈ g_tbl := g_in 530 (by decide +kernel) rfl
theorem qo_X3_receiptsBelow : Cond.instanceMethod yX3_receiptsBelow ∈ g_tbl := g_in 532 (by decide +kernel) rfl
theorem qk_X3_receiptsBelow : Cond.code yX3_receiptsBelow cX3_receiptsBelow 7 (some .int) ∈ g_tbl := g_in 533 (by decide +kernel) rfl
theorem qm_L_76 : Cond.methodLink RL 76 yX4_binOf ∈ g_tbl := g_in 534 (by decide +kernel) rfl
theorem qo_X4_binOf : Cond.instanceMethod yX4_binOf ∈ g_tbl := g_in 535 (by decide +kernel) rfl
theorem qe_X4_binOf : Cond.selects RX4 yX4_binOf yX4_binOf ∈ g_tbl := g_in 536 (by decide +kernel) rfl
theorem qk_X4_binOf : Cond.code yX4_binOf cX4_binOf 3 (some .int) ∈ g_tbl := g_in 537 (by decide +kernel) rfl
theorem qm_X4_85 : Cond.methodLink RX4 85 yX3_tellBin ∈ g_tbl := g_in 538 (by decide +kernel) rfl
theorem qo_X3_tellBin : Cond.instanceMethod yX3_tellBin ∈ g_tbl := g_in 539 (by decide +kernel) rfl
theorem qe_X3_tellBin : Cond.selects RX3 yX3_tellBin yX3_tellBin ∈ g_tbl := g_in 540 (by decide +kernel) rfl
theorem qk_X3_tellBin : Cond.code yX3_tellBin cX3_tellBin 3 (some .int) ∈ g_tbl := g_in 541 (by decide +kernel) rfl
theorem qm_L_80 : Cond.methodLink RL 80 yX4_gradeOf ∈ g_tbl := g_in 542 (by decide +kernel) rfl
theorem qo_X4_gradeOf : Cond.instanceMethod yX4_gradeOf ∈ g_tbl := g_in 543 (by decide +kernel) rfl
theorem qe_X4_gradeOf : Cond.selects RX4 yX4_gradeOf yX4_gradeOf ∈ g_tbl := g_in 544 (by decide +kernel) rfl
theorem qk_X4_gradeOf : Cond.code yX4_gradeOf cX4_gradeOf 3 (some .int) ∈ g_tbl := g_in 545 (by decide +kernel) rfl
theorem qm_X4_88 : Cond.methodLink RX4 88 yX3_tellGrade ∈ g_tbl := g_in 546 (by decide +kernel) rfl
theorem qo_X3_tellGrade : Cond.instanceMethod yX3_tellGrade ∈ g_tbl := g_in 547 (by decide +kernel) rfl
theorem qe_X3_tellGrade : Cond.selects RX3 yX3_tellGrade yX3_tellGrade ∈ g_tbl := g_in 548 (by decide +kernel) rfl
theorem qk_X3_tellGrade : Cond.code yX3_tellGrade cX3_tellGrade 3 (some .int) ∈ g_tbl := g_in 549 (by decide +kernel) rfl
theorem qm_L_84 : Cond.methodLink RL 84 yX4_ownerOf ∈ g_tbl := g_in 550 (by decide +kernel) rfl
theorem qo_X4_ownerOf : Cond.instanceMethod yX4_ownerOf ∈ g_tbl := g_in 551 (by decide +kernel) rfl
theorem qe_X4_ownerOf : Cond.selects RX4 yX4_ownerOf yX4_ownerOf ∈ g_tbl := g_in 552 (by decide +kernel) rfl
theorem qk_X4_ownerOf : Cond.code yX4_ownerOf cX4_ownerOf 3 (some .int) ∈ g_tbl := g_in 553 (by decide +kernel) rfl
theorem qm_X4_91 : Cond.methodLink RX4 91 yX3_tellOwner ∈ g_tbl := g_in 554 (by decide +kernel) rfl
theorem qo_X3_tellOwner : Cond.instanceMethod yX3_tellOwner ∈ g_tbl := g_in 555 (by decide +kernel) rfl
theorem qe_X3_tellOwner : Cond.selects RX3 yX3_tellOwner yX3_tellOwner ∈ g_tbl := g_in 556 (by decide +kernel) rfl
theorem qk_X3_tellOwner : Cond.code yX3_tellOwner cX3_tellOwner 11 (some .int) ∈ g_tbl := g_in 557 (by decide +kernel) rfl
theorem qm_X3_215 : Cond.methodLink RX3 215 yX3_priceOf ∈ g_tbl := g_in 558 (by decide +kernel) rfl
theorem qo_X3_priceOf : Cond.instanceMethod yX3_priceOf ∈ g_tbl := g_in 560 (by decide +kernel) rfl
theorem qk_X3_priceOf : Cond.code yX3_priceOf cX3_priceOf 2 (some .int) ∈ g_tbl := g_in 561 (by decide +kernel) rfl
theorem qm_L_88 : Cond.methodLink RL 88 yX4_lenderOf ∈ g_tbl := g_in 562 (by decide +kernel) rfl
theorem qo_X4_lenderOf : Cond.instanceMethod yX4_lenderOf ∈ g_tbl := g_in 563 (by decide +kernel) rfl
theorem qe_X4_lenderOf : Cond.selects RX4 yX4_lenderOf yX4_lenderOf ∈ g_tbl := g_in 564 (by decide +kernel) rfl
theorem qk_X4_lenderOf : Cond.code yX4_lenderOf cX4_lenderOf 3 (some .int) ∈ g_tbl := g_in 565 (by decide +kernel) rfl
theorem qm_X4_94 : Cond.methodLink RX4 94 yX3_tellLender ∈ g_tbl := g_in 566 (by decide +kernel) rfl
theorem qo_X3_tellLender : Cond.instanceMethod yX3_tellLender ∈ g_tbl := g_in 567 (by decide +kernel) rfl
theorem qe_X3_tellLender : Cond.selects RX3 yX3_tellLender yX3_tellLender ∈ g_tbl := g_in 568 (by decide +kernel) rfl
theorem qk_X3_tellLender : Cond.code yX3_tellLender cX3_tellLender 12 (some .int) ∈ g_tbl := g_in 569 (by decide +kernel) rfl
theorem qm_L_92 : Cond.methodLink RL 92 yX4_fallTo ∈ g_tbl := g_in 570 (by decide +kernel) rfl
theorem qo_X4_fallTo : Cond.instanceMethod yX4_fallTo ∈ g_tbl := g_in 571 (by decide +kernel) rfl
theorem qe_X4_fallTo : Cond.selects RX4 yX4_fallTo yX4_fallTo ∈ g_tbl := g_in 572 (by decide +kernel) rfl
theorem qk_X4_fallTo : Cond.code yX4_fallTo cX4_fallTo 2 (some .int) ∈ g_tbl := g_in 573 (by decide +kernel) rfl
theorem qm_X4_97 : Cond.methodLink RX4 97 yX3_greatestCallingPrice ∈ g_tbl := g_in 574 (by decide +kernel) rfl
theorem qo_X3_greatestCallingPrice : Cond.instanceMethod yX3_greatestCallingPrice ∈ g_tbl := g_in 575 (by decide +kernel) rfl
theorem qe_X3_greatestCallingPrice : Cond.selects RX3 yX3_greatestCallingPrice yX3_greatestCallingPrice ∈ g_tbl := g_in 576 (by decide +kernel) rfl
theorem qk_X3_greatestCallingPrice : Cond.code yX3_greatestCallingPrice cX3_greatestCallingPrice 7 (some .int) ∈ g_tbl := g_in 577 (by decide +kernel) rfl
theorem qm_L_96 : Cond.methodLink RL 96 yX4_count ∈ g_tbl := g_in 578 (by decide +kernel) rfl
theorem qo_X4_count : Cond.instanceMethod yX4_count ∈ g_tbl := g_in 579 (by decide +kernel) rfl
theorem qe_X4_count : Cond.selects RX4 yX4_count yX4_count ∈ g_tbl := g_in 580 (by decide +kernel) rfl
theorem qk_X4_count : Cond.code yX4_count cX4_count 2 (some .int) ∈ g_tbl := g_in 581 (by decide +kernel) rfl
theorem qm_X4_107 : Cond.methodLink RX4 107 yX3_tellNumber ∈ g_tbl := g_in 582 (by decide +kernel) rfl
theorem qo_X3_tellNumber : Cond.instanceMethod yX3_tellNumber ∈ g_tbl := g_in 583 (by decide +kernel) rfl
theorem qe_X3_tellNumber : Cond.selects RX3 yX3_tellNumber yX3_tellNumber ∈ g_tbl := g_in 584 (by decide +kernel) rfl
theorem qk_X3_tellNumber : Cond.code yX3_tellNumber cX3_tellNumber 2 (some .int) ∈ g_tbl := g_in 585 (by decide +kernel) rfl
theorem qm_L_100 : Cond.methodLink RL 100 yX4_undo ∈ g_tbl := g_in 586 (by decide +kernel) rfl
theorem qo_X4_undo : Cond.instanceMethod yX4_undo ∈ g_tbl := g_in 587 (by decide +kernel) rfl
theorem qe_X4_undo : Cond.selects RX4 yX4_undo yX4_undo ∈ g_tbl := g_in 588 (by decide +kernel) rfl
theorem qk_X4_undo : Cond.code yX4_undo cX4_undo 3 (some .int) ∈ g_tbl := g_in 589 (by decide +kernel) rfl
theorem qc_X4_110 : Cond.constant RX4 110 (-2000000002) ∈ g_tbl := g_in 590 (by decide +kernel) rfl
theorem qm_L_105 : Cond.methodLink RL 105 yX4_type ∈ g_tbl := g_in 591 (by decide +kernel) rfl
theorem qo_X4_type : Cond.instanceMethod yX4_type ∈ g_tbl := g_in 592 (by decide +kernel) rfl
theorem qe_X4_type : Cond.selects RX4 yX4_type yX4_type ∈ g_tbl := g_in 593 (by decide +kernel) rfl
theorem qk_X4_type : Cond.code yX4_type cX4_type 2 (some .int) ∈ g_tbl := g_in 594 (by decide +kernel) rfl
theorem qm_X4_111 : Cond.methodLink RX4 111 yX2_append ∈ g_tbl := g_in 595 (by decide +kernel) rfl
theorem qo_X2_append : Cond.instanceMethod yX2_append ∈ g_tbl := g_in 596 (by decide +kernel) rfl
theorem qe_X2_append : Cond.selects RX2 yX2_append yX2_append ∈ g_tbl := g_in 597 (by decide +kernel) rfl
theorem qk_X2_append : Cond.code yX2_append cX2_append 2 (some .int) ∈ g_tbl := g_in 598 (by decide +kernel) rfl
theorem qc_X2_19 : Cond.constant RX2 19 (-2000000001) ∈ g_tbl := g_in 599 (by decide +kernel) rfl
theorem qc_X2_24 : Cond.constant RX2 24 (-2000000003) ∈ g_tbl := g_in 600 (by decide +kernel) rfl
theorem qm_L_109 : Cond.methodLink RL 109 yX4_clearText ∈ g_tbl := g_in 601 (by decide +kernel) rfl
theorem qo_X4_clearText : Cond.instanceMethod yX4_clearText ∈ g_tbl := g_in 602 (by decide +kernel) rfl
theorem qe_X4_clearText : Cond.selects RX4 yX4_clearText yX4_clearText ∈ g_tbl := g_in 603 (by decide +kernel) rfl
theorem qk_X4_clearText : Cond.code yX4_clearText cX4_clearText 2 (some .int) ∈ g_tbl := g_in 604 (by decide +kernel) rfl
theorem qm_L_113 : Cond.methodLink RL 113 yX4_fault ∈ g_tbl := g_in 605 (by decide +kernel) rfl
theorem qo_X4_fault : Cond.instanceMethod yX4_fault ∈ g_tbl := g_in 606 (by decide +kernel) rfl
theorem qe_X4_fault : Cond.selects RX4 yX4_fault yX4_fault ∈ g_tbl := g_in 607 (by decide +kernel) rfl
theorem qk_X4_fault : Cond.code yX4_fault cX4_fault 2 (some .int) ∈ g_tbl := g_in 608 (by decide +kernel) rfl
theorem qm_X4_115 : Cond.methodLink RX4 115 yX2_doOrders ∈ g_tbl := g_in 609 (by decide +kernel) rfl
theorem qo_X2_doOrders : Cond.instanceMethod yX2_doOrders ∈ g_tbl := g_in 610 (by decide +kernel) rfl
theorem qe_X2_doOrders : Cond.selects RX2 yX2_doOrders yX2_doOrders ∈ g_tbl := g_in 611 (by decide +kernel) rfl
theorem qk_X2_doOrders : Cond.code yX2_doOrders cX2_doOrders 5 none ∈ g_tbl := g_in 612 (by decide +kernel) rfl
theorem qm_X2_34 : Cond.methodLink RX2 34 yX2_readOrder ∈ g_tbl := g_in 613 (by decide +kernel) rfl
theorem qo_X2_readOrder : Cond.instanceMethod yX2_readOrder ∈ g_tbl := g_in 615 (by decide +kernel) rfl
theorem qk_X2_readOrder : Cond.code yX2_readOrder cX2_readOrder 3 (some .boolean) ∈ g_tbl := g_in 616 (by decide +kernel) rfl
theorem qm_X2_42 : Cond.methodLink RX2 42 yX2_characterAt ∈ g_tbl := g_in 617 (by decide +kernel) rfl
theorem qo_X2_characterAt : Cond.instanceMethod yX2_characterAt ∈ g_tbl := g_in 619 (by decide +kernel) rfl
theorem qk_X2_characterAt : Cond.code yX2_characterAt cX2_characterAt 3 (some .char) ∈ g_tbl := g_in 620 (by decide +kernel) rfl
theorem qm_X2_83 : Cond.methodLink RX2 83 yX2_numbersBehind ∈ g_tbl := g_in 621 (by decide +kernel) rfl
theorem qs_X2_numbersBehind : Cond.static yX2_numbersBehind ∈ g_tbl := g_in 622 (by decide +kernel) rfl
theorem qk_X2_numbersBehind : Cond.code yX2_numbersBehind cX2_numbersBehind 1 (some .int) ∈ g_tbl := g_in 623 (by decide +kernel) rfl
theorem qm_X2_87 : Cond.methodLink RX2 87 yX2_isDigit ∈ g_tbl := g_in 624 (by decide +kernel) rfl
theorem qs_X2_isDigit : Cond.static yX2_isDigit ∈ g_tbl := g_in 625 (by decide +kernel) rfl
theorem qk_X2_isDigit : Cond.code yX2_isDigit cX2_isDigit 1 (some .boolean) ∈ g_tbl := g_in 626 (by decide +kernel) rfl
theorem qm_X2_91 : Cond.methodLink RX2 91 yX2_readNumber ∈ g_tbl := g_in 627 (by decide +kernel) rfl
theorem qo_X2_readNumber : Cond.instanceMethod yX2_readNumber ∈ g_tbl := g_in 629 (by decide +kernel) rfl
theorem qk_X2_readNumber : Cond.code yX2_readNumber cX2_readNumber 3 (some .int) ∈ g_tbl := g_in 630 (by decide +kernel) rfl
theorem qm_X2_38 : Cond.methodLink RX2 38 yX2_setFault ∈ g_tbl := g_in 631 (by decide +kernel) rfl
theorem qo_X2_setFault : Cond.instanceMethod yX2_setFault ∈ g_tbl := g_in 633 (by decide +kernel) rfl
theorem qk_X2_setFault : Cond.code yX2_setFault cX2_setFault 4 none ∈ g_tbl := g_in 634 (by decide +kernel) rfl
theorem qm_X2_46 : Cond.methodLink RX2 46 yX2_doOrder ∈ g_tbl := g_in 635 (by decide +kernel) rfl
theorem qo_X2_doOrder : Cond.instanceMethod yX2_doOrder ∈ g_tbl := g_in 637 (by decide +kernel) rfl
theorem qk_X2_doOrder : Cond.code yX2_doOrder cX2_doOrder 3 (some .int) ∈ g_tbl := g_in 638 (by decide +kernel) rfl
theorem qm_X2_60 : Cond.methodLink RX2 60 yX3_storeGrain ∈ g_tbl := g_in 639 (by decide +kernel) rfl
theorem qm_X2_66 : Cond.methodLink RX2 66 yX3_pledgeTo ∈ g_tbl := g_in 640 (by decide +kernel) rfl
theorem qm_X2_69 : Cond.methodLink RX2 69 yX3_changePrice ∈ g_tbl := g_in 641 (by decide +kernel) rfl
theorem qm_X2_73 : Cond.methodLink RX2 73 yX3_callLoans ∈ g_tbl := g_in 642 (by decide +kernel) rfl
theorem qm_X2_77 : Cond.methodLink RX2 77 yX3_deliverGrain ∈ g_tbl := g_in 643 (by decide +kernel) rfl
theorem qm_X2_80 : Cond.methodLink RX2 80 yX3_passDays ∈ g_tbl := g_in 644 (by decide +kernel) rfl
theorem qm_L_117 : Cond.methodLink RL 117 yX4_play ∈ g_tbl := g_in 646 (by decide +kernel) rfl
theorem qo_X4_play : Cond.instanceMethod yX4_play ∈ g_tbl := g_in 647 (by decide +kernel) rfl
theorem qe_X4_play : Cond.selects RX4 yX4_play yX4_play ∈ g_tbl := g_in 648 (by decide +kernel) rfl
theorem qk_X4_play : Cond.code yX4_play cX4_play 2 (some .int) ∈ g_tbl := g_in 649 (by decide +kernel) rfl
theorem ql_L_10 : Cond.classLink RL 10 RX5 ∈ g_tbl := g_in 650 (by decide +kernel) rfl
theorem qi_X5 : Cond.instantiable RX5 12 ∈ g_tbl := g_in 651 (by decide +kernel) rfl
theorem qm_L_12 : Cond.methodLink RL 12 yX5_init ∈ g_tbl := g_in 652 (by decide +kernel) rfl
theorem qo_X5_init : Cond.instanceMethod yX5_init ∈ g_tbl := g_in 653 (by decide +kernel) rfl
theorem qk_X5_init : Cond.code yX5_init cX5_init 2 none ∈ g_tbl := g_in 654 (by decide +kernel) rfl
theorem qm_X5_1 : Cond.methodLink RX5 1 ⟨"java/lang/Object", "<init>", "()V"⟩ ∈ g_tbl := g_in 655 (by decide +kernel) rfl
theorem qf_X5_7 : Cond.fieldLink RX5 7 "GrainReceiptsModel" "s" "[I" ∈ g_tbl := g_in 656 (by decide +kernel) rfl
theorem qf_X5_13 : Cond.fieldLink RX5 13 "GrainReceiptsModel" "begun" "[I" ∈ g_tbl := g_in 657 (by decide +kernel) rfl
theorem qf_X5_16 : Cond.fieldLink RX5 16 "GrainReceiptsModel" "past" "[I" ∈ g_tbl := g_in 658 (by decide +kernel) rfl
theorem qf_X5_29 : Cond.fieldLink RX5 29 "GrainReceiptsModel" "states" "I" ∈ g_tbl := g_in 659 (by decide +kernel) rfl
theorem qf_X5_19 : Cond.fieldLink RX5 19 "GrainReceiptsModel" "text" "[I" ∈ g_tbl := g_in 660 (by decide +kernel) rfl
theorem qf_X5_163 : Cond.fieldLink RX5 163 "GrainReceiptsModel" "length" "I" ∈ g_tbl := g_in 661 (by decide +kernel) rfl
theorem qf_X5_166 : Cond.fieldLink RX5 166 "GrainReceiptsModel" "at" "I" ∈ g_tbl := g_in 662 (by decide +kernel) rfl
theorem qf_X5_183 : Cond.fieldLink RX5 183 "GrainReceiptsModel" "from" "I" ∈ g_tbl := g_in 663 (by decide +kernel) rfl
theorem qf_X5_180 : Cond.fieldLink RX5 180 "GrainReceiptsModel" "done" "I" ∈ g_tbl := g_in 664 (by decide +kernel) rfl
theorem qf_X5_198 : Cond.fieldLink RX5 198 "GrainReceiptsModel" "told" "I" ∈ g_tbl := g_in 665 (by decide +kernel) rfl
theorem qf_X5_173 : Cond.fieldLink RX5 173 "GrainReceiptsModel" "isForm" "Z" ∈ g_tbl := g_in 666 (by decide +kernel) rfl
theorem qf_X5_22 : Cond.fieldLink RX5 22 "GrainReceiptsModel" "numbers" "[I" ∈ g_tbl := g_in 667 (by decide +kernel) rfl
theorem qm_L_17 : Cond.methodLink RL 17 yX5_store ∈ g_tbl := g_in 693 (by decide +kernel) rfl
theorem qo_X5_store : Cond.instanceMethod yX5_store ∈ g_tbl := g_in 694 (by decide +kernel) rfl
theorem qe_X5_store : Cond.selects RX5 yX5_store yX5_store ∈ g_tbl := g_in 695 (by decide +kernel) rfl
theorem qk_X5_store : Cond.code yX5_store cX5_store 4 (some .int) ∈ g_tbl := g_in 696 (by decide +kernel) rfl
theorem qm_X5_107 : Cond.methodLink RX5 107 yX5_begins ∈ g_tbl := g_in 697 (by decide +kernel) rfl
theorem qo_X5_begins : Cond.instanceMethod yX5_begins ∈ g_tbl := g_in 699 (by decide +kernel) rfl
theorem qk_X5_begins : Cond.code yX5_begins cX5_begins 2 none ∈ g_tbl := g_in 700 (by decide +kernel) rfl
theorem qm_X5_110 : Cond.methodLink RX5 110 yX5_stores ∈ g_tbl := g_in 701 (by decide +kernel) rfl
theorem qo_X5_stores : Cond.instanceMethod yX5_stores ∈ g_tbl := g_in 703 (by decide +kernel) rfl
theorem qk_X5_stores : Cond.code yX5_stores cX5_stores 7 (some .int) ∈ g_tbl := g_in 704 (by decide +kernel) rfl
theorem qm_X5_67 : Cond.methodLink RX5 67 yX5_in ∈ g_tbl := g_in 705 (by decide +kernel) rfl
theorem qs_X5_in : Cond.static yX5_in ∈ g_tbl := g_in 706 (by decide +kernel) rfl
theorem qk_X5_in : Cond.code yX5_in cX5_in 3 (some .boolean) ∈ g_tbl := g_in 707 (by decide +kernel) rfl
theorem qc_X5_25 : Cond.constant RX5 25 (-2000000001) ∈ g_tbl := g_in 708 (by decide +kernel) rfl
theorem qm_X5_71 : Cond.methodLink RX5 71 yX5_room ∈ g_tbl := g_in 709 (by decide +kernel) rfl
theorem qo_X5_room : Cond.instanceMethod yX5_room ∈ g_tbl := g_in 711 (by decide +kernel) rfl
theorem qk_X5_room : Cond.code yX5_room cX5_room 4 (some .int) ∈ g_tbl := g_in 712 (by decide +kernel) rfl
theorem qm_X5_52 : Cond.methodLink RX5 52 yX5_grade ∈ g_tbl := g_in 713 (by decide +kernel) rfl
theorem qo_X5_grade : Cond.instanceMethod yX5_grade ∈ g_tbl := g_in 715 (by decide +kernel) rfl
theorem qk_X5_grade : Cond.code yX5_grade cX5_grade 2 (some .int) ∈ g_tbl := g_in 716 (by decide +kernel) rfl
theorem qm_X5_55 : Cond.methodLink RX5 55 yX5_amount ∈ g_tbl := g_in 717 (by decide +kernel) rfl
theorem qo_X5_amount : Cond.instanceMethod yX5_amount ∈ g_tbl := g_in 719 (by decide +kernel) rfl
theorem qk_X5_amount : Cond.code yX5_amount cX5_amount 2 (some .int) ∈ g_tbl := g_in 720 (by decide +kernel) rfl
theorem qc_X5_74 : Cond.constant RX5 74 (-2000000003) ∈ g_tbl := g_in 721 (by decide +kernel) rfl
theorem qm_X5_75 : Cond.methodLink RX5 75 yX5_moves ∈ g_tbl := g_in 722 (by decide +kernel) rfl
theorem qo_X5_moves : Cond.instanceMethod yX5_moves ∈ g_tbl := g_in 724 (by decide +kernel) rfl
theorem qk_X5_moves : Cond.code yX5_moves cX5_moves 3 none ∈ g_tbl := g_in 725 (by decide +kernel) rfl
theorem qm_X5_79 : Cond.methodLink RX5 79 yX5_makes ∈ g_tbl := g_in 726 (by decide +kernel) rfl
theorem qo_X5_makes : Cond.instanceMethod yX5_makes ∈ g_tbl := g_in 728 (by decide +kernel) rfl
theorem qk_X5_makes : Cond.code yX5_makes cX5_makes 5 (some .int) ∈ g_tbl := g_in 729 (by decide +kernel) rfl
theorem qm_X5_37 : Cond.methodLink RX5 37 yX5_lays ∈ g_tbl := g_in 730 (by decide +kernel) rfl
theorem qo_X5_lays : Cond.instanceMethod yX5_lays ∈ g_tbl := g_in 732 (by decide +kernel) rfl
theorem qk_X5_lays : Cond.code yX5_lays cX5_lays 4 none ∈ g_tbl := g_in 733 (by decide +kernel) rfl
theorem qm_X5_41 : Cond.methodLink RX5 41 yX5_frees ∈ g_tbl := g_in 734 (by decide +kernel) rfl
theorem qo_X5_frees : Cond.instanceMethod yX5_frees ∈ g_tbl := g_in 736 (by decide +kernel) rfl
theorem qk_X5_frees : Cond.code yX5_frees cX5_frees 2 none ∈ g_tbl := g_in 737 (by decide +kernel) rfl
theorem qm_X5_33 : Cond.methodLink RX5 33 yX5_of ∈ g_tbl := g_in 738 (by decide +kernel) rfl
theorem qo_X5_of : Cond.instanceMethod yX5_of ∈ g_tbl := g_in 740 (by decide +kernel) rfl
theorem qk_X5_of : Cond.code yX5_of cX5_of 3 (some .int) ∈ g_tbl := g_in 741 (by decide +kernel) rfl
theorem qm_X5_113 : Cond.methodLink RX5 113 yX5_acted ∈ g_tbl := g_in 742 (by decide +kernel) rfl
theorem qo_X5_acted : Cond.instanceMethod yX5_acted ∈ g_tbl := g_in 744 (by decide +kernel) rfl
theorem qk_X5_acted : Cond.code yX5_acted cX5_acted 3 (some .int) ∈ g_tbl := g_in 745 (by decide +kernel) rfl
theorem qm_X5_26 : Cond.methodLink RX5 26 yX5_returns ∈ g_tbl := g_in 746 (by decide +kernel) rfl
theorem qo_X5_returns : Cond.instanceMethod yX5_returns ∈ g_tbl := g_in 748 (by decide +kernel) rfl
theorem qk_X5_returns : Cond.code yX5_returns cX5_returns 2 none ∈ g_tbl := g_in 749 (by decide +kernel) rfl
theorem qm_L_22 : Cond.methodLink RL 22 yX5_split ∈ g_tbl := g_in 750 (by decide +kernel) rfl
theorem qo_X5_split : Cond.instanceMethod yX5_split ∈ g_tbl := g_in 751 (by decide +kernel) rfl
theorem qe_X5_split : Cond.selects RX5 yX5_split yX5_split ∈ g_tbl := g_in 752 (by decide +kernel) rfl
theorem qk_X5_split : Cond.code yX5_split cX5_split 3 (some .int) ∈ g_tbl := g_in 753 (by decide +kernel) rfl
theorem qm_X5_116 : Cond.methodLink RX5 116 yX5_splits ∈ g_tbl := g_in 754 (by decide +kernel) rfl
theorem qo_X5_splits : Cond.instanceMethod yX5_splits ∈ g_tbl := g_in 756 (by decide +kernel) rfl
theorem qk_X5_splits : Cond.code yX5_splits cX5_splits 6 (some .int) ∈ g_tbl := g_in 757 (by decide +kernel) rfl
theorem qm_X5_83 : Cond.methodLink RX5 83 yX5_placeOf ∈ g_tbl := g_in 758 (by decide +kernel) rfl
theorem qo_X5_placeOf : Cond.instanceMethod yX5_placeOf ∈ g_tbl := g_in 760 (by decide +kernel) rfl
theorem qk_X5_placeOf : Cond.code yX5_placeOf cX5_placeOf 4 (some .int) ∈ g_tbl := g_in 761 (by decide +kernel) rfl
theorem qc_X5_86 : Cond.constant RX5 86 (-2000000002) ∈ g_tbl := g_in 762 (by decide +kernel) rfl
theorem qm_L_26 : Cond.methodLink RL 26 yX5_join ∈ g_tbl := g_in 763 (by decide +kernel) rfl
theorem qo_X5_join : Cond.instanceMethod yX5_join ∈ g_tbl := g_in 764 (by decide +kernel) rfl
theorem qe_X5_join : Cond.selects RX5 yX5_join yX5_join ∈ g_tbl := g_in 765 (by decide +kernel) rfl
theorem qk_X5_join : Cond.code yX5_join cX5_join 3 (some .int) ∈ g_tbl := g_in 766 (by decide +kernel) rfl
theorem qm_X5_119 : Cond.methodLink RX5 119 yX5_joins ∈ g_tbl := g_in 767 (by decide +kernel) rfl
theorem qo_X5_joins : Cond.instanceMethod yX5_joins ∈ g_tbl := g_in 769 (by decide +kernel) rfl
theorem qk_X5_joins : Cond.code yX5_joins cX5_joins 6 (some .int) ∈ g_tbl := g_in 770 (by decide +kernel) rfl
theorem qm_X5_87 : Cond.methodLink RX5 87 yX5_isPledged ∈ g_tbl := g_in 771 (by decide +kernel) rfl
theorem qo_X5_isPledged : Cond.instanceMethod yX5_isPledged ∈ g_tbl := g_in 773 (by decide +kernel) rfl
theorem qk_X5_isPledged : Cond.code yX5_isPledged cX5_isPledged 2 (some .boolean) ∈ g_tbl := g_in 774 (by decide +kernel) rfl
theorem qm_X5_91 : Cond.methodLink RX5 91 yX5_removes ∈ g_tbl := g_in 775 (by decide +kernel) rfl
theorem qo_X5_removes : Cond.instanceMethod yX5_removes ∈ g_tbl := g_in 777 (by decide +kernel) rfl
theorem qk_X5_removes : Cond.code yX5_removes cX5_removes 3 none ∈ g_tbl := g_in 778 (by decide +kernel) rfl
theorem qm_L_30 : Cond.methodLink RL 30 yX5_hand ∈ g_tbl := g_in 779 (by decide +kernel) rfl
theorem qo_X5_hand : Cond.instanceMethod yX5_hand ∈ g_tbl := g_in 780 (by decide +kernel) rfl
theorem qe_X5_hand : Cond.selects RX5 yX5_hand yX5_hand ∈ g_tbl := g_in 781 (by decide +kernel) rfl
theorem qk_X5_hand : Cond.code yX5_hand cX5_hand 5 (some .int) ∈ g_tbl := g_in 782 (by decide +kernel) rfl
theorem qm_L_35 : Cond.methodLink RL 35 yX5_deliver ∈ g_tbl := g_in 783 (by decide +kernel) rfl
theorem qo_X5_deliver : Cond.instanceMethod yX5_deliver ∈ g_tbl := g_in 784 (by decide +kernel) rfl
theorem qe_X5_deliver : Cond.selects RX5 yX5_deliver yX5_deliver ∈ g_tbl := g_in 785 (by decide +kernel) rfl
theorem qk_X5_deliver : Cond.code yX5_deliver cX5_deliver 2 (some .int) ∈ g_tbl := g_in 786 (by decide +kernel) rfl
theorem qm_X5_122 : Cond.methodLink RX5 122 yX5_delivers ∈ g_tbl := g_in 787 (by decide +kernel) rfl
theorem qo_X5_delivers : Cond.instanceMethod yX5_delivers ∈ g_tbl := g_in 789 (by decide +kernel) rfl
theorem qk_X5_delivers : Cond.code yX5_delivers cX5_delivers 9 (some .int) ∈ g_tbl := g_in 790 (by decide +kernel) rfl
theorem qm_L_39 : Cond.methodLink RL 39 yX5_pledge ∈ g_tbl := g_in 791 (by decide +kernel) rfl
theorem qo_X5_pledge : Cond.instanceMethod yX5_pledge ∈ g_tbl := g_in 792 (by decide +kernel) rfl
theorem qe_X5_pledge : Cond.selects RX5 yX5_pledge yX5_pledge ∈ g_tbl := g_in 793 (by decide +kernel) rfl
theorem qk_X5_pledge : Cond.code yX5_pledge cX5_pledge 4 (some .int) ∈ g_tbl := g_in 794 (by decide +kernel) rfl
theorem qm_X5_125 : Cond.methodLink RX5 125 yX5_pledges ∈ g_tbl := g_in 795 (by decide +kernel) rfl
theorem qo_X5_pledges : Cond.instanceMethod yX5_pledges ∈ g_tbl := g_in 797 (by decide +kernel) rfl
theorem qk_X5_pledges : Cond.code yX5_pledges cX5_pledges 6 (some .int) ∈ g_tbl := g_in 798 (by decide +kernel) rfl
theorem qm_X5_49 : Cond.methodLink RX5 49 yX5_share ∈ g_tbl := g_in 799 (by decide +kernel) rfl
theorem qo_X5_share : Cond.instanceMethod yX5_share ∈ g_tbl := g_in 801 (by decide +kernel) rfl
theorem qk_X5_share : Cond.code yX5_share cX5_share 3 (some .int) ∈ g_tbl := g_in 802 (by decide +kernel) rfl
theorem qm_X5_45 : Cond.methodLink RX5 45 yX5_worth ∈ g_tbl := g_in 803 (by decide +kernel) rfl
theorem qo_X5_worth : Cond.instanceMethod yX5_worth ∈ g_tbl := g_in 805 (by decide +kernel) rfl
theorem qk_X5_worth : Cond.code yX5_worth cX5_worth 2 (some .int) ∈ g_tbl := g_in 806 (by decide +kernel) rfl
theorem qm_L_43 : Cond.methodLink RL 43 yX5_repay ∈ g_tbl := g_in 807 (by decide +kernel) rfl
theorem qo_X5_repay : Cond.instanceMethod yX5_repay ∈ g_tbl := g_in 808 (by decide +kernel) rfl
theorem qe_X5_repay : Cond.selects RX5 yX5_repay yX5_repay ∈ g_tbl := g_in 809 (by decide +kernel) rfl
theorem qk_X5_repay : Cond.code yX5_repay cX5_repay 3 (some .int) ∈ g_tbl := g_in 810 (by decide +kernel) rfl
theorem qm_X5_128 : Cond.methodLink RX5 128 yX5_repays ∈ g_tbl := g_in 811 (by decide +kernel) rfl
theorem qo_X5_repays : Cond.instanceMethod yX5_repays ∈ g_tbl := g_in 813 (by decide +kernel) rfl
theorem qk_X5_repays : Cond.code yX5_repays cX5_repays 5 (some .int) ∈ g_tbl := g_in 814 (by decide +kernel) rfl
theorem qm_X5_94 : Cond.methodLink RX5 94 yX5_isAbove ∈ g_tbl := g_in 815 (by decide +kernel) rfl
theorem qo_X5_isAbove : Cond.instanceMethod yX5_isAbove ∈ g_tbl := g_in 817 (by decide +kernel) rfl
theorem qk_X5_isAbove : Cond.code yX5_isAbove cX5_isAbove 2 (some .boolean) ∈ g_tbl := g_in 818 (by decide +kernel) rfl
theorem qm_L_47 : Cond.methodLink RL 47 yX5_price ∈ g_tbl := g_in 819 (by decide +kernel) rfl
theorem qo_X5_price : Cond.instanceMethod yX5_price ∈ g_tbl := g_in 820 (by decide +kernel) rfl
theorem qe_X5_price : Cond.selects RX5 yX5_price yX5_price ∈ g_tbl := g_in 821 (by decide +kernel) rfl
theorem qk_X5_price : Cond.code yX5_price cX5_price 3 (some .int) ∈ g_tbl := g_in 822 (by decide +kernel) rfl
theorem qm_X5_131 : Cond.methodLink RX5 131 yX5_prices ∈ g_tbl := g_in 823 (by decide +kernel) rfl
theorem qo_X5_prices : Cond.instanceMethod yX5_prices ∈ g_tbl := g_in 825 (by decide +kernel) rfl
theorem qk_X5_prices : Cond.code yX5_prices cX5_prices 4 (some .int) ∈ g_tbl := g_in 826 (by decide +kernel) rfl
theorem qm_L_51 : Cond.methodLink RL 51 yX5_call ∈ g_tbl := g_in 827 (by decide +kernel) rfl
theorem qo_X5_call : Cond.instanceMethod yX5_call ∈ g_tbl := g_in 828 (by decide +kernel) rfl
theorem qe_X5_call : Cond.selects RX5 yX5_call yX5_call ∈ g_tbl := g_in 829 (by decide +kernel) rfl
theorem qk_X5_call : Cond.code yX5_call cX5_call 2 (some .int) ∈ g_tbl := g_in 830 (by decide +kernel) rfl
theorem qm_X5_134 : Cond.methodLink RX5 134 yX5_calls ∈ g_tbl := g_in 831 (by decide +kernel) rfl
theorem qo_X5_calls : Cond.instanceMethod yX5_calls ∈ g_tbl := g_in 833 (by decide +kernel) rfl
theorem qk_X5_calls : Cond.code yX5_calls cX5_calls 4 (some .int) ∈ g_tbl := g_in 834 (by decide +kernel) rfl
theorem qm_X5_97 : Cond.methodLink RX5 97 yX5_wouldCall ∈ g_tbl := g_in 835 (by decide +kernel) rfl
theorem qo_X5_wouldCall : Cond.instanceMethod yX5_wouldCall ∈ g_tbl := g_in 837 (by decide +kernel) rfl
theorem qk_X5_wouldCall : Cond.code yX5_wouldCall cX5_wouldCall 3 (some .boolean) ∈ g_tbl := g_in 838 (by decide +kernel) rfl
theorem qm_L_55 : Cond.methodLink RL 55 yX5_pass ∈ g_tbl := g_in 839 (by decide +kernel) rfl
theorem qo_X5_pass : Cond.instanceMethod yX5_pass ∈ g_tbl := g_in 840 (by decide +kernel) rfl
theorem qe_X5_pass : Cond.selects RX5 yX5_pass yX5_pass ∈ g_tbl := g_in 841 (by decide +kernel) rfl
theorem qk_X5_pass : Cond.code yX5_pass cX5_pass 2 (some .int) ∈ g_tbl := g_in 842 (by decide +kernel) rfl
theorem qm_X5_137 : Cond.methodLink RX5 137 yX5_lets ∈ g_tbl := g_in 843 (by decide +kernel) rfl
theorem qo_X5_lets : Cond.instanceMethod yX5_lets ∈ g_tbl := g_in 845 (by decide +kernel) rfl
theorem qk_X5_lets : Cond.code yX5_lets cX5_lets 4 (some .int) ∈ g_tbl := g_in 846 (by decide +kernel) rfl
theorem qm_X5_104 : Cond.methodLink RX5 104 yX5_day ∈ g_tbl := g_in 847 (by decide +kernel) rfl
theorem qo_X5_day : Cond.instanceMethod yX5_day ∈ g_tbl := g_in 849 (by decide +kernel) rfl
theorem qk_X5_day : Cond.code yX5_day cX5_day 2 none ∈ g_tbl := g_in 850 (by decide +kernel) rfl
theorem qm_X5_101 : Cond.methodLink RX5 101 yX5_seizes ∈ g_tbl := g_in 851 (by decide +kernel) rfl
theorem qo_X5_seizes : Cond.instanceMethod yX5_seizes ∈ g_tbl := g_in 853 (by decide +kernel) rfl
theorem qk_X5_seizes : Cond.code yX5_seizes cX5_seizes 3 none ∈ g_tbl := g_in 854 (by decide +kernel) rfl
theorem qm_L_59 : Cond.methodLink RL 59 yX5_lose ∈ g_tbl := g_in 855 (by decide +kernel) rfl
theorem qo_X5_lose : Cond.instanceMethod yX5_lose ∈ g_tbl := g_in 856 (by decide +kernel) rfl
theorem qe_X5_lose : Cond.selects RX5 yX5_lose yX5_lose ∈ g_tbl := g_in 857 (by decide +kernel) rfl
theorem qk_X5_lose : Cond.code yX5_lose cX5_lose 3 (some .int) ∈ g_tbl := g_in 858 (by decide +kernel) rfl
theorem qm_X5_140 : Cond.methodLink RX5 140 yX5_areCovered ∈ g_tbl := g_in 859 (by decide +kernel) rfl
theorem qo_X5_areCovered : Cond.instanceMethod yX5_areCovered ∈ g_tbl := g_in 861 (by decide +kernel) rfl
theorem qk_X5_areCovered : Cond.code yX5_areCovered cX5_areCovered 1 (some .boolean) ∈ g_tbl := g_in 862 (by decide +kernel) rfl
theorem qm_X5_64 : Cond.methodLink RX5 64 yX5_surplus ∈ g_tbl := g_in 863 (by decide +kernel) rfl
theorem qo_X5_surplus : Cond.instanceMethod yX5_surplus ∈ g_tbl := g_in 865 (by decide +kernel) rfl
theorem qk_X5_surplus : Cond.code yX5_surplus cX5_surplus 4 (some .int) ∈ g_tbl := g_in 866 (by decide +kernel) rfl
theorem qm_X5_58 : Cond.methodLink RX5 58 yX5_inBins ∈ g_tbl := g_in 867 (by decide +kernel) rfl
theorem qo_X5_inBins : Cond.instanceMethod yX5_inBins ∈ g_tbl := g_in 869 (by decide +kernel) rfl
theorem qk_X5_inBins : Cond.code yX5_inBins cX5_inBins 4 (some .int) ∈ g_tbl := g_in 870 (by decide +kernel) rfl
theorem qm_X5_61 : Cond.methodLink RX5 61 yX5_inReceipts ∈ g_tbl := g_in 871 (by decide +kernel) rfl
theorem qo_X5_inReceipts : Cond.instanceMethod yX5_inReceipts ∈ g_tbl := g_in 873 (by decide +kernel) rfl
theorem qk_X5_inReceipts : Cond.code yX5_inReceipts cX5_inReceipts 4 (some .int) ∈ g_tbl := g_in 874 (by decide +kernel) rfl
theorem qm_L_63 : Cond.methodLink RL 63 yX5_regrade ∈ g_tbl := g_in 875 (by decide +kernel) rfl
theorem qo_X5_regrade : Cond.instanceMethod yX5_regrade ∈ g_tbl := g_in 876 (by decide +kernel) rfl
theorem qe_X5_regrade : Cond.selects RX5 yX5_regrade yX5_regrade ∈ g_tbl := g_in 877 (by decide +kernel) rfl
theorem qk_X5_regrade : Cond.code yX5_regrade cX5_regrade 4 (some .int) ∈ g_tbl := g_in 878 (by decide +kernel) rfl
theorem qm_L_67 : Cond.methodLink RL 67 yX5_set ∈ g_tbl := g_in 879 (by decide +kernel) rfl
theorem qo_X5_set : Cond.instanceMethod yX5_set ∈ g_tbl := g_in 880 (by decide +kernel) rfl
theorem qe_X5_set : Cond.selects RX5 yX5_set yX5_set ∈ g_tbl := g_in 881 (by decide +kernel) rfl
theorem qk_X5_set : Cond.code yX5_set cX5_set 6 (some .int) ∈ g_tbl := g_in 882 (by decide +kernel) rfl
theorem qm_L_71 : Cond.methodLink RL 71 yX5_receiptOf ∈ g_tbl := g_in 883 (by decide +kernel) rfl
theorem qo_X5_receiptOf : Cond.instanceMethod yX5_receiptOf ∈ g_tbl := g_in 884 (by decide +kernel) rfl
theorem qe_X5_receiptOf : Cond.selects RX5 yX5_receiptOf yX5_receiptOf ∈ g_tbl := g_in 885 (by decide +kernel) rfl
theorem qk_X5_receiptOf : Cond.code yX5_receiptOf cX5_receiptOf 4 (some .int) ∈ g_tbl := g_in 886 (by decide +kernel) rfl
theorem qc_X5_150 : Cond.constant RX5 150 (-2000000004) ∈ g_tbl := g_in 887 (by decide +kernel) rfl
theorem qm_X5_151 : Cond.methodLink RX5 151 yX5_bits ∈ g_tbl := g_in 888 (by decide +kernel) rfl
theorem qo_X5_bits : Cond.instanceMethod yX5_bits ∈ g_tbl := g_in 890 (by decide +kernel) rfl
theorem qk_X5_bits : Cond.code yX5_bits cX5_bits 4 (some .int) ∈ g_tbl := g_in 891 (by decide +kernel) rfl
theorem qm_X5_144 : Cond.methodLink RX5 144 yJxf58ca_floatToIntBits_5c35a ∈ g_tbl := g_in 892 (by decide +kernel) rfl
theorem qs_Jxf58ca_floatToIntBits_5c35a : Cond.static yJxf58ca_floatToIntBits_5c35a ∈ g_tbl := g_in 893 (by decide +kernel) rfl
theorem qk_Jxf58ca_floatToIntBits_5c35a : Cond.code yJxf58ca_floatToIntBits_5c35a cJxf58ca_floatToIntBits_5c35a 1 (some .int) ∈ g_tbl := g_in 894 (by decide +kernel) rfl
theorem qm_Jxf58ca_59 : Cond.methodLink RJxf58ca 59 yJxf58ca_isNaN_12338 ∈ g_tbl := g_in 895 (by decide +kernel) rfl
theorem qs_Jxf58ca_isNaN_12338 : Cond.static yJxf58ca_isNaN_12338 ∈ g_tbl := g_in 896 (by decide +kernel) rfl
theorem qk_Jxf58ca_isNaN_12338 : Cond.code yJxf58ca_isNaN_12338 cJxf58ca_isNaN_12338 1 (some .boolean) ∈ g_tbl := g_in 897 (by decide +kernel) rfl
theorem qm_Jxf58ca_74 : Cond.methodLink RJxf58ca 74 ⟨"java/lang/Float", "floatToRawIntBits", "(F)I"⟩ ∈ g_tbl := g_in 898 (by decide +kernel) rfl
theorem qs_floatToRawIntBits_Float : Cond.static ⟨"java/lang/Float", "floatToRawIntBits", "(F)I"⟩ ∈ g_tbl := g_in 899 (by decide +kernel) rfl
theorem qn_floatToRawIntBits_Float : Cond.native ⟨"java/lang/Float", "floatToRawIntBits", "(F)I"⟩ ∈ g_tbl := g_in 900 (by decide +kernel) rfl
theorem qc_Jxf58ca_77 : Cond.constant RJxf58ca 77 (2143289344) ∈ g_tbl := g_in 901 (by decide +kernel) rfl
theorem qm_L_75 : Cond.methodLink RL 75 yX5_receipt ∈ g_tbl := g_in 902 (by decide +kernel) rfl
theorem qo_X5_receipt : Cond.instanceMethod yX5_receipt ∈ g_tbl := g_in 903 (by decide +kernel) rfl
theorem qe_X5_receipt : Cond.selects RX5 yX5_receipt yX5_receipt ∈ g_tbl := g_in 904 (by decide +kernel) rfl
theorem qk_X5_receipt : Cond.code yX5_receipt cX5_receipt 2 (some .int) ∈ g_tbl := g_in 905 (by decide +kernel) rfl
theorem qm_L_79 : Cond.methodLink RL 79 yX5_binOf ∈ g_tbl := g_in 906 (by decide +kernel) rfl
theorem qo_X5_binOf : Cond.instanceMethod yX5_binOf ∈ g_tbl := g_in 907 (by decide +kernel) rfl
theorem qe_X5_binOf : Cond.selects RX5 yX5_binOf yX5_binOf ∈ g_tbl := g_in 908 (by decide +kernel) rfl
theorem qk_X5_binOf : Cond.code yX5_binOf cX5_binOf 3 (some .int) ∈ g_tbl := g_in 909 (by decide +kernel) rfl
theorem qm_X5_154 : Cond.methodLink RX5 154 yX5_couldLose ∈ g_tbl := g_in 910 (by decide +kernel) rfl
theorem qo_X5_couldLose : Cond.instanceMethod yX5_couldLose ∈ g_tbl := g_in 912 (by decide +kernel) rfl
theorem qk_X5_couldLose : Cond.code yX5_couldLose cX5_couldLose 4 (some .int) ∈ g_tbl := g_in 913 (by decide +kernel) rfl
theorem qm_L_83 : Cond.methodLink RL 83 yX5_gradeOf ∈ g_tbl := g_in 914 (by decide +kernel) rfl
theorem qo_X5_gradeOf : Cond.instanceMethod yX5_gradeOf ∈ g_tbl := g_in 915 (by decide +kernel) rfl
theorem qe_X5_gradeOf : Cond.selects RX5 yX5_gradeOf yX5_gradeOf ∈ g_tbl := g_in 916 (by decide +kernel) rfl
theorem qk_X5_gradeOf : Cond.code yX5_gradeOf cX5_gradeOf 3 (some .int) ∈ g_tbl := g_in 917 (by decide +kernel) rfl
theorem qm_L_87 : Cond.methodLink RL 87 yX5_ownerOf ∈ g_tbl := g_in 918 (by decide +kernel) rfl
theorem qo_X5_ownerOf : Cond.instanceMethod yX5_ownerOf ∈ g_tbl := g_in 919 (by decide +kernel) rfl
theorem qe_X5_ownerOf : Cond.selects RX5 yX5_ownerOf yX5_ownerOf ∈ g_tbl := g_in 920 (by decide +kernel) rfl
theorem qk_X5_ownerOf : Cond.code yX5_ownerOf cX5_ownerOf 8 (some .int) ∈ g_tbl := g_in 921 (by decide +kernel) rfl
theorem qm_L_91 : Cond.methodLink RL 91 yX5_lenderOf ∈ g_tbl := g_in 922 (by decide +kernel) rfl
theorem qo_X5_lenderOf : Cond.instanceMethod yX5_lenderOf ∈ g_tbl := g_in 923 (by decide +kernel) rfl
theorem qe_X5_lenderOf : Cond.selects RX5 yX5_lenderOf yX5_lenderOf ∈ g_tbl := g_in 924 (by decide +kernel) rfl
theorem qk_X5_lenderOf : Cond.code yX5_lenderOf cX5_lenderOf 6 (some .int) ∈ g_tbl := g_in 925 (by decide +kernel) rfl
theorem qm_L_95 : Cond.methodLink RL 95 yX5_fallTo ∈ g_tbl := g_in 926 (by decide +kernel) rfl
theorem qo_X5_fallTo : Cond.instanceMethod yX5_fallTo ∈ g_tbl := g_in 927 (by decide +kernel) rfl
theorem qe_X5_fallTo : Cond.selects RX5 yX5_fallTo yX5_fallTo ∈ g_tbl := g_in 928 (by decide +kernel) rfl
theorem qk_X5_fallTo : Cond.code yX5_fallTo cX5_fallTo 3 (some .int) ∈ g_tbl := g_in 929 (by decide +kernel) rfl
theorem qm_X5_157 : Cond.methodLink RX5 157 yX5_wouldFallTo ∈ g_tbl := g_in 930 (by decide +kernel) rfl
theorem qo_X5_wouldFallTo : Cond.instanceMethod yX5_wouldFallTo ∈ g_tbl := g_in 932 (by decide +kernel) rfl
theorem qk_X5_wouldFallTo : Cond.code yX5_wouldFallTo cX5_wouldFallTo 6 (some .boolean) ∈ g_tbl := g_in 933 (by decide +kernel) rfl
theorem qm_L_99 : Cond.methodLink RL 99 yX5_count ∈ g_tbl := g_in 934 (by decide +kernel) rfl
theorem qo_X5_count : Cond.instanceMethod yX5_count ∈ g_tbl := g_in 935 (by decide +kernel) rfl
theorem qe_X5_count : Cond.selects RX5 yX5_count yX5_count ∈ g_tbl := g_in 936 (by decide +kernel) rfl
theorem qk_X5_count : Cond.code yX5_count cX5_count 2 (some .int) ∈ g_tbl := g_in 937 (by decide +kernel) rfl
theorem qm_X5_160 : Cond.methodLink RX5 160 yX5_sumOf ∈ g_tbl := g_in 938 (by decide +kernel) rfl
theorem qo_X5_sumOf : Cond.instanceMethod yX5_sumOf ∈ g_tbl := g_in 940 (by decide +kernel) rfl
theorem qk_X5_sumOf : Cond.code yX5_sumOf cX5_sumOf 4 (some .int) ∈ g_tbl := g_in 941 (by decide +kernel) rfl
theorem qm_L_104 : Cond.methodLink RL 104 yX5_undo ∈ g_tbl := g_in 942 (by decide +kernel) rfl
theorem qo_X5_undo : Cond.instanceMethod yX5_undo ∈ g_tbl := g_in 943 (by decide +kernel) rfl
theorem qe_X5_undo : Cond.selects RX5 yX5_undo yX5_undo ∈ g_tbl := g_in 944 (by decide +kernel) rfl
theorem qk_X5_undo : Cond.code yX5_undo cX5_undo 2 (some .int) ∈ g_tbl := g_in 945 (by decide +kernel) rfl
theorem qm_L_108 : Cond.methodLink RL 108 yX5_type ∈ g_tbl := g_in 946 (by decide +kernel) rfl
theorem qo_X5_type : Cond.instanceMethod yX5_type ∈ g_tbl := g_in 947 (by decide +kernel) rfl
theorem qe_X5_type : Cond.selects RX5 yX5_type yX5_type ∈ g_tbl := g_in 948 (by decide +kernel) rfl
theorem qk_X5_type : Cond.code yX5_type cX5_type 2 (some .int) ∈ g_tbl := g_in 949 (by decide +kernel) rfl
theorem qm_L_112 : Cond.methodLink RL 112 yX5_clearText ∈ g_tbl := g_in 950 (by decide +kernel) rfl
theorem qo_X5_clearText : Cond.instanceMethod yX5_clearText ∈ g_tbl := g_in 951 (by decide +kernel) rfl
theorem qe_X5_clearText : Cond.selects RX5 yX5_clearText yX5_clearText ∈ g_tbl := g_in 952 (by decide +kernel) rfl
theorem qk_X5_clearText : Cond.code yX5_clearText cX5_clearText 2 (some .int) ∈ g_tbl := g_in 953 (by decide +kernel) rfl
theorem qm_L_116 : Cond.methodLink RL 116 yX5_fault ∈ g_tbl := g_in 954 (by decide +kernel) rfl
theorem qo_X5_fault : Cond.instanceMethod yX5_fault ∈ g_tbl := g_in 955 (by decide +kernel) rfl
theorem qe_X5_fault : Cond.selects RX5 yX5_fault yX5_fault ∈ g_tbl := g_in 956 (by decide +kernel) rfl
theorem qk_X5_fault : Cond.code yX5_fault cX5_fault 3 (some .int) ∈ g_tbl := g_in 957 (by decide +kernel) rfl
theorem qm_X5_201 : Cond.methodLink RX5 201 yX5_does ∈ g_tbl := g_in 958 (by decide +kernel) rfl
theorem qo_X5_does : Cond.instanceMethod yX5_does ∈ g_tbl := g_in 960 (by decide +kernel) rfl
theorem qk_X5_does : Cond.code yX5_does cX5_does 3 (some .boolean) ∈ g_tbl := g_in 961 (by decide +kernel) rfl
theorem qm_X5_169 : Cond.methodLink RX5 169 yX5_here ∈ g_tbl := g_in 962 (by decide +kernel) rfl
theorem qo_X5_here : Cond.instanceMethod yX5_here ∈ g_tbl := g_in 964 (by decide +kernel) rfl
theorem qk_X5_here : Cond.code yX5_here cX5_here 1 (some .int) ∈ g_tbl := g_in 965 (by decide +kernel) rfl
theorem qm_X5_186 : Cond.methodLink RX5 186 yX5_wants ∈ g_tbl := g_in 966 (by decide +kernel) rfl
theorem qs_X5_wants : Cond.static yX5_wants ∈ g_tbl := g_in 967 (by decide +kernel) rfl
theorem qk_X5_wants : Cond.code yX5_wants cX5_wants 1 (some .int) ∈ g_tbl := g_in 968 (by decide +kernel) rfl
theorem qm_X5_189 : Cond.methodLink RX5 189 yX5_takesSign ∈ g_tbl := g_in 969 (by decide +kernel) rfl
theorem qo_X5_takesSign : Cond.instanceMethod yX5_takesSign ∈ g_tbl := g_in 971 (by decide +kernel) rfl
theorem qk_X5_takesSign : Cond.code yX5_takesSign cX5_takesSign 2 none ∈ g_tbl := g_in 972 (by decide +kernel) rfl
theorem qm_X5_192 : Cond.methodLink RX5 192 yX5_number ∈ g_tbl := g_in 973 (by decide +kernel) rfl
theorem qo_X5_number : Cond.instanceMethod yX5_number ∈ g_tbl := g_in 975 (by decide +kernel) rfl
theorem qk_X5_number : Cond.code yX5_number cX5_number 3 (some .int) ∈ g_tbl := g_in 976 (by decide +kernel) rfl
theorem qm_X5_177 : Cond.methodLink RX5 177 yX5_isDigit ∈ g_tbl := g_in 977 (by decide +kernel) rfl
theorem qo_X5_isDigit : Cond.instanceMethod yX5_isDigit ∈ g_tbl := g_in 979 (by decide +kernel) rfl
theorem qk_X5_isDigit : Cond.code yX5_isDigit cX5_isDigit 1 (some .boolean) ∈ g_tbl := g_in 980 (by decide +kernel) rfl
theorem qm_X5_195 : Cond.methodLink RX5 195 yX5_called ∈ g_tbl := g_in 981 (by decide +kernel) rfl
theorem qo_X5_called : Cond.instanceMethod yX5_called ∈ g_tbl := g_in 983 (by decide +kernel) rfl
theorem qk_X5_called : Cond.code yX5_called cX5_called 2 (some .int) ∈ g_tbl := g_in 984 (by decide +kernel) rfl
theorem qm_L_120 : Cond.methodLink RL 120 yX5_play ∈ g_tbl := g_in 985 (by decide +kernel) rfl
theorem qo_X5_play : Cond.instanceMethod yX5_play ∈ g_tbl := g_in 986 (by decide +kernel) rfl
theorem qe_X5_play : Cond.selects RX5 yX5_play yX5_play ∈ g_tbl := g_in 987 (by decide +kernel) rfl
theorem qk_X5_play : Cond.code yX5_play cX5_play 1 (some .int) ∈ g_tbl := g_in 988 (by decide +kernel) rfl
theorem qe_X3_freePlace : Cond.selects RX3 yX3_freePlace yX3_freePlace ∈ g_tbl := g_in 0 (by decide +kernel) rfl
theorem qe_X3_roomIn : Cond.selects RX3 yX3_roomIn yX3_roomIn ∈ g_tbl := g_in 1 (by decide +kernel) rfl
theorem qe_X3_fillBins : Cond.selects RX3 yX3_fillBins yX3_fillBins ∈ g_tbl := g_in 2 (by decide +kernel) rfl
theorem qe_X3_nextNumber : Cond.selects RX3 yX3_nextNumber yX3_nextNumber ∈ g_tbl := g_in 3 (by decide +kernel) rfl
theorem qe_X4_recorded : Cond.selects RX4 yX4_recorded yX4_recorded ∈ g_tbl := g_in 4 (by decide +kernel) rfl
theorem qe_X4_recordSpare : Cond.selects RX4 yX4_recordSpare yX4_recordSpare ∈ g_tbl := g_in 5 (by decide +kernel) rfl
theorem qe_X3_find : Cond.selects RX3 yX3_find yX3_find ∈ g_tbl := g_in 6 (by decide +kernel) rfl
theorem qe_X3_splitLoan : Cond.selects RX3 yX3_splitLoan yX3_splitLoan ∈ g_tbl := g_in 7 (by decide +kernel) rfl
theorem qe_X3_takeOut : Cond.selects RX3 yX3_takeOut yX3_takeOut ∈ g_tbl := g_in 8 (by decide +kernel) rfl
theorem qe_X3_greatestLoan : Cond.selects RX3 yX3_greatestLoan yX3_greatestLoan ∈ g_tbl := g_in 9 (by decide +kernel) rfl
theorem qe_X3_worth : Cond.selects RX3 yX3_worth yX3_worth ∈ g_tbl := g_in 10 (by decide +kernel) rfl
theorem qe_X3_addMoney : Cond.selects RX3 yX3_addMoney yX3_addMoney ∈ g_tbl := g_in 11 (by decide +kernel) rfl
theorem qe_X3_moneyOf : Cond.selects RX3 yX3_moneyOf yX3_moneyOf ∈ g_tbl := g_in 12 (by decide +kernel) rfl
theorem qe_X3_isLoanTooHigh : Cond.selects RX3 yX3_isLoanTooHigh yX3_isLoanTooHigh ∈ g_tbl := g_in 13 (by decide +kernel) rfl
theorem qe_X3_callLimit : Cond.selects RX3 yX3_callLimit yX3_callLimit ∈ g_tbl := g_in 14 (by decide +kernel) rfl
theorem qe_X3_wouldBeCalled : Cond.selects RX3 yX3_wouldBeCalled yX3_wouldBeCalled ∈ g_tbl := g_in 15 (by decide +kernel) rfl
theorem qe_X3_passDay : Cond.selects RX3 yX3_passDay yX3_passDay ∈ g_tbl := g_in 16 (by decide +kernel) rfl
theorem qe_X3_seize : Cond.selects RX3 yX3_seize yX3_seize ∈ g_tbl := g_in 17 (by decide +kernel) rfl
theorem qe_X3_greatestLoss : Cond.selects RX3 yX3_greatestLoss yX3_greatestLoss ∈ g_tbl := g_in 18 (by decide +kernel) rfl
theorem qe_X3_surplus : Cond.selects RX3 yX3_surplus yX3_surplus ∈ g_tbl := g_in 19 (by decide +kernel) rfl
theorem qe_X3_grainOf : Cond.selects RX3 yX3_grainOf yX3_grainOf ∈ g_tbl := g_in 20 (by decide +kernel) rfl
theorem qe_X3_receiptsOf : Cond.selects RX3 yX3_receiptsOf yX3_receiptsOf ∈ g_tbl := g_in 21 (by decide +kernel) rfl
theorem qe_X3_loanRatioBits : Cond.selects RX3 yX3_loanRatioBits yX3_loanRatioBits ∈ g_tbl := g_in 22 (by decide +kernel) rfl
theorem qe_X3_receiptsBelow : Cond.selects RX3 yX3_receiptsBelow yX3_receiptsBelow ∈ g_tbl := g_in 23 (by decide +kernel) rfl
theorem qe_X3_priceOf : Cond.selects RX3 yX3_priceOf yX3_priceOf ∈ g_tbl := g_in 24 (by decide +kernel) rfl
theorem qe_X2_readOrder : Cond.selects RX2 yX2_readOrder yX2_readOrder ∈ g_tbl := g_in 25 (by decide +kernel) rfl
theorem qe_X2_characterAt : Cond.selects RX2 yX2_characterAt yX2_characterAt ∈ g_tbl := g_in 26 (by decide +kernel) rfl
theorem qe_X2_readNumber : Cond.selects RX2 yX2_readNumber yX2_readNumber ∈ g_tbl := g_in 27 (by decide +kernel) rfl
theorem qe_X2_setFault : Cond.selects RX2 yX2_setFault yX2_setFault ∈ g_tbl := g_in 28 (by decide +kernel) rfl
theorem qe_X2_doOrder : Cond.selects RX2 yX2_doOrder yX2_doOrder ∈ g_tbl := g_in 29 (by decide +kernel) rfl
theorem qe_X5_begins : Cond.selects RX5 yX5_begins yX5_begins ∈ g_tbl := g_in 30 (by decide +kernel) rfl
theorem qe_X5_stores : Cond.selects RX5 yX5_stores yX5_stores ∈ g_tbl := g_in 31 (by decide +kernel) rfl
theorem qe_X5_room : Cond.selects RX5 yX5_room yX5_room ∈ g_tbl := g_in 32 (by decide +kernel) rfl
theorem qe_X5_grade : Cond.selects RX5 yX5_grade yX5_grade ∈ g_tbl := g_in 33 (by decide +kernel) rfl
theorem qe_X5_amount : Cond.selects RX5 yX5_amount yX5_amount ∈ g_tbl := g_in 34 (by decide +kernel) rfl
theorem qe_X5_moves : Cond.selects RX5 yX5_moves yX5_moves ∈ g_tbl := g_in 35 (by decide +kernel) rfl
theorem qe_X5_makes : Cond.selects RX5 yX5_makes yX5_makes ∈ g_tbl := g_in 36 (by decide +kernel) rfl
theorem qe_X5_lays : Cond.selects RX5 yX5_lays yX5_lays ∈ g_tbl := g_in 37 (by decide +kernel) rfl
theorem qe_X5_frees : Cond.selects RX5 yX5_frees yX5_frees ∈ g_tbl := g_in 38 (by decide +kernel) rfl
theorem qe_X5_of : Cond.selects RX5 yX5_of yX5_of ∈ g_tbl := g_in 39 (by decide +kernel) rfl
theorem qe_X5_acted : Cond.selects RX5 yX5_acted yX5_acted ∈ g_tbl := g_in 40 (by decide +kernel) rfl
theorem qe_X5_returns : Cond.selects RX5 yX5_returns yX5_returns ∈ g_tbl := g_in 41 (by decide +kernel) rfl
theorem qe_X5_splits : Cond.selects RX5 yX5_splits yX5_splits ∈ g_tbl := g_in 42 (by decide +kernel) rfl
theorem qe_X5_placeOf : Cond.selects RX5 yX5_placeOf yX5_placeOf ∈ g_tbl := g_in 43 (by decide +kernel) rfl
theorem qe_X5_joins : Cond.selects RX5 yX5_joins yX5_joins ∈ g_tbl := g_in 44 (by decide +kernel) rfl
theorem qe_X5_isPledged : Cond.selects RX5 yX5_isPledged yX5_isPledged ∈ g_tbl := g_in 45 (by decide +kernel) rfl
theorem qe_X5_removes : Cond.selects RX5 yX5_removes yX5_removes ∈ g_tbl := g_in 46 (by decide +kernel) rfl
theorem qe_X5_delivers : Cond.selects RX5 yX5_delivers yX5_delivers ∈ g_tbl := g_in 47 (by decide +kernel) rfl
theorem qe_X5_pledges : Cond.selects RX5 yX5_pledges yX5_pledges ∈ g_tbl := g_in 48 (by decide +kernel) rfl
theorem qe_X5_share : Cond.selects RX5 yX5_share yX5_share ∈ g_tbl := g_in 49 (by decide +kernel) rfl
theorem qe_X5_worth : Cond.selects RX5 yX5_worth yX5_worth ∈ g_tbl := g_in 50 (by decide +kernel) rfl
theorem qe_X5_repays : Cond.selects RX5 yX5_repays yX5_repays ∈ g_tbl := g_in 51 (by decide +kernel) rfl
theorem qe_X5_isAbove : Cond.selects RX5 yX5_isAbove yX5_isAbove ∈ g_tbl := g_in 52 (by decide +kernel) rfl
theorem qe_X5_prices : Cond.selects RX5 yX5_prices yX5_prices ∈ g_tbl := g_in 53 (by decide +kernel) rfl
theorem qe_X5_calls : Cond.selects RX5 yX5_calls yX5_calls ∈ g_tbl := g_in 54 (by decide +kernel) rfl
theorem qe_X5_wouldCall : Cond.selects RX5 yX5_wouldCall yX5_wouldCall ∈ g_tbl := g_in 55 (by decide +kernel) rfl
theorem qe_X5_lets : Cond.selects RX5 yX5_lets yX5_lets ∈ g_tbl := g_in 56 (by decide +kernel) rfl
theorem qe_X5_day : Cond.selects RX5 yX5_day yX5_day ∈ g_tbl := g_in 57 (by decide +kernel) rfl
theorem qe_X5_seizes : Cond.selects RX5 yX5_seizes yX5_seizes ∈ g_tbl := g_in 58 (by decide +kernel) rfl
theorem qe_X5_areCovered : Cond.selects RX5 yX5_areCovered yX5_areCovered ∈ g_tbl := g_in 59 (by decide +kernel) rfl
theorem qe_X5_surplus : Cond.selects RX5 yX5_surplus yX5_surplus ∈ g_tbl := g_in 60 (by decide +kernel) rfl
theorem qe_X5_inBins : Cond.selects RX5 yX5_inBins yX5_inBins ∈ g_tbl := g_in 61 (by decide +kernel) rfl
theorem qe_X5_inReceipts : Cond.selects RX5 yX5_inReceipts yX5_inReceipts ∈ g_tbl := g_in 62 (by decide +kernel) rfl
theorem qe_X5_bits : Cond.selects RX5 yX5_bits yX5_bits ∈ g_tbl := g_in 63 (by decide +kernel) rfl
theorem qe_X5_couldLose : Cond.selects RX5 yX5_couldLose yX5_couldLose ∈ g_tbl := g_in 64 (by decide +kernel) rfl
theorem qe_X5_wouldFallTo : Cond.selects RX5 yX5_wouldFallTo yX5_wouldFallTo ∈ g_tbl := g_in 65 (by decide +kernel) rfl
theorem qe_X5_sumOf : Cond.selects RX5 yX5_sumOf yX5_sumOf ∈ g_tbl := g_in 66 (by decide +kernel) rfl
theorem qe_X5_does : Cond.selects RX5 yX5_does yX5_does ∈ g_tbl := g_in 67 (by decide +kernel) rfl
theorem qe_X5_here : Cond.selects RX5 yX5_here yX5_here ∈ g_tbl := g_in 68 (by decide +kernel) rfl
theorem qe_X5_takesSign : Cond.selects RX5 yX5_takesSign yX5_takesSign ∈ g_tbl := g_in 69 (by decide +kernel) rfl
theorem qe_X5_number : Cond.selects RX5 yX5_number yX5_number ∈ g_tbl := g_in 70 (by decide +kernel) rfl
theorem qe_X5_isDigit : Cond.selects RX5 yX5_isDigit yX5_isDigit ∈ g_tbl := g_in 71 (by decide +kernel) rfl
theorem qe_X5_called : Cond.selects RX5 yX5_called yX5_called ∈ g_tbl := g_in 72 (by decide +kernel) rfl
theorem gm_X0_init : g_mC yX0_init cX0_init 1 none 0 := ⟨⟨qk_X0_init, qz_X0⟩, by decide +kernel, by decide +kernel⟩
theorem gm_X0_copyFrom : g_mV yX0_copyFrom cX0_copyFrom 2 none 1 := ⟨⟨⟨qk_X0_copyFrom, qz_X0⟩, by decide +kernel, by decide +kernel⟩, qo_X0_copyFrom, qe_X0_copyFrom⟩
theorem gm_X1_init : g_mC yX1_init cX1_init 1 none 0 := ⟨⟨qk_X1_init, qz_X1⟩, by decide +kernel, by decide +kernel⟩
theorem gm_X1_isUsed : g_mV yX1_isUsed cX1_isUsed 1 (some .boolean) 0 := ⟨⟨⟨qk_X1_isUsed, qz_X1⟩, by decide +kernel, by decide +kernel⟩, qo_X1_isUsed, qe_X1_isUsed⟩
theorem gm_X1_isPledged : g_mV yX1_isPledged cX1_isPledged 1 (some .boolean) 0 := ⟨⟨⟨qk_X1_isPledged, qz_X1⟩, by decide +kernel, by decide +kernel⟩, qo_X1_isPledged, qe_X1_isPledged⟩
theorem gm_X1_isCalled : g_mV yX1_isCalled cX1_isCalled 1 (some .boolean) 0 := ⟨⟨⟨qk_X1_isCalled, qz_X1⟩, by decide +kernel, by decide +kernel⟩, qo_X1_isCalled, qe_X1_isCalled⟩
theorem gm_X1_use : g_mV yX1_use cX1_use 5 none 4 := ⟨⟨⟨qk_X1_use, qz_X1⟩, by decide +kernel, by decide +kernel⟩, qo_X1_use, qe_X1_use⟩
theorem gm_X1_free : g_mV yX1_free cX1_free 1 none 0 := ⟨⟨⟨qk_X1_free, qz_X1⟩, by decide +kernel, by decide +kernel⟩, qo_X1_free, qe_X1_free⟩
theorem gm_X1_endPledge : g_mV yX1_endPledge cX1_endPledge 1 none 0 := ⟨⟨⟨qk_X1_endPledge, qz_X1⟩, by decide +kernel, by decide +kernel⟩, qo_X1_endPledge, qe_X1_endPledge⟩
theorem gm_X1_copyFrom : g_mV yX1_copyFrom cX1_copyFrom 2 none 1 := ⟨⟨⟨qk_X1_copyFrom, qz_X1⟩, by decide +kernel, by decide +kernel⟩, qo_X1_copyFrom, qe_X1_copyFrom⟩
theorem gm_X2_init : g_mC yX2_init cX2_init 1 none 0 := ⟨⟨qk_X2_init, qz_X2⟩, by decide +kernel, by decide +kernel⟩
theorem gm_X2_append : g_mV yX2_append cX2_append 2 (some .int) 1 := ⟨⟨⟨qk_X2_append, qz_X2⟩, by decide +kernel, by decide +kernel⟩, qo_X2_append, qe_X2_append⟩
theorem gm_X2_doOrders : g_mV yX2_doOrders cX2_doOrders 5 none 1 := ⟨⟨⟨qk_X2_doOrders, qz_X2⟩, by decide +kernel, by decide +kernel⟩, qo_X2_doOrders, qe_X2_doOrders⟩
theorem gm_X2_setFault : g_mV yX2_setFault cX2_setFault 4 none 3 := ⟨⟨⟨qk_X2_setFault, qz_X2⟩, by decide +kernel, by decide +kernel⟩, qo_X2_setFault, qe_X2_setFault⟩
theorem gm_X2_doOrder : g_mV yX2_doOrder cX2_doOrder 3 (some .int) 2 := ⟨⟨⟨qk_X2_doOrder, qz_X2⟩, by decide +kernel, by decide +kernel⟩, qo_X2_doOrder, qe_X2_doOrder⟩
theorem gm_X2_readOrder : g_mV yX2_readOrder cX2_readOrder 3 (some .boolean) 0 := ⟨⟨⟨qk_X2_readOrder, qz_X2⟩, by decide +kernel, by decide +kernel⟩, qo_X2_readOrder, qe_X2_readOrder⟩
theorem gm_X2_readNumber : g_mV yX2_readNumber cX2_readNumber 3 (some .int) 0 := ⟨⟨⟨qk_X2_readNumber, qz_X2⟩, by decide +kernel, by decide +kernel⟩, qo_X2_readNumber, qe_X2_readNumber⟩
theorem gm_X2_characterAt : g_mV yX2_characterAt cX2_characterAt 3 (some .char) 1 := ⟨⟨⟨qk_X2_characterAt, qz_X2⟩, by decide +kernel, by decide +kernel⟩, qo_X2_characterAt, qe_X2_characterAt⟩
theorem gm_X2_numbersBehind : g_mS yX2_numbersBehind cX2_numbersBehind 1 (some .int) 1 := ⟨⟨⟨qk_X2_numbersBehind, qz_X2⟩, by decide +kernel, by decide +kernel⟩, qs_X2_numbersBehind⟩
theorem gm_X2_isDigit : g_mS yX2_isDigit cX2_isDigit 1 (some .boolean) 1 := ⟨⟨⟨qk_X2_isDigit, qz_X2⟩, by decide +kernel, by decide +kernel⟩, qs_X2_isDigit⟩
theorem gm_X3_init : g_mC yX3_init cX3_init 2 none 0 := ⟨⟨qk_X3_init, qz_X3⟩, by decide +kernel, by decide +kernel⟩
theorem gm_X3_copyFrom : g_mV yX3_copyFrom cX3_copyFrom 3 none 1 := ⟨⟨⟨qk_X3_copyFrom, qz_X3⟩, by decide +kernel, by decide +kernel⟩, qo_X3_copyFrom, qe_X3_copyFrom⟩
theorem gm_X3_storeGrain : g_mV yX3_storeGrain cX3_storeGrain 6 (some .int) 3 := ⟨⟨⟨qk_X3_storeGrain, qz_X3⟩, by decide +kernel, by decide +kernel⟩, qo_X3_storeGrain, qe_X3_storeGrain⟩
theorem gm_X3_splitOff : g_mV yX3_splitOff cX3_splitOff 5 (some .int) 2 := ⟨⟨⟨qk_X3_splitOff, qz_X3⟩, by decide +kernel, by decide +kernel⟩, qo_X3_splitOff, qe_X3_splitOff⟩
theorem gm_X3_joinInto : g_mV yX3_joinInto cX3_joinInto 5 (some .int) 2 := ⟨⟨⟨qk_X3_joinInto, qz_X3⟩, by decide +kernel, by decide +kernel⟩, qo_X3_joinInto, qe_X3_joinInto⟩
theorem gm_X3_handOn : g_mV yX3_handOn cX3_handOn 5 (some .int) 2 := ⟨⟨⟨qk_X3_handOn, qz_X3⟩, by decide +kernel, by decide +kernel⟩, qo_X3_handOn, qe_X3_handOn⟩
theorem gm_X3_deliverGrain : g_mV yX3_deliverGrain cX3_deliverGrain 6 (some .int) 1 := ⟨⟨⟨qk_X3_deliverGrain, qz_X3⟩, by decide +kernel, by decide +kernel⟩, qo_X3_deliverGrain, qe_X3_deliverGrain⟩
theorem gm_X3_pledgeTo : g_mV yX3_pledgeTo cX3_pledgeTo 5 (some .int) 3 := ⟨⟨⟨qk_X3_pledgeTo, qz_X3⟩, by decide +kernel, by decide +kernel⟩, qo_X3_pledgeTo, qe_X3_pledgeTo⟩
theorem gm_X3_payBack : g_mV yX3_payBack cX3_payBack 4 (some .int) 2 := ⟨⟨⟨qk_X3_payBack, qz_X3⟩, by decide +kernel, by decide +kernel⟩, qo_X3_payBack, qe_X3_payBack⟩
theorem gm_X3_changePrice : g_mV yX3_changePrice cX3_changePrice 4 (some .int) 2 := ⟨⟨⟨qk_X3_changePrice, qz_X3⟩, by decide +kernel, by decide +kernel⟩, qo_X3_changePrice, qe_X3_changePrice⟩
theorem gm_X3_callLoans : g_mV yX3_callLoans cX3_callLoans 7 (some .int) 1 := ⟨⟨⟨qk_X3_callLoans, qz_X3⟩, by decide +kernel, by decide +kernel⟩, qo_X3_callLoans, qe_X3_callLoans⟩
theorem gm_X3_passDays : g_mV yX3_passDays cX3_passDays 4 (some .int) 1 := ⟨⟨⟨qk_X3_passDays, qz_X3⟩, by decide +kernel, by decide +kernel⟩, qo_X3_passDays, qe_X3_passDays⟩
theorem gm_X3_loseGrain : g_mV yX3_loseGrain cX3_loseGrain 4 (some .int) 2 := ⟨⟨⟨qk_X3_loseGrain, qz_X3⟩, by decide +kernel, by decide +kernel⟩, qo_X3_loseGrain, qe_X3_loseGrain⟩
theorem gm_X3_regradeBin : g_mV yX3_regradeBin cX3_regradeBin 6 (some .int) 2 := ⟨⟨⟨qk_X3_regradeBin, qz_X3⟩, by decide +kernel, by decide +kernel⟩, qo_X3_regradeBin, qe_X3_regradeBin⟩
theorem gm_X3_changeSetting : g_mV yX3_changeSetting cX3_changeSetting 4 (some .int) 2 := ⟨⟨⟨qk_X3_changeSetting, qz_X3⟩, by decide +kernel, by decide +kernel⟩, qo_X3_changeSetting, qe_X3_changeSetting⟩
theorem gm_X3_tellReceipt : g_mV yX3_tellReceipt cX3_tellReceipt 4 (some .int) 2 := ⟨⟨⟨qk_X3_tellReceipt, qz_X3⟩, by decide +kernel, by decide +kernel⟩, qo_X3_tellReceipt, qe_X3_tellReceipt⟩
theorem gm_X3_numberAt : g_mV yX3_numberAt cX3_numberAt 6 (some .int) 1 := ⟨⟨⟨qk_X3_numberAt, qz_X3⟩, by decide +kernel, by decide +kernel⟩, qo_X3_numberAt, qe_X3_numberAt⟩
theorem gm_X3_tellBin : g_mV yX3_tellBin cX3_tellBin 3 (some .int) 2 := ⟨⟨⟨qk_X3_tellBin, qz_X3⟩, by decide +kernel, by decide +kernel⟩, qo_X3_tellBin, qe_X3_tellBin⟩
theorem gm_X3_tellGrade : g_mV yX3_tellGrade cX3_tellGrade 3 (some .int) 2 := ⟨⟨⟨qk_X3_tellGrade, qz_X3⟩, by decide +kernel, by decide +kernel⟩, qo_X3_tellGrade, qe_X3_tellGrade⟩
theorem gm_X3_tellOwner : g_mV yX3_tellOwner cX3_tellOwner 11 (some .int) 2 := ⟨⟨⟨qk_X3_tellOwner, qz_X3⟩, by decide +kernel, by decide +kernel⟩, qo_X3_tellOwner, qe_X3_tellOwner⟩
theorem gm_X3_tellLender : g_mV yX3_tellLender cX3_tellLender 12 (some .int) 2 := ⟨⟨⟨qk_X3_tellLender, qz_X3⟩, by decide +kernel, by decide +kernel⟩, qo_X3_tellLender, qe_X3_tellLender⟩
theorem gm_X3_greatestCallingPrice : g_mV yX3_greatestCallingPrice cX3_greatestCallingPrice 7 (some .int) 1 := ⟨⟨⟨qk_X3_greatestCallingPrice, qz_X3⟩, by decide +kernel, by decide +kernel⟩, qo_X3_greatestCallingPrice, qe_X3_greatestCallingPrice⟩
theorem gm_X3_tellNumber : g_mV yX3_tellNumber cX3_tellNumber 2 (some .int) 1 := ⟨⟨⟨qk_X3_tellNumber, qz_X3⟩, by decide +kernel, by decide +kernel⟩, qo_X3_tellNumber, qe_X3_tellNumber⟩
theorem gm_X3_grainOf : g_mV yX3_grainOf cX3_grainOf 8 (some .int) 2 := ⟨⟨⟨qk_X3_grainOf, qz_X3⟩, by decide +kernel, by decide +kernel⟩, qo_X3_grainOf, qe_X3_grainOf⟩
theorem gm_X3_roomIn : g_mV yX3_roomIn cX3_roomIn 7 (some .int) 1 := ⟨⟨⟨qk_X3_roomIn, qz_X3⟩, by decide +kernel, by decide +kernel⟩, qo_X3_roomIn, qe_X3_roomIn⟩
theorem gm_X3_surplus : g_mV yX3_surplus cX3_surplus 2 (some .int) 1 := ⟨⟨⟨qk_X3_surplus, qz_X3⟩, by decide +kernel, by decide +kernel⟩, qo_X3_surplus, qe_X3_surplus⟩
theorem gm_X3_greatestLoss : g_mV yX3_greatestLoss cX3_greatestLoss 4 (some .int) 1 := ⟨⟨⟨qk_X3_greatestLoss, qz_X3⟩, by decide +kernel, by decide +kernel⟩, qo_X3_greatestLoss, qe_X3_greatestLoss⟩
theorem gm_X3_fillBins : g_mV yX3_fillBins cX3_fillBins 9 none 2 := ⟨⟨⟨qk_X3_fillBins, qz_X3⟩, by decide +kernel, by decide +kernel⟩, qo_X3_fillBins, qe_X3_fillBins⟩
theorem gm_X3_takeOut : g_mV yX3_takeOut cX3_takeOut 9 (some .int) 2 := ⟨⟨⟨qk_X3_takeOut, qz_X3⟩, by decide +kernel, by decide +kernel⟩, qo_X3_takeOut, qe_X3_takeOut⟩
theorem gm_X3_find : g_mV yX3_find cX3_find 6 (some (.object "GrainReceipts$Receipt")) 1 := ⟨⟨⟨qk_X3_find, qz_X3⟩, by decide +kernel, by decide +kernel⟩, qo_X3_find, qe_X3_find⟩
theorem gm_X3_freePlace : g_mV yX3_freePlace cX3_freePlace 5 (some (.object "GrainReceipts$Receipt")) 0 := ⟨⟨⟨qk_X3_freePlace, qz_X3⟩, by decide +kernel, by decide +kernel⟩, qo_X3_freePlace, qe_X3_freePlace⟩
theorem gm_X3_nextNumber : g_mV yX3_nextNumber cX3_nextNumber 2 (some .int) 0 := ⟨⟨⟨qk_X3_nextNumber, qz_X3⟩, by decide +kernel, by decide +kernel⟩, qo_X3_nextNumber, qe_X3_nextNumber⟩
theorem gm_X3_receiptsBelow : g_mV yX3_receiptsBelow cX3_receiptsBelow 7 (some .int) 1 := ⟨⟨⟨qk_X3_receiptsBelow, qz_X3⟩, by decide +kernel, by decide +kernel⟩, qo_X3_receiptsBelow, qe_X3_receiptsBelow⟩
theorem gm_X3_receiptsOf : g_mV yX3_receiptsOf cX3_receiptsOf 8 (some .int) 2 := ⟨⟨⟨qk_X3_receiptsOf, qz_X3⟩, by decide +kernel, by decide +kernel⟩, qo_X3_receiptsOf, qe_X3_receiptsOf⟩
theorem gm_X3_priceOf : g_mV yX3_priceOf cX3_priceOf 2 (some .int) 1 := ⟨⟨⟨qk_X3_priceOf, qz_X3⟩, by decide +kernel, by decide +kernel⟩, qo_X3_priceOf, qe_X3_priceOf⟩
theorem gm_X3_moneyOf : g_mV yX3_moneyOf cX3_moneyOf 2 (some .int) 1 := ⟨⟨⟨qk_X3_moneyOf, qz_X3⟩, by decide +kernel, by decide +kernel⟩, qo_X3_moneyOf, qe_X3_moneyOf⟩
theorem gm_X3_addMoney : g_mV yX3_addMoney cX3_addMoney 3 none 2 := ⟨⟨⟨qk_X3_addMoney, qz_X3⟩, by decide +kernel, by decide +kernel⟩, qo_X3_addMoney, qe_X3_addMoney⟩
theorem gm_X3_worth : g_mV yX3_worth cX3_worth 2 (some .int) 1 := ⟨⟨⟨qk_X3_worth, qz_X3⟩, by decide +kernel, by decide +kernel⟩, qo_X3_worth, qe_X3_worth⟩
theorem gm_X3_greatestLoan : g_mV yX3_greatestLoan cX3_greatestLoan 2 (some .int) 1 := ⟨⟨⟨qk_X3_greatestLoan, qz_X3⟩, by decide +kernel, by decide +kernel⟩, qo_X3_greatestLoan, qe_X3_greatestLoan⟩
theorem gm_X3_callLimit : g_mV yX3_callLimit cX3_callLimit 2 (some .int) 1 := ⟨⟨⟨qk_X3_callLimit, qz_X3⟩, by decide +kernel, by decide +kernel⟩, qo_X3_callLimit, qe_X3_callLimit⟩
theorem gm_X3_isLoanTooHigh : g_mV yX3_isLoanTooHigh cX3_isLoanTooHigh 2 (some .boolean) 1 := ⟨⟨⟨qk_X3_isLoanTooHigh, qz_X3⟩, by decide +kernel, by decide +kernel⟩, qo_X3_isLoanTooHigh, qe_X3_isLoanTooHigh⟩
theorem gm_X3_wouldBeCalled : g_mV yX3_wouldBeCalled cX3_wouldBeCalled 4 (some .boolean) 3 := ⟨⟨⟨qk_X3_wouldBeCalled, qz_X3⟩, by decide +kernel, by decide +kernel⟩, qo_X3_wouldBeCalled, qe_X3_wouldBeCalled⟩
theorem gm_X3_loanRatioBits : g_mV yX3_loanRatioBits cX3_loanRatioBits 3 (some .int) 1 := ⟨⟨⟨qk_X3_loanRatioBits, qz_X3⟩, by decide +kernel, by decide +kernel⟩, qo_X3_loanRatioBits, qe_X3_loanRatioBits⟩
theorem gm_X3_splitLoan : g_mV yX3_splitLoan cX3_splitLoan 4 none 2 := ⟨⟨⟨qk_X3_splitLoan, qz_X3⟩, by decide +kernel, by decide +kernel⟩, qo_X3_splitLoan, qe_X3_splitLoan⟩
theorem gm_X3_passDay : g_mV yX3_passDay cX3_passDay 5 none 0 := ⟨⟨⟨qk_X3_passDay, qz_X3⟩, by decide +kernel, by decide +kernel⟩, qo_X3_passDay, qe_X3_passDay⟩
theorem gm_X3_seize : g_mV yX3_seize cX3_seize 3 none 1 := ⟨⟨⟨qk_X3_seize, qz_X3⟩, by decide +kernel, by decide +kernel⟩, qo_X3_seize, qe_X3_seize⟩
theorem gm_X4_init : g_mC yX4_init cX4_init 2 none 0 := ⟨⟨qk_X4_init, qz_X4⟩, by decide +kernel, by decide +kernel⟩
theorem gm_X4_store : g_mV yX4_store cX4_store 4 (some .int) 3 := ⟨⟨⟨qk_X4_store, qz_X4⟩, by decide +kernel, by decide +kernel⟩, qo_X4_store, qe_X4_store⟩
theorem gm_X4_split : g_mV yX4_split cX4_split 3 (some .int) 2 := ⟨⟨⟨qk_X4_split, qz_X4⟩, by decide +kernel, by decide +kernel⟩, qo_X4_split, qe_X4_split⟩
theorem gm_X4_join : g_mV yX4_join cX4_join 3 (some .int) 2 := ⟨⟨⟨qk_X4_join, qz_X4⟩, by decide +kernel, by decide +kernel⟩, qo_X4_join, qe_X4_join⟩
theorem gm_X4_hand : g_mV yX4_hand cX4_hand 3 (some .int) 2 := ⟨⟨⟨qk_X4_hand, qz_X4⟩, by decide +kernel, by decide +kernel⟩, qo_X4_hand, qe_X4_hand⟩
theorem gm_X4_deliver : g_mV yX4_deliver cX4_deliver 2 (some .int) 1 := ⟨⟨⟨qk_X4_deliver, qz_X4⟩, by decide +kernel, by decide +kernel⟩, qo_X4_deliver, qe_X4_deliver⟩
theorem gm_X4_pledge : g_mV yX4_pledge cX4_pledge 4 (some .int) 3 := ⟨⟨⟨qk_X4_pledge, qz_X4⟩, by decide +kernel, by decide +kernel⟩, qo_X4_pledge, qe_X4_pledge⟩
theorem gm_X4_repay : g_mV yX4_repay cX4_repay 3 (some .int) 2 := ⟨⟨⟨qk_X4_repay, qz_X4⟩, by decide +kernel, by decide +kernel⟩, qo_X4_repay, qe_X4_repay⟩
theorem gm_X4_price : g_mV yX4_price cX4_price 3 (some .int) 2 := ⟨⟨⟨qk_X4_price, qz_X4⟩, by decide +kernel, by decide +kernel⟩, qo_X4_price, qe_X4_price⟩
theorem gm_X4_call : g_mV yX4_call cX4_call 2 (some .int) 1 := ⟨⟨⟨qk_X4_call, qz_X4⟩, by decide +kernel, by decide +kernel⟩, qo_X4_call, qe_X4_call⟩
theorem gm_X4_pass : g_mV yX4_pass cX4_pass 2 (some .int) 1 := ⟨⟨⟨qk_X4_pass, qz_X4⟩, by decide +kernel, by decide +kernel⟩, qo_X4_pass, qe_X4_pass⟩
theorem gm_X4_lose : g_mV yX4_lose cX4_lose 3 (some .int) 2 := ⟨⟨⟨qk_X4_lose, qz_X4⟩, by decide +kernel, by decide +kernel⟩, qo_X4_lose, qe_X4_lose⟩
theorem gm_X4_regrade : g_mV yX4_regrade cX4_regrade 3 (some .int) 2 := ⟨⟨⟨qk_X4_regrade, qz_X4⟩, by decide +kernel, by decide +kernel⟩, qo_X4_regrade, qe_X4_regrade⟩
theorem gm_X4_set : g_mV yX4_set cX4_set 3 (some .int) 2 := ⟨⟨⟨qk_X4_set, qz_X4⟩, by decide +kernel, by decide +kernel⟩, qo_X4_set, qe_X4_set⟩
theorem gm_X4_receiptOf : g_mV yX4_receiptOf cX4_receiptOf 3 (some .int) 2 := ⟨⟨⟨qk_X4_receiptOf, qz_X4⟩, by decide +kernel, by decide +kernel⟩, qo_X4_receiptOf, qe_X4_receiptOf⟩
theorem gm_X4_receipt : g_mV yX4_receipt cX4_receipt 2 (some .int) 1 := ⟨⟨⟨qk_X4_receipt, qz_X4⟩, by decide +kernel, by decide +kernel⟩, qo_X4_receipt, qe_X4_receipt⟩
theorem gm_X4_binOf : g_mV yX4_binOf cX4_binOf 3 (some .int) 2 := ⟨⟨⟨qk_X4_binOf, qz_X4⟩, by decide +kernel, by decide +kernel⟩, qo_X4_binOf, qe_X4_binOf⟩
theorem gm_X4_gradeOf : g_mV yX4_gradeOf cX4_gradeOf 3 (some .int) 2 := ⟨⟨⟨qk_X4_gradeOf, qz_X4⟩, by decide +kernel, by decide +kernel⟩, qo_X4_gradeOf, qe_X4_gradeOf⟩
theorem gm_X4_ownerOf : g_mV yX4_ownerOf cX4_ownerOf 3 (some .int) 2 := ⟨⟨⟨qk_X4_ownerOf, qz_X4⟩, by decide +kernel, by decide +kernel⟩, qo_X4_ownerOf, qe_X4_ownerOf⟩
theorem gm_X4_lenderOf : g_mV yX4_lenderOf cX4_lenderOf 3 (some .int) 2 := ⟨⟨⟨qk_X4_lenderOf, qz_X4⟩, by decide +kernel, by decide +kernel⟩, qo_X4_lenderOf, qe_X4_lenderOf⟩
theorem gm_X4_fallTo : g_mV yX4_fallTo cX4_fallTo 2 (some .int) 1 := ⟨⟨⟨qk_X4_fallTo, qz_X4⟩, by decide +kernel, by decide +kernel⟩, qo_X4_fallTo, qe_X4_fallTo⟩
theorem gm_X4_count : g_mV yX4_count cX4_count 2 (some .int) 1 := ⟨⟨⟨qk_X4_count, qz_X4⟩, by decide +kernel, by decide +kernel⟩, qo_X4_count, qe_X4_count⟩
theorem gm_X4_undo : g_mV yX4_undo cX4_undo 3 (some .int) 0 := ⟨⟨⟨qk_X4_undo, qz_X4⟩, by decide +kernel, by decide +kernel⟩, qo_X4_undo, qe_X4_undo⟩
theorem gm_X4_type : g_mV yX4_type cX4_type 2 (some .int) 1 := ⟨⟨⟨qk_X4_type, qz_X4⟩, by decide +kernel, by decide +kernel⟩, qo_X4_type, qe_X4_type⟩
theorem gm_X4_clearText : g_mV yX4_clearText cX4_clearText 2 (some .int) 0 := ⟨⟨⟨qk_X4_clearText, qz_X4⟩, by decide +kernel, by decide +kernel⟩, qo_X4_clearText, qe_X4_clearText⟩
theorem gm_X4_fault : g_mV yX4_fault cX4_fault 2 (some .int) 1 := ⟨⟨⟨qk_X4_fault, qz_X4⟩, by decide +kernel, by decide +kernel⟩, qo_X4_fault, qe_X4_fault⟩
theorem gm_X4_play : g_mV yX4_play cX4_play 2 (some .int) 0 := ⟨⟨⟨qk_X4_play, qz_X4⟩, by decide +kernel, by decide +kernel⟩, qo_X4_play, qe_X4_play⟩
theorem gm_X4_recorded : g_mV yX4_recorded cX4_recorded 2 (some .int) 1 := ⟨⟨⟨qk_X4_recorded, qz_X4⟩, by decide +kernel, by decide +kernel⟩, qo_X4_recorded, qe_X4_recorded⟩
theorem gm_X4_recordSpare : g_mV yX4_recordSpare cX4_recordSpare 3 none 0 := ⟨⟨⟨qk_X4_recordSpare, qz_X4⟩, by decide +kernel, by decide +kernel⟩, qo_X4_recordSpare, qe_X4_recordSpare⟩
theorem gm_X4_isError : g_mS yX4_isError cX4_isError 1 (some .boolean) 1 := ⟨⟨⟨qk_X4_isError, qz_X4⟩, by decide +kernel, by decide +kernel⟩, qs_X4_isError⟩
theorem gm_X4_isGrade : g_mS yX4_isGrade cX4_isGrade 1 (some .boolean) 1 := ⟨⟨⟨qk_X4_isGrade, qz_X4⟩, by decide +kernel, by decide +kernel⟩, qs_X4_isGrade⟩
theorem gm_X4_isBin : g_mS yX4_isBin cX4_isBin 1 (some .boolean) 1 := ⟨⟨⟨qk_X4_isBin, qz_X4⟩, by decide +kernel, by decide +kernel⟩, qs_X4_isBin⟩
theorem gm_X4_isOwner : g_mS yX4_isOwner cX4_isOwner 1 (some .boolean) 1 := ⟨⟨⟨qk_X4_isOwner, qz_X4⟩, by decide +kernel, by decide +kernel⟩, qs_X4_isOwner⟩
theorem gm_X4_isLender : g_mS yX4_isLender cX4_isLender 1 (some .boolean) 1 := ⟨⟨⟨qk_X4_isLender, qz_X4⟩, by decide +kernel, by decide +kernel⟩, qs_X4_isLender⟩
theorem gm_X4_isSetting : g_mS yX4_isSetting cX4_isSetting 1 (some .boolean) 1 := ⟨⟨⟨qk_X4_isSetting, qz_X4⟩, by decide +kernel, by decide +kernel⟩, qs_X4_isSetting⟩
theorem gm_X4_bitsOf : g_mS yX4_bitsOf cX4_bitsOf 4 (some .int) 1 := ⟨⟨⟨qk_X4_bitsOf, qz_X4⟩, by decide +kernel, by decide +kernel⟩, qs_X4_bitsOf⟩
theorem gm_X5_init : g_mC yX5_init cX5_init 2 none 0 := ⟨⟨qk_X5_init, qz_X5⟩, by decide +kernel, by decide +kernel⟩
theorem gm_X5_in : g_mS yX5_in cX5_in 3 (some .boolean) 3 := ⟨⟨⟨qk_X5_in, qz_X5⟩, by decide +kernel, by decide +kernel⟩, qs_X5_in⟩
theorem gm_X5_begins : g_mV yX5_begins cX5_begins 2 none 0 := ⟨⟨⟨qk_X5_begins, qz_X5⟩, by decide +kernel, by decide +kernel⟩, qo_X5_begins, qe_X5_begins⟩
theorem gm_X5_returns : g_mV yX5_returns cX5_returns 2 none 0 := ⟨⟨⟨qk_X5_returns, qz_X5⟩, by decide +kernel, by decide +kernel⟩, qo_X5_returns, qe_X5_returns⟩
theorem gm_X5_acted : g_mV yX5_acted cX5_acted 3 (some .int) 1 := ⟨⟨⟨qk_X5_acted, qz_X5⟩, by decide +kernel, by decide +kernel⟩, qo_X5_acted, qe_X5_acted⟩
theorem gm_X5_of : g_mV yX5_of cX5_of 3 (some .int) 2 := ⟨⟨⟨qk_X5_of, qz_X5⟩, by decide +kernel, by decide +kernel⟩, qo_X5_of, qe_X5_of⟩
theorem gm_X5_lays : g_mV yX5_lays cX5_lays 4 none 3 := ⟨⟨⟨qk_X5_lays, qz_X5⟩, by decide +kernel, by decide +kernel⟩, qo_X5_lays, qe_X5_lays⟩
theorem gm_X5_placeOf : g_mV yX5_placeOf cX5_placeOf 4 (some .int) 1 := ⟨⟨⟨qk_X5_placeOf, qz_X5⟩, by decide +kernel, by decide +kernel⟩, qo_X5_placeOf, qe_X5_placeOf⟩
theorem gm_X5_makes : g_mV yX5_makes cX5_makes 5 (some .int) 3 := ⟨⟨⟨qk_X5_makes, qz_X5⟩, by decide +kernel, by decide +kernel⟩, qo_X5_makes, qe_X5_makes⟩
theorem gm_X5_frees : g_mV yX5_frees cX5_frees 2 none 1 := ⟨⟨⟨qk_X5_frees, qz_X5⟩, by decide +kernel, by decide +kernel⟩, qo_X5_frees, qe_X5_frees⟩
theorem gm_X5_removes : g_mV yX5_removes cX5_removes 3 none 1 := ⟨⟨⟨qk_X5_removes, qz_X5⟩, by decide +kernel, by decide +kernel⟩, qo_X5_removes, qe_X5_removes⟩
theorem gm_X5_isPledged : g_mV yX5_isPledged cX5_isPledged 2 (some .boolean) 1 := ⟨⟨⟨qk_X5_isPledged, qz_X5⟩, by decide +kernel, by decide +kernel⟩, qo_X5_isPledged, qe_X5_isPledged⟩
theorem gm_X5_worth : g_mV yX5_worth cX5_worth 2 (some .int) 1 := ⟨⟨⟨qk_X5_worth, qz_X5⟩, by decide +kernel, by decide +kernel⟩, qo_X5_worth, qe_X5_worth⟩
theorem gm_X5_share : g_mV yX5_share cX5_share 3 (some .int) 2 := ⟨⟨⟨qk_X5_share, qz_X5⟩, by decide +kernel, by decide +kernel⟩, qo_X5_share, qe_X5_share⟩
theorem gm_X5_isAbove : g_mV yX5_isAbove cX5_isAbove 2 (some .boolean) 1 := ⟨⟨⟨qk_X5_isAbove, qz_X5⟩, by decide +kernel, by decide +kernel⟩, qo_X5_isAbove, qe_X5_isAbove⟩
theorem gm_X5_grade : g_mV yX5_grade cX5_grade 2 (some .int) 1 := ⟨⟨⟨qk_X5_grade, qz_X5⟩, by decide +kernel, by decide +kernel⟩, qo_X5_grade, qe_X5_grade⟩
theorem gm_X5_amount : g_mV yX5_amount cX5_amount 2 (some .int) 1 := ⟨⟨⟨qk_X5_amount, qz_X5⟩, by decide +kernel, by decide +kernel⟩, qo_X5_amount, qe_X5_amount⟩
theorem gm_X5_moves : g_mV yX5_moves cX5_moves 3 none 2 := ⟨⟨⟨qk_X5_moves, qz_X5⟩, by decide +kernel, by decide +kernel⟩, qo_X5_moves, qe_X5_moves⟩
theorem gm_X5_inBins : g_mV yX5_inBins cX5_inBins 4 (some .int) 1 := ⟨⟨⟨qk_X5_inBins, qz_X5⟩, by decide +kernel, by decide +kernel⟩, qo_X5_inBins, qe_X5_inBins⟩
theorem gm_X5_inReceipts : g_mV yX5_inReceipts cX5_inReceipts 4 (some .int) 1 := ⟨⟨⟨qk_X5_inReceipts, qz_X5⟩, by decide +kernel, by decide +kernel⟩, qo_X5_inReceipts, qe_X5_inReceipts⟩
theorem gm_X5_room : g_mV yX5_room cX5_room 4 (some .int) 1 := ⟨⟨⟨qk_X5_room, qz_X5⟩, by decide +kernel, by decide +kernel⟩, qo_X5_room, qe_X5_room⟩
theorem gm_X5_surplus : g_mV yX5_surplus cX5_surplus 4 (some .int) 1 := ⟨⟨⟨qk_X5_surplus, qz_X5⟩, by decide +kernel, by decide +kernel⟩, qo_X5_surplus, qe_X5_surplus⟩
theorem gm_X5_areCovered : g_mV yX5_areCovered cX5_areCovered 1 (some .boolean) 0 := ⟨⟨⟨qk_X5_areCovered, qz_X5⟩, by decide +kernel, by decide +kernel⟩, qo_X5_areCovered, qe_X5_areCovered⟩
theorem gm_X5_stores : g_mV yX5_stores cX5_stores 7 (some .int) 3 := ⟨⟨⟨qk_X5_stores, qz_X5⟩, by decide +kernel, by decide +kernel⟩, qo_X5_stores, qe_X5_stores⟩
theorem gm_X5_splits : g_mV yX5_splits cX5_splits 6 (some .int) 2 := ⟨⟨⟨qk_X5_splits, qz_X5⟩, by decide +kernel, by decide +kernel⟩, qo_X5_splits, qe_X5_splits⟩
theorem gm_X5_joins : g_mV yX5_joins cX5_joins 6 (some .int) 2 := ⟨⟨⟨qk_X5_joins, qz_X5⟩, by decide +kernel, by decide +kernel⟩, qo_X5_joins, qe_X5_joins⟩
theorem gm_X5_delivers : g_mV yX5_delivers cX5_delivers 9 (some .int) 1 := ⟨⟨⟨qk_X5_delivers, qz_X5⟩, by decide +kernel, by decide +kernel⟩, qo_X5_delivers, qe_X5_delivers⟩
theorem gm_X5_pledges : g_mV yX5_pledges cX5_pledges 6 (some .int) 3 := ⟨⟨⟨qk_X5_pledges, qz_X5⟩, by decide +kernel, by decide +kernel⟩, qo_X5_pledges, qe_X5_pledges⟩
theorem gm_X5_repays : g_mV yX5_repays cX5_repays 5 (some .int) 2 := ⟨⟨⟨qk_X5_repays, qz_X5⟩, by decide +kernel, by decide +kernel⟩, qo_X5_repays, qe_X5_repays⟩
theorem gm_X5_prices : g_mV yX5_prices cX5_prices 4 (some .int) 2 := ⟨⟨⟨qk_X5_prices, qz_X5⟩, by decide +kernel, by decide +kernel⟩, qo_X5_prices, qe_X5_prices⟩
theorem gm_X5_wouldCall : g_mV yX5_wouldCall cX5_wouldCall 3 (some .boolean) 2 := ⟨⟨⟨qk_X5_wouldCall, qz_X5⟩, by decide +kernel, by decide +kernel⟩, qo_X5_wouldCall, qe_X5_wouldCall⟩
theorem gm_X5_calls : g_mV yX5_calls cX5_calls 4 (some .int) 1 := ⟨⟨⟨qk_X5_calls, qz_X5⟩, by decide +kernel, by decide +kernel⟩, qo_X5_calls, qe_X5_calls⟩
theorem gm_X5_seizes : g_mV yX5_seizes cX5_seizes 3 none 1 := ⟨⟨⟨qk_X5_seizes, qz_X5⟩, by decide +kernel, by decide +kernel⟩, qo_X5_seizes, qe_X5_seizes⟩
theorem gm_X5_day : g_mV yX5_day cX5_day 2 none 0 := ⟨⟨⟨qk_X5_day, qz_X5⟩, by decide +kernel, by decide +kernel⟩, qo_X5_day, qe_X5_day⟩
theorem gm_X5_lets : g_mV yX5_lets cX5_lets 4 (some .int) 1 := ⟨⟨⟨qk_X5_lets, qz_X5⟩, by decide +kernel, by decide +kernel⟩, qo_X5_lets, qe_X5_lets⟩
theorem gm_X5_store : g_mV yX5_store cX5_store 4 (some .int) 3 := ⟨⟨⟨qk_X5_store, qz_X5⟩, by decide +kernel, by decide +kernel⟩, qo_X5_store, qe_X5_store⟩
theorem gm_X5_split : g_mV yX5_split cX5_split 3 (some .int) 2 := ⟨⟨⟨qk_X5_split, qz_X5⟩, by decide +kernel, by decide +kernel⟩, qo_X5_split, qe_X5_split⟩
theorem gm_X5_join : g_mV yX5_join cX5_join 3 (some .int) 2 := ⟨⟨⟨qk_X5_join, qz_X5⟩, by decide +kernel, by decide +kernel⟩, qo_X5_join, qe_X5_join⟩
theorem gm_X5_hand : g_mV yX5_hand cX5_hand 5 (some .int) 2 := ⟨⟨⟨qk_X5_hand, qz_X5⟩, by decide +kernel, by decide +kernel⟩, qo_X5_hand, qe_X5_hand⟩
theorem gm_X5_deliver : g_mV yX5_deliver cX5_deliver 2 (some .int) 1 := ⟨⟨⟨qk_X5_deliver, qz_X5⟩, by decide +kernel, by decide +kernel⟩, qo_X5_deliver, qe_X5_deliver⟩
theorem gm_X5_pledge : g_mV yX5_pledge cX5_pledge 4 (some .int) 3 := ⟨⟨⟨qk_X5_pledge, qz_X5⟩, by decide +kernel, by decide +kernel⟩, qo_X5_pledge, qe_X5_pledge⟩
theorem gm_X5_repay : g_mV yX5_repay cX5_repay 3 (some .int) 2 := ⟨⟨⟨qk_X5_repay, qz_X5⟩, by decide +kernel, by decide +kernel⟩, qo_X5_repay, qe_X5_repay⟩
theorem gm_X5_price : g_mV yX5_price cX5_price 3 (some .int) 2 := ⟨⟨⟨qk_X5_price, qz_X5⟩, by decide +kernel, by decide +kernel⟩, qo_X5_price, qe_X5_price⟩
theorem gm_X5_call : g_mV yX5_call cX5_call 2 (some .int) 1 := ⟨⟨⟨qk_X5_call, qz_X5⟩, by decide +kernel, by decide +kernel⟩, qo_X5_call, qe_X5_call⟩
theorem gm_X5_pass : g_mV yX5_pass cX5_pass 2 (some .int) 1 := ⟨⟨⟨qk_X5_pass, qz_X5⟩, by decide +kernel, by decide +kernel⟩, qo_X5_pass, qe_X5_pass⟩
theorem gm_X5_lose : g_mV yX5_lose cX5_lose 3 (some .int) 2 := ⟨⟨⟨qk_X5_lose, qz_X5⟩, by decide +kernel, by decide +kernel⟩, qo_X5_lose, qe_X5_lose⟩
theorem gm_X5_regrade : g_mV yX5_regrade cX5_regrade 4 (some .int) 2 := ⟨⟨⟨qk_X5_regrade, qz_X5⟩, by decide +kernel, by decide +kernel⟩, qo_X5_regrade, qe_X5_regrade⟩
theorem gm_X5_set : g_mV yX5_set cX5_set 6 (some .int) 2 := ⟨⟨⟨qk_X5_set, qz_X5⟩, by decide +kernel, by decide +kernel⟩, qo_X5_set, qe_X5_set⟩
theorem gm_X5_bits : g_mV yX5_bits cX5_bits 4 (some .int) 1 := ⟨⟨⟨qk_X5_bits, qz_X5⟩, by decide +kernel, by decide +kernel⟩, qo_X5_bits, qe_X5_bits⟩
theorem gm_X5_receiptOf : g_mV yX5_receiptOf cX5_receiptOf 4 (some .int) 2 := ⟨⟨⟨qk_X5_receiptOf, qz_X5⟩, by decide +kernel, by decide +kernel⟩, qo_X5_receiptOf, qe_X5_receiptOf⟩
theorem gm_X5_receipt : g_mV yX5_receipt cX5_receipt 2 (some .int) 1 := ⟨⟨⟨qk_X5_receipt, qz_X5⟩, by decide +kernel, by decide +kernel⟩, qo_X5_receipt, qe_X5_receipt⟩
theorem gm_X5_couldLose : g_mV yX5_couldLose cX5_couldLose 4 (some .int) 1 := ⟨⟨⟨qk_X5_couldLose, qz_X5⟩, by decide +kernel, by decide +kernel⟩, qo_X5_couldLose, qe_X5_couldLose⟩
theorem gm_X5_binOf : g_mV yX5_binOf cX5_binOf 3 (some .int) 2 := ⟨⟨⟨qk_X5_binOf, qz_X5⟩, by decide +kernel, by decide +kernel⟩, qo_X5_binOf, qe_X5_binOf⟩
theorem gm_X5_gradeOf : g_mV yX5_gradeOf cX5_gradeOf 3 (some .int) 2 := ⟨⟨⟨qk_X5_gradeOf, qz_X5⟩, by decide +kernel, by decide +kernel⟩, qo_X5_gradeOf, qe_X5_gradeOf⟩
theorem gm_X5_ownerOf : g_mV yX5_ownerOf cX5_ownerOf 8 (some .int) 2 := ⟨⟨⟨qk_X5_ownerOf, qz_X5⟩, by decide +kernel, by decide +kernel⟩, qo_X5_ownerOf, qe_X5_ownerOf⟩
theorem gm_X5_lenderOf : g_mV yX5_lenderOf cX5_lenderOf 6 (some .int) 2 := ⟨⟨⟨qk_X5_lenderOf, qz_X5⟩, by decide +kernel, by decide +kernel⟩, qo_X5_lenderOf, qe_X5_lenderOf⟩
theorem gm_X5_wouldFallTo : g_mV yX5_wouldFallTo cX5_wouldFallTo 6 (some .boolean) 2 := ⟨⟨⟨qk_X5_wouldFallTo, qz_X5⟩, by decide +kernel, by decide +kernel⟩, qo_X5_wouldFallTo, qe_X5_wouldFallTo⟩
theorem gm_X5_fallTo : g_mV yX5_fallTo cX5_fallTo 3 (some .int) 1 := ⟨⟨⟨qk_X5_fallTo, qz_X5⟩, by decide +kernel, by decide +kernel⟩, qo_X5_fallTo, qe_X5_fallTo⟩
theorem gm_X5_sumOf : g_mV yX5_sumOf cX5_sumOf 4 (some .int) 1 := ⟨⟨⟨qk_X5_sumOf, qz_X5⟩, by decide +kernel, by decide +kernel⟩, qo_X5_sumOf, qe_X5_sumOf⟩
theorem gm_X5_count : g_mV yX5_count cX5_count 2 (some .int) 1 := ⟨⟨⟨qk_X5_count, qz_X5⟩, by decide +kernel, by decide +kernel⟩, qo_X5_count, qe_X5_count⟩
theorem gm_X5_undo : g_mV yX5_undo cX5_undo 2 (some .int) 0 := ⟨⟨⟨qk_X5_undo, qz_X5⟩, by decide +kernel, by decide +kernel⟩, qo_X5_undo, qe_X5_undo⟩
theorem gm_X5_type : g_mV yX5_type cX5_type 2 (some .int) 1 := ⟨⟨⟨qk_X5_type, qz_X5⟩, by decide +kernel, by decide +kernel⟩, qo_X5_type, qe_X5_type⟩
theorem gm_X5_clearText : g_mV yX5_clearText cX5_clearText 2 (some .int) 0 := ⟨⟨⟨qk_X5_clearText, qz_X5⟩, by decide +kernel, by decide +kernel⟩, qo_X5_clearText, qe_X5_clearText⟩
theorem gm_X5_here : g_mV yX5_here cX5_here 1 (some .int) 0 := ⟨⟨⟨qk_X5_here, qz_X5⟩, by decide +kernel, by decide +kernel⟩, qo_X5_here, qe_X5_here⟩
theorem gm_X5_isDigit : g_mV yX5_isDigit cX5_isDigit 1 (some .boolean) 0 := ⟨⟨⟨qk_X5_isDigit, qz_X5⟩, by decide +kernel, by decide +kernel⟩, qo_X5_isDigit, qe_X5_isDigit⟩
theorem gm_X5_takesSign : g_mV yX5_takesSign cX5_takesSign 2 none 1 := ⟨⟨⟨qk_X5_takesSign, qz_X5⟩, by decide +kernel, by decide +kernel⟩, qo_X5_takesSign, qe_X5_takesSign⟩
theorem gm_X5_number : g_mV yX5_number cX5_number 3 (some .int) 0 := ⟨⟨⟨qk_X5_number, qz_X5⟩, by decide +kernel, by decide +kernel⟩, qo_X5_number, qe_X5_number⟩
theorem gm_X5_wants : g_mS yX5_wants cX5_wants 1 (some .int) 1 := ⟨⟨⟨qk_X5_wants, qz_X5⟩, by decide +kernel, by decide +kernel⟩, qs_X5_wants⟩
theorem gm_X5_called : g_mV yX5_called cX5_called 2 (some .int) 1 := ⟨⟨⟨qk_X5_called, qz_X5⟩, by decide +kernel, by decide +kernel⟩, qo_X5_called, qe_X5_called⟩
theorem gm_X5_does : g_mV yX5_does cX5_does 3 (some .boolean) 0 := ⟨⟨⟨qk_X5_does, qz_X5⟩, by decide +kernel, by decide +kernel⟩, qo_X5_does, qe_X5_does⟩
theorem gm_X5_fault : g_mV yX5_fault cX5_fault 3 (some .int) 1 := ⟨⟨⟨qk_X5_fault, qz_X5⟩, by decide +kernel, by decide +kernel⟩, qo_X5_fault, qe_X5_fault⟩
theorem gm_X5_play : g_mV yX5_play cX5_play 1 (some .int) 0 := ⟨⟨⟨qk_X5_play, qz_X5⟩, by decide +kernel, by decide +kernel⟩, qo_X5_play, qe_X5_play⟩
theorem gm_Jxf58ca_isNaN_12338 : g_mS yJxf58ca_isNaN_12338 cJxf58ca_isNaN_12338 1 (some .boolean) 1 := ⟨⟨⟨qk_Jxf58ca_isNaN_12338, qz_Jxf58ca⟩, by decide +kernel, by decide +kernel⟩, qs_Jxf58ca_isNaN_12338⟩
theorem gm_Jxf58ca_floatToIntBits_5c35a : g_mS yJxf58ca_floatToIntBits_5c35a cJxf58ca_floatToIntBits_5c35a 1 (some .int) 1 := ⟨⟨⟨qk_Jxf58ca_floatToIntBits_5c35a, qz_Jxf58ca⟩, by decide +kernel, by decide +kernel⟩, qs_Jxf58ca_floatToIntBits_5c35a⟩
theorem gm_J9_max_7cf53 : g_mS yJ9_max_7cf53 cJ9_max_7cf53 2 (some .int) 2 := ⟨⟨⟨qk_J9_max_7cf53, qz_J9⟩, by decide +kernel, by decide +kernel⟩, qs_J9_max_7cf53⟩
theorem gm_J9_min_7cf53 : g_mS yJ9_min_7cf53 cJ9_min_7cf53 2 (some .int) 2 := ⟨⟨⟨qk_J9_min_7cf53, qz_J9⟩, by decide +kernel, by decide +kernel⟩, qs_J9_min_7cf53⟩
theorem qN_X3_70 : Cond.methodLinkNest RX3 70 yX4_isGrade RX4 ∈ g_nest := by decide +kernel
theorem qN_X3_122 : Cond.methodLinkNest RX3 122 yX4_isOwner RX4 ∈ g_nest := by decide +kernel
theorem qN_X3_129 : Cond.methodLinkNest RX3 129 yX4_isLender RX4 ∈ g_nest := by decide +kernel
theorem qN_X3_165 : Cond.methodLinkNest RX3 165 yX4_isBin RX4 ∈ g_nest := by decide +kernel
theorem qN_X3_176 : Cond.methodLinkNest RX3 176 yX4_isSetting RX4 ∈ g_nest := by decide +kernel
theorem qN_X3_221 : Cond.methodLinkNest RX3 221 yX4_bitsOf RX4 ∈ g_nest := by decide +kernel
theorem qN_X2_50 : Cond.methodLinkNest RX2 50 yX4_isError RX4 ∈ g_nest := by decide +kernel
theorem qN_X4_104 : Cond.fieldLinkNest RX4 104 RX2 "length" "I" RX4 ∈ g_nest := by decide +kernel
theorem qN_X4_131 : Cond.fieldLinkNest RX4 131 RX2 "ordersDone" "I" RX4 ∈ g_nest := by decide +kernel
theorem qN_X4_122 : Cond.fieldLinkNest RX4 122 RX2 "faultPosition" "I" RX4 ∈ g_nest := by decide +kernel
theorem qN_X4_118 : Cond.fieldLinkNest RX4 118 RX2 "faultReason" "I" RX4 ∈ g_nest := by decide +kernel
theorem qN_X4_125 : Cond.fieldLinkNest RX4 125 RX2 "faultCause" "I" RX4 ∈ g_nest := by decide +kernel
theorem qN_X3_179 : Cond.fieldLinkNest RX3 179 RX4 "LEAST_SETTINGS" "[I" RX4 ∈ g_nest := by decide +kernel
theorem qN_X3_182 : Cond.fieldLinkNest RX3 182 RX4 "GREATEST_SETTINGS" "[I" RX4 ∈ g_nest := by decide +kernel
theorem i_X0 : ∀ w ∈ u_ws RX0 TX0 2, w ∈ g_tbl := by decide +kernel
theorem i_X1 : ∀ w ∈ u_ws RX1 TX1 7, w ∈ g_tbl := by decide +kernel
theorem i_X2 : ∀ w ∈ u_ws RX2 TX2 8, w ∈ g_tbl := by decide +kernel
theorem i_X3 : ∀ w ∈ u_ws RX3 TX3 11, w ∈ g_tbl := by decide +kernel
theorem i_X4 : ∀ w ∈ u_ws RX4 TX4 5, w ∈ g_tbl := by decide +kernel
theorem i_X5 : ∀ w ∈ u_ws RX5 TX5 12, w ∈ g_tbl := by decide +kernel
end
section
/-! ===== what each kind of cell shows, and shows when it is written ===== -/
abbrev fs_st (ad : g_Ad) (r : Nat) (V : g_V) : List Value := [.ref (ad r 1), .ref (ad r 2), .ref (ad r 3), .ref (ad r 4), .ref (ad r 5), .ref (ad r 6), .int (V 0 6), .int (V 0 7), .int (V 0 8), .int (V 0 9), .int (V 0 10)]
abbrev fs_bin (V : g_V) (c : Nat) : List Value := [.int (V c 0), .int (V c 1)]
abbrev fs_rec (V : g_V) (c : Nat) : List Value := [.int (V c 0), .int (V c 1), .int (V c 2), .int (V c 3), .int (V c 4), .int (V c 5), .int (V c 6)]
abbrev fs_gr (ad : g_Ad) (P : g_P) (V : g_V) : List Value := [.ref (ad 6 1), .ref (ad 6 4), .int (V 0 2), .ref (ad (P 0) 0), .ref (ad (P 1) 0)]
abbrev fs_sc (ad : g_Ad) (V : g_V) : List Value := [.ref (ad 6 2), .ref (ad 6 3), .int (V 1 2), .int (V 1 3), .int (V 1 4), .int (V 1 5), .int (V 1 6), .int (V 1 7)]
abbrev fs_x (ad : g_Ad) (V : g_V) : List Value := [.ref (ad 7 1), .ref (ad 7 2), .ref (ad 7 3), .int (V 0 3), .ref (ad 7 4), .int (V 0 5), .int (V 0 6), .int (V 0 7), .int (V 0 8), .int (V 0 9), .int (V 0 10), .ref (ad 7 5)]
section GK
variable {tb : g_T} {ad : g_Ad} {P : g_P} {M : g_M} {V : g_V} {r i k : Nat} {x : Int32}
theorem g_us : va_up M r V r = V := va_up_self M r V
theorem ok_c (c : Nat) (hr : r < 6) (hc : c < 28) : g_ok r c = true := by unfold g_ok; rw [if_pos hr]; exact decide_eq_true hc
theorem ok_bin (hr : r < 6) (hi : i < 5) : g_ok r (7 + i) = true := ok_c _ hr (by omega)
theorem ok_rec (hr : r < 6) (hi : i < 16) : g_ok r (12 + i) = true := ok_c _ hr (by omega)
theorem e_st (hr : r < 6) (hV : M r = V) : g_E tb ad P M r 0 = .inr (3, fs_st ad r V) := by subst hV; unfold g_E; rw [if_pos hr]; rfl
theorem e_bins (hr : r < 6) : g_E tb ad P M r 1 = g_rf 5 (fun i => ad r (7 + i)) (tb 2) := by unfold g_E; rw [if_pos hr]; rfl
theorem e_recs (hr : r < 6) : g_E tb ad P M r 2 = g_rf 16 (fun i => ad r (12 + i)) (tb 3) := by unfold g_E; rw [if_pos hr]; rfl
theorem e_pr (hr : r < 6) (hV : M r = V) : g_E tb ad P M r 3 = .inl (tb 0, 3, .inl (V 3)) := by subst hV; unfold g_E; rw [if_pos hr]; rfl
theorem e_se (hr : r < 6) (hV : M r = V) : g_E tb ad P M r 4 = .inl (tb 0, 4, .inl (V 4)) := by subst hV; unfold g_E; rw [if_pos hr]; rfl
theorem e_mo (hr : r < 6) (hV : M r = V) : g_E tb ad P M r 5 = .inl (tb 0, 8, .inl (V 5)) := by subst hV; unfold g_E; rw [if_pos hr]; rfl
theorem e_sz (hr : r < 6) (hV : M r = V) : g_E tb ad P M r 6 = .inl (tb 0, 3, .inl (V 6)) := by subst hV; unfold g_E; rw [if_pos hr]; rfl
theorem e_bin (hr : r < 6) (hi : i < 5) (hV : M r = V) : g_E tb ad P M r (7 + i) = .inr (0, fs_bin V (7 + i)) := by
  subst hV; unfold g_E g_S; rw [if_pos hr, if_neg (by omega), if_pos (by omega)]
theorem e_rec (hr : r < 6) (hi : i < 16) (hV : M r = V) : g_E tb ad P M r (12 + i) = .inr (1, fs_rec V (12 + i)) := by
  subst hV; unfold g_E g_S; rw [if_pos hr, if_pos (by omega)]
theorem e_gr (hV : M 6 = V) : g_E tb ad P M 6 0 = .inr (4, fs_gr ad P V) := by subst hV; rfl
theorem e_sc (hV : M 6 = V) : g_E tb ad P M 6 1 = .inr (2, fs_sc ad V) := by subst hV; rfl
theorem e_ch (hV : M 6 = V) : g_E tb ad P M 6 2 = .inl (tb 1, 60, .inl (V 2)) := by subst hV; rfl
theorem e_nu (hV : M 6 = V) : g_E tb ad P M 6 3 = .inl (tb 0, 3, .inl (V 3)) := by subst hV; rfl
theorem e_hi : g_E tb ad P M 6 4 = g_rf 4 (fun i => ad (P (2 + i)) 0) (tb 4) := rfl
theorem e_x (hV : M 7 = V) : g_E tb ad P M 7 0 = .inr (5, fs_x ad V) := by subst hV; rfl
theorem e_xs (hV : M 7 = V) : g_E tb ad P M 7 1 = .inl (tb 0, 146, .inl (V 1)) := by subst hV; rfl
theorem e_xb (hV : M 7 = V) : g_E tb ad P M 7 2 = .inl (tb 0, 146, .inl (V 2)) := by subst hV; rfl
theorem e_xp (hV : M 7 = V) : g_E tb ad P M 7 3 = .inl (tb 0, 584, .inl (V 3)) := by subst hV; rfl
theorem e_xt (hV : M 7 = V) : g_E tb ad P M 7 4 = .inl (tb 0, 60, .inl (V 4)) := by subst hV; rfl
theorem e_xn (hV : M 7 = V) : g_E tb ad P M 7 5 = .inl (tb 0, 3, .inl (V 5)) := by subst hV; rfl
theorem w2_s {c : Nat} : g_w2 V c k x c = upd (V c) k x := va_up_self V c _
theorem fs_st_w (hk : 6 ≤ k) (hk2 : k < 11) : fs_st ad r (g_w2 V 0 k x) = (fs_st ad r V).set k (.int x) := by
  unfold fs_st
  rw [w2_s]
  rcases (show k = 6 ∨ k = 7 ∨ k = 8 ∨ k = 9 ∨ k = 10 by omega) with rfl | rfl | rfl | rfl | rfl <;> rfl
theorem fs_bin_w {c : Nat} (hk : k < 2) : fs_bin (g_w2 V c k x) c = (fs_bin V c).set k (.int x) := by
  unfold fs_bin
  rw [w2_s]
  rcases (show k = 0 ∨ k = 1 by omega) with rfl | rfl <;> rfl
theorem fs_rec_w {c : Nat} (hk : k < 7) : fs_rec (g_w2 V c k x) c = (fs_rec V c).set k (.int x) := by
  unfold fs_rec
  rw [w2_s]
  rcases (show k = 0 ∨ k = 1 ∨ k = 2 ∨ k = 3 ∨ k = 4 ∨ k = 5 ∨ k = 6 by omega) with rfl | rfl | rfl | rfl | rfl | rfl | rfl <;> rfl
theorem fs_sc_w (hk : 2 ≤ k) (hk2 : k < 8) : fs_sc ad (g_w2 V 1 k x) = (fs_sc ad V).set k (.int x) := by
  unfold fs_sc
  rw [w2_s]
  rcases (show k = 2 ∨ k = 3 ∨ k = 4 ∨ k = 5 ∨ k = 6 ∨ k = 7 by omega) with rfl | rfl | rfl | rfl | rfl | rfl <;> rfl
theorem fs_gr_w : fs_gr ad P (g_w2 V 0 2 x) = (fs_gr ad P V).set 2 (.int x) := by
  unfold fs_gr
  rw [w2_s]
  rfl
theorem fs_x_w (hk : k = 3 ∨ k = 5 ∨ k = 6 ∨ k = 7 ∨ k = 8 ∨ k = 9 ∨ k = 10) : fs_x ad (g_w2 V 0 k x) = (fs_x ad V).set k (.int x) := by
  unfold fs_x
  rw [w2_s]
  rcases hk with rfl | rfl | rfl | rfl | rfl | rfl | rfl <;> rfl
theorem p_st (hr : r < 6) (hk : 6 ≤ k ∧ k < 11) : g_E tb ad P (va_up M r (g_w2 V 0 k x)) r 0 = .inr (3, (fs_st ad r V).set k (.int x)) := by rw [e_st hr g_us, fs_st_w hk.1 hk.2]
theorem p_bin (hr : r < 6) (hi : i < 5) (hk : k < 2) : g_E tb ad P (va_up M r (g_w2 V (7 + i) k x)) r (7 + i) = .inr (0, (fs_bin V (7 + i)).set k (.int x)) := by rw [e_bin hr hi g_us, fs_bin_w hk]
theorem p_rec (hr : r < 6) (hi : i < 16) (hk : k < 7) : g_E tb ad P (va_up M r (g_w2 V (12 + i) k x)) r (12 + i) = .inr (1, (fs_rec V (12 + i)).set k (.int x)) := by rw [e_rec hr hi g_us, fs_rec_w hk]
theorem p_pr (hr : r < 6) : g_E tb ad P (va_up M r (g_w2 V 3 k x)) r 3 = .inl (tb 0, 3, .inl (upd (V 3) k x)) := by rw [e_pr hr g_us, w2_s]
theorem p_se (hr : r < 6) : g_E tb ad P (va_up M r (g_w2 V 4 k x)) r 4 = .inl (tb 0, 4, .inl (upd (V 4) k x)) := by rw [e_se hr g_us, w2_s]
theorem p_mo (hr : r < 6) : g_E tb ad P (va_up M r (g_w2 V 5 k x)) r 5 = .inl (tb 0, 8, .inl (upd (V 5) k x)) := by rw [e_mo hr g_us, w2_s]
theorem p_sz (hr : r < 6) : g_E tb ad P (va_up M r (g_w2 V 6 k x)) r 6 = .inl (tb 0, 3, .inl (upd (V 6) k x)) := by rw [e_sz hr g_us, w2_s]
theorem p_gr : g_E tb ad P (va_up M 6 (g_w2 V 0 2 x)) 6 0 = .inr (4, (fs_gr ad P V).set 2 (.int x)) := by rw [e_gr g_us, fs_gr_w]
theorem p_sc (hk : 2 ≤ k ∧ k < 8) : g_E tb ad P (va_up M 6 (g_w2 V 1 k x)) 6 1 = .inr (2, (fs_sc ad V).set k (.int x)) := by rw [e_sc g_us, fs_sc_w hk.1 hk.2]
theorem p_ch : g_E tb ad P (va_up M 6 (g_w2 V 2 k x)) 6 2 = .inl (tb 1, 60, .inl (upd (V 2) k x)) := by rw [e_ch g_us, w2_s]
theorem p_nu : g_E tb ad P (va_up M 6 (g_w2 V 3 k x)) 6 3 = .inl (tb 0, 3, .inl (upd (V 3) k x)) := by rw [e_nu g_us, w2_s]
theorem p_x (hk : k = 3 ∨ k = 5 ∨ k = 6 ∨ k = 7 ∨ k = 8 ∨ k = 9 ∨ k = 10) : g_E tb ad P (va_up M 7 (g_w2 V 0 k x)) 7 0 = .inr (5, (fs_x ad V).set k (.int x)) := by rw [e_x g_us, fs_x_w hk]
theorem p_xs : g_E tb ad P (va_up M 7 (g_w2 V 1 k x)) 7 1 = .inl (tb 0, 146, .inl (upd (V 1) k x)) := by rw [e_xs g_us, w2_s]
theorem p_xb : g_E tb ad P (va_up M 7 (g_w2 V 2 k x)) 7 2 = .inl (tb 0, 146, .inl (upd (V 2) k x)) := by rw [e_xb g_us, w2_s]
theorem p_xp : g_E tb ad P (va_up M 7 (g_w2 V 3 k x)) 7 3 = .inl (tb 0, 584, .inl (upd (V 3) k x)) := by rw [e_xp g_us, w2_s]
theorem p_xt : g_E tb ad P (va_up M 7 (g_w2 V 4 k x)) 7 4 = .inl (tb 0, 60, .inl (upd (V 4) k x)) := by rw [e_xt g_us, w2_s]
theorem p_xn : g_E tb ad P (va_up M 7 (g_w2 V 5 k x)) 7 5 = .inl (tb 0, 3, .inl (upd (V 5) k x)) := by rw [e_xn g_us, w2_s]
end GK
section GQ
variable {p : Program} {l : Launch} {e : Env} {R : Room} {s : State} {m : MethodId} {args : Array Value} {below : List Frame} {meth : Method} {c : Code} {H : Heap} {locs : List Loc} {cells slots : Nat} {Q : State → Prop}
variable {cc : ByteArray} {pc nL : Nat} {ls : Array Slot} {rest As st0 : List Value} {D : va_G} {tb : g_T} {ad : g_Ad} {A : Nat → Prop} {P P' Pa : g_P} {M M' Ma : g_M} {r0 c0 : Nat} {own : String} {index : Nat}
variable {y : MethodName} {cd : ByteArray} {n np : Nat} {ret : Option FieldType} {rm : Room} {fr : Int32} {fq : Option Nat}
/-- a method's start, its end under a name -/
theorem g_go {av : List Value} {Qc : Array Value → State → Outcome → State → Prop} {free : Addr → Prop} (hy : plainName y.cls = true) (hav : (lg_sl av).length ≤ n) (hj : g_inj ad)
    (body : ∀ (p : Program) (e : Env) (s : State) (m : MethodId) (below : List Frame) (meth : Method) (c : Code) (ls : Array Slot) (H : Heap) (locs : List Loc) (R : Room) (args : Array Value) (Q : State → Prop), R = rm → Q = MQ below Qc args s 0 0 free → p.tables.exec = Jvm.exec → c.code = cd → c.maxLocals = n → meth.sig.returnType = ret → meth.locks = false → s.vm.findClass y.cls = some m.cls → (∀ w ∈ g_tbl, w.before args s = true) → g_C D tb ad (g_A ad) s → g_I D tb ad (g_A ad) s H locs P M → lv_has ls n (lv_args 0 av) →
      W p l e R s m args below meth c H locs 0 0 Q (F0 m 0 ls [])) :
    Met l y (g_ws y cd n ret) rm (va_Pc av (g_pre D tb ad P M)) Qc 0 0 free :=
  g_start hy hav hj (fun p e s m below meth c ls h1 h2 h3 h4 h5 h6 h7 h8 h9 h10 => body p e s m below meth c ls s.heap [] rm av.toArray _ rfl rfl h1 h2 h3 h4 h5 h6 h7 h8 h9 h10)
theorem g_ir {v : Int32} {ty : FieldType} (hQ : Q = MQ below (va_Qi (fun r (_ : Unit) => r = fr) (fun _ => g_pre D tb ad P' M') (g_A ad)) args s 0 0 (g_A ad)) (hx : p.tables.exec = Jvm.exec) (hb : c.code = cc) (hr : meth.sig.returnType = some ty) (hlocks : meth.locks = false) (hC : g_C D tb ad (g_A ad) s) (hI : g_I D tb ad (g_A ad) s H locs P M) (hdg : decode cc pc = .ok (.ireturn, 1)) (hn : narrow ty (.int v) = .int v) (hv : v = fr) (hP : P = P') (hM : M = M') :
    W p l e R s m args below meth c H locs 0 0 Q (F0 m pc ls [.int v]) := by subst hQ; exact g_iret hx hb hr hlocks hC hI hn hv hP hM hdg
theorem g_vr (hQ : Q = MQ below (va_Qv (fun (_ : Unit) => True) (fun _ => g_pre D tb ad P' M') (g_A ad)) args s 0 0 (g_A ad)) (hx : p.tables.exec = Jvm.exec) (hb : c.code = cc) (hr : meth.sig.returnType = none) (hlocks : meth.locks = false) (hC : g_C D tb ad (g_A ad) s) (hI : g_I D tb ad (g_A ad) s H locs P M) (hdg : decode cc pc = .ok (.return_, 1)) (hP : P = P') (hM : M = M') :
    W p l e R s m args below meth c H locs 0 0 Q (F0 m pc ls []) := by subst hQ; exact g_vret hx hb hr hlocks hC hI hP hM hdg
theorem g_qr {v : Option Nat} {C : String} {vv : Value} (hQ : Q = MQ below (va_Qq (fun r (_ : Unit) => r = fq) (fun _ => g_pre D tb ad P' M') (g_A ad)) args s 0 0 (g_A ad)) (hx : p.tables.exec = Jvm.exec) (hb : c.code = cc) (hr : meth.sig.returnType = some (.object C)) (hlocks : meth.locks = false) (hC : g_C D tb ad (g_A ad) s) (hI : g_I D tb ad (g_A ad) s H locs P M) (hdg : decode cc pc = .ok (.areturn, 1)) (hvv : vv = va_rf v) (hv : v = fq) (hP : P = P') (hM : M = M') :
    W p l e R s m args below meth c H locs 0 0 Q (F0 m pc ls [vv]) := by subst hQ; exact g_qret hx hb hr hlocks hC hI hv hP hM hdg hvv
/-- a truth on the stack: by cases -/
theorem g_tf {q : Prop} [Decidable q] (h1 : q → W p l e R s m args below meth c H locs cells slots Q (F0 m pc ls (.int 1 :: rest))) (h0 : ¬ q → W p l e R s m args below meth c H locs cells slots Q (F0 m pc ls (.int 0 :: rest))) : W p l e R s m args below meth c H locs cells slots Q (F0 m pc ls (.int (if q then 1 else 0) :: rest)) := by
  by_cases h : q
  · rw [if_pos h]; exact h1 h
  · rw [if_neg h]; exact h0 h
/-- a cell or none on the stack: by cases -/
theorem g_nf {o : Option Nat} {f : Nat → Nat} (h0 : o = none → W p l e R s m args below meth c H locs cells slots Q (F0 m pc ls (.null :: rest))) (h1 : ∀ i, o = some i → W p l e R s m args below meth c H locs cells slots Q (F0 m pc ls (.ref (f i) :: rest))) : W p l e R s m args below meth c H locs cells slots Q (F0 m pc ls (va_rf (o.map f) :: rest)) := by
  cases o with
  | none => exact h0 rfl
  | some i => exact h1 i rfl
end GQ
/-- numbers of loops -/
theorem k_lt {i n : Nat} (hn : n < 2 ^ 31) (hi : i < 2 ^ 31) : nI i < nI n ↔ i < n := nI_ltI hi hn
theorem k_ge {i n : Nat} (hn : n < 2 ^ 31) (hi : i < 2 ^ 31) : nI n ≤ nI i ↔ n ≤ i := nI_leI hn hi
end
section
/-! ===== plain functions that the methods answer ===== -/
section GT
variable {p : Program} {l : Launch} {e : Env} {R : Room} {s : State} {m : MethodId} {args : Array Value} {below : List Frame} {meth : Method} {c : Code} {H : Heap} {locs : List Loc} {cells slots : Nat} {Q : State → Prop}
variable {pc : Nat} {ls : Array Slot} {rest : List Value}
theorem g_te {x y : Int32} (h : x = y) (k : W p l e R s m args below meth c H locs cells slots Q (F0 m pc ls (.int y :: rest))) : W p l e R s m args below meth c H locs cells slots Q (F0 m pc ls (.int x :: rest)) := h ▸ k
end GT
theorem k_ti {x y : Int32} (h : ¬ x = y) {k : Int} (hy : y.toInt = k) : ¬ x.toInt = k := fun z => h (Int32.toInt_inj.mp (z.trans hy.symm))
def k_min (x y : Int32) : Int32 := if y < x then y else x
def k_max (x y : Int32) : Int32 := if x < y then y else x
def k_sum (f : Nat → Int32) : Nat → Int32
  | 0 => 0
  | n + 1 => k_sum f n + f n
def k_find (f : Nat → Bool) : Nat → Option Nat
  | 0 => none
  | n + 1 => match k_find f n with
    | some i => some i
    | none => if f n then some n else none
def k_iter {α : Type} (f : Nat → α → α) (x : α) : Nat → α
  | 0 => x
  | n + 1 => f n (k_iter f x n)
theorem k_find_none {f : Nat → Bool} : ∀ {n : Nat}, k_find f n = none ↔ ∀ j, j < n → f j = false
  | 0 => ⟨fun _ j h => absurd h (Nat.not_lt_zero j), fun _ => rfl⟩
  | n + 1 => by
    have ih := k_find_none (f := f) (n := n)
    constructor
    · intro h j hj
      unfold k_find at h
      cases h1 : k_find f n with
      | some i => rw [h1] at h; cases h
      | none =>
        rw [h1] at h
        by_cases hjn : j = n
        · subst hjn
          cases hf : f j with
          | false => rfl
          | true => simp [hf] at h
        · exact ih.mp h1 j (by omega)
    · intro h
      unfold k_find
      rw [ih.mpr (fun j hj => h j (by omega))]
      simp [h n (by omega)]
theorem k_find_some {f : Nat → Bool} : ∀ {n i : Nat}, k_find f n = some i → i < n ∧ f i = true ∧ ∀ j, j < i → f j = false
  | 0, i, h => by cases h
  | n + 1, i, h => by
    unfold k_find at h
    cases h1 : k_find f n with
    | some j =>
      rw [h1] at h
      cases h
      obtain ⟨a, b, c⟩ := k_find_some h1
      exact ⟨by omega, b, c⟩
    | none =>
      rw [h1] at h
      by_cases hf : f n = true
      · simp only [hf, if_true] at h
        cases h
        exact ⟨by omega, hf, fun j hj => k_find_none.mp h1 j hj⟩
      · simp [hf] at h
theorem k_find_at {f : Nat → Bool} {n i : Nat} (hi : i < n) (h : f i = true) (hn : ∀ j, j < i → f j = false) : k_find f n = some i := by
  cases h1 : k_find f n with
  | none =>
    have := k_find_none.mp h1 i hi
    rw [h] at this
    cases this
  | some j =>
    obtain ⟨a, b, c⟩ := k_find_some h1
    rcases Nat.lt_trichotomy i j with h2 | h2 | h2
    · rw [c i h2] at h; cases h
    · rw [h2]
    · rw [hn j h2] at b; cases b
theorem k_find_lt {f : Nat → Bool} {n i : Nat} (h : k_find f n = some i) : i < n := (k_find_some h).1
abbrev k_in (x n : Int32) : Prop := ¬ x < 0 ∧ ¬ n ≤ x
theorem k_in_ti {x n : Int32} (h : k_in x n) : 0 ≤ x.toInt ∧ x.toInt < n.toInt := by
  obtain ⟨h1, h2⟩ := h
  rw [Int32.lt_iff_toInt_lt, Int32.toInt_zero] at h1
  rw [Int32.le_iff_toInt_le] at h2
  omega
theorem k_vin {x : Int32} {n : Int32} {N : Nat} (h : k_in x n) (hn : n.toInt = N) : vp_in x N := by
  rw [vp_in_iff, ← hn]
  exact k_in_ti h
abbrev k_isError (x : Int32) : Prop := ¬ x < -2000000004 ∧ ¬ -2000000001 < x
abbrev k_digit (x : Int32) : Prop := ¬ x < 48 ∧ ¬ 57 < x
/-! the class: a state's picture V -/
abbrev q_used (V : g_V) (i : Nat) : Prop := ¬ V (12 + i) 0 = -1
abbrev q_pledged (V : g_V) (i : Nat) : Prop := ¬ V (12 + i) 4 = -1
abbrev q_called (V : g_V) (i : Nat) : Prop := ¬ V (12 + i) 6 ≤ 0
def q_use (V : g_V) (i : Nat) (a b c d : Int32) : g_V := g_w2 (g_w2 (g_w2 (g_w2 V (12 + i) 0 a) (12 + i) 1 b) (12 + i) 2 c) (12 + i) 3 d
def q_endPledge (V : g_V) (i : Nat) : g_V := g_w2 (g_w2 (g_w2 V (12 + i) 4 (-1)) (12 + i) 5 0) (12 + i) 6 0
def q_free (V : g_V) (i : Nat) : g_V := q_endPledge (q_use V i (-1) 0 0 0) i
def q_copyRec (V V2 : g_V) (i j : Nat) : g_V := g_w2 (g_w2 (g_w2 (q_use V i (V2 (12 + j) 0) (V2 (12 + j) 1) (V2 (12 + j) 2) (V2 (12 + j) 3)) (12 + i) 4 (V2 (12 + j) 4)) (12 + i) 5 (V2 (12 + j) 5)) (12 + i) 6 (V2 (12 + j) 6)
def q_copyBin (V V2 : g_V) (i j : Nat) : g_V := g_w2 (g_w2 V (7 + i) 0 (V2 (7 + j) 0)) (7 + i) 1 (V2 (7 + j) 1)
def q_grainF (V : g_V) (a b : Int32) (i : Nat) : Int32 := if ¬ V (7 + i) 0 < a ∧ ¬ b < V (7 + i) 0 then V (7 + i) 1 else 0
def q_grainOf (V : g_V) (a b : Int32) : Int32 := k_sum (q_grainF V a b) 5
def q_roomF (V : g_V) (g : Int32) (i : Nat) : Int32 := if V (7 + i) 0 = g then 2000 - V (7 + i) 1 else 0
def q_roomIn (V : g_V) (g : Int32) : Int32 := k_sum (q_roomF V g) 5
def q_recF (V : g_V) (a b : Int32) (i : Nat) : Int32 := if q_used V i ∧ ¬ V (12 + i) 2 < a ∧ ¬ b < V (12 + i) 2 then V (12 + i) 3 else 0
def q_receiptsOf (V : g_V) (a b : Int32) : Int32 := k_sum (q_recF V a b) 16
def q_belowF (V : g_V) (n : Int32) (i : Nat) : Int32 := if q_used V i ∧ ¬ n ≤ V (12 + i) 0 then 1 else 0
def q_below (V : g_V) (n : Int32) : Int32 := k_sum (q_belowF V n) 16
def q_surplus (V : g_V) (g : Int32) : Int32 := q_grainOf V 0 g - q_receiptsOf V 0 g
def q_find (V : g_V) (n : Int32) : Option Nat := k_find (fun i => decide (q_used V i ∧ V (12 + i) 0 = n)) 16
def q_freePlace (V : g_V) : Option Nat := k_find (fun i => decide (¬ q_used V i)) 16
def q_worth (V : g_V) (i : Nat) : Int32 := V (12 + i) 3 * V 3 2
def q_greatestLoan (V : g_V) (i : Nat) : Int32 := q_worth V i * V 4 0 / 100
def q_callLimit (V : g_V) (w : Int32) : Int32 := w * V 4 1 / 100
abbrev q_tooHigh (V : g_V) (i : Nat) : Prop := ¬ V (12 + i) 5 ≤ q_callLimit V (q_worth V i)
abbrev q_would (V : g_V) (i : Nat) (lender price : Int32) : Prop := V (12 + i) 4 = lender ∧ ¬ q_called V i ∧ ¬ V (12 + i) 5 ≤ q_callLimit V (V (12 + i) 3 * price)
end
section
abbrev rm_X4_isGrade : Room := { frames := 0, cells := 0, slots := 0, locals := 0 }
set_option maxHeartbeats 4000000 in
set_option maxRecDepth 100000 in
theorem c_X4_isGrade (l : Launch) (D : va_G) (tb : g_T) (ad : g_Ad) (hj : g_inj ad) (P : g_P) (M : g_M) (x : Int32) : g_Ci l yX4_isGrade cX4_isGrade 1 (some .boolean) rm_X4_isGrade D tb ad [.int x] P (M) (if k_in x 3 then 1 else 0) P (M) := by
  refine g_go (by decide) (Nat.le_of_ble_eq_true rfl) hj ?_
  intro p e s m below meth c ls H locs R args Q hR0 hQ hx hb hml hr0 hlk hown hts hC hI hl
  subst hR0
  have hown : s.vm.findClass RX4 = some m.cls := hown
  have hl : lv_has ls 1 [(0, .int x)] := hl
  refine lv_iload_n hx hb dX4_isGrade_0 rfl (lv_at hl 0 rfl) ?_
  refine lv_if_lt (tgt := 13) hx hb dX4_isGrade_1 (by decide) (fun c1 => ?_) (fun c1 => ?_)
  · refine lv_iconst (v := 0) hx hb dX4_isGrade_13 (by decide) ?_
    exact g_ir hQ hx hb hr0 hlk hC hI dX4_isGrade_14 (by rfl) (by simp [k_in, c1]) rfl rfl
  · refine lv_iload_n hx hb dX4_isGrade_4 rfl (lv_at hl 0 rfl) ?_
    refine lv_iconst (v := 3) hx hb dX4_isGrade_5 (by decide) ?_
    refine lv_icmp_ge (tgt := 13) hx hb dX4_isGrade_6 (by decide) (fun c2 => ?_) (fun c2 => ?_)
    · refine lv_iconst (v := 0) hx hb dX4_isGrade_13 (by decide) ?_
      exact g_ir hQ hx hb hr0 hlk hC hI dX4_isGrade_14 (by rfl) (by simp [k_in, c1, c2]) rfl rfl
    · refine lv_iconst (v := 1) hx hb dX4_isGrade_9 (by decide) ?_
      refine lv_goto (tgt := 14) hx hb dX4_isGrade_10 (by decide) ?_
      exact g_ir hQ hx hb hr0 hlk hC hI dX4_isGrade_14 (by rfl) (by simp [k_in, c1, c2]) rfl rfl
abbrev rm_X4_isBin : Room := { frames := 0, cells := 0, slots := 0, locals := 0 }
set_option maxHeartbeats 4000000 in
set_option maxRecDepth 100000 in
theorem c_X4_isBin (l : Launch) (D : va_G) (tb : g_T) (ad : g_Ad) (hj : g_inj ad) (P : g_P) (M : g_M) (x : Int32) : g_Ci l yX4_isBin cX4_isBin 1 (some .boolean) rm_X4_isBin D tb ad [.int x] P (M) (if k_in x 5 then 1 else 0) P (M) := by
  refine g_go (by decide) (Nat.le_of_ble_eq_true rfl) hj ?_
  intro p e s m below meth c ls H locs R args Q hR0 hQ hx hb hml hr0 hlk hown hts hC hI hl
  subst hR0
  have hown : s.vm.findClass RX4 = some m.cls := hown
  have hl : lv_has ls 1 [(0, .int x)] := hl
  refine lv_iload_n hx hb dX4_isBin_0 rfl (lv_at hl 0 rfl) ?_
  refine lv_if_lt (tgt := 13) hx hb dX4_isBin_1 (by decide) (fun c1 => ?_) (fun c1 => ?_)
  · refine lv_iconst (v := 0) hx hb dX4_isBin_13 (by decide) ?_
    exact g_ir hQ hx hb hr0 hlk hC hI dX4_isBin_14 (by rfl) (by simp [k_in, c1]) rfl rfl
  · refine lv_iload_n hx hb dX4_isBin_4 rfl (lv_at hl 0 rfl) ?_
    refine lv_iconst (v := 5) hx hb dX4_isBin_5 (by decide) ?_
    refine lv_icmp_ge (tgt := 13) hx hb dX4_isBin_6 (by decide) (fun c2 => ?_) (fun c2 => ?_)
    · refine lv_iconst (v := 0) hx hb dX4_isBin_13 (by decide) ?_
      exact g_ir hQ hx hb hr0 hlk hC hI dX4_isBin_14 (by rfl) (by simp [k_in, c1, c2]) rfl rfl
    · refine lv_iconst (v := 1) hx hb dX4_isBin_9 (by decide) ?_
      refine lv_goto (tgt := 14) hx hb dX4_isBin_10 (by decide) ?_
      exact g_ir hQ hx hb hr0 hlk hC hI dX4_isBin_14 (by rfl) (by simp [k_in, c1, c2]) rfl rfl
abbrev rm_X4_isOwner : Room := { frames := 0, cells := 0, slots := 0, locals := 0 }
set_option maxHeartbeats 4000000 in
set_option maxRecDepth 100000 in
theorem c_X4_isOwner (l : Launch) (D : va_G) (tb : g_T) (ad : g_Ad) (hj : g_inj ad) (P : g_P) (M : g_M) (x : Int32) : g_Ci l yX4_isOwner cX4_isOwner 1 (some .boolean) rm_X4_isOwner D tb ad [.int x] P (M) (if k_in x 8 then 1 else 0) P (M) := by
  refine g_go (by decide) (Nat.le_of_ble_eq_true rfl) hj ?_
  intro p e s m below meth c ls H locs R args Q hR0 hQ hx hb hml hr0 hlk hown hts hC hI hl
  subst hR0
  have hown : s.vm.findClass RX4 = some m.cls := hown
  have hl : lv_has ls 1 [(0, .int x)] := hl
  refine lv_iload_n hx hb dX4_isOwner_0 rfl (lv_at hl 0 rfl) ?_
  refine lv_if_lt (tgt := 14) hx hb dX4_isOwner_1 (by decide) (fun c1 => ?_) (fun c1 => ?_)
  · refine lv_iconst (v := 0) hx hb dX4_isOwner_14 (by decide) ?_
    exact g_ir hQ hx hb hr0 hlk hC hI dX4_isOwner_15 (by rfl) (by simp [k_in, c1]) rfl rfl
  · refine lv_iload_n hx hb dX4_isOwner_4 rfl (lv_at hl 0 rfl) ?_
    refine lv_bipush (v := 8) hx hb dX4_isOwner_5 (by decide) ?_
    refine lv_icmp_ge (tgt := 14) hx hb dX4_isOwner_7 (by decide) (fun c2 => ?_) (fun c2 => ?_)
    · refine lv_iconst (v := 0) hx hb dX4_isOwner_14 (by decide) ?_
      exact g_ir hQ hx hb hr0 hlk hC hI dX4_isOwner_15 (by rfl) (by simp [k_in, c1, c2]) rfl rfl
    · refine lv_iconst (v := 1) hx hb dX4_isOwner_10 (by decide) ?_
      refine lv_goto (tgt := 15) hx hb dX4_isOwner_11 (by decide) ?_
      exact g_ir hQ hx hb hr0 hlk hC hI dX4_isOwner_15 (by rfl) (by simp [k_in, c1, c2]) rfl rfl
abbrev rm_X4_isLender : Room := { frames := 0, cells := 0, slots := 0, locals := 0 }
set_option maxHeartbeats 4000000 in
set_option maxRecDepth 100000 in
theorem c_X4_isLender (l : Launch) (D : va_G) (tb : g_T) (ad : g_Ad) (hj : g_inj ad) (P : g_P) (M : g_M) (x : Int32) : g_Ci l yX4_isLender cX4_isLender 1 (some .boolean) rm_X4_isLender D tb ad [.int x] P (M) (if k_in x 3 then 1 else 0) P (M) := by
  refine g_go (by decide) (Nat.le_of_ble_eq_true rfl) hj ?_
  intro p e s m below meth c ls H locs R args Q hR0 hQ hx hb hml hr0 hlk hown hts hC hI hl
  subst hR0
  have hown : s.vm.findClass RX4 = some m.cls := hown
  have hl : lv_has ls 1 [(0, .int x)] := hl
  refine lv_iload_n hx hb dX4_isLender_0 rfl (lv_at hl 0 rfl) ?_
  refine lv_if_lt (tgt := 13) hx hb dX4_isLender_1 (by decide) (fun c1 => ?_) (fun c1 => ?_)
  · refine lv_iconst (v := 0) hx hb dX4_isLender_13 (by decide) ?_
    exact g_ir hQ hx hb hr0 hlk hC hI dX4_isLender_14 (by rfl) (by simp [k_in, c1]) rfl rfl
  · refine lv_iload_n hx hb dX4_isLender_4 rfl (lv_at hl 0 rfl) ?_
    refine lv_iconst (v := 3) hx hb dX4_isLender_5 (by decide) ?_
    refine lv_icmp_ge (tgt := 13) hx hb dX4_isLender_6 (by decide) (fun c2 => ?_) (fun c2 => ?_)
    · refine lv_iconst (v := 0) hx hb dX4_isLender_13 (by decide) ?_
      exact g_ir hQ hx hb hr0 hlk hC hI dX4_isLender_14 (by rfl) (by simp [k_in, c1, c2]) rfl rfl
    · refine lv_iconst (v := 1) hx hb dX4_isLender_9 (by decide) ?_
      refine lv_goto (tgt := 14) hx hb dX4_isLender_10 (by decide) ?_
      exact g_ir hQ hx hb hr0 hlk hC hI dX4_isLender_14 (by rfl) (by simp [k_in, c1, c2]) rfl rfl
abbrev rm_X4_isSetting : Room := { frames := 0, cells := 0, slots := 0, locals := 0 }
set_option maxHeartbeats 4000000 in
set_option maxRecDepth 100000 in
theorem c_X4_isSetting (l : Launch) (D : va_G) (tb : g_T) (ad : g_Ad) (hj : g_inj ad) (P : g_P) (M : g_M) (x : Int32) : g_Ci l yX4_isSetting cX4_isSetting 1 (some .boolean) rm_X4_isSetting D tb ad [.int x] P (M) (if k_in x 4 then 1 else 0) P (M) := by
  refine g_go (by decide) (Nat.le_of_ble_eq_true rfl) hj ?_
  intro p e s m below meth c ls H locs R args Q hR0 hQ hx hb hml hr0 hlk hown hts hC hI hl
  subst hR0
  have hown : s.vm.findClass RX4 = some m.cls := hown
  have hl : lv_has ls 1 [(0, .int x)] := hl
  refine lv_iload_n hx hb dX4_isSetting_0 rfl (lv_at hl 0 rfl) ?_
  refine lv_if_lt (tgt := 13) hx hb dX4_isSetting_1 (by decide) (fun c1 => ?_) (fun c1 => ?_)
  · refine lv_iconst (v := 0) hx hb dX4_isSetting_13 (by decide) ?_
    exact g_ir hQ hx hb hr0 hlk hC hI dX4_isSetting_14 (by rfl) (by simp [k_in, c1]) rfl rfl
  · refine lv_iload_n hx hb dX4_isSetting_4 rfl (lv_at hl 0 rfl) ?_
    refine lv_iconst (v := 4) hx hb dX4_isSetting_5 (by decide) ?_
    refine lv_icmp_ge (tgt := 13) hx hb dX4_isSetting_6 (by decide) (fun c2 => ?_) (fun c2 => ?_)
    · refine lv_iconst (v := 0) hx hb dX4_isSetting_13 (by decide) ?_
      exact g_ir hQ hx hb hr0 hlk hC hI dX4_isSetting_14 (by rfl) (by simp [k_in, c1, c2]) rfl rfl
    · refine lv_iconst (v := 1) hx hb dX4_isSetting_9 (by decide) ?_
      refine lv_goto (tgt := 14) hx hb dX4_isSetting_10 (by decide) ?_
      exact g_ir hQ hx hb hr0 hlk hC hI dX4_isSetting_14 (by rfl) (by simp [k_in, c1, c2]) rfl rfl
abbrev rm_X4_isError : Room := { frames := 0, cells := 0, slots := 0, locals := 0 }
set_option maxHeartbeats 4000000 in
set_option maxRecDepth 100000 in
theorem c_X4_isError (l : Launch) (D : va_G) (tb : g_T) (ad : g_Ad) (hj : g_inj ad) (P : g_P) (M : g_M) (x : Int32) : g_Ci l yX4_isError cX4_isError 1 (some .boolean) rm_X4_isError D tb ad [.int x] P (M) (if k_isError x then 1 else 0) P (M) := by
  refine g_go (by decide) (Nat.le_of_ble_eq_true rfl) hj ?_
  intro p e s m below meth c ls H locs R args Q hR0 hQ hx hb hml hr0 hlk hown hts hC hI hl
  subst hR0
  have hown : s.vm.findClass RX4 = some m.cls := hown
  have hl : lv_has ls 1 [(0, .int x)] := hl
  refine lv_iload_n hx hb dX4_isError_0 rfl (lv_at hl 0 rfl) ?_
  refine lv_ldc (v := (-2000000004)) hx hb hown (hts _ qc_X4_121) dX4_isError_1 ?_
  refine lv_icmp_lt (tgt := 16) hx hb dX4_isError_3 (by decide) (fun c1 => ?_) (fun c1 => ?_)
  · refine lv_iconst (v := 0) hx hb dX4_isError_16 (by decide) ?_
    exact g_ir hQ hx hb hr0 hlk hC hI dX4_isError_17 (by rfl) (by simp [k_isError, c1]) rfl rfl
  · refine lv_iload_n hx hb dX4_isError_6 rfl (lv_at hl 0 rfl) ?_
    refine lv_ldc (v := (-2000000001)) hx hb hown (hts _ qc_X4_114) dX4_isError_7 ?_
    refine lv_icmp_gt (tgt := 16) hx hb dX4_isError_9 (by decide) (fun c2 => ?_) (fun c2 => ?_)
    · refine lv_iconst (v := 0) hx hb dX4_isError_16 (by decide) ?_
      exact g_ir hQ hx hb hr0 hlk hC hI dX4_isError_17 (by rfl) (by simp [k_isError, c1, c2]) rfl rfl
    · refine lv_iconst (v := 1) hx hb dX4_isError_12 (by decide) ?_
      refine lv_goto (tgt := 17) hx hb dX4_isError_13 (by decide) ?_
      exact g_ir hQ hx hb hr0 hlk hC hI dX4_isError_17 (by rfl) (by simp [k_isError, c1, c2]) rfl rfl
abbrev rm_X2_isDigit : Room := { frames := 0, cells := 0, slots := 0, locals := 0 }
set_option maxHeartbeats 4000000 in
set_option maxRecDepth 100000 in
theorem c_X2_isDigit (l : Launch) (D : va_G) (tb : g_T) (ad : g_Ad) (hj : g_inj ad) (P : g_P) (M : g_M) (x : Int32) : g_Ci l yX2_isDigit cX2_isDigit 1 (some .boolean) rm_X2_isDigit D tb ad [.int x] P (M) (if k_digit x then 1 else 0) P (M) := by
  refine g_go (by decide) (Nat.le_of_ble_eq_true rfl) hj ?_
  intro p e s m below meth c ls H locs R args Q hR0 hQ hx hb hml hr0 hlk hown hts hC hI hl
  subst hR0
  have hown : s.vm.findClass RX2 = some m.cls := hown
  have hl : lv_has ls 1 [(0, .int x)] := hl
  refine lv_iload_n hx hb dX2_isDigit_0 rfl (lv_at hl 0 rfl) ?_
  refine lv_bipush (v := 48) hx hb dX2_isDigit_1 (by decide) ?_
  refine lv_icmp_lt (tgt := 16) hx hb dX2_isDigit_3 (by decide) (fun c1 => ?_) (fun c1 => ?_)
  · refine lv_iconst (v := 0) hx hb dX2_isDigit_16 (by decide) ?_
    exact g_ir hQ hx hb hr0 hlk hC hI dX2_isDigit_17 (by rfl) (by simp [k_digit, c1]) rfl rfl
  · refine lv_iload_n hx hb dX2_isDigit_6 rfl (lv_at hl 0 rfl) ?_
    refine lv_bipush (v := 57) hx hb dX2_isDigit_7 (by decide) ?_
    refine lv_icmp_gt (tgt := 16) hx hb dX2_isDigit_9 (by decide) (fun c2 => ?_) (fun c2 => ?_)
    · refine lv_iconst (v := 0) hx hb dX2_isDigit_16 (by decide) ?_
      exact g_ir hQ hx hb hr0 hlk hC hI dX2_isDigit_17 (by rfl) (by simp [k_digit, c1, c2]) rfl rfl
    · refine lv_iconst (v := 1) hx hb dX2_isDigit_12 (by decide) ?_
      refine lv_goto (tgt := 17) hx hb dX2_isDigit_13 (by decide) ?_
      exact g_ir hQ hx hb hr0 hlk hC hI dX2_isDigit_17 (by rfl) (by simp [k_digit, c1, c2]) rfl rfl
abbrev rm_X1_isUsed : Room := { frames := 0, cells := 0, slots := 0, locals := 0 }
set_option maxHeartbeats 4000000 in
set_option maxRecDepth 100000 in
theorem c_X1_isUsed (l : Launch) (D : va_G) (tb : g_T) (ad : g_Ad) (hj : g_inj ad) (P : g_P) (M : g_M) (r : Nat) (hr : r < 6) (V : g_V) (i : Nat) (hi : i < 16) : g_Ci l yX1_isUsed cX1_isUsed 1 (some .boolean) rm_X1_isUsed D tb ad [.ref (ad r (12 + i))] P (va_up M r V) (if q_used V i then 1 else 0) P (va_up M r V) := by
  refine g_go (by decide) (Nat.le_of_ble_eq_true rfl) hj ?_
  intro p e s m below meth c ls H locs R args Q hR0 hQ hx hb hml hr0 hlk hown hts hC hI hl
  subst hR0
  have hown : s.vm.findClass RX1 = some m.cls := hown
  have hl : lv_has ls 1 [(0, .ref (ad r (12 + i)))] := hl
  refine lv_aload_n hx hb dX1_isUsed_0 rfl (lv_at hl 0 rfl) ?_
  refine g_get 0 hx hb hts hown hC hI i_X1 (ok_rec hr hi) (e_rec hr hi g_us) rfl (by decide) qf_X1_9 rfl rfl dX1_isUsed_1 ?_
  refine lv_iconst (v := (-1)) hx hb dX1_isUsed_4 (by decide) ?_
  refine lv_icmp_eq (tgt := 12) hx hb dX1_isUsed_5 (by decide) (fun c1 => ?_) (fun c1 => ?_)
  · refine lv_iconst (v := 0) hx hb dX1_isUsed_12 (by decide) ?_
    exact g_ir hQ hx hb hr0 hlk hC hI dX1_isUsed_13 (by rfl) (by simp [c1]) rfl rfl
  · refine lv_iconst (v := 1) hx hb dX1_isUsed_8 (by decide) ?_
    refine lv_goto (tgt := 13) hx hb dX1_isUsed_9 (by decide) ?_
    exact g_ir hQ hx hb hr0 hlk hC hI dX1_isUsed_13 (by rfl) (by simp [c1]) rfl rfl
abbrev rm_X1_isPledged : Room := { frames := 0, cells := 0, slots := 0, locals := 0 }
set_option maxHeartbeats 4000000 in
set_option maxRecDepth 100000 in
theorem c_X1_isPledged (l : Launch) (D : va_G) (tb : g_T) (ad : g_Ad) (hj : g_inj ad) (P : g_P) (M : g_M) (r : Nat) (hr : r < 6) (V : g_V) (i : Nat) (hi : i < 16) : g_Ci l yX1_isPledged cX1_isPledged 1 (some .boolean) rm_X1_isPledged D tb ad [.ref (ad r (12 + i))] P (va_up M r V) (if q_pledged V i then 1 else 0) P (va_up M r V) := by
  refine g_go (by decide) (Nat.le_of_ble_eq_true rfl) hj ?_
  intro p e s m below meth c ls H locs R args Q hR0 hQ hx hb hml hr0 hlk hown hts hC hI hl
  subst hR0
  have hown : s.vm.findClass RX1 = some m.cls := hown
  have hl : lv_has ls 1 [(0, .ref (ad r (12 + i)))] := hl
  refine lv_aload_n hx hb dX1_isPledged_0 rfl (lv_at hl 0 rfl) ?_
  refine g_get 4 hx hb hts hown hC hI i_X1 (ok_rec hr hi) (e_rec hr hi g_us) rfl (by decide) qf_X1_15 rfl rfl dX1_isPledged_1 ?_
  refine lv_iconst (v := (-1)) hx hb dX1_isPledged_4 (by decide) ?_
  refine lv_icmp_eq (tgt := 12) hx hb dX1_isPledged_5 (by decide) (fun c1 => ?_) (fun c1 => ?_)
  · refine lv_iconst (v := 0) hx hb dX1_isPledged_12 (by decide) ?_
    exact g_ir hQ hx hb hr0 hlk hC hI dX1_isPledged_13 (by rfl) (by simp [c1]) rfl rfl
  · refine lv_iconst (v := 1) hx hb dX1_isPledged_8 (by decide) ?_
    refine lv_goto (tgt := 13) hx hb dX1_isPledged_9 (by decide) ?_
    exact g_ir hQ hx hb hr0 hlk hC hI dX1_isPledged_13 (by rfl) (by simp [c1]) rfl rfl
abbrev rm_X1_isCalled : Room := { frames := 0, cells := 0, slots := 0, locals := 0 }
set_option maxHeartbeats 4000000 in
set_option maxRecDepth 100000 in
theorem c_X1_isCalled (l : Launch) (D : va_G) (tb : g_T) (ad : g_Ad) (hj : g_inj ad) (P : g_P) (M : g_M) (r : Nat) (hr : r < 6) (V : g_V) (i : Nat) (hi : i < 16) : g_Ci l yX1_isCalled cX1_isCalled 1 (some .boolean) rm_X1_isCalled D tb ad [.ref (ad r (12 + i))] P (va_up M r V) (if q_called V i then 1 else 0) P (va_up M r V) := by
  refine g_go (by decide) (Nat.le_of_ble_eq_true rfl) hj ?_
  intro p e s m below meth c ls H locs R args Q hR0 hQ hx hb hml hr0 hlk hown hts hC hI hl
  subst hR0
  have hown : s.vm.findClass RX1 = some m.cls := hown
  have hl : lv_has ls 1 [(0, .ref (ad r (12 + i)))] := hl
  refine lv_aload_n hx hb dX1_isCalled_0 rfl (lv_at hl 0 rfl) ?_
  refine g_get 6 hx hb hts hown hC hI i_X1 (ok_rec hr hi) (e_rec hr hi g_us) rfl (by decide) qf_X1_18 rfl rfl dX1_isCalled_1 ?_
  refine lv_if_le (tgt := 11) hx hb dX1_isCalled_4 (by decide) (fun c1 => ?_) (fun c1 => ?_)
  · refine lv_iconst (v := 0) hx hb dX1_isCalled_11 (by decide) ?_
    exact g_ir hQ hx hb hr0 hlk hC hI dX1_isCalled_12 (by rfl) (by simp [c1]) rfl rfl
  · refine lv_iconst (v := 1) hx hb dX1_isCalled_7 (by decide) ?_
    refine lv_goto (tgt := 12) hx hb dX1_isCalled_8 (by decide) ?_
    exact g_ir hQ hx hb hr0 hlk hC hI dX1_isCalled_12 (by rfl) (by simp [c1]) rfl rfl
abbrev rm_X1_use : Room := { frames := 0, cells := 0, slots := 0, locals := 0 }
set_option maxHeartbeats 4000000 in
set_option maxRecDepth 100000 in
theorem c_X1_use (l : Launch) (D : va_G) (tb : g_T) (ad : g_Ad) (hj : g_inj ad) (P : g_P) (M : g_M) (r : Nat) (hr : r < 6) (V : g_V) (i : Nat) (hi : i < 16) (n1 : Int32) (n2 : Int32) (n3 : Int32) (n4 : Int32) : g_Cv l yX1_use cX1_use 5 none rm_X1_use D tb ad [.ref (ad r (12 + i)), .int n1, .int n2, .int n3, .int n4] P (va_up M r V) P (va_up M r (q_use V i n1 n2 n3 n4)) := by
  refine g_go (by decide) (Nat.le_of_ble_eq_true rfl) hj ?_
  intro p e s m below meth c ls H locs R args Q hR0 hQ hx hb hml hr0 hlk hown hts hC hI hl
  subst hR0
  have hown : s.vm.findClass RX1 = some m.cls := hown
  have hl : lv_has ls 5 [(0, .ref (ad r (12 + i))), (1, .int n1), (2, .int n2), (3, .int n3), (4, .int n4)] := hl
  refine lv_aload_n hx hb dX1_use_0 rfl (lv_at hl 0 rfl) ?_
  refine lv_iload_n hx hb dX1_use_1 rfl (lv_at hl 1 rfl) ?_
  refine g_put 0 (ty := .int) hx hb hts hown hC hI i_X1 tyX1_ok nmX1 (ok_rec hr hi) (e_rec hr hi g_us) rfl (by decide) qf_X1_9 rfl rfl rfl rfl rfl (Nat.le_of_ble_eq_true rfl) (p_rec hr hi (by decide)) g_hs dX1_use_2 (fun H locs hI => ?_)
  refine lv_aload_n hx hb dX1_use_5 rfl (lv_at hl 0 rfl) ?_
  refine lv_iload_n hx hb dX1_use_6 rfl (lv_at hl 2 rfl) ?_
  refine g_put 1 (ty := .int) hx hb hts hown hC hI i_X1 tyX1_ok nmX1 (ok_rec hr hi) (e_rec hr hi g_us) rfl (by decide) qf_X1_21 rfl rfl rfl rfl rfl (Nat.le_of_ble_eq_true rfl) (p_rec hr hi (by decide)) g_hs dX1_use_7 (fun H locs hI => ?_)
  refine lv_aload_n hx hb dX1_use_10 rfl (lv_at hl 0 rfl) ?_
  refine lv_iload_n hx hb dX1_use_11 rfl (lv_at hl 3 rfl) ?_
  refine g_put 2 (ty := .int) hx hb hts hown hC hI i_X1 tyX1_ok nmX1 (ok_rec hr hi) (e_rec hr hi g_us) rfl (by decide) qf_X1_24 rfl rfl rfl rfl rfl (Nat.le_of_ble_eq_true rfl) (p_rec hr hi (by decide)) g_hs dX1_use_12 (fun H locs hI => ?_)
  refine lv_aload_n hx hb dX1_use_15 rfl (lv_at hl 0 rfl) ?_
  refine lv_iload hx hb dX1_use_16 (lv_at hl 4 rfl) ?_
  refine g_put 3 (ty := .int) hx hb hts hown hC hI i_X1 tyX1_ok nmX1 (ok_rec hr hi) (e_rec hr hi g_us) rfl (by decide) qf_X1_27 rfl rfl rfl rfl rfl (Nat.le_of_ble_eq_true rfl) (p_rec hr hi (by decide)) g_hs dX1_use_18 (fun H locs hI => ?_)
  exact g_vr hQ hx hb hr0 hlk hC hI dX1_use_21 rfl (by rfl)
abbrev rm_X1_endPledge : Room := { frames := 0, cells := 0, slots := 0, locals := 0 }
set_option maxHeartbeats 4000000 in
set_option maxRecDepth 100000 in
theorem c_X1_endPledge (l : Launch) (D : va_G) (tb : g_T) (ad : g_Ad) (hj : g_inj ad) (P : g_P) (M : g_M) (r : Nat) (hr : r < 6) (V : g_V) (i : Nat) (hi : i < 16) : g_Cv l yX1_endPledge cX1_endPledge 1 none rm_X1_endPledge D tb ad [.ref (ad r (12 + i))] P (va_up M r V) P (va_up M r (q_endPledge V i)) := by
  refine g_go (by decide) (Nat.le_of_ble_eq_true rfl) hj ?_
  intro p e s m below meth c ls H locs R args Q hR0 hQ hx hb hml hr0 hlk hown hts hC hI hl
  subst hR0
  have hown : s.vm.findClass RX1 = some m.cls := hown
  have hl : lv_has ls 1 [(0, .ref (ad r (12 + i)))] := hl
  refine lv_aload_n hx hb dX1_endPledge_0 rfl (lv_at hl 0 rfl) ?_
  refine lv_iconst (v := (-1)) hx hb dX1_endPledge_1 (by decide) ?_
  refine g_put 4 (ty := .int) hx hb hts hown hC hI i_X1 tyX1_ok nmX1 (ok_rec hr hi) (e_rec hr hi g_us) rfl (by decide) qf_X1_15 rfl rfl rfl rfl rfl (Nat.le_of_ble_eq_true rfl) (p_rec hr hi (by decide)) g_hs dX1_endPledge_2 (fun H locs hI => ?_)
  refine lv_aload_n hx hb dX1_endPledge_5 rfl (lv_at hl 0 rfl) ?_
  refine lv_iconst (v := 0) hx hb dX1_endPledge_6 (by decide) ?_
  refine g_put 5 (ty := .int) hx hb hts hown hC hI i_X1 tyX1_ok nmX1 (ok_rec hr hi) (e_rec hr hi g_us) rfl (by decide) qf_X1_37 rfl rfl rfl rfl rfl (Nat.le_of_ble_eq_true rfl) (p_rec hr hi (by decide)) g_hs dX1_endPledge_7 (fun H locs hI => ?_)
  refine lv_aload_n hx hb dX1_endPledge_10 rfl (lv_at hl 0 rfl) ?_
  refine lv_iconst (v := 0) hx hb dX1_endPledge_11 (by decide) ?_
  refine g_put 6 (ty := .int) hx hb hts hown hC hI i_X1 tyX1_ok nmX1 (ok_rec hr hi) (e_rec hr hi g_us) rfl (by decide) qf_X1_18 rfl rfl rfl rfl rfl (Nat.le_of_ble_eq_true rfl) (p_rec hr hi (by decide)) g_hs dX1_endPledge_12 (fun H locs hI => ?_)
  exact g_vr hQ hx hb hr0 hlk hC hI dX1_endPledge_15 rfl (by rfl)
abbrev rm_X1_free : Room := { frames := 1, cells := 0, slots := 0, locals := 24 }
set_option maxHeartbeats 4000000 in
set_option maxRecDepth 100000 in
theorem c_X1_free (l : Launch) (D : va_G) (tb : g_T) (ad : g_Ad) (hj : g_inj ad) (P : g_P) (M : g_M) (r : Nat) (hr : r < 6) (V : g_V) (i : Nat) (hi : i < 16) : g_Cv l yX1_free cX1_free 1 none rm_X1_free D tb ad [.ref (ad r (12 + i))] P (va_up M r V) P (va_up M r (q_free V i)) := by
  refine g_go (by decide) (Nat.le_of_ble_eq_true rfl) hj ?_
  intro p e s m below meth c ls H locs R args Q hR0 hQ hx hb hml hr0 hlk hown hts hC hI hl
  subst hR0
  have hown : s.vm.findClass RX1 = some m.cls := hown
  have hl : lv_has ls 1 [(0, .ref (ad r (12 + i)))] := hl
  refine lv_aload_n hx hb dX1_free_0 rfl (lv_at hl 0 rfl) ?_
  refine lv_iconst (v := (-1)) hx hb dX1_free_1 (by decide) ?_
  refine lv_iconst (v := 0) hx hb dX1_free_2 (by decide) ?_
  refine lv_iconst (v := 0) hx hb dX1_free_3 (by decide) ?_
  refine lv_iconst (v := 0) hx hb dX1_free_4 (by decide) ?_
  refine g_callVv (rest := []) (c_X1_use l D tb ad hj P M r hr V i hi (-1) 0 0 0) rfl rfl gm_X1_use hx hb hml hown hts hC hI (ok_rec hr hi) (e_rec hr hi g_us) rfl rfl qm_X1_30 rfl hl.1 rfl ⟨rfl, rfl, by decide, by decide⟩ (Nat.le_of_ble_eq_true rfl) ⟨Nat.zero_le _, Nat.zero_le _⟩ dX1_free_5 (fun H locs hI => ?_)
  refine lv_aload_n hx hb dX1_free_8 rfl (lv_at hl 0 rfl) ?_
  refine g_callVv (rest := []) (c_X1_endPledge l D tb ad hj P M r hr (q_use V i (-1) 0 0 0) i hi) rfl rfl gm_X1_endPledge hx hb hml hown hts hC hI (ok_rec hr hi) (e_rec hr hi g_us) rfl rfl qm_X1_34 rfl hl.1 rfl ⟨rfl, rfl, by decide, by decide⟩ (Nat.le_of_ble_eq_true rfl) ⟨Nat.zero_le _, Nat.zero_le _⟩ dX1_free_9 (fun H locs hI => ?_)
  exact g_vr hQ hx hb hr0 hlk hC hI dX1_free_12 rfl (by rfl)
end
section
/-! ===== what the methods of a state answer and leave, V its picture ===== -/
def q_okG (V : g_V) : Prop := ∀ i, i < 5 → ∃ g : Nat, g < 3 ∧ V (7 + i) 0 = nI g
def q_loss (V : g_V) (i g0 k : Nat) : Int32 := k_iter (fun j acc => k_min acc (q_surplus V (nI (g0 + j)))) (V (7 + i) 1) (k - g0)
def q_fillStep (g : Int32) (i : Nat) (q : g_V × Int32) : g_V × Int32 :=
  if q.1 (7 + i) 0 = g then (g_w2 q.1 (7 + i) 1 (q.1 (7 + i) 1 + k_min q.2 (2000 - q.1 (7 + i) 1)), q.2 - k_min q.2 (2000 - q.1 (7 + i) 1)) else q
def q_fill (V : g_V) (g a : Int32) : g_V := (k_iter (q_fillStep g) (V, a) 5).1
def q_takeStep (g : Int32) (i : Nat) (q : g_V × Int32) : g_V × Int32 :=
  if q.1 (7 + i) 0 = g then (g_w2 q.1 (7 + i) 1 (q.1 (7 + i) 1 - k_min q.2 (q.1 (7 + i) 1)), q.2 - k_min q.2 (q.1 (7 + i) 1)) else q
def q_take (V : g_V) (g a : Int32) : g_V × Int32 := k_iter (q_takeStep g) (V, a) 5
def q_next (V : g_V) : g_V := g_w2 V 0 7 (V 0 7 + 1)
def q_priceOf (V : g_V) (g : Int32) : Int32 := if k_in g 3 then V 3 g.toNatClampNeg else 0
def q_moneyOf (V : g_V) (o : Int32) : Int32 := if k_in o 8 then V 5 o.toNatClampNeg else 0
def q_addMoney (V : g_V) (o a : Int32) : g_V := if k_in o 8 then g_w2 V 5 o.toNatClampNeg (V 5 o.toNatClampNeg + a) else V
def q_splitN (V : g_V) (i j : Nat) : Int32 := ((V (12 + i) 5).toInt64 * (V (12 + j) 3).toInt64 / (V (12 + i) 3).toInt64).toInt32
def q_splitLoan (V : g_V) (i j : Nat) : g_V :=
  if V (12 + i) 3 ≤ 0 then V else if q_splitN V i j ≤ 0 then V else
    g_w2 (g_w2 (g_w2 V (12 + j) 4 (V (12 + i) 4)) (12 + j) 5 (q_splitN V i j)) (12 + i) 5 ((g_w2 (g_w2 V (12 + j) 4 (V (12 + i) 4)) (12 + j) 5 (q_splitN V i j)) (12 + i) 5 - q_splitN V i j)
def q_seize1 (V : g_V) (i : Nat) : g_V := g_w2 V 6 (V (12 + i) 4).toNatClampNeg (V 6 (V (12 + i) 4).toNatClampNeg + V (12 + i) 5)
def q_seize2 (V : g_V) (i : Nat) : g_V := g_w2 (q_seize1 V i) 0 8 ((q_seize1 V i) 0 8 + 1)
def q_seize (V : g_V) (i : Nat) : g_V := if k_in (V (12 + i) 4) 3 then q_endPledge (g_w2 (q_seize2 V i) (12 + i) 1 (5 + V (12 + i) 4)) i else V
def q_dec (V : g_V) (i : Nat) : g_V := g_w2 V (12 + i) 6 (V (12 + i) 6 - 1)
def q_dayStep (i : Nat) (V : g_V) : g_V := if q_called V i then (if q_tooHigh (q_dec V i) i then (if q_called (q_dec V i) i then q_dec V i else q_seize (q_dec V i) i) else g_w2 (q_dec V i) (12 + i) 6 0) else V
def q_passDay (V : g_V) : g_V := k_iter q_dayStep (g_w2 V 0 6 (V 0 6 + 1)) 16
def q_callStep (lender : Int32) (i : Nat) (q : g_V × Int32) : g_V × Int32 := if q_would q.1 i lender (q.1 3 2) then (g_w2 q.1 (12 + i) 6 (q.1 4 2), q.2 + 1) else q
def q_calls (V : g_V) (lender : Int32) : Int32 × g_V := if k_in lender 3 then ((k_iter (q_callStep lender) (V, 0) 16).2, (k_iter (q_callStep lender) (V, 0) 16).1) else (-2000000001, V)
theorem k_nI {x n : Int32} {N : Nat} (h : k_in x n) (hn : n.toInt = N) : ∃ j : Nat, j < N ∧ x = nI j := by
  have h1 := k_in_ti h
  rw [hn] at h1
  refine ⟨x.toInt.toNat, by omega, ?_⟩
  refine Int32.toInt_inj.mp ?_
  have hb := Int32.toInt_lt x
  rw [nI_toInt (by omega)]
  omega
end
section
abbrev rm_X3_grainOf : Room := { frames := 0, cells := 0, slots := 0, locals := 0 }
set_option maxHeartbeats 4000000 in
set_option maxRecDepth 100000 in
theorem c_X3_grainOf (l : Launch) (D : va_G) (tb : g_T) (ad : g_Ad) (hj : g_inj ad) (P : g_P) (M : g_M) (r : Nat) (hr : r < 6) (V : g_V) (a : Int32) (b : Int32) : g_Ci l yX3_grainOf cX3_grainOf 8 (some .int) rm_X3_grainOf D tb ad [.ref (ad r 0), .int a, .int b] P (va_up M r V) (q_grainOf V a b) P (va_up M r V) := by
  refine g_go (by decide) (Nat.le_of_ble_eq_true rfl) hj ?_
  intro p e s m below meth c ls H locs R args Q hR0 hQ hx hb hml hr0 hlk hown hts hC hI hl
  subst hR0
  have hown : s.vm.findClass RX3 = some m.cls := hown
  have hl : lv_has ls 8 [(0, .ref (ad r 0)), (1, .int a), (2, .int b)] := hl
  refine lv_iconst (v := 0) hx hb dX3_grainOf_0 (by decide) ?_
  refine lv_istore_n (lv' := [(3, .int 0), (0, .ref (ad r 0)), (1, .int a), (2, .int b)]) hx hb dX3_grainOf_1 rfl hl (by decide) rfl (fun ls hl => ?_)
  refine lv_aload_n hx hb dX3_grainOf_2 rfl (lv_at hl 1 rfl) ?_
  refine g_get 0 hx hb hts hown hC hI i_X3 (ok_c 0 hr (by decide)) (e_st hr g_us) rfl (by decide) qf_X3_11 rfl rfl dX3_grainOf_3 ?_
  refine lv_astore (lv' := [(4, .ref (ad r 1)), (3, .int 0), (0, .ref (ad r 0)), (1, .int a), (2, .int b)]) hx hb dX3_grainOf_6 hl (by decide) rfl (fun ls hl => ?_)
  refine lv_aload hx hb dX3_grainOf_8 (lv_at hl 0 rfl) ?_
  refine g_alen 2 (v := 5) hx hb hC hI (ok_c 1 hr (by decide)) (e_bins hr) rfl rfl dX3_grainOf_10 ?_
  refine lv_istore (lv' := [(5, .int 5), (4, .ref (ad r 1)), (3, .int 0), (0, .ref (ad r 0)), (1, .int a), (2, .int b)]) hx hb dX3_grainOf_11 hl (by decide) rfl (fun ls hl => ?_)
  refine lv_iconst (v := 0) hx hb dX3_grainOf_13 (by decide) ?_
  refine lv_istore (lv' := [(6, .int 0), (5, .int 5), (4, .ref (ad r 1)), (3, .int 0), (0, .ref (ad r 0)), (1, .int a), (2, .int b)]) hx hb dX3_grainOf_14 hl (by decide) rfl (fun ls hl => ?_)
  have lp16 : ∀ (d k : Nat) (x : Int32), k ≤ 5 → 5 < k + d → x = k_sum (q_grainF V a b) k → ∀ (H : Heap) (locs : List Loc) (ls : Array Slot), g_I D tb ad (g_A ad) s H locs P (va_up M r V) → lv_has ls 8 [(6, .int (nI k)), (5, .int 5), (4, .ref (ad r 1)), (3, .int x), (0, .ref (ad r 0)), (1, .int a), (2, .int b)] → W p l e rm_X3_grainOf s m args below meth c H locs 0 0 Q (F0 m 16 ls []) := by
    intro d
    induction d with
    | zero => intro k x hkp hfu; intros; omega
    | succ d ih =>
      intro k x hkp hfu e_x H locs ls hI hl
      refine lv_iload hx hb dX3_grainOf_16 (lv_at hl 0 rfl) ?_
      refine lv_iload hx hb dX3_grainOf_18 (lv_at hl 1 rfl) ?_
      refine lv_icmp_ge (tgt := 62) hx hb dX3_grainOf_20 (by decide) (fun c1 => ?_) (fun c1 => ?_)
      · have c1n : 5 ≤ k := (nI_leI (a := 5) (b := k) (by omega) (by omega)).mp c1
        refine lv_iload_n hx hb dX3_grainOf_62 rfl (lv_at hl 3 rfl) ?_
        exact g_ir hQ hx hb hr0 hlk hC hI dX3_grainOf_63 rfl (by rw [e_x, q_grainOf, show k = 5 from by omega]) rfl rfl
      · have c1n : ¬ 5 ≤ k := fun z => c1 ((nI_leI (a := 5) (b := k) (by omega) (by omega)).mpr z)
        refine lv_aload hx hb dX3_grainOf_23 (lv_at hl 2 rfl) ?_
        refine lv_iload hx hb dX3_grainOf_25 (lv_at hl 0 rfl) ?_
        refine g_aald 2 k hx hb hC hI (ok_c 1 hr (by decide)) (e_bins hr) rfl (vp_in_nI (by omega) (by decide)) (nI_clamp (by omega)) dX3_grainOf_27 ?_
        have hk2 : k < 5 := (by omega)
        refine lv_astore (lv' := [(7, .ref (ad r (7 + k))), (6, .int (nI k)), (5, .int 5), (4, .ref (ad r 1)), (3, .int x), (0, .ref (ad r 0)), (1, .int a), (2, .int b)]) hx hb dX3_grainOf_28 hl (by decide) rfl (fun ls hl => ?_)
        refine lv_aload hx hb dX3_grainOf_30 (lv_at hl 0 rfl) ?_
        refine g_get 0 hx hb hts hown hC hI i_X0 (ok_bin hr hk2) (e_bin hr hk2 g_us) rfl (by decide) qf_X3_37 rfl rfl dX3_grainOf_32 ?_
        refine lv_iload_n hx hb dX3_grainOf_35 rfl (lv_at hl 6 rfl) ?_
        refine lv_icmp_lt (tgt := 56) hx hb dX3_grainOf_36 (by decide) (fun c3 => ?_) (fun c3 => ?_)
        · refine lv_iinc (v := nI (k + 1)) (lv' := [(6, .int (nI (k + 1))), (7, .ref (ad r (7 + k))), (5, .int 5), (4, .ref (ad r 1)), (3, .int x), (0, .ref (ad r 0)), (1, .int a), (2, .int b)]) hx hb dX3_grainOf_56 hl (k := 1) rfl (nI_1 _) (by decide) rfl (fun ls hl => ?_)
          refine lv_goto (tgt := 16) hx hb dX3_grainOf_59 (by decide) ?_
          exact ih (k + 1) _ (by omega) (by omega) (by simp [k_sum, q_grainF, e_x, c1, c3])  _ _ _ hI (lv_sub hl [0, 2, 3, 4, 5, 6, 7] rfl)
        · refine lv_aload hx hb dX3_grainOf_39 (lv_at hl 0 rfl) ?_
          refine g_get 0 hx hb hts hown hC hI i_X0 (ok_bin hr hk2) (e_bin hr hk2 g_us) rfl (by decide) qf_X3_37 rfl rfl dX3_grainOf_41 ?_
          refine lv_iload_n hx hb dX3_grainOf_44 rfl (lv_at hl 7 rfl) ?_
          refine lv_icmp_gt (tgt := 56) hx hb dX3_grainOf_45 (by decide) (fun c4 => ?_) (fun c4 => ?_)
          · refine lv_iinc (v := nI (k + 1)) (lv' := [(6, .int (nI (k + 1))), (7, .ref (ad r (7 + k))), (5, .int 5), (4, .ref (ad r 1)), (3, .int x), (0, .ref (ad r 0)), (1, .int a), (2, .int b)]) hx hb dX3_grainOf_56 hl (k := 1) rfl (nI_1 _) (by decide) rfl (fun ls hl => ?_)
            refine lv_goto (tgt := 16) hx hb dX3_grainOf_59 (by decide) ?_
            exact ih (k + 1) _ (by omega) (by omega) (by simp [k_sum, q_grainF, e_x, c1, c3, c4])  _ _ _ hI (lv_sub hl [0, 2, 3, 4, 5, 6, 7] rfl)
          · refine lv_iload_n hx hb dX3_grainOf_48 rfl (lv_at hl 4 rfl) ?_
            refine lv_aload hx hb dX3_grainOf_49 (lv_at hl 0 rfl) ?_
            refine g_get 1 hx hb hts hown hC hI i_X0 (ok_bin hr hk2) (e_bin hr hk2 g_us) rfl (by decide) qf_X3_172 rfl rfl dX3_grainOf_51 ?_
            refine lv_iadd hx hb dX3_grainOf_54 ?_
            refine lv_istore_n (lv' := [(3, .int (x + (V (7 + k) 1))), (7, .ref (ad r (7 + k))), (6, .int (nI k)), (5, .int 5), (4, .ref (ad r 1)), (0, .ref (ad r 0)), (1, .int a), (2, .int b)]) hx hb dX3_grainOf_55 rfl hl (by decide) rfl (fun ls hl => ?_)
            refine lv_iinc (v := nI (k + 1)) (lv' := [(6, .int (nI (k + 1))), (3, .int (x + (V (7 + k) 1))), (7, .ref (ad r (7 + k))), (5, .int 5), (4, .ref (ad r 1)), (0, .ref (ad r 0)), (1, .int a), (2, .int b)]) hx hb dX3_grainOf_56 hl (k := 2) rfl (nI_1 _) (by decide) rfl (fun ls hl => ?_)
            refine lv_goto (tgt := 16) hx hb dX3_grainOf_59 (by decide) ?_
            exact ih (k + 1) _ (by omega) (by omega) (by simp [k_sum, q_grainF, e_x, c1, c3, c4])  _ _ _ hI (lv_sub hl [0, 3, 4, 1, 5, 6, 7] rfl)
  exact lp16 (5 + 1) 0 _ (by omega) (by omega) rfl  _ _ _ hI (lv_sub hl [0, 1, 2, 3, 4, 5, 6] rfl)
abbrev rm_X3_roomIn : Room := { frames := 0, cells := 0, slots := 0, locals := 0 }
set_option maxHeartbeats 4000000 in
set_option maxRecDepth 100000 in
theorem c_X3_roomIn (l : Launch) (D : va_G) (tb : g_T) (ad : g_Ad) (hj : g_inj ad) (P : g_P) (M : g_M) (r : Nat) (hr : r < 6) (V : g_V) (a : Int32) : g_Ci l yX3_roomIn cX3_roomIn 7 (some .int) rm_X3_roomIn D tb ad [.ref (ad r 0), .int a] P (va_up M r V) (q_roomIn V a) P (va_up M r V) := by
  refine g_go (by decide) (Nat.le_of_ble_eq_true rfl) hj ?_
  intro p e s m below meth c ls H locs R args Q hR0 hQ hx hb hml hr0 hlk hown hts hC hI hl
  subst hR0
  have hown : s.vm.findClass RX3 = some m.cls := hown
  have hl : lv_has ls 7 [(0, .ref (ad r 0)), (1, .int a)] := hl
  refine lv_iconst (v := 0) hx hb dX3_roomIn_0 (by decide) ?_
  refine lv_istore_n (lv' := [(2, .int 0), (0, .ref (ad r 0)), (1, .int a)]) hx hb dX3_roomIn_1 rfl hl (by decide) rfl (fun ls hl => ?_)
  refine lv_aload_n hx hb dX3_roomIn_2 rfl (lv_at hl 1 rfl) ?_
  refine g_get 0 hx hb hts hown hC hI i_X3 (ok_c 0 hr (by decide)) (e_st hr g_us) rfl (by decide) qf_X3_11 rfl rfl dX3_roomIn_3 ?_
  refine lv_astore_n (lv' := [(3, .ref (ad r 1)), (2, .int 0), (0, .ref (ad r 0)), (1, .int a)]) hx hb dX3_roomIn_6 rfl hl (by decide) rfl (fun ls hl => ?_)
  refine lv_aload_n hx hb dX3_roomIn_7 rfl (lv_at hl 0 rfl) ?_
  refine g_alen 2 (v := 5) hx hb hC hI (ok_c 1 hr (by decide)) (e_bins hr) rfl rfl dX3_roomIn_8 ?_
  refine lv_istore (lv' := [(4, .int 5), (3, .ref (ad r 1)), (2, .int 0), (0, .ref (ad r 0)), (1, .int a)]) hx hb dX3_roomIn_9 hl (by decide) rfl (fun ls hl => ?_)
  refine lv_iconst (v := 0) hx hb dX3_roomIn_11 (by decide) ?_
  refine lv_istore (lv' := [(5, .int 0), (4, .int 5), (3, .ref (ad r 1)), (2, .int 0), (0, .ref (ad r 0)), (1, .int a)]) hx hb dX3_roomIn_12 hl (by decide) rfl (fun ls hl => ?_)
  have lp14 : ∀ (d k : Nat) (x : Int32), k ≤ 5 → 5 < k + d → x = k_sum (q_roomF V a) k → ∀ (H : Heap) (locs : List Loc) (ls : Array Slot), g_I D tb ad (g_A ad) s H locs P (va_up M r V) → lv_has ls 7 [(5, .int (nI k)), (4, .int 5), (3, .ref (ad r 1)), (2, .int x), (0, .ref (ad r 0)), (1, .int a)] → W p l e rm_X3_roomIn s m args below meth c H locs 0 0 Q (F0 m 14 ls []) := by
    intro d
    induction d with
    | zero => intro k x hkp hfu; intros; omega
    | succ d ih =>
      intro k x hkp hfu e_x H locs ls hI hl
      refine lv_iload hx hb dX3_roomIn_14 (lv_at hl 0 rfl) ?_
      refine lv_iload hx hb dX3_roomIn_16 (lv_at hl 1 rfl) ?_
      refine lv_icmp_ge (tgt := 54) hx hb dX3_roomIn_18 (by decide) (fun c1 => ?_) (fun c1 => ?_)
      · have c1n : 5 ≤ k := (nI_leI (a := 5) (b := k) (by omega) (by omega)).mp c1
        refine lv_iload_n hx hb dX3_roomIn_54 rfl (lv_at hl 3 rfl) ?_
        exact g_ir hQ hx hb hr0 hlk hC hI dX3_roomIn_55 rfl (by rw [e_x, q_roomIn, show k = 5 from by omega]) rfl rfl
      · have c1n : ¬ 5 ≤ k := fun z => c1 ((nI_leI (a := 5) (b := k) (by omega) (by omega)).mpr z)
        refine lv_aload_n hx hb dX3_roomIn_21 rfl (lv_at hl 2 rfl) ?_
        refine lv_iload hx hb dX3_roomIn_22 (lv_at hl 0 rfl) ?_
        refine g_aald 2 k hx hb hC hI (ok_c 1 hr (by decide)) (e_bins hr) rfl (vp_in_nI (by omega) (by decide)) (nI_clamp (by omega)) dX3_roomIn_24 ?_
        have hk2 : k < 5 := (by omega)
        refine lv_astore (lv' := [(6, .ref (ad r (7 + k))), (5, .int (nI k)), (4, .int 5), (3, .ref (ad r 1)), (2, .int x), (0, .ref (ad r 0)), (1, .int a)]) hx hb dX3_roomIn_25 hl (by decide) rfl (fun ls hl => ?_)
        refine lv_aload hx hb dX3_roomIn_27 (lv_at hl 0 rfl) ?_
        refine g_get 0 hx hb hts hown hC hI i_X0 (ok_bin hr hk2) (e_bin hr hk2 g_us) rfl (by decide) qf_X3_37 rfl rfl dX3_roomIn_29 ?_
        refine lv_iload_n hx hb dX3_roomIn_32 rfl (lv_at hl 6 rfl) ?_
        refine lv_icmp_ne (tgt := 48) hx hb dX3_roomIn_33 (by decide) (fun c3 => ?_) (fun c3 => ?_)
        · refine lv_iinc (v := nI (k + 1)) (lv' := [(5, .int (nI (k + 1))), (6, .ref (ad r (7 + k))), (4, .int 5), (3, .ref (ad r 1)), (2, .int x), (0, .ref (ad r 0)), (1, .int a)]) hx hb dX3_roomIn_48 hl (k := 1) rfl (nI_1 _) (by decide) rfl (fun ls hl => ?_)
          refine lv_goto (tgt := 14) hx hb dX3_roomIn_51 (by decide) ?_
          exact ih (k + 1) _ (by omega) (by omega) (by simp [k_sum, q_roomF, e_x, c1, c3])  _ _ _ hI (lv_sub hl [0, 2, 3, 4, 5, 6] rfl)
        · refine lv_iload_n hx hb dX3_roomIn_36 rfl (lv_at hl 4 rfl) ?_
          refine lv_sipush (v := 2000) hx hb dX3_roomIn_37 (by decide) ?_
          refine lv_aload hx hb dX3_roomIn_40 (lv_at hl 0 rfl) ?_
          refine g_get 1 hx hb hts hown hC hI i_X0 (ok_bin hr hk2) (e_bin hr hk2 g_us) rfl (by decide) qf_X3_172 rfl rfl dX3_roomIn_42 ?_
          refine lv_isub hx hb dX3_roomIn_45 ?_
          refine lv_iadd hx hb dX3_roomIn_46 ?_
          refine lv_istore_n (lv' := [(2, .int (x + (2000 - (V (7 + k) 1)))), (6, .ref (ad r (7 + k))), (5, .int (nI k)), (4, .int 5), (3, .ref (ad r 1)), (0, .ref (ad r 0)), (1, .int a)]) hx hb dX3_roomIn_47 rfl hl (by decide) rfl (fun ls hl => ?_)
          refine lv_iinc (v := nI (k + 1)) (lv' := [(5, .int (nI (k + 1))), (2, .int (x + (2000 - (V (7 + k) 1)))), (6, .ref (ad r (7 + k))), (4, .int 5), (3, .ref (ad r 1)), (0, .ref (ad r 0)), (1, .int a)]) hx hb dX3_roomIn_48 hl (k := 2) rfl (nI_1 _) (by decide) rfl (fun ls hl => ?_)
          refine lv_goto (tgt := 14) hx hb dX3_roomIn_51 (by decide) ?_
          exact ih (k + 1) _ (by omega) (by omega) (by simp [k_sum, q_roomF, e_x, c1, c3])  _ _ _ hI (lv_sub hl [0, 3, 4, 1, 5, 6] rfl)
  exact lp14 (5 + 1) 0 _ (by omega) (by omega) rfl  _ _ _ hI (lv_sub hl [0, 1, 2, 3, 4, 5] rfl)
abbrev rm_X3_receiptsOf : Room := { frames := 1, cells := 0, slots := 0, locals := 20 }
set_option maxHeartbeats 4000000 in
set_option maxRecDepth 100000 in
theorem c_X3_receiptsOf (l : Launch) (D : va_G) (tb : g_T) (ad : g_Ad) (hj : g_inj ad) (P : g_P) (M : g_M) (r : Nat) (hr : r < 6) (V : g_V) (a : Int32) (b : Int32) : g_Ci l yX3_receiptsOf cX3_receiptsOf 8 (some .int) rm_X3_receiptsOf D tb ad [.ref (ad r 0), .int a, .int b] P (va_up M r V) (q_receiptsOf V a b) P (va_up M r V) := by
  refine g_go (by decide) (Nat.le_of_ble_eq_true rfl) hj ?_
  intro p e s m below meth c ls H locs R args Q hR0 hQ hx hb hml hr0 hlk hown hts hC hI hl
  subst hR0
  have hown : s.vm.findClass RX3 = some m.cls := hown
  have hl : lv_has ls 8 [(0, .ref (ad r 0)), (1, .int a), (2, .int b)] := hl
  refine lv_iconst (v := 0) hx hb dX3_receiptsOf_0 (by decide) ?_
  refine lv_istore_n (lv' := [(3, .int 0), (0, .ref (ad r 0)), (1, .int a), (2, .int b)]) hx hb dX3_receiptsOf_1 rfl hl (by decide) rfl (fun ls hl => ?_)
  refine lv_aload_n hx hb dX3_receiptsOf_2 rfl (lv_at hl 1 rfl) ?_
  refine g_get 1 hx hb hts hown hC hI i_X3 (ok_c 0 hr (by decide)) (e_st hr g_us) rfl (by decide) qf_X3_19 rfl rfl dX3_receiptsOf_3 ?_
  refine lv_astore (lv' := [(4, .ref (ad r 2)), (3, .int 0), (0, .ref (ad r 0)), (1, .int a), (2, .int b)]) hx hb dX3_receiptsOf_6 hl (by decide) rfl (fun ls hl => ?_)
  refine lv_aload hx hb dX3_receiptsOf_8 (lv_at hl 0 rfl) ?_
  refine g_alen 3 (v := 16) hx hb hC hI (ok_c 2 hr (by decide)) (e_recs hr) rfl rfl dX3_receiptsOf_10 ?_
  refine lv_istore (lv' := [(5, .int 16), (4, .ref (ad r 2)), (3, .int 0), (0, .ref (ad r 0)), (1, .int a), (2, .int b)]) hx hb dX3_receiptsOf_11 hl (by decide) rfl (fun ls hl => ?_)
  refine lv_iconst (v := 0) hx hb dX3_receiptsOf_13 (by decide) ?_
  refine lv_istore (lv' := [(6, .int 0), (5, .int 16), (4, .ref (ad r 2)), (3, .int 0), (0, .ref (ad r 0)), (1, .int a), (2, .int b)]) hx hb dX3_receiptsOf_14 hl (by decide) rfl (fun ls hl => ?_)
  have lp16 : ∀ (d k : Nat) (x : Int32), k ≤ 16 → 16 < k + d → x = k_sum (q_recF V a b) k → ∀ (H : Heap) (locs : List Loc) (ls : Array Slot), g_I D tb ad (g_A ad) s H locs P (va_up M r V) → lv_has ls 8 [(6, .int (nI k)), (5, .int 16), (4, .ref (ad r 2)), (3, .int x), (0, .ref (ad r 0)), (1, .int a), (2, .int b)] → W p l e rm_X3_receiptsOf s m args below meth c H locs 0 0 Q (F0 m 16 ls []) := by
    intro d
    induction d with
    | zero => intro k x hkp hfu; intros; omega
    | succ d ih =>
      intro k x hkp hfu e_x H locs ls hI hl
      refine lv_iload hx hb dX3_receiptsOf_16 (lv_at hl 0 rfl) ?_
      refine lv_iload hx hb dX3_receiptsOf_18 (lv_at hl 1 rfl) ?_
      refine lv_icmp_ge (tgt := 70) hx hb dX3_receiptsOf_20 (by decide) (fun c1 => ?_) (fun c1 => ?_)
      · have c1n : 16 ≤ k := (nI_leI (a := 16) (b := k) (by omega) (by omega)).mp c1
        refine lv_iload_n hx hb dX3_receiptsOf_70 rfl (lv_at hl 3 rfl) ?_
        exact g_ir hQ hx hb hr0 hlk hC hI dX3_receiptsOf_71 rfl (by rw [e_x, q_receiptsOf, show k = 16 from by omega]) rfl rfl
      · have c1n : ¬ 16 ≤ k := fun z => c1 ((nI_leI (a := 16) (b := k) (by omega) (by omega)).mpr z)
        refine lv_aload hx hb dX3_receiptsOf_23 (lv_at hl 2 rfl) ?_
        refine lv_iload hx hb dX3_receiptsOf_25 (lv_at hl 0 rfl) ?_
        refine g_aald 3 k hx hb hC hI (ok_c 2 hr (by decide)) (e_recs hr) rfl (vp_in_nI (by omega) (by decide)) (nI_clamp (by omega)) dX3_receiptsOf_27 ?_
        have hk2 : k < 16 := (by omega)
        refine lv_astore (lv' := [(7, .ref (ad r (12 + k))), (6, .int (nI k)), (5, .int 16), (4, .ref (ad r 2)), (3, .int x), (0, .ref (ad r 0)), (1, .int a), (2, .int b)]) hx hb dX3_receiptsOf_28 hl (by decide) rfl (fun ls hl => ?_)
        refine lv_aload hx hb dX3_receiptsOf_30 (lv_at hl 0 rfl) ?_
        refine g_callVi (rest := []) (c_X1_isUsed l D tb ad hj P M r hr V k hk2) rfl rfl gm_X1_isUsed hx hb hml hown hts hC hI (ok_rec hr hk2) (e_rec hr hk2 g_us) rfl rfl qm_X3_203 rfl hl.1 rfl ⟨rfl, rfl, by decide, by decide⟩ (Nat.le_of_ble_eq_true rfl) ⟨Nat.zero_le _, Nat.zero_le _⟩ dX3_receiptsOf_32 (fun H locs hI => ?_)
        refine g_tf (fun c3 => ?_) (fun c3 => ?_)
        · refine lv_if_eq (tgt := 64) hx hb dX3_receiptsOf_35 (by decide) (fun c4 => absurd c4 (by decide)) (fun _ => ?_)
          refine lv_aload hx hb dX3_receiptsOf_38 (lv_at hl 0 rfl) ?_
          refine g_get 2 hx hb hts hown hC hI i_X1 (ok_rec hr hk2) (e_rec hr hk2 g_us) rfl (by decide) qf_X3_110 rfl rfl dX3_receiptsOf_40 ?_
          refine lv_iload_n hx hb dX3_receiptsOf_43 rfl (lv_at hl 6 rfl) ?_
          refine lv_icmp_lt (tgt := 64) hx hb dX3_receiptsOf_44 (by decide) (fun c5 => ?_) (fun c5 => ?_)
          · refine lv_iinc (v := nI (k + 1)) (lv' := [(6, .int (nI (k + 1))), (7, .ref (ad r (12 + k))), (5, .int 16), (4, .ref (ad r 2)), (3, .int x), (0, .ref (ad r 0)), (1, .int a), (2, .int b)]) hx hb dX3_receiptsOf_64 hl (k := 1) rfl (nI_1 _) (by decide) rfl (fun ls hl => ?_)
            refine lv_goto (tgt := 16) hx hb dX3_receiptsOf_67 (by decide) ?_
            exact ih (k + 1) _ (by omega) (by omega) (by simp [k_sum, q_recF, e_x, c1, c3, c5])  _ _ _ hI (lv_sub hl [0, 2, 3, 4, 5, 6, 7] rfl)
          · refine lv_aload hx hb dX3_receiptsOf_47 (lv_at hl 0 rfl) ?_
            refine g_get 2 hx hb hts hown hC hI i_X1 (ok_rec hr hk2) (e_rec hr hk2 g_us) rfl (by decide) qf_X3_110 rfl rfl dX3_receiptsOf_49 ?_
            refine lv_iload_n hx hb dX3_receiptsOf_52 rfl (lv_at hl 7 rfl) ?_
            refine lv_icmp_gt (tgt := 64) hx hb dX3_receiptsOf_53 (by decide) (fun c6 => ?_) (fun c6 => ?_)
            · refine lv_iinc (v := nI (k + 1)) (lv' := [(6, .int (nI (k + 1))), (7, .ref (ad r (12 + k))), (5, .int 16), (4, .ref (ad r 2)), (3, .int x), (0, .ref (ad r 0)), (1, .int a), (2, .int b)]) hx hb dX3_receiptsOf_64 hl (k := 1) rfl (nI_1 _) (by decide) rfl (fun ls hl => ?_)
              refine lv_goto (tgt := 16) hx hb dX3_receiptsOf_67 (by decide) ?_
              exact ih (k + 1) _ (by omega) (by omega) (by simp [k_sum, q_recF, e_x, c1, c3, c5, c6])  _ _ _ hI (lv_sub hl [0, 2, 3, 4, 5, 6, 7] rfl)
            · refine lv_iload_n hx hb dX3_receiptsOf_56 rfl (lv_at hl 4 rfl) ?_
              refine lv_aload hx hb dX3_receiptsOf_57 (lv_at hl 0 rfl) ?_
              refine g_get 3 hx hb hts hown hC hI i_X1 (ok_rec hr hk2) (e_rec hr hk2 g_us) rfl (by decide) qf_X3_103 rfl rfl dX3_receiptsOf_59 ?_
              refine lv_iadd hx hb dX3_receiptsOf_62 ?_
              refine lv_istore_n (lv' := [(3, .int (x + (V (12 + k) 3))), (7, .ref (ad r (12 + k))), (6, .int (nI k)), (5, .int 16), (4, .ref (ad r 2)), (0, .ref (ad r 0)), (1, .int a), (2, .int b)]) hx hb dX3_receiptsOf_63 rfl hl (by decide) rfl (fun ls hl => ?_)
              refine lv_iinc (v := nI (k + 1)) (lv' := [(6, .int (nI (k + 1))), (3, .int (x + (V (12 + k) 3))), (7, .ref (ad r (12 + k))), (5, .int 16), (4, .ref (ad r 2)), (0, .ref (ad r 0)), (1, .int a), (2, .int b)]) hx hb dX3_receiptsOf_64 hl (k := 2) rfl (nI_1 _) (by decide) rfl (fun ls hl => ?_)
              refine lv_goto (tgt := 16) hx hb dX3_receiptsOf_67 (by decide) ?_
              exact ih (k + 1) _ (by omega) (by omega) (by simp [k_sum, q_recF, e_x, c1, c3, c5, c6])  _ _ _ hI (lv_sub hl [0, 3, 4, 1, 5, 6, 7] rfl)
        · refine lv_if_eq (tgt := 64) hx hb dX3_receiptsOf_35 (by decide) (fun _ => ?_) (fun c7 => absurd c7 (by decide))
          refine lv_iinc (v := nI (k + 1)) (lv' := [(6, .int (nI (k + 1))), (7, .ref (ad r (12 + k))), (5, .int 16), (4, .ref (ad r 2)), (3, .int x), (0, .ref (ad r 0)), (1, .int a), (2, .int b)]) hx hb dX3_receiptsOf_64 hl (k := 1) rfl (nI_1 _) (by decide) rfl (fun ls hl => ?_)
          refine lv_goto (tgt := 16) hx hb dX3_receiptsOf_67 (by decide) ?_
          exact ih (k + 1) _ (by omega) (by omega) (by simp [k_sum, q_recF, e_x, c1, c3])  _ _ _ hI (lv_sub hl [0, 2, 3, 4, 5, 6, 7] rfl)
  exact lp16 (16 + 1) 0 _ (by omega) (by omega) rfl  _ _ _ hI (lv_sub hl [0, 1, 2, 3, 4, 5, 6] rfl)
abbrev rm_X3_receiptsBelow : Room := { frames := 1, cells := 0, slots := 0, locals := 20 }
set_option maxHeartbeats 4000000 in
set_option maxRecDepth 100000 in
theorem c_X3_receiptsBelow (l : Launch) (D : va_G) (tb : g_T) (ad : g_Ad) (hj : g_inj ad) (P : g_P) (M : g_M) (r : Nat) (hr : r < 6) (V : g_V) (n : Int32) : g_Ci l yX3_receiptsBelow cX3_receiptsBelow 7 (some .int) rm_X3_receiptsBelow D tb ad [.ref (ad r 0), .int n] P (va_up M r V) (q_below V n) P (va_up M r V) := by
  refine g_go (by decide) (Nat.le_of_ble_eq_true rfl) hj ?_
  intro p e s m below meth c ls H locs R args Q hR0 hQ hx hb hml hr0 hlk hown hts hC hI hl
  subst hR0
  have hown : s.vm.findClass RX3 = some m.cls := hown
  have hl : lv_has ls 7 [(0, .ref (ad r 0)), (1, .int n)] := hl
  refine lv_iconst (v := 0) hx hb dX3_receiptsBelow_0 (by decide) ?_
  refine lv_istore_n (lv' := [(2, .int 0), (0, .ref (ad r 0)), (1, .int n)]) hx hb dX3_receiptsBelow_1 rfl hl (by decide) rfl (fun ls hl => ?_)
  refine lv_aload_n hx hb dX3_receiptsBelow_2 rfl (lv_at hl 1 rfl) ?_
  refine g_get 1 hx hb hts hown hC hI i_X3 (ok_c 0 hr (by decide)) (e_st hr g_us) rfl (by decide) qf_X3_19 rfl rfl dX3_receiptsBelow_3 ?_
  refine lv_astore_n (lv' := [(3, .ref (ad r 2)), (2, .int 0), (0, .ref (ad r 0)), (1, .int n)]) hx hb dX3_receiptsBelow_6 rfl hl (by decide) rfl (fun ls hl => ?_)
  refine lv_aload_n hx hb dX3_receiptsBelow_7 rfl (lv_at hl 0 rfl) ?_
  refine g_alen 3 (v := 16) hx hb hC hI (ok_c 2 hr (by decide)) (e_recs hr) rfl rfl dX3_receiptsBelow_8 ?_
  refine lv_istore (lv' := [(4, .int 16), (3, .ref (ad r 2)), (2, .int 0), (0, .ref (ad r 0)), (1, .int n)]) hx hb dX3_receiptsBelow_9 hl (by decide) rfl (fun ls hl => ?_)
  refine lv_iconst (v := 0) hx hb dX3_receiptsBelow_11 (by decide) ?_
  refine lv_istore (lv' := [(5, .int 0), (4, .int 16), (3, .ref (ad r 2)), (2, .int 0), (0, .ref (ad r 0)), (1, .int n)]) hx hb dX3_receiptsBelow_12 hl (by decide) rfl (fun ls hl => ?_)
  have lp14 : ∀ (d k : Nat) (x : Int32), k ≤ 16 → 16 < k + d → x = k_sum (q_belowF V n) k → ∀ (H : Heap) (locs : List Loc) (ls : Array Slot), g_I D tb ad (g_A ad) s H locs P (va_up M r V) → lv_has ls 7 [(5, .int (nI k)), (4, .int 16), (3, .ref (ad r 2)), (2, .int x), (0, .ref (ad r 0)), (1, .int n)] → W p l e rm_X3_receiptsBelow s m args below meth c H locs 0 0 Q (F0 m 14 ls []) := by
    intro d
    induction d with
    | zero => intro k x hkp hfu; intros; omega
    | succ d ih =>
      intro k x hkp hfu e_x H locs ls hI hl
      refine lv_iload hx hb dX3_receiptsBelow_14 (lv_at hl 0 rfl) ?_
      refine lv_iload hx hb dX3_receiptsBelow_16 (lv_at hl 1 rfl) ?_
      refine lv_icmp_ge (tgt := 53) hx hb dX3_receiptsBelow_18 (by decide) (fun c1 => ?_) (fun c1 => ?_)
      · have c1n : 16 ≤ k := (nI_leI (a := 16) (b := k) (by omega) (by omega)).mp c1
        refine lv_iload_n hx hb dX3_receiptsBelow_53 rfl (lv_at hl 3 rfl) ?_
        exact g_ir hQ hx hb hr0 hlk hC hI dX3_receiptsBelow_54 rfl (by rw [e_x, q_below, show k = 16 from by omega]) rfl rfl
      · have c1n : ¬ 16 ≤ k := fun z => c1 ((nI_leI (a := 16) (b := k) (by omega) (by omega)).mpr z)
        refine lv_aload_n hx hb dX3_receiptsBelow_21 rfl (lv_at hl 2 rfl) ?_
        refine lv_iload hx hb dX3_receiptsBelow_22 (lv_at hl 0 rfl) ?_
        refine g_aald 3 k hx hb hC hI (ok_c 2 hr (by decide)) (e_recs hr) rfl (vp_in_nI (by omega) (by decide)) (nI_clamp (by omega)) dX3_receiptsBelow_24 ?_
        have hk2 : k < 16 := (by omega)
        refine lv_astore (lv' := [(6, .ref (ad r (12 + k))), (5, .int (nI k)), (4, .int 16), (3, .ref (ad r 2)), (2, .int x), (0, .ref (ad r 0)), (1, .int n)]) hx hb dX3_receiptsBelow_25 hl (by decide) rfl (fun ls hl => ?_)
        refine lv_aload hx hb dX3_receiptsBelow_27 (lv_at hl 0 rfl) ?_
        refine g_callVi (rest := []) (c_X1_isUsed l D tb ad hj P M r hr V k hk2) rfl rfl gm_X1_isUsed hx hb hml hown hts hC hI (ok_rec hr hk2) (e_rec hr hk2 g_us) rfl rfl qm_X3_203 rfl hl.1 rfl ⟨rfl, rfl, by decide, by decide⟩ (Nat.le_of_ble_eq_true rfl) ⟨Nat.zero_le _, Nat.zero_le _⟩ dX3_receiptsBelow_29 (fun H locs hI => ?_)
        refine g_tf (fun c3 => ?_) (fun c3 => ?_)
        · refine lv_if_eq (tgt := 47) hx hb dX3_receiptsBelow_32 (by decide) (fun c4 => absurd c4 (by decide)) (fun _ => ?_)
          refine lv_aload hx hb dX3_receiptsBelow_35 (lv_at hl 0 rfl) ?_
          refine g_get 0 hx hb hts hown hC hI i_X1 (ok_rec hr hk2) (e_rec hr hk2 g_us) rfl (by decide) qf_X3_96 rfl rfl dX3_receiptsBelow_37 ?_
          refine lv_iload_n hx hb dX3_receiptsBelow_40 rfl (lv_at hl 6 rfl) ?_
          refine lv_icmp_ge (tgt := 47) hx hb dX3_receiptsBelow_41 (by decide) (fun c5 => ?_) (fun c5 => ?_)
          · refine lv_iinc (v := nI (k + 1)) (lv' := [(5, .int (nI (k + 1))), (6, .ref (ad r (12 + k))), (4, .int 16), (3, .ref (ad r 2)), (2, .int x), (0, .ref (ad r 0)), (1, .int n)]) hx hb dX3_receiptsBelow_47 hl (k := 1) rfl (nI_1 _) (by decide) rfl (fun ls hl => ?_)
            refine lv_goto (tgt := 14) hx hb dX3_receiptsBelow_50 (by decide) ?_
            exact ih (k + 1) _ (by omega) (by omega) (by simp [k_sum, q_belowF, e_x, c1, c3, c5])  _ _ _ hI (lv_sub hl [0, 2, 3, 4, 5, 6] rfl)
          · refine lv_iinc (v := (x + 1)) (lv' := [(2, .int (x + 1)), (6, .ref (ad r (12 + k))), (5, .int (nI k)), (4, .int 16), (3, .ref (ad r 2)), (0, .ref (ad r 0)), (1, .int n)]) hx hb dX3_receiptsBelow_44 hl (k := 4) rfl rfl (by decide) rfl (fun ls hl => ?_)
            refine lv_iinc (v := nI (k + 1)) (lv' := [(5, .int (nI (k + 1))), (2, .int (x + 1)), (6, .ref (ad r (12 + k))), (4, .int 16), (3, .ref (ad r 2)), (0, .ref (ad r 0)), (1, .int n)]) hx hb dX3_receiptsBelow_47 hl (k := 2) rfl (nI_1 _) (by decide) rfl (fun ls hl => ?_)
            refine lv_goto (tgt := 14) hx hb dX3_receiptsBelow_50 (by decide) ?_
            exact ih (k + 1) _ (by omega) (by omega) (by simp [k_sum, q_belowF, e_x, c1, c3, c5])  _ _ _ hI (lv_sub hl [0, 3, 4, 1, 5, 6] rfl)
        · refine lv_if_eq (tgt := 47) hx hb dX3_receiptsBelow_32 (by decide) (fun _ => ?_) (fun c6 => absurd c6 (by decide))
          refine lv_iinc (v := nI (k + 1)) (lv' := [(5, .int (nI (k + 1))), (6, .ref (ad r (12 + k))), (4, .int 16), (3, .ref (ad r 2)), (2, .int x), (0, .ref (ad r 0)), (1, .int n)]) hx hb dX3_receiptsBelow_47 hl (k := 1) rfl (nI_1 _) (by decide) rfl (fun ls hl => ?_)
          refine lv_goto (tgt := 14) hx hb dX3_receiptsBelow_50 (by decide) ?_
          exact ih (k + 1) _ (by omega) (by omega) (by simp [k_sum, q_belowF, e_x, c1, c3])  _ _ _ hI (lv_sub hl [0, 2, 3, 4, 5, 6] rfl)
  exact lp14 (16 + 1) 0 _ (by omega) (by omega) rfl  _ _ _ hI (lv_sub hl [0, 1, 2, 3, 4, 5] rfl)
abbrev rm_X3_surplus : Room := { frames := 2, cells := 0, slots := 0, locals := 47 }
set_option maxHeartbeats 4000000 in
set_option maxRecDepth 100000 in
theorem c_X3_surplus (l : Launch) (D : va_G) (tb : g_T) (ad : g_Ad) (hj : g_inj ad) (P : g_P) (M : g_M) (r : Nat) (hr : r < 6) (V : g_V) (g : Int32) : g_Ci l yX3_surplus cX3_surplus 2 (some .int) rm_X3_surplus D tb ad [.ref (ad r 0), .int g] P (va_up M r V) (q_surplus V g) P (va_up M r V) := by
  refine g_go (by decide) (Nat.le_of_ble_eq_true rfl) hj ?_
  intro p e s m below meth c ls H locs R args Q hR0 hQ hx hb hml hr0 hlk hown hts hC hI hl
  subst hR0
  have hown : s.vm.findClass RX3 = some m.cls := hown
  have hl : lv_has ls 2 [(0, .ref (ad r 0)), (1, .int g)] := hl
  refine lv_aload_n hx hb dX3_surplus_0 rfl (lv_at hl 0 rfl) ?_
  refine lv_iconst (v := 0) hx hb dX3_surplus_1 (by decide) ?_
  refine lv_iload_n hx hb dX3_surplus_2 rfl (lv_at hl 1 rfl) ?_
  refine g_callVi (rest := []) (c_X3_grainOf l D tb ad hj P M r hr V 0 g) rfl rfl gm_X3_grainOf hx hb hml hown hts hC hI (ok_c 0 hr (by decide)) (e_st hr g_us) rfl rfl qm_X3_209 rfl hl.1 rfl ⟨rfl, rfl, by decide, by decide⟩ (Nat.le_of_ble_eq_true rfl) ⟨Nat.zero_le _, Nat.zero_le _⟩ dX3_surplus_3 (fun H locs hI => ?_)
  refine lv_aload_n hx hb dX3_surplus_6 rfl (lv_at hl 0 rfl) ?_
  refine lv_iconst (v := 0) hx hb dX3_surplus_7 (by decide) ?_
  refine lv_iload_n hx hb dX3_surplus_8 rfl (lv_at hl 1 rfl) ?_
  refine g_callVi (rest := [.int (q_grainOf V 0 g)]) (c_X3_receiptsOf l D tb ad hj P M r hr V 0 g) rfl rfl gm_X3_receiptsOf hx hb hml hown hts hC hI (ok_c 0 hr (by decide)) (e_st hr g_us) rfl rfl qm_X3_212 rfl hl.1 rfl ⟨rfl, rfl, by decide, by decide⟩ (Nat.le_of_ble_eq_true rfl) ⟨Nat.zero_le _, Nat.zero_le _⟩ dX3_surplus_9 (fun H locs hI => ?_)
  refine lv_isub hx hb dX3_surplus_12 ?_
  exact g_ir hQ hx hb hr0 hlk hC hI dX3_surplus_13 rfl (by rfl) rfl rfl
abbrev rm_X3_greatestLoss : Room := { frames := 3, cells := 0, slots := 0, locals := 68 }
set_option maxHeartbeats 4000000 in
set_option maxRecDepth 100000 in
theorem c_X3_greatestLoss (l : Launch) (D : va_G) (tb : g_T) (ad : g_Ad) (hj : g_inj ad) (P : g_P) (M : g_M) (r : Nat) (hr : r < 6) (V : g_V) (bi : Nat) (hbi : bi < 5) (g0 : Nat) (hg0 : g0 < 3) (hg : V (7 + bi) 0 = nI g0) : g_Ci l yX3_greatestLoss cX3_greatestLoss 4 (some .int) rm_X3_greatestLoss D tb ad [.ref (ad r 0), .ref (ad r (7 + bi))] P (va_up M r V) (q_loss V bi g0 3) P (va_up M r V) := by
  refine g_go (by decide) (Nat.le_of_ble_eq_true rfl) hj ?_
  intro p e s m below meth c ls H locs R args Q hR0 hQ hx hb hml hr0 hlk hown hts hC hI hl
  subst hR0
  have hown : s.vm.findClass RX3 = some m.cls := hown
  have hl : lv_has ls 4 [(0, .ref (ad r 0)), (1, .ref (ad r (7 + bi)))] := hl
  refine lv_aload_n hx hb dX3_greatestLoss_0 rfl (lv_at hl 1 rfl) ?_
  refine g_get 1 hx hb hts hown hC hI i_X0 (ok_bin hr hbi) (e_bin hr hbi g_us) rfl (by decide) qf_X3_172 rfl rfl dX3_greatestLoss_1 ?_
  refine lv_istore_n (lv' := [(2, .int (V (7 + bi) 1)), (0, .ref (ad r 0)), (1, .ref (ad r (7 + bi)))]) hx hb dX3_greatestLoss_4 rfl hl (by decide) rfl (fun ls hl => ?_)
  refine lv_aload_n hx hb dX3_greatestLoss_5 rfl (lv_at hl 2 rfl) ?_
  refine g_get 0 hx hb hts hown hC hI i_X0 (ok_bin hr hbi) (e_bin hr hbi g_us) rfl (by decide) qf_X3_37 rfl rfl dX3_greatestLoss_6 ?_
  refine g_te hg ?_
  refine lv_istore_n (lv' := [(3, .int (nI g0)), (2, .int (V (7 + bi) 1)), (0, .ref (ad r 0)), (1, .ref (ad r (7 + bi)))]) hx hb dX3_greatestLoss_9 rfl hl (by decide) rfl (fun ls hl => ?_)
  have lp10 : ∀ (d k : Nat) (x : Int32), g0 ≤ k ∧ k ≤ 3 → 3 < k + d → x = q_loss V bi g0 k → ∀ (H : Heap) (locs : List Loc) (ls : Array Slot), g_I D tb ad (g_A ad) s H locs P (va_up M r V) → lv_has ls 4 [(3, .int (nI k)), (2, .int x), (0, .ref (ad r 0)), (1, .ref (ad r (7 + bi)))] → W p l e rm_X3_greatestLoss s m args below meth c H locs 0 0 Q (F0 m 10 ls []) := by
    intro d
    induction d with
    | zero => intro k x hkp hfu; intros; omega
    | succ d ih =>
      intro k x hkp hfu e_x H locs ls hI hl
      refine lv_iload_n hx hb dX3_greatestLoss_10 rfl (lv_at hl 0 rfl) ?_
      refine lv_iconst (v := 3) hx hb dX3_greatestLoss_11 (by decide) ?_
      refine lv_icmp_ge (tgt := 31) hx hb dX3_greatestLoss_12 (by decide) (fun c1 => ?_) (fun c1 => ?_)
      · have c1n : 3 ≤ k := (nI_leI (a := 3) (b := k) (by omega) (by omega)).mp c1
        refine lv_iload_n hx hb dX3_greatestLoss_31 rfl (lv_at hl 1 rfl) ?_
        exact g_ir hQ hx hb hr0 hlk hC hI dX3_greatestLoss_32 rfl (by rw [e_x, show k = 3 from by omega]) rfl rfl
      · have c1n : ¬ 3 ≤ k := fun z => c1 ((nI_leI (a := 3) (b := k) (by omega) (by omega)).mpr z)
        refine lv_iload_n hx hb dX3_greatestLoss_15 rfl (lv_at hl 1 rfl) ?_
        refine lv_aload_n hx hb dX3_greatestLoss_16 rfl (lv_at hl 2 rfl) ?_
        refine lv_iload_n hx hb dX3_greatestLoss_17 rfl (lv_at hl 0 rfl) ?_
        refine g_callVi (rest := [.int x]) (c_X3_surplus l D tb ad hj P M r hr V (nI k)) rfl rfl gm_X3_surplus hx hb hml hown hts hC hI (ok_c 0 hr (by decide)) (e_st hr g_us) rfl rfl qm_X3_173 rfl hl.1 rfl ⟨rfl, rfl, by decide, by decide⟩ (Nat.le_of_ble_eq_true rfl) ⟨Nat.zero_le _, Nat.zero_le _⟩ dX3_greatestLoss_18 (fun H locs hI => ?_)
        refine va_mmin hx hb (hml.trans hl.1.symm) hown (hts _ qm_X3_218) (hts _ qs_J9_min_7cf53) (hts _ qz_J9) (hts _ qk_J9_min_7cf53) (by decide) (by decide) (Nat.zero_le _) (Nat.zero_le _) dX3_greatestLoss_21 ?_
        refine lv_istore_n (lv' := [(2, .int (k_min x (q_surplus V (nI k)))), (3, .int (nI k)), (0, .ref (ad r 0)), (1, .ref (ad r (7 + bi)))]) hx hb dX3_greatestLoss_24 rfl hl (by decide) rfl (fun ls hl => ?_)
        refine lv_iinc (v := nI (k + 1)) (lv' := [(3, .int (nI (k + 1))), (2, .int (k_min x (q_surplus V (nI k)))), (0, .ref (ad r 0)), (1, .ref (ad r (7 + bi)))]) hx hb dX3_greatestLoss_25 hl (k := 1) rfl (nI_1 _) (by decide) rfl (fun ls hl => ?_)
        refine lv_goto (tgt := 10) hx hb dX3_greatestLoss_28 (by decide) ?_
        exact ih (k + 1) _ (by omega) (by omega) (by unfold q_loss; rw [show k + 1 - g0 = (k - g0) + 1 from by omega, k_iter, show g0 + (k - g0) = k from by omega, e_x]; rfl)  _ _ _ hI (lv_sub hl [0, 1, 2, 3] rfl)
  exact lp10 (3 + 1) g0 _ (by omega) (by omega) (by unfold q_loss; rw [Nat.sub_self]; rfl)  _ _ _ hI (lv_sub hl [0, 1, 2, 3] rfl)
abbrev rm_X3_fillBins : Room := { frames := 1, cells := 0, slots := 0, locals := 21 }
set_option maxHeartbeats 4000000 in
set_option maxRecDepth 100000 in
theorem c_X3_fillBins (l : Launch) (D : va_G) (tb : g_T) (ad : g_Ad) (hj : g_inj ad) (P : g_P) (M : g_M) (r : Nat) (hr : r < 6) (V : g_V) (g : Int32) (a : Int32) : g_Cv l yX3_fillBins cX3_fillBins 9 none rm_X3_fillBins D tb ad [.ref (ad r 0), .int g, .int a] P (va_up M r V) P (va_up M r (q_fill V g a)) := by
  refine g_go (by decide) (Nat.le_of_ble_eq_true rfl) hj ?_
  intro p e s m below meth c ls H locs R args Q hR0 hQ hx hb hml hr0 hlk hown hts hC hI hl
  subst hR0
  have hown : s.vm.findClass RX3 = some m.cls := hown
  have hl : lv_has ls 9 [(0, .ref (ad r 0)), (1, .int g), (2, .int a)] := hl
  refine lv_iload_n hx hb dX3_fillBins_0 rfl (lv_at hl 2 rfl) ?_
  refine lv_istore_n (lv' := [(3, .int a), (0, .ref (ad r 0)), (1, .int g), (2, .int a)]) hx hb dX3_fillBins_1 rfl hl (by decide) rfl (fun ls hl => ?_)
  refine lv_aload_n hx hb dX3_fillBins_2 rfl (lv_at hl 1 rfl) ?_
  refine g_get 0 hx hb hts hown hC hI i_X3 (ok_c 0 hr (by decide)) (e_st hr g_us) rfl (by decide) qf_X3_11 rfl rfl dX3_fillBins_3 ?_
  refine lv_astore (lv' := [(4, .ref (ad r 1)), (3, .int a), (0, .ref (ad r 0)), (1, .int g), (2, .int a)]) hx hb dX3_fillBins_6 hl (by decide) rfl (fun ls hl => ?_)
  refine lv_aload hx hb dX3_fillBins_8 (lv_at hl 0 rfl) ?_
  refine g_alen 2 (v := 5) hx hb hC hI (ok_c 1 hr (by decide)) (e_bins hr) rfl rfl dX3_fillBins_10 ?_
  refine lv_istore (lv' := [(5, .int 5), (4, .ref (ad r 1)), (3, .int a), (0, .ref (ad r 0)), (1, .int g), (2, .int a)]) hx hb dX3_fillBins_11 hl (by decide) rfl (fun ls hl => ?_)
  refine lv_iconst (v := 0) hx hb dX3_fillBins_13 (by decide) ?_
  refine lv_istore (lv' := [(6, .int 0), (5, .int 5), (4, .ref (ad r 1)), (3, .int a), (0, .ref (ad r 0)), (1, .int g), (2, .int a)]) hx hb dX3_fillBins_14 hl (by decide) rfl (fun ls hl => ?_)
  have lp16 : ∀ (d k : Nat) (Vx : g_V) (x : Int32), k ≤ 5 → 5 < k + d → Vx = (k_iter (q_fillStep g) (V, a) k).1 → x = (k_iter (q_fillStep g) (V, a) k).2 → ∀ (H : Heap) (locs : List Loc) (ls : Array Slot), g_I D tb ad (g_A ad) s H locs P (va_up M r Vx) → lv_has ls 9 [(6, .int (nI k)), (5, .int 5), (4, .ref (ad r 1)), (3, .int x), (0, .ref (ad r 0)), (1, .int g), (2, .int a)] → W p l e rm_X3_fillBins s m args below meth c H locs 0 0 Q (F0 m 16 ls []) := by
    intro d
    induction d with
    | zero => intro k Vx x hkp hfu; intros; omega
    | succ d ih =>
      intro k Vx x hkp hfu e_Vx e_x H locs ls hI hl
      refine lv_iload hx hb dX3_fillBins_16 (lv_at hl 0 rfl) ?_
      refine lv_iload hx hb dX3_fillBins_18 (lv_at hl 1 rfl) ?_
      refine lv_icmp_ge (tgt := 77) hx hb dX3_fillBins_20 (by decide) (fun c1 => ?_) (fun c1 => ?_)
      · have c1n : 5 ≤ k := (nI_leI (a := 5) (b := k) (by omega) (by omega)).mp c1
        exact g_vr hQ hx hb hr0 hlk hC hI dX3_fillBins_77 rfl (by rw [e_Vx, show k = 5 from by omega]; rfl)
      · have c1n : ¬ 5 ≤ k := fun z => c1 ((nI_leI (a := 5) (b := k) (by omega) (by omega)).mpr z)
        refine lv_aload hx hb dX3_fillBins_23 (lv_at hl 2 rfl) ?_
        refine lv_iload hx hb dX3_fillBins_25 (lv_at hl 0 rfl) ?_
        refine g_aald 2 k hx hb hC hI (ok_c 1 hr (by decide)) (e_bins hr) rfl (vp_in_nI (by omega) (by decide)) (nI_clamp (by omega)) dX3_fillBins_27 ?_
        have hk2 : k < 5 := (by omega)
        refine lv_astore (lv' := [(7, .ref (ad r (7 + k))), (6, .int (nI k)), (5, .int 5), (4, .ref (ad r 1)), (3, .int x), (0, .ref (ad r 0)), (1, .int g), (2, .int a)]) hx hb dX3_fillBins_28 hl (by decide) rfl (fun ls hl => ?_)
        refine lv_aload hx hb dX3_fillBins_30 (lv_at hl 0 rfl) ?_
        refine g_get 0 hx hb hts hown hC hI i_X0 (ok_bin hr hk2) (e_bin hr hk2 g_us) rfl (by decide) qf_X3_37 rfl rfl dX3_fillBins_32 ?_
        refine lv_iload_n hx hb dX3_fillBins_35 rfl (lv_at hl 6 rfl) ?_
        refine lv_icmp_ne (tgt := 71) hx hb dX3_fillBins_36 (by decide) (fun c3 => ?_) (fun c3 => ?_)
        · refine lv_iinc (v := nI (k + 1)) (lv' := [(6, .int (nI (k + 1))), (7, .ref (ad r (7 + k))), (5, .int 5), (4, .ref (ad r 1)), (3, .int x), (0, .ref (ad r 0)), (1, .int g), (2, .int a)]) hx hb dX3_fillBins_71 hl (k := 1) rfl (nI_1 _) (by decide) rfl (fun ls hl => ?_)
          refine lv_goto (tgt := 16) hx hb dX3_fillBins_74 (by decide) ?_
          exact ih (k + 1) _ _ (by omega) (by omega) (by simp [k_iter, q_fillStep, ← e_Vx, ← e_x, c1, c3]) (by simp [k_iter, q_fillStep, ← e_Vx, ← e_x, c1, c3])  _ _ _ hI (lv_sub hl [0, 2, 3, 4, 5, 6, 7] rfl)
        · refine lv_iload_n hx hb dX3_fillBins_39 rfl (lv_at hl 4 rfl) ?_
          refine lv_sipush (v := 2000) hx hb dX3_fillBins_40 (by decide) ?_
          refine lv_aload hx hb dX3_fillBins_43 (lv_at hl 0 rfl) ?_
          refine g_get 1 hx hb hts hown hC hI i_X0 (ok_bin hr hk2) (e_bin hr hk2 g_us) rfl (by decide) qf_X3_172 rfl rfl dX3_fillBins_45 ?_
          refine lv_isub hx hb dX3_fillBins_48 ?_
          refine va_mmin hx hb (hml.trans hl.1.symm) hown (hts _ qm_X3_218) (hts _ qs_J9_min_7cf53) (hts _ qz_J9) (hts _ qk_J9_min_7cf53) (by decide) (by decide) (Nat.zero_le _) (Nat.zero_le _) dX3_fillBins_49 ?_
          refine lv_istore (lv' := [(8, .int (k_min x (2000 - (Vx (7 + k) 1)))), (7, .ref (ad r (7 + k))), (6, .int (nI k)), (5, .int 5), (4, .ref (ad r 1)), (3, .int x), (0, .ref (ad r 0)), (1, .int g), (2, .int a)]) hx hb dX3_fillBins_52 hl (by decide) rfl (fun ls hl => ?_)
          refine lv_aload hx hb dX3_fillBins_54 (lv_at hl 1 rfl) ?_
          refine lv_dup hx hb dX3_fillBins_56 rfl ?_
          refine g_get 1 hx hb hts hown hC hI i_X0 (ok_bin hr hk2) (e_bin hr hk2 g_us) rfl (by decide) qf_X3_172 rfl rfl dX3_fillBins_57 ?_
          refine lv_iload hx hb dX3_fillBins_60 (lv_at hl 0 rfl) ?_
          refine lv_iadd hx hb dX3_fillBins_62 ?_
          refine g_put 1 (ty := .int) hx hb hts hown hC hI i_X0 tyX0_ok nmX0 (ok_bin hr hk2) (e_bin hr hk2 g_us) rfl (by decide) qf_X3_172 rfl rfl rfl rfl rfl (Nat.le_of_ble_eq_true rfl) (p_bin hr hk2 (by decide)) g_hs dX3_fillBins_63 (fun H locs hI => ?_)
          refine lv_iload_n hx hb dX3_fillBins_66 rfl (lv_at hl 5 rfl) ?_
          refine lv_iload hx hb dX3_fillBins_67 (lv_at hl 0 rfl) ?_
          refine lv_isub hx hb dX3_fillBins_69 ?_
          refine lv_istore_n (lv' := [(3, .int (x - (k_min x (2000 - (Vx (7 + k) 1))))), (8, .int (k_min x (2000 - (Vx (7 + k) 1)))), (7, .ref (ad r (7 + k))), (6, .int (nI k)), (5, .int 5), (4, .ref (ad r 1)), (0, .ref (ad r 0)), (1, .int g), (2, .int a)]) hx hb dX3_fillBins_70 rfl hl (by decide) rfl (fun ls hl => ?_)
          refine lv_iinc (v := nI (k + 1)) (lv' := [(6, .int (nI (k + 1))), (3, .int (x - (k_min x (2000 - (Vx (7 + k) 1))))), (8, .int (k_min x (2000 - (Vx (7 + k) 1)))), (7, .ref (ad r (7 + k))), (5, .int 5), (4, .ref (ad r 1)), (0, .ref (ad r 0)), (1, .int g), (2, .int a)]) hx hb dX3_fillBins_71 hl (k := 3) rfl (nI_1 _) (by decide) rfl (fun ls hl => ?_)
          refine lv_goto (tgt := 16) hx hb dX3_fillBins_74 (by decide) ?_
          exact ih (k + 1) _ _ (by omega) (by omega) (by simp [k_iter, q_fillStep, ← e_Vx, ← e_x, c1, c3]) (by simp [k_iter, q_fillStep, ← e_Vx, ← e_x, c1, c3])  _ _ _ hI (lv_sub hl [0, 4, 5, 1, 6, 7, 8] rfl)
  exact lp16 (5 + 1) 0 _ _ (by omega) (by omega) rfl rfl  _ _ _ hI (lv_sub hl [0, 1, 2, 3, 4, 5, 6] rfl)
abbrev rm_X3_takeOut : Room := { frames := 1, cells := 0, slots := 0, locals := 21 }
set_option maxHeartbeats 4000000 in
set_option maxRecDepth 100000 in
theorem c_X3_takeOut (l : Launch) (D : va_G) (tb : g_T) (ad : g_Ad) (hj : g_inj ad) (P : g_P) (M : g_M) (r : Nat) (hr : r < 6) (V : g_V) (g : Int32) (a : Int32) : g_Ci l yX3_takeOut cX3_takeOut 9 (some .int) rm_X3_takeOut D tb ad [.ref (ad r 0), .int g, .int a] P (va_up M r V) ((q_take V g a).2) P (va_up M r ((q_take V g a).1)) := by
  refine g_go (by decide) (Nat.le_of_ble_eq_true rfl) hj ?_
  intro p e s m below meth c ls H locs R args Q hR0 hQ hx hb hml hr0 hlk hown hts hC hI hl
  subst hR0
  have hown : s.vm.findClass RX3 = some m.cls := hown
  have hl : lv_has ls 9 [(0, .ref (ad r 0)), (1, .int g), (2, .int a)] := hl
  refine lv_iload_n hx hb dX3_takeOut_0 rfl (lv_at hl 2 rfl) ?_
  refine lv_istore_n (lv' := [(3, .int a), (0, .ref (ad r 0)), (1, .int g), (2, .int a)]) hx hb dX3_takeOut_1 rfl hl (by decide) rfl (fun ls hl => ?_)
  refine lv_aload_n hx hb dX3_takeOut_2 rfl (lv_at hl 1 rfl) ?_
  refine g_get 0 hx hb hts hown hC hI i_X3 (ok_c 0 hr (by decide)) (e_st hr g_us) rfl (by decide) qf_X3_11 rfl rfl dX3_takeOut_3 ?_
  refine lv_astore (lv' := [(4, .ref (ad r 1)), (3, .int a), (0, .ref (ad r 0)), (1, .int g), (2, .int a)]) hx hb dX3_takeOut_6 hl (by decide) rfl (fun ls hl => ?_)
  refine lv_aload hx hb dX3_takeOut_8 (lv_at hl 0 rfl) ?_
  refine g_alen 2 (v := 5) hx hb hC hI (ok_c 1 hr (by decide)) (e_bins hr) rfl rfl dX3_takeOut_10 ?_
  refine lv_istore (lv' := [(5, .int 5), (4, .ref (ad r 1)), (3, .int a), (0, .ref (ad r 0)), (1, .int g), (2, .int a)]) hx hb dX3_takeOut_11 hl (by decide) rfl (fun ls hl => ?_)
  refine lv_iconst (v := 0) hx hb dX3_takeOut_13 (by decide) ?_
  refine lv_istore (lv' := [(6, .int 0), (5, .int 5), (4, .ref (ad r 1)), (3, .int a), (0, .ref (ad r 0)), (1, .int g), (2, .int a)]) hx hb dX3_takeOut_14 hl (by decide) rfl (fun ls hl => ?_)
  have lp16 : ∀ (d k : Nat) (Vx : g_V) (x : Int32), k ≤ 5 → 5 < k + d → Vx = (k_iter (q_takeStep g) (V, a) k).1 → x = (k_iter (q_takeStep g) (V, a) k).2 → ∀ (H : Heap) (locs : List Loc) (ls : Array Slot), g_I D tb ad (g_A ad) s H locs P (va_up M r Vx) → lv_has ls 9 [(6, .int (nI k)), (5, .int 5), (4, .ref (ad r 1)), (3, .int x), (0, .ref (ad r 0)), (1, .int g), (2, .int a)] → W p l e rm_X3_takeOut s m args below meth c H locs 0 0 Q (F0 m 16 ls []) := by
    intro d
    induction d with
    | zero => intro k Vx x hkp hfu; intros; omega
    | succ d ih =>
      intro k Vx x hkp hfu e_Vx e_x H locs ls hI hl
      refine lv_iload hx hb dX3_takeOut_16 (lv_at hl 0 rfl) ?_
      refine lv_iload hx hb dX3_takeOut_18 (lv_at hl 1 rfl) ?_
      refine lv_icmp_ge (tgt := 73) hx hb dX3_takeOut_20 (by decide) (fun c1 => ?_) (fun c1 => ?_)
      · have c1n : 5 ≤ k := (nI_leI (a := 5) (b := k) (by omega) (by omega)).mp c1
        refine lv_iload_n hx hb dX3_takeOut_73 rfl (lv_at hl 3 rfl) ?_
        exact g_ir hQ hx hb hr0 hlk hC hI dX3_takeOut_74 rfl (by rw [e_x, show k = 5 from by omega]; rfl) rfl (by rw [e_Vx, show k = 5 from by omega]; rfl)
      · have c1n : ¬ 5 ≤ k := fun z => c1 ((nI_leI (a := 5) (b := k) (by omega) (by omega)).mpr z)
        refine lv_aload hx hb dX3_takeOut_23 (lv_at hl 2 rfl) ?_
        refine lv_iload hx hb dX3_takeOut_25 (lv_at hl 0 rfl) ?_
        refine g_aald 2 k hx hb hC hI (ok_c 1 hr (by decide)) (e_bins hr) rfl (vp_in_nI (by omega) (by decide)) (nI_clamp (by omega)) dX3_takeOut_27 ?_
        have hk2 : k < 5 := (by omega)
        refine lv_astore (lv' := [(7, .ref (ad r (7 + k))), (6, .int (nI k)), (5, .int 5), (4, .ref (ad r 1)), (3, .int x), (0, .ref (ad r 0)), (1, .int g), (2, .int a)]) hx hb dX3_takeOut_28 hl (by decide) rfl (fun ls hl => ?_)
        refine lv_aload hx hb dX3_takeOut_30 (lv_at hl 0 rfl) ?_
        refine g_get 0 hx hb hts hown hC hI i_X0 (ok_bin hr hk2) (e_bin hr hk2 g_us) rfl (by decide) qf_X3_37 rfl rfl dX3_takeOut_32 ?_
        refine lv_iload_n hx hb dX3_takeOut_35 rfl (lv_at hl 6 rfl) ?_
        refine lv_icmp_ne (tgt := 67) hx hb dX3_takeOut_36 (by decide) (fun c3 => ?_) (fun c3 => ?_)
        · refine lv_iinc (v := nI (k + 1)) (lv' := [(6, .int (nI (k + 1))), (7, .ref (ad r (7 + k))), (5, .int 5), (4, .ref (ad r 1)), (3, .int x), (0, .ref (ad r 0)), (1, .int g), (2, .int a)]) hx hb dX3_takeOut_67 hl (k := 1) rfl (nI_1 _) (by decide) rfl (fun ls hl => ?_)
          refine lv_goto (tgt := 16) hx hb dX3_takeOut_70 (by decide) ?_
          exact ih (k + 1) _ _ (by omega) (by omega) (by simp [k_iter, q_takeStep, ← e_Vx, ← e_x, c1, c3]) (by simp [k_iter, q_takeStep, ← e_Vx, ← e_x, c1, c3])  _ _ _ hI (lv_sub hl [0, 2, 3, 4, 5, 6, 7] rfl)
        · refine lv_iload_n hx hb dX3_takeOut_39 rfl (lv_at hl 4 rfl) ?_
          refine lv_aload hx hb dX3_takeOut_40 (lv_at hl 0 rfl) ?_
          refine g_get 1 hx hb hts hown hC hI i_X0 (ok_bin hr hk2) (e_bin hr hk2 g_us) rfl (by decide) qf_X3_172 rfl rfl dX3_takeOut_42 ?_
          refine va_mmin hx hb (hml.trans hl.1.symm) hown (hts _ qm_X3_218) (hts _ qs_J9_min_7cf53) (hts _ qz_J9) (hts _ qk_J9_min_7cf53) (by decide) (by decide) (Nat.zero_le _) (Nat.zero_le _) dX3_takeOut_45 ?_
          refine lv_istore (lv' := [(8, .int (k_min x (Vx (7 + k) 1))), (7, .ref (ad r (7 + k))), (6, .int (nI k)), (5, .int 5), (4, .ref (ad r 1)), (3, .int x), (0, .ref (ad r 0)), (1, .int g), (2, .int a)]) hx hb dX3_takeOut_48 hl (by decide) rfl (fun ls hl => ?_)
          refine lv_aload hx hb dX3_takeOut_50 (lv_at hl 1 rfl) ?_
          refine lv_dup hx hb dX3_takeOut_52 rfl ?_
          refine g_get 1 hx hb hts hown hC hI i_X0 (ok_bin hr hk2) (e_bin hr hk2 g_us) rfl (by decide) qf_X3_172 rfl rfl dX3_takeOut_53 ?_
          refine lv_iload hx hb dX3_takeOut_56 (lv_at hl 0 rfl) ?_
          refine lv_isub hx hb dX3_takeOut_58 ?_
          refine g_put 1 (ty := .int) hx hb hts hown hC hI i_X0 tyX0_ok nmX0 (ok_bin hr hk2) (e_bin hr hk2 g_us) rfl (by decide) qf_X3_172 rfl rfl rfl rfl rfl (Nat.le_of_ble_eq_true rfl) (p_bin hr hk2 (by decide)) g_hs dX3_takeOut_59 (fun H locs hI => ?_)
          refine lv_iload_n hx hb dX3_takeOut_62 rfl (lv_at hl 5 rfl) ?_
          refine lv_iload hx hb dX3_takeOut_63 (lv_at hl 0 rfl) ?_
          refine lv_isub hx hb dX3_takeOut_65 ?_
          refine lv_istore_n (lv' := [(3, .int (x - (k_min x (Vx (7 + k) 1)))), (8, .int (k_min x (Vx (7 + k) 1))), (7, .ref (ad r (7 + k))), (6, .int (nI k)), (5, .int 5), (4, .ref (ad r 1)), (0, .ref (ad r 0)), (1, .int g), (2, .int a)]) hx hb dX3_takeOut_66 rfl hl (by decide) rfl (fun ls hl => ?_)
          refine lv_iinc (v := nI (k + 1)) (lv' := [(6, .int (nI (k + 1))), (3, .int (x - (k_min x (Vx (7 + k) 1)))), (8, .int (k_min x (Vx (7 + k) 1))), (7, .ref (ad r (7 + k))), (5, .int 5), (4, .ref (ad r 1)), (0, .ref (ad r 0)), (1, .int g), (2, .int a)]) hx hb dX3_takeOut_67 hl (k := 3) rfl (nI_1 _) (by decide) rfl (fun ls hl => ?_)
          refine lv_goto (tgt := 16) hx hb dX3_takeOut_70 (by decide) ?_
          exact ih (k + 1) _ _ (by omega) (by omega) (by simp [k_iter, q_takeStep, ← e_Vx, ← e_x, c1, c3]) (by simp [k_iter, q_takeStep, ← e_Vx, ← e_x, c1, c3])  _ _ _ hI (lv_sub hl [0, 4, 5, 1, 6, 7, 8] rfl)
  exact lp16 (5 + 1) 0 _ _ (by omega) (by omega) rfl rfl  _ _ _ hI (lv_sub hl [0, 1, 2, 3, 4, 5, 6] rfl)
abbrev rm_X3_find : Room := { frames := 1, cells := 0, slots := 0, locals := 20 }
set_option maxHeartbeats 4000000 in
set_option maxRecDepth 100000 in
theorem c_X3_find (l : Launch) (D : va_G) (tb : g_T) (ad : g_Ad) (hj : g_inj ad) (P : g_P) (M : g_M) (r : Nat) (hr : r < 6) (V : g_V) (n : Int32) : g_Cq l yX3_find cX3_find 6 (some (.object "GrainReceipts$Receipt")) rm_X3_find D tb ad [.ref (ad r 0), .int n] P (va_up M r V) ((q_find V n).map (fun i => ad r (12 + i))) P (va_up M r V) := by
  refine g_go (by decide) (Nat.le_of_ble_eq_true rfl) hj ?_
  intro p e s m below meth c ls H locs R args Q hR0 hQ hx hb hml hr0 hlk hown hts hC hI hl
  subst hR0
  have hown : s.vm.findClass RX3 = some m.cls := hown
  have hl : lv_has ls 6 [(0, .ref (ad r 0)), (1, .int n)] := hl
  refine lv_aload_n hx hb dX3_find_0 rfl (lv_at hl 0 rfl) ?_
  refine g_get 1 hx hb hts hown hC hI i_X3 (ok_c 0 hr (by decide)) (e_st hr g_us) rfl (by decide) qf_X3_19 rfl rfl dX3_find_1 ?_
  refine lv_astore_n (lv' := [(2, .ref (ad r 2)), (0, .ref (ad r 0)), (1, .int n)]) hx hb dX3_find_4 rfl hl (by decide) rfl (fun ls hl => ?_)
  refine lv_aload_n hx hb dX3_find_5 rfl (lv_at hl 0 rfl) ?_
  refine g_alen 3 (v := 16) hx hb hC hI (ok_c 2 hr (by decide)) (e_recs hr) rfl rfl dX3_find_6 ?_
  refine lv_istore_n (lv' := [(3, .int 16), (2, .ref (ad r 2)), (0, .ref (ad r 0)), (1, .int n)]) hx hb dX3_find_7 rfl hl (by decide) rfl (fun ls hl => ?_)
  refine lv_iconst (v := 0) hx hb dX3_find_8 (by decide) ?_
  refine lv_istore (lv' := [(4, .int 0), (3, .int 16), (2, .ref (ad r 2)), (0, .ref (ad r 0)), (1, .int n)]) hx hb dX3_find_9 hl (by decide) rfl (fun ls hl => ?_)
  have lp11 : ∀ (d k : Nat), k ≤ 16 → 16 < k + d → (∀ j, j < k → (fun i => decide (q_used V i ∧ V (12 + i) 0 = n)) j = false) → ∀ (H : Heap) (locs : List Loc) (ls : Array Slot), g_I D tb ad (g_A ad) s H locs P (va_up M r V) → lv_has ls 6 [(4, .int (nI k)), (3, .int 16), (2, .ref (ad r 2)), (0, .ref (ad r 0)), (1, .int n)] → W p l e rm_X3_find s m args below meth c H locs 0 0 Q (F0 m 11 ls []) := by
    intro d
    induction d with
    | zero => intro k hkp hfu; intros; omega
    | succ d ih =>
      intro k hkp hfu hno H locs ls hI hl
      refine lv_iload hx hb dX3_find_11 (lv_at hl 0 rfl) ?_
      refine lv_iload_n hx hb dX3_find_13 rfl (lv_at hl 1 rfl) ?_
      refine lv_icmp_ge (tgt := 49) hx hb dX3_find_14 (by decide) (fun c1 => ?_) (fun c1 => ?_)
      · have c1n : 16 ≤ k := (nI_leI (a := 16) (b := k) (by omega) (by omega)).mp c1
        refine lv_null hx hb dX3_find_49 ?_
        exact g_qr (v := none) hQ hx hb hr0 hlk hC hI dX3_find_50 rfl (by first | (rw [show q_find V n = some k from k_find_at (by omega) (decide_eq_true ⟨by assumption, by assumption⟩) hno]; rfl) | (rw [show q_find V n = none from k_find_none.mpr (fun j hj => hno j (by omega))]; rfl)) rfl rfl
      · have c1n : ¬ 16 ≤ k := fun z => c1 ((nI_leI (a := 16) (b := k) (by omega) (by omega)).mpr z)
        refine lv_aload_n hx hb dX3_find_17 rfl (lv_at hl 2 rfl) ?_
        refine lv_iload hx hb dX3_find_18 (lv_at hl 0 rfl) ?_
        refine g_aald 3 k hx hb hC hI (ok_c 2 hr (by decide)) (e_recs hr) rfl (vp_in_nI (by omega) (by decide)) (nI_clamp (by omega)) dX3_find_20 ?_
        have hk2 : k < 16 := (by omega)
        refine lv_astore (lv' := [(5, .ref (ad r (12 + k))), (4, .int (nI k)), (3, .int 16), (2, .ref (ad r 2)), (0, .ref (ad r 0)), (1, .int n)]) hx hb dX3_find_21 hl (by decide) rfl (fun ls hl => ?_)
        refine lv_aload hx hb dX3_find_23 (lv_at hl 0 rfl) ?_
        refine g_callVi (rest := []) (c_X1_isUsed l D tb ad hj P M r hr V k hk2) rfl rfl gm_X1_isUsed hx hb hml hown hts hC hI (ok_rec hr hk2) (e_rec hr hk2 g_us) rfl rfl qm_X3_203 rfl hl.1 rfl ⟨rfl, rfl, by decide, by decide⟩ (Nat.le_of_ble_eq_true rfl) ⟨Nat.zero_le _, Nat.zero_le _⟩ dX3_find_25 (fun H locs hI => ?_)
        refine g_tf (fun c3 => ?_) (fun c3 => ?_)
        · refine lv_if_eq (tgt := 43) hx hb dX3_find_28 (by decide) (fun c4 => absurd c4 (by decide)) (fun _ => ?_)
          refine lv_aload hx hb dX3_find_31 (lv_at hl 0 rfl) ?_
          refine g_get 0 hx hb hts hown hC hI i_X1 (ok_rec hr hk2) (e_rec hr hk2 g_us) rfl (by decide) qf_X3_96 rfl rfl dX3_find_33 ?_
          refine lv_iload_n hx hb dX3_find_36 rfl (lv_at hl 5 rfl) ?_
          refine lv_icmp_ne (tgt := 43) hx hb dX3_find_37 (by decide) (fun c5 => ?_) (fun c5 => ?_)
          · refine lv_iinc (v := nI (k + 1)) (lv' := [(4, .int (nI (k + 1))), (5, .ref (ad r (12 + k))), (3, .int 16), (2, .ref (ad r 2)), (0, .ref (ad r 0)), (1, .int n)]) hx hb dX3_find_43 hl (k := 1) rfl (nI_1 _) (by decide) rfl (fun ls hl => ?_)
            refine lv_goto (tgt := 11) hx hb dX3_find_46 (by decide) ?_
            exact ih (k + 1)  (by omega) (by omega)  (by exact lt_s hno (decide_eq_false (fun z => by first | exact c5 z.1 | exact c5 z.2 | exact z c5))) _ _ _ hI (lv_sub hl [0, 2, 3, 4, 5] rfl)
          · refine lv_aload hx hb dX3_find_40 (lv_at hl 0 rfl) ?_
            exact g_qr (v := (some (ad r (12 + k)))) hQ hx hb hr0 hlk hC hI dX3_find_42 rfl (by first | (rw [show q_find V n = some k from k_find_at (by omega) (decide_eq_true ⟨by assumption, by assumption⟩) hno]; rfl) | (rw [show q_find V n = none from k_find_none.mpr (fun j hj => hno j (by omega))]; rfl)) rfl rfl
        · refine lv_if_eq (tgt := 43) hx hb dX3_find_28 (by decide) (fun _ => ?_) (fun c6 => absurd c6 (by decide))
          refine lv_iinc (v := nI (k + 1)) (lv' := [(4, .int (nI (k + 1))), (5, .ref (ad r (12 + k))), (3, .int 16), (2, .ref (ad r 2)), (0, .ref (ad r 0)), (1, .int n)]) hx hb dX3_find_43 hl (k := 1) rfl (nI_1 _) (by decide) rfl (fun ls hl => ?_)
          refine lv_goto (tgt := 11) hx hb dX3_find_46 (by decide) ?_
          exact ih (k + 1)  (by omega) (by omega)  (by exact lt_s hno (decide_eq_false (fun z => by first | exact c3 z.1 | exact c3 z.2 | exact z c3))) _ _ _ hI (lv_sub hl [0, 2, 3, 4, 5] rfl)
  exact lp11 (16 + 1) 0  (by omega) (by omega)  (fun j hj => absurd hj (Nat.not_lt_zero j)) _ _ _ hI (lv_sub hl [0, 1, 2, 3, 4] rfl)
abbrev rm_X3_freePlace : Room := { frames := 1, cells := 0, slots := 0, locals := 20 }
set_option maxHeartbeats 4000000 in
set_option maxRecDepth 100000 in
theorem c_X3_freePlace (l : Launch) (D : va_G) (tb : g_T) (ad : g_Ad) (hj : g_inj ad) (P : g_P) (M : g_M) (r : Nat) (hr : r < 6) (V : g_V) : g_Cq l yX3_freePlace cX3_freePlace 5 (some (.object "GrainReceipts$Receipt")) rm_X3_freePlace D tb ad [.ref (ad r 0)] P (va_up M r V) ((q_freePlace V).map (fun i => ad r (12 + i))) P (va_up M r V) := by
  refine g_go (by decide) (Nat.le_of_ble_eq_true rfl) hj ?_
  intro p e s m below meth c ls H locs R args Q hR0 hQ hx hb hml hr0 hlk hown hts hC hI hl
  subst hR0
  have hown : s.vm.findClass RX3 = some m.cls := hown
  have hl : lv_has ls 5 [(0, .ref (ad r 0))] := hl
  refine lv_aload_n hx hb dX3_freePlace_0 rfl (lv_at hl 0 rfl) ?_
  refine g_get 1 hx hb hts hown hC hI i_X3 (ok_c 0 hr (by decide)) (e_st hr g_us) rfl (by decide) qf_X3_19 rfl rfl dX3_freePlace_1 ?_
  refine lv_astore_n (lv' := [(1, .ref (ad r 2)), (0, .ref (ad r 0))]) hx hb dX3_freePlace_4 rfl hl (by decide) rfl (fun ls hl => ?_)
  refine lv_aload_n hx hb dX3_freePlace_5 rfl (lv_at hl 0 rfl) ?_
  refine g_alen 3 (v := 16) hx hb hC hI (ok_c 2 hr (by decide)) (e_recs hr) rfl rfl dX3_freePlace_6 ?_
  refine lv_istore_n (lv' := [(2, .int 16), (1, .ref (ad r 2)), (0, .ref (ad r 0))]) hx hb dX3_freePlace_7 rfl hl (by decide) rfl (fun ls hl => ?_)
  refine lv_iconst (v := 0) hx hb dX3_freePlace_8 (by decide) ?_
  refine lv_istore_n (lv' := [(3, .int 0), (2, .int 16), (1, .ref (ad r 2)), (0, .ref (ad r 0))]) hx hb dX3_freePlace_9 rfl hl (by decide) rfl (fun ls hl => ?_)
  have lp10 : ∀ (d k : Nat), k ≤ 16 → 16 < k + d → (∀ j, j < k → (fun i => decide (¬ q_used V i)) j = false) → ∀ (H : Heap) (locs : List Loc) (ls : Array Slot), g_I D tb ad (g_A ad) s H locs P (va_up M r V) → lv_has ls 5 [(3, .int (nI k)), (2, .int 16), (1, .ref (ad r 2)), (0, .ref (ad r 0))] → W p l e rm_X3_freePlace s m args below meth c H locs 0 0 Q (F0 m 10 ls []) := by
    intro d
    induction d with
    | zero => intro k hkp hfu; intros; omega
    | succ d ih =>
      intro k hkp hfu hno H locs ls hI hl
      refine lv_iload_n hx hb dX3_freePlace_10 rfl (lv_at hl 0 rfl) ?_
      refine lv_iload_n hx hb dX3_freePlace_11 rfl (lv_at hl 1 rfl) ?_
      refine lv_icmp_ge (tgt := 37) hx hb dX3_freePlace_12 (by decide) (fun c1 => ?_) (fun c1 => ?_)
      · have c1n : 16 ≤ k := (nI_leI (a := 16) (b := k) (by omega) (by omega)).mp c1
        refine lv_null hx hb dX3_freePlace_37 ?_
        exact g_qr (v := none) hQ hx hb hr0 hlk hC hI dX3_freePlace_38 rfl (by first | (rw [show q_freePlace V = some k from k_find_at (by omega) (decide_eq_true c1) hno]; rfl) | (rw [show q_freePlace V = none from k_find_none.mpr (fun j hj => hno j (by omega))]; rfl)) rfl rfl
      · have c1n : ¬ 16 ≤ k := fun z => c1 ((nI_leI (a := 16) (b := k) (by omega) (by omega)).mpr z)
        refine lv_aload_n hx hb dX3_freePlace_15 rfl (lv_at hl 2 rfl) ?_
        refine lv_iload_n hx hb dX3_freePlace_16 rfl (lv_at hl 0 rfl) ?_
        refine g_aald 3 k hx hb hC hI (ok_c 2 hr (by decide)) (e_recs hr) rfl (vp_in_nI (by omega) (by decide)) (nI_clamp (by omega)) dX3_freePlace_17 ?_
        have hk2 : k < 16 := (by omega)
        refine lv_astore (lv' := [(4, .ref (ad r (12 + k))), (3, .int (nI k)), (2, .int 16), (1, .ref (ad r 2)), (0, .ref (ad r 0))]) hx hb dX3_freePlace_18 hl (by decide) rfl (fun ls hl => ?_)
        refine lv_aload hx hb dX3_freePlace_20 (lv_at hl 0 rfl) ?_
        refine g_callVi (rest := []) (c_X1_isUsed l D tb ad hj P M r hr V k hk2) rfl rfl gm_X1_isUsed hx hb hml hown hts hC hI (ok_rec hr hk2) (e_rec hr hk2 g_us) rfl rfl qm_X3_203 rfl hl.1 rfl ⟨rfl, rfl, by decide, by decide⟩ (Nat.le_of_ble_eq_true rfl) ⟨Nat.zero_le _, Nat.zero_le _⟩ dX3_freePlace_22 (fun H locs hI => ?_)
        refine g_tf (fun c3 => ?_) (fun c3 => ?_)
        · refine lv_if_ne (tgt := 31) hx hb dX3_freePlace_25 (by decide) (fun _ => ?_) (fun c4 => absurd c4 (by decide))
          refine lv_iinc (v := nI (k + 1)) (lv' := [(3, .int (nI (k + 1))), (4, .ref (ad r (12 + k))), (2, .int 16), (1, .ref (ad r 2)), (0, .ref (ad r 0))]) hx hb dX3_freePlace_31 hl (k := 1) rfl (nI_1 _) (by decide) rfl (fun ls hl => ?_)
          refine lv_goto (tgt := 10) hx hb dX3_freePlace_34 (by decide) ?_
          exact ih (k + 1)  (by omega) (by omega)  (by exact lt_s hno (decide_eq_false (fun z => by first | exact c3 z.1 | exact c3 z.2 | exact z c3))) _ _ _ hI (lv_sub hl [0, 2, 3, 4] rfl)
        · refine lv_if_ne (tgt := 31) hx hb dX3_freePlace_25 (by decide) (fun c5 => absurd c5 (by decide)) (fun _ => ?_)
          refine lv_aload hx hb dX3_freePlace_28 (lv_at hl 0 rfl) ?_
          exact g_qr (v := (some (ad r (12 + k)))) hQ hx hb hr0 hlk hC hI dX3_freePlace_30 rfl (by first | (rw [show q_freePlace V = some k from k_find_at (by omega) (decide_eq_true c3) hno]; rfl) | (rw [show q_freePlace V = none from k_find_none.mpr (fun j hj => hno j (by omega))]; rfl)) rfl rfl
  exact lp10 (16 + 1) 0  (by omega) (by omega)  (fun j hj => absurd hj (Nat.not_lt_zero j)) _ _ _ hI (lv_sub hl [0, 1, 2, 3] rfl)
abbrev rm_X3_nextNumber : Room := { frames := 0, cells := 0, slots := 0, locals := 0 }
set_option maxHeartbeats 4000000 in
set_option maxRecDepth 100000 in
theorem c_X3_nextNumber (l : Launch) (D : va_G) (tb : g_T) (ad : g_Ad) (hj : g_inj ad) (P : g_P) (M : g_M) (r : Nat) (hr : r < 6) (V : g_V) : g_Ci l yX3_nextNumber cX3_nextNumber 2 (some .int) rm_X3_nextNumber D tb ad [.ref (ad r 0)] P (va_up M r V) (V 0 7) P (va_up M r (q_next V)) := by
  refine g_go (by decide) (Nat.le_of_ble_eq_true rfl) hj ?_
  intro p e s m below meth c ls H locs R args Q hR0 hQ hx hb hml hr0 hlk hown hts hC hI hl
  subst hR0
  have hown : s.vm.findClass RX3 = some m.cls := hown
  have hl : lv_has ls 2 [(0, .ref (ad r 0))] := hl
  refine lv_aload_n hx hb dX3_nextNumber_0 rfl (lv_at hl 0 rfl) ?_
  refine g_get 7 hx hb hts hown hC hI i_X3 (ok_c 0 hr (by decide)) (e_st hr g_us) rfl (by decide) qf_X3_58 rfl rfl dX3_nextNumber_1 ?_
  refine lv_istore_n (lv' := [(1, .int (V 0 7)), (0, .ref (ad r 0))]) hx hb dX3_nextNumber_4 rfl hl (by decide) rfl (fun ls hl => ?_)
  refine lv_aload_n hx hb dX3_nextNumber_5 rfl (lv_at hl 1 rfl) ?_
  refine lv_dup hx hb dX3_nextNumber_6 rfl ?_
  refine g_get 7 hx hb hts hown hC hI i_X3 (ok_c 0 hr (by decide)) (e_st hr g_us) rfl (by decide) qf_X3_58 rfl rfl dX3_nextNumber_7 ?_
  refine lv_iconst (v := 1) hx hb dX3_nextNumber_10 (by decide) ?_
  refine lv_iadd hx hb dX3_nextNumber_11 ?_
  refine g_put 7 (ty := .int) hx hb hts hown hC hI i_X3 tyX3_ok nmX3 (ok_c 0 hr (by decide)) (e_st hr g_us) rfl (by decide) qf_X3_58 rfl rfl rfl rfl rfl (Nat.le_of_ble_eq_true rfl) (p_st hr (by decide)) g_hs dX3_nextNumber_12 (fun H locs hI => ?_)
  refine lv_iload_n hx hb dX3_nextNumber_15 rfl (lv_at hl 0 rfl) ?_
  exact g_ir hQ hx hb hr0 hlk hC hI dX3_nextNumber_16 rfl (by rfl) rfl (by rfl)
abbrev rm_X3_priceOf : Room := { frames := 1, cells := 0, slots := 0, locals := 20 }
set_option maxHeartbeats 4000000 in
set_option maxRecDepth 100000 in
theorem c_X3_priceOf (l : Launch) (D : va_G) (tb : g_T) (ad : g_Ad) (hj : g_inj ad) (P : g_P) (M : g_M) (r : Nat) (hr : r < 6) (V : g_V) (g : Int32) : g_Ci l yX3_priceOf cX3_priceOf 2 (some .int) rm_X3_priceOf D tb ad [.ref (ad r 0), .int g] P (va_up M r V) (q_priceOf V g) P (va_up M r V) := by
  refine g_go (by decide) (Nat.le_of_ble_eq_true rfl) hj ?_
  intro p e s m below meth c ls H locs R args Q hR0 hQ hx hb hml hr0 hlk hown hts hC hI hl
  subst hR0
  have hown : s.vm.findClass RX3 = some m.cls := hown
  have hl : lv_has ls 2 [(0, .ref (ad r 0)), (1, .int g)] := hl
  refine lv_iload_n hx hb dX3_priceOf_0 rfl (lv_at hl 1 rfl) ?_
  refine g_callNi (rest := []) (c_X4_isGrade l D tb ad hj P (va_up M r V) g) rfl rfl gm_X4_isGrade hx hb hml hown hts hC hI qN_X3_70 rfl hl.1 rfl ⟨rfl, rfl, by decide, by decide⟩ (Nat.le_of_ble_eq_true rfl) ⟨Nat.zero_le _, Nat.zero_le _⟩ dX3_priceOf_1 (fun H locs hI => ?_)
  refine g_tf (fun c1 => ?_) (fun c1 => ?_)
  · refine lv_if_eq (tgt := 16) hx hb dX3_priceOf_4 (by decide) (fun c2 => absurd c2 (by decide)) (fun _ => ?_)
    refine lv_aload_n hx hb dX3_priceOf_7 rfl (lv_at hl 0 rfl) ?_
    refine g_get 2 hx hb hts hown hC hI i_X3 (ok_c 0 hr (by decide)) (e_st hr g_us) rfl (by decide) qf_X3_23 rfl rfl dX3_priceOf_8 ?_
    refine lv_iload_n hx hb dX3_priceOf_11 rfl (lv_at hl 1 rfl) ?_
    refine g_iald g.toNatClampNeg hx hb hC hI (ok_c 3 hr (by decide)) (e_pr hr g_us) (k_vin c1 rfl) rfl dX3_priceOf_12 ?_
    refine lv_goto (tgt := 17) hx hb dX3_priceOf_13 (by decide) ?_
    exact g_ir hQ hx hb hr0 hlk hC hI dX3_priceOf_17 rfl (by unfold q_priceOf; first | rw [if_pos c1] | rw [if_neg c1]) rfl rfl
  · refine lv_if_eq (tgt := 16) hx hb dX3_priceOf_4 (by decide) (fun _ => ?_) (fun c3 => absurd c3 (by decide))
    refine lv_iconst (v := 0) hx hb dX3_priceOf_16 (by decide) ?_
    exact g_ir hQ hx hb hr0 hlk hC hI dX3_priceOf_17 rfl (by unfold q_priceOf; first | rw [if_pos c1] | rw [if_neg c1]) rfl rfl
abbrev rm_X3_moneyOf : Room := { frames := 1, cells := 0, slots := 0, locals := 20 }
set_option maxHeartbeats 4000000 in
set_option maxRecDepth 100000 in
theorem c_X3_moneyOf (l : Launch) (D : va_G) (tb : g_T) (ad : g_Ad) (hj : g_inj ad) (P : g_P) (M : g_M) (r : Nat) (hr : r < 6) (V : g_V) (o : Int32) : g_Ci l yX3_moneyOf cX3_moneyOf 2 (some .int) rm_X3_moneyOf D tb ad [.ref (ad r 0), .int o] P (va_up M r V) (q_moneyOf V o) P (va_up M r V) := by
  refine g_go (by decide) (Nat.le_of_ble_eq_true rfl) hj ?_
  intro p e s m below meth c ls H locs R args Q hR0 hQ hx hb hml hr0 hlk hown hts hC hI hl
  subst hR0
  have hown : s.vm.findClass RX3 = some m.cls := hown
  have hl : lv_has ls 2 [(0, .ref (ad r 0)), (1, .int o)] := hl
  refine lv_iload_n hx hb dX3_moneyOf_0 rfl (lv_at hl 1 rfl) ?_
  refine g_callNi (rest := []) (c_X4_isOwner l D tb ad hj P (va_up M r V) o) rfl rfl gm_X4_isOwner hx hb hml hown hts hC hI qN_X3_122 rfl hl.1 rfl ⟨rfl, rfl, by decide, by decide⟩ (Nat.le_of_ble_eq_true rfl) ⟨Nat.zero_le _, Nat.zero_le _⟩ dX3_moneyOf_1 (fun H locs hI => ?_)
  refine g_tf (fun c1 => ?_) (fun c1 => ?_)
  · refine lv_if_eq (tgt := 16) hx hb dX3_moneyOf_4 (by decide) (fun c2 => absurd c2 (by decide)) (fun _ => ?_)
    refine lv_aload_n hx hb dX3_moneyOf_7 rfl (lv_at hl 0 rfl) ?_
    refine g_get 4 hx hb hts hown hC hI i_X3 (ok_c 0 hr (by decide)) (e_st hr g_us) rfl (by decide) qf_X3_30 rfl rfl dX3_moneyOf_8 ?_
    refine lv_iload_n hx hb dX3_moneyOf_11 rfl (lv_at hl 1 rfl) ?_
    refine g_iald o.toNatClampNeg hx hb hC hI (ok_c 5 hr (by decide)) (e_mo hr g_us) (k_vin c1 rfl) rfl dX3_moneyOf_12 ?_
    refine lv_goto (tgt := 17) hx hb dX3_moneyOf_13 (by decide) ?_
    exact g_ir hQ hx hb hr0 hlk hC hI dX3_moneyOf_17 rfl (by unfold q_moneyOf; first | rw [if_pos c1] | rw [if_neg c1]) rfl rfl
  · refine lv_if_eq (tgt := 16) hx hb dX3_moneyOf_4 (by decide) (fun _ => ?_) (fun c3 => absurd c3 (by decide))
    refine lv_iconst (v := 0) hx hb dX3_moneyOf_16 (by decide) ?_
    exact g_ir hQ hx hb hr0 hlk hC hI dX3_moneyOf_17 rfl (by unfold q_moneyOf; first | rw [if_pos c1] | rw [if_neg c1]) rfl rfl
abbrev rm_X3_addMoney : Room := { frames := 1, cells := 0, slots := 0, locals := 20 }
set_option maxHeartbeats 4000000 in
set_option maxRecDepth 100000 in
theorem c_X3_addMoney (l : Launch) (D : va_G) (tb : g_T) (ad : g_Ad) (hj : g_inj ad) (P : g_P) (M : g_M) (r : Nat) (hr : r < 6) (V : g_V) (o : Int32) (a : Int32) : g_Cv l yX3_addMoney cX3_addMoney 3 none rm_X3_addMoney D tb ad [.ref (ad r 0), .int o, .int a] P (va_up M r V) P (va_up M r (q_addMoney V o a)) := by
  refine g_go (by decide) (Nat.le_of_ble_eq_true rfl) hj ?_
  intro p e s m below meth c ls H locs R args Q hR0 hQ hx hb hml hr0 hlk hown hts hC hI hl
  subst hR0
  have hown : s.vm.findClass RX3 = some m.cls := hown
  have hl : lv_has ls 3 [(0, .ref (ad r 0)), (1, .int o), (2, .int a)] := hl
  refine lv_iload_n hx hb dX3_addMoney_0 rfl (lv_at hl 1 rfl) ?_
  refine g_callNi (rest := []) (c_X4_isOwner l D tb ad hj P (va_up M r V) o) rfl rfl gm_X4_isOwner hx hb hml hown hts hC hI qN_X3_122 rfl hl.1 rfl ⟨rfl, rfl, by decide, by decide⟩ (Nat.le_of_ble_eq_true rfl) ⟨Nat.zero_le _, Nat.zero_le _⟩ dX3_addMoney_1 (fun H locs hI => ?_)
  refine g_tf (fun c1 => ?_) (fun c1 => ?_)
  · refine lv_if_eq (tgt := 17) hx hb dX3_addMoney_4 (by decide) (fun c2 => absurd c2 (by decide)) (fun _ => ?_)
    refine lv_aload_n hx hb dX3_addMoney_7 rfl (lv_at hl 0 rfl) ?_
    refine g_get 4 hx hb hts hown hC hI i_X3 (ok_c 0 hr (by decide)) (e_st hr g_us) rfl (by decide) qf_X3_30 rfl rfl dX3_addMoney_8 ?_
    refine lv_iload_n hx hb dX3_addMoney_11 rfl (lv_at hl 1 rfl) ?_
    refine lv_dup2_11 hx hb dX3_addMoney_12 rfl rfl ?_
    refine g_iald o.toNatClampNeg hx hb hC hI (ok_c 5 hr (by decide)) (e_mo hr g_us) (k_vin c1 rfl) rfl dX3_addMoney_13 ?_
    refine lv_iload_n hx hb dX3_addMoney_14 rfl (lv_at hl 2 rfl) ?_
    refine lv_iadd hx hb dX3_addMoney_15 ?_
    refine g_iast o.toNatClampNeg hx hb hC hI (ok_c 5 hr (by decide)) (e_mo hr g_us) (k_vin c1 rfl) rfl (p_mo hr) g_hs dX3_addMoney_16 (fun H locs hI => ?_)
    exact g_vr hQ hx hb hr0 hlk hC hI dX3_addMoney_17 rfl (by unfold q_addMoney; first | rw [if_pos c1] | rw [if_neg c1])
  · refine lv_if_eq (tgt := 17) hx hb dX3_addMoney_4 (by decide) (fun _ => ?_) (fun c3 => absurd c3 (by decide))
    exact g_vr hQ hx hb hr0 hlk hC hI dX3_addMoney_17 rfl (by unfold q_addMoney; first | rw [if_pos c1] | rw [if_neg c1])
abbrev rm_X3_worth : Room := { frames := 0, cells := 0, slots := 0, locals := 0 }
set_option maxHeartbeats 4000000 in
set_option maxRecDepth 100000 in
theorem c_X3_worth (l : Launch) (D : va_G) (tb : g_T) (ad : g_Ad) (hj : g_inj ad) (P : g_P) (M : g_M) (r : Nat) (hr : r < 6) (V : g_V) (i1 : Nat) (hi1 : i1 < 16) : g_Ci l yX3_worth cX3_worth 2 (some .int) rm_X3_worth D tb ad [.ref (ad r 0), .ref (ad r (12 + i1))] P (va_up M r V) (q_worth V i1) P (va_up M r V) := by
  refine g_go (by decide) (Nat.le_of_ble_eq_true rfl) hj ?_
  intro p e s m below meth c ls H locs R args Q hR0 hQ hx hb hml hr0 hlk hown hts hC hI hl
  subst hR0
  have hown : s.vm.findClass RX3 = some m.cls := hown
  have hl : lv_has ls 2 [(0, .ref (ad r 0)), (1, .ref (ad r (12 + i1)))] := hl
  refine lv_aload_n hx hb dX3_worth_0 rfl (lv_at hl 1 rfl) ?_
  refine g_get 3 hx hb hts hown hC hI i_X1 (ok_rec hr hi1) (e_rec hr hi1 g_us) rfl (by decide) qf_X3_103 rfl rfl dX3_worth_1 ?_
  refine lv_aload_n hx hb dX3_worth_4 rfl (lv_at hl 0 rfl) ?_
  refine g_get 2 hx hb hts hown hC hI i_X3 (ok_c 0 hr (by decide)) (e_st hr g_us) rfl (by decide) qf_X3_23 rfl rfl dX3_worth_5 ?_
  refine lv_iconst (v := 2) hx hb dX3_worth_8 (by decide) ?_
  refine g_iald 2 hx hb hC hI (ok_c 3 hr (by decide)) (e_pr hr g_us) (by unfold vp_in; decide) rfl dX3_worth_9 ?_
  refine lv_imul hx hb dX3_worth_10 ?_
  exact g_ir hQ hx hb hr0 hlk hC hI dX3_worth_11 rfl (by rfl) rfl rfl
abbrev rm_X3_greatestLoan : Room := { frames := 1, cells := 0, slots := 0, locals := 21 }
set_option maxHeartbeats 4000000 in
set_option maxRecDepth 100000 in
theorem c_X3_greatestLoan (l : Launch) (D : va_G) (tb : g_T) (ad : g_Ad) (hj : g_inj ad) (P : g_P) (M : g_M) (r : Nat) (hr : r < 6) (V : g_V) (i1 : Nat) (hi1 : i1 < 16) : g_Ci l yX3_greatestLoan cX3_greatestLoan 2 (some .int) rm_X3_greatestLoan D tb ad [.ref (ad r 0), .ref (ad r (12 + i1))] P (va_up M r V) (q_greatestLoan V i1) P (va_up M r V) := by
  refine g_go (by decide) (Nat.le_of_ble_eq_true rfl) hj ?_
  intro p e s m below meth c ls H locs R args Q hR0 hQ hx hb hml hr0 hlk hown hts hC hI hl
  subst hR0
  have hown : s.vm.findClass RX3 = some m.cls := hown
  have hl : lv_has ls 2 [(0, .ref (ad r 0)), (1, .ref (ad r (12 + i1)))] := hl
  refine lv_aload_n hx hb dX3_greatestLoan_0 rfl (lv_at hl 0 rfl) ?_
  refine lv_aload_n hx hb dX3_greatestLoan_1 rfl (lv_at hl 1 rfl) ?_
  refine g_callVi (rest := []) (c_X3_worth l D tb ad hj P M r hr V i1 hi1) rfl rfl gm_X3_worth hx hb hml hown hts hC hI (ok_c 0 hr (by decide)) (e_st hr g_us) rfl rfl qm_X3_185 rfl hl.1 rfl ⟨rfl, rfl, by decide, by decide⟩ (Nat.le_of_ble_eq_true rfl) ⟨Nat.zero_le _, Nat.zero_le _⟩ dX3_greatestLoan_2 (fun H locs hI => ?_)
  refine lv_aload_n hx hb dX3_greatestLoan_5 rfl (lv_at hl 0 rfl) ?_
  refine g_get 3 hx hb hts hown hC hI i_X3 (ok_c 0 hr (by decide)) (e_st hr g_us) rfl (by decide) qf_X3_27 rfl rfl dX3_greatestLoan_6 ?_
  refine lv_iconst (v := 0) hx hb dX3_greatestLoan_9 (by decide) ?_
  refine g_iald 0 hx hb hC hI (ok_c 4 hr (by decide)) (e_se hr g_us) (by unfold vp_in; decide) rfl dX3_greatestLoan_10 ?_
  refine lv_imul hx hb dX3_greatestLoan_11 ?_
  refine lv_bipush (v := 100) hx hb dX3_greatestLoan_12 (by decide) ?_
  refine lv_idiv hx hb dX3_greatestLoan_14 (by decide) ?_
  exact g_ir hQ hx hb hr0 hlk hC hI dX3_greatestLoan_15 rfl (by rfl) rfl rfl
abbrev rm_X3_callLimit : Room := { frames := 0, cells := 0, slots := 0, locals := 0 }
set_option maxHeartbeats 4000000 in
set_option maxRecDepth 100000 in
theorem c_X3_callLimit (l : Launch) (D : va_G) (tb : g_T) (ad : g_Ad) (hj : g_inj ad) (P : g_P) (M : g_M) (r : Nat) (hr : r < 6) (V : g_V) (w : Int32) : g_Ci l yX3_callLimit cX3_callLimit 2 (some .int) rm_X3_callLimit D tb ad [.ref (ad r 0), .int w] P (va_up M r V) (q_callLimit V w) P (va_up M r V) := by
  refine g_go (by decide) (Nat.le_of_ble_eq_true rfl) hj ?_
  intro p e s m below meth c ls H locs R args Q hR0 hQ hx hb hml hr0 hlk hown hts hC hI hl
  subst hR0
  have hown : s.vm.findClass RX3 = some m.cls := hown
  have hl : lv_has ls 2 [(0, .ref (ad r 0)), (1, .int w)] := hl
  refine lv_iload_n hx hb dX3_callLimit_0 rfl (lv_at hl 1 rfl) ?_
  refine lv_aload_n hx hb dX3_callLimit_1 rfl (lv_at hl 0 rfl) ?_
  refine g_get 3 hx hb hts hown hC hI i_X3 (ok_c 0 hr (by decide)) (e_st hr g_us) rfl (by decide) qf_X3_27 rfl rfl dX3_callLimit_2 ?_
  refine lv_iconst (v := 1) hx hb dX3_callLimit_5 (by decide) ?_
  refine g_iald 1 hx hb hC hI (ok_c 4 hr (by decide)) (e_se hr g_us) (by unfold vp_in; decide) rfl dX3_callLimit_6 ?_
  refine lv_imul hx hb dX3_callLimit_7 ?_
  refine lv_bipush (v := 100) hx hb dX3_callLimit_8 (by decide) ?_
  refine lv_idiv hx hb dX3_callLimit_10 (by decide) ?_
  exact g_ir hQ hx hb hr0 hlk hC hI dX3_callLimit_11 rfl (by rfl) rfl rfl
abbrev rm_X3_isLoanTooHigh : Room := { frames := 1, cells := 0, slots := 0, locals := 21 }
set_option maxHeartbeats 4000000 in
set_option maxRecDepth 100000 in
theorem c_X3_isLoanTooHigh (l : Launch) (D : va_G) (tb : g_T) (ad : g_Ad) (hj : g_inj ad) (P : g_P) (M : g_M) (r : Nat) (hr : r < 6) (V : g_V) (i1 : Nat) (hi1 : i1 < 16) : g_Ci l yX3_isLoanTooHigh cX3_isLoanTooHigh 2 (some .boolean) rm_X3_isLoanTooHigh D tb ad [.ref (ad r 0), .ref (ad r (12 + i1))] P (va_up M r V) (if q_tooHigh V i1 then 1 else 0) P (va_up M r V) := by
  refine g_go (by decide) (Nat.le_of_ble_eq_true rfl) hj ?_
  intro p e s m below meth c ls H locs R args Q hR0 hQ hx hb hml hr0 hlk hown hts hC hI hl
  subst hR0
  have hown : s.vm.findClass RX3 = some m.cls := hown
  have hl : lv_has ls 2 [(0, .ref (ad r 0)), (1, .ref (ad r (12 + i1)))] := hl
  refine lv_aload_n hx hb dX3_isLoanTooHigh_0 rfl (lv_at hl 1 rfl) ?_
  refine g_get 5 hx hb hts hown hC hI i_X1 (ok_rec hr hi1) (e_rec hr hi1 g_us) rfl (by decide) qf_X3_139 rfl rfl dX3_isLoanTooHigh_1 ?_
  refine lv_aload_n hx hb dX3_isLoanTooHigh_4 rfl (lv_at hl 0 rfl) ?_
  refine lv_aload_n hx hb dX3_isLoanTooHigh_5 rfl (lv_at hl 0 rfl) ?_
  refine lv_aload_n hx hb dX3_isLoanTooHigh_6 rfl (lv_at hl 1 rfl) ?_
  refine g_callVi (rest := [.ref (ad r 0), .int (V (12 + i1) 5)]) (c_X3_worth l D tb ad hj P M r hr V i1 hi1) rfl rfl gm_X3_worth hx hb hml hown hts hC hI (ok_c 0 hr (by decide)) (e_st hr g_us) rfl rfl qm_X3_185 rfl hl.1 rfl ⟨rfl, rfl, by decide, by decide⟩ (Nat.le_of_ble_eq_true rfl) ⟨Nat.zero_le _, Nat.zero_le _⟩ dX3_isLoanTooHigh_7 (fun H locs hI => ?_)
  refine g_callVi (rest := [.int (V (12 + i1) 5)]) (c_X3_callLimit l D tb ad hj P M r hr V (q_worth V i1)) rfl rfl gm_X3_callLimit hx hb hml hown hts hC hI (ok_c 0 hr (by decide)) (e_st hr g_us) rfl rfl qm_X3_192 rfl hl.1 rfl ⟨rfl, rfl, by decide, by decide⟩ (Nat.le_of_ble_eq_true rfl) ⟨Nat.zero_le _, Nat.zero_le _⟩ dX3_isLoanTooHigh_10 (fun H locs hI => ?_)
  refine lv_icmp_le (tgt := 20) hx hb dX3_isLoanTooHigh_13 (by decide) (fun c1 => ?_) (fun c1 => ?_)
  · refine lv_iconst (v := 0) hx hb dX3_isLoanTooHigh_20 (by decide) ?_
    exact g_ir hQ hx hb hr0 hlk hC hI dX3_isLoanTooHigh_21 (by rfl) (by simp [c1]) rfl rfl
  · refine lv_iconst (v := 1) hx hb dX3_isLoanTooHigh_16 (by decide) ?_
    refine lv_goto (tgt := 21) hx hb dX3_isLoanTooHigh_17 (by decide) ?_
    exact g_ir hQ hx hb hr0 hlk hC hI dX3_isLoanTooHigh_21 (by rfl) (by simp [c1]) rfl rfl
abbrev rm_X3_wouldBeCalled : Room := { frames := 1, cells := 0, slots := 0, locals := 21 }
set_option maxHeartbeats 4000000 in
set_option maxRecDepth 100000 in
theorem c_X3_wouldBeCalled (l : Launch) (D : va_G) (tb : g_T) (ad : g_Ad) (hj : g_inj ad) (P : g_P) (M : g_M) (r : Nat) (hr : r < 6) (V : g_V) (i1 : Nat) (hi1 : i1 < 16) (le : Int32) (pr : Int32) : g_Ci l yX3_wouldBeCalled cX3_wouldBeCalled 4 (some .boolean) rm_X3_wouldBeCalled D tb ad [.ref (ad r 0), .ref (ad r (12 + i1)), .int le, .int pr] P (va_up M r V) (if q_would V i1 le pr then 1 else 0) P (va_up M r V) := by
  refine g_go (by decide) (Nat.le_of_ble_eq_true rfl) hj ?_
  intro p e s m below meth c ls H locs R args Q hR0 hQ hx hb hml hr0 hlk hown hts hC hI hl
  subst hR0
  have hown : s.vm.findClass RX3 = some m.cls := hown
  have hl : lv_has ls 4 [(0, .ref (ad r 0)), (1, .ref (ad r (12 + i1))), (2, .int le), (3, .int pr)] := hl
  refine lv_aload_n hx hb dX3_wouldBeCalled_0 rfl (lv_at hl 1 rfl) ?_
  refine g_get 4 hx hb hts hown hC hI i_X1 (ok_rec hr hi1) (e_rec hr hi1 g_us) rfl (by decide) qf_X3_136 rfl rfl dX3_wouldBeCalled_1 ?_
  refine lv_iload_n hx hb dX3_wouldBeCalled_4 rfl (lv_at hl 2 rfl) ?_
  refine lv_icmp_ne (tgt := 36) hx hb dX3_wouldBeCalled_5 (by decide) (fun c1 => ?_) (fun c1 => ?_)
  · refine lv_iconst (v := 0) hx hb dX3_wouldBeCalled_36 (by decide) ?_
    exact g_ir hQ hx hb hr0 hlk hC hI dX3_wouldBeCalled_37 (by rfl) (by simp [c1]) rfl rfl
  · refine lv_aload_n hx hb dX3_wouldBeCalled_8 rfl (lv_at hl 1 rfl) ?_
    refine g_callVi (rest := []) (c_X1_isCalled l D tb ad hj P M r hr V i1 hi1) rfl rfl gm_X1_isCalled hx hb hml hown hts hC hI (ok_rec hr hi1) (e_rec hr hi1 g_us) rfl rfl qm_X3_189 rfl hl.1 rfl ⟨rfl, rfl, by decide, by decide⟩ (Nat.le_of_ble_eq_true rfl) ⟨Nat.zero_le _, Nat.zero_le _⟩ dX3_wouldBeCalled_9 (fun H locs hI => ?_)
    refine g_tf (fun c2 => ?_) (fun c2 => ?_)
    · refine lv_if_ne (tgt := 36) hx hb dX3_wouldBeCalled_12 (by decide) (fun _ => ?_) (fun c3 => absurd c3 (by decide))
      refine lv_iconst (v := 0) hx hb dX3_wouldBeCalled_36 (by decide) ?_
      exact g_ir hQ hx hb hr0 hlk hC hI dX3_wouldBeCalled_37 (by rfl) (by simp [c1, c2]) rfl rfl
    · refine lv_if_ne (tgt := 36) hx hb dX3_wouldBeCalled_12 (by decide) (fun c4 => absurd c4 (by decide)) (fun _ => ?_)
      refine lv_aload_n hx hb dX3_wouldBeCalled_15 rfl (lv_at hl 1 rfl) ?_
      refine g_get 5 hx hb hts hown hC hI i_X1 (ok_rec hr hi1) (e_rec hr hi1 g_us) rfl (by decide) qf_X3_139 rfl rfl dX3_wouldBeCalled_16 ?_
      refine lv_aload_n hx hb dX3_wouldBeCalled_19 rfl (lv_at hl 0 rfl) ?_
      refine lv_aload_n hx hb dX3_wouldBeCalled_20 rfl (lv_at hl 1 rfl) ?_
      refine g_get 3 hx hb hts hown hC hI i_X1 (ok_rec hr hi1) (e_rec hr hi1 g_us) rfl (by decide) qf_X3_103 rfl rfl dX3_wouldBeCalled_21 ?_
      refine lv_iload_n hx hb dX3_wouldBeCalled_24 rfl (lv_at hl 3 rfl) ?_
      refine lv_imul hx hb dX3_wouldBeCalled_25 ?_
      refine g_callVi (rest := [.int (V (12 + i1) 5)]) (c_X3_callLimit l D tb ad hj P M r hr V ((V (12 + i1) 3) * pr)) rfl rfl gm_X3_callLimit hx hb hml hown hts hC hI (ok_c 0 hr (by decide)) (e_st hr g_us) rfl rfl qm_X3_192 rfl hl.1 rfl ⟨rfl, rfl, by decide, by decide⟩ (Nat.le_of_ble_eq_true rfl) ⟨Nat.zero_le _, Nat.zero_le _⟩ dX3_wouldBeCalled_26 (fun H locs hI => ?_)
      refine lv_icmp_le (tgt := 36) hx hb dX3_wouldBeCalled_29 (by decide) (fun c5 => ?_) (fun c5 => ?_)
      · refine lv_iconst (v := 0) hx hb dX3_wouldBeCalled_36 (by decide) ?_
        exact g_ir hQ hx hb hr0 hlk hC hI dX3_wouldBeCalled_37 (by rfl) (by simp [c1, c2, c5]) rfl rfl
      · refine lv_iconst (v := 1) hx hb dX3_wouldBeCalled_32 (by decide) ?_
        refine lv_goto (tgt := 37) hx hb dX3_wouldBeCalled_33 (by decide) ?_
        exact g_ir hQ hx hb hr0 hlk hC hI dX3_wouldBeCalled_37 (by rfl) (by simp [c1, c2, c5]) rfl rfl
end
section
theorem k_l0 {x : Int32} (h : 0 < x) : ¬ x.toInt64 = 0 := by
  intro z
  rw [Int32.lt_iff_toInt_lt, Int32.toInt_zero] at h
  have h1 : x.toInt64.toInt = (0 : Int64).toInt := by rw [z]
  rw [Int32.toInt_toInt64] at h1
  have h2 : (0 : Int64).toInt = 0 := by decide
  omega
def q_splitLoanA (V : g_V) (i1 : Nat) (j1 : Nat) : g_V :=
  if 0 < (V (12 + i1) 3) then (if (((((V (12 + i1) 5).toInt64) * ((V (12 + j1) 3).toInt64)) / ((V (12 + i1) 3).toInt64)).toInt32) ≤ 0 then V else (g_w2 (g_w2 (g_w2 V (12 + j1) 4 (V (12 + i1) 4)) (12 + j1) 5 (((((V (12 + i1) 5).toInt64) * ((V (12 + j1) 3).toInt64)) / ((V (12 + i1) 3).toInt64)).toInt32)) (12 + i1) 5 (((g_w2 (g_w2 V (12 + j1) 4 (V (12 + i1) 4)) (12 + j1) 5 (((((V (12 + i1) 5).toInt64) * ((V (12 + j1) 3).toInt64)) / ((V (12 + i1) 3).toInt64)).toInt32)) (12 + i1) 5) - (((((V (12 + i1) 5).toInt64) * ((V (12 + j1) 3).toInt64)) / ((V (12 + i1) 3).toInt64)).toInt32)))) else V
abbrev rm_X3_splitLoan : Room := { frames := 0, cells := 0, slots := 0, locals := 0 }
set_option maxHeartbeats 4000000 in
set_option maxRecDepth 100000 in
theorem c_X3_splitLoan (l : Launch) (D : va_G) (tb : g_T) (ad : g_Ad) (hj : g_inj ad) (P : g_P) (M : g_M) (r : Nat) (hr : r < 6) (V : g_V) (i1 : Nat) (hi1 : i1 < 16) (j1 : Nat) (hj1 : j1 < 16) : g_Cv l yX3_splitLoan cX3_splitLoan 4 none rm_X3_splitLoan D tb ad [.ref (ad r 0), .ref (ad r (12 + i1)), .ref (ad r (12 + j1))] P (va_up M r V) P (va_up M r (q_splitLoanA V i1 j1)) := by
  refine g_go (by decide) (Nat.le_of_ble_eq_true rfl) hj ?_
  intro p e s m below meth c ls H locs R args Q hR0 hQ hx hb hml hr0 hlk hown hts hC hI hl
  subst hR0
  have hown : s.vm.findClass RX3 = some m.cls := hown
  have hl : lv_has ls 4 [(0, .ref (ad r 0)), (1, .ref (ad r (12 + i1))), (2, .ref (ad r (12 + j1)))] := hl
  refine lv_aload_n hx hb dX3_splitLoan_0 rfl (lv_at hl 1 rfl) ?_
  refine g_get 3 hx hb hts hown hC hI i_X1 (ok_rec hr hi1) (e_rec hr hi1 g_us) rfl (by decide) qf_X3_103 rfl rfl dX3_splitLoan_1 ?_
  refine lv_if_gt (tgt := 8) hx hb dX3_splitLoan_4 (by decide) (fun c1 => ?_) (fun c1 => ?_)
  · refine lv_aload_n hx hb dX3_splitLoan_8 rfl (lv_at hl 1 rfl) ?_
    refine g_get 5 hx hb hts hown hC hI i_X1 (ok_rec hr hi1) (e_rec hr hi1 g_us) rfl (by decide) qf_X3_139 rfl rfl dX3_splitLoan_9 ?_
    refine lv_i2l hx hb dX3_splitLoan_12 rfl ?_
    refine lv_aload_n hx hb dX3_splitLoan_13 rfl (lv_at hl 2 rfl) ?_
    refine g_get 3 hx hb hts hown hC hI i_X1 (ok_rec hr hj1) (e_rec hr hj1 g_us) rfl (by decide) qf_X3_103 rfl rfl dX3_splitLoan_14 ?_
    refine lv_i2l hx hb dX3_splitLoan_17 rfl ?_
    refine lv_lmul hx hb dX3_splitLoan_18 ?_
    refine lv_aload_n hx hb dX3_splitLoan_19 rfl (lv_at hl 1 rfl) ?_
    refine g_get 3 hx hb hts hown hC hI i_X1 (ok_rec hr hi1) (e_rec hr hi1 g_us) rfl (by decide) qf_X3_103 rfl rfl dX3_splitLoan_20 ?_
    refine lv_i2l hx hb dX3_splitLoan_23 rfl ?_
    refine lv_ldiv hx hb dX3_splitLoan_24 (k_l0 c1) ?_
    refine lv_l2i hx hb dX3_splitLoan_25 rfl ?_
    refine lv_istore_n (lv' := [(3, .int (((((V (12 + i1) 5).toInt64) * ((V (12 + j1) 3).toInt64)) / ((V (12 + i1) 3).toInt64)).toInt32)), (0, .ref (ad r 0)), (1, .ref (ad r (12 + i1))), (2, .ref (ad r (12 + j1)))]) hx hb dX3_splitLoan_26 rfl hl (by decide) rfl (fun ls hl => ?_)
    refine lv_iload_n hx hb dX3_splitLoan_27 rfl (lv_at hl 0 rfl) ?_
    refine lv_if_le (tgt := 54) hx hb dX3_splitLoan_28 (by decide) (fun c2 => ?_) (fun c2 => ?_)
    · exact g_vr hQ hx hb hr0 hlk hC hI dX3_splitLoan_54 rfl (by unfold q_splitLoanA; (first | rw [if_pos c1] | rw [if_neg c1] | skip); (first | rw [if_pos c2] | rw [if_neg c2] | skip); try rfl)
    · refine lv_aload_n hx hb dX3_splitLoan_31 rfl (lv_at hl 3 rfl) ?_
      refine lv_aload_n hx hb dX3_splitLoan_32 rfl (lv_at hl 2 rfl) ?_
      refine g_get 4 hx hb hts hown hC hI i_X1 (ok_rec hr hi1) (e_rec hr hi1 g_us) rfl (by decide) qf_X3_136 rfl rfl dX3_splitLoan_33 ?_
      refine g_put 4 (ty := .int) hx hb hts hown hC hI i_X1 tyX1_ok nmX1 (ok_rec hr hj1) (e_rec hr hj1 g_us) rfl (by decide) qf_X3_136 rfl rfl rfl rfl rfl (Nat.le_of_ble_eq_true rfl) (p_rec hr hj1 (by decide)) g_hs dX3_splitLoan_36 (fun H locs hI => ?_)
      refine lv_aload_n hx hb dX3_splitLoan_39 rfl (lv_at hl 3 rfl) ?_
      refine lv_iload_n hx hb dX3_splitLoan_40 rfl (lv_at hl 0 rfl) ?_
      refine g_put 5 (ty := .int) hx hb hts hown hC hI i_X1 tyX1_ok nmX1 (ok_rec hr hj1) (e_rec hr hj1 g_us) rfl (by decide) qf_X3_139 rfl rfl rfl rfl rfl (Nat.le_of_ble_eq_true rfl) (p_rec hr hj1 (by decide)) g_hs dX3_splitLoan_41 (fun H locs hI => ?_)
      refine lv_aload_n hx hb dX3_splitLoan_44 rfl (lv_at hl 2 rfl) ?_
      refine lv_dup hx hb dX3_splitLoan_45 rfl ?_
      refine g_get 5 hx hb hts hown hC hI i_X1 (ok_rec hr hi1) (e_rec hr hi1 g_us) rfl (by decide) qf_X3_139 rfl rfl dX3_splitLoan_46 ?_
      refine lv_iload_n hx hb dX3_splitLoan_49 rfl (lv_at hl 0 rfl) ?_
      refine lv_isub hx hb dX3_splitLoan_50 ?_
      refine g_put 5 (ty := .int) hx hb hts hown hC hI i_X1 tyX1_ok nmX1 (ok_rec hr hi1) (e_rec hr hi1 g_us) rfl (by decide) qf_X3_139 rfl rfl rfl rfl rfl (Nat.le_of_ble_eq_true rfl) (p_rec hr hi1 (by decide)) g_hs dX3_splitLoan_51 (fun H locs hI => ?_)
      exact g_vr hQ hx hb hr0 hlk hC hI dX3_splitLoan_54 rfl (by unfold q_splitLoanA; (first | rw [if_pos c1] | rw [if_neg c1] | skip); (first | rw [if_pos c2] | rw [if_neg c2] | skip); try rfl)
  · exact g_vr hQ hx hb hr0 hlk hC hI dX3_splitLoan_7 rfl (by unfold q_splitLoanA; (first | rw [if_pos c1] | rw [if_neg c1] | skip); try rfl)
abbrev rm_X3_seize : Room := { frames := 1, cells := 0, slots := 0, locals := 20 }
set_option maxHeartbeats 4000000 in
set_option maxRecDepth 100000 in
theorem c_X3_seize (l : Launch) (D : va_G) (tb : g_T) (ad : g_Ad) (hj : g_inj ad) (P : g_P) (M : g_M) (r : Nat) (hr : r < 6) (V : g_V) (i1 : Nat) (hi1 : i1 < 16) : g_Cv l yX3_seize cX3_seize 3 none rm_X3_seize D tb ad [.ref (ad r 0), .ref (ad r (12 + i1))] P (va_up M r V) P (va_up M r (q_seize V i1)) := by
  refine g_go (by decide) (Nat.le_of_ble_eq_true rfl) hj ?_
  intro p e s m below meth c ls H locs R args Q hR0 hQ hx hb hml hr0 hlk hown hts hC hI hl
  subst hR0
  have hown : s.vm.findClass RX3 = some m.cls := hown
  have hl : lv_has ls 3 [(0, .ref (ad r 0)), (1, .ref (ad r (12 + i1)))] := hl
  refine lv_aload_n hx hb dX3_seize_0 rfl (lv_at hl 1 rfl) ?_
  refine g_get 4 hx hb hts hown hC hI i_X1 (ok_rec hr hi1) (e_rec hr hi1 g_us) rfl (by decide) qf_X3_136 rfl rfl dX3_seize_1 ?_
  refine lv_istore_n (lv' := [(2, .int (V (12 + i1) 4)), (0, .ref (ad r 0)), (1, .ref (ad r (12 + i1)))]) hx hb dX3_seize_4 rfl hl (by decide) rfl (fun ls hl => ?_)
  refine lv_iload_n hx hb dX3_seize_5 rfl (lv_at hl 0 rfl) ?_
  refine g_callNi (rest := []) (c_X4_isLender l D tb ad hj P (va_up M r V) (V (12 + i1) 4)) rfl rfl gm_X4_isLender hx hb hml hown hts hC hI qN_X3_129 rfl hl.1 rfl ⟨rfl, rfl, by decide, by decide⟩ (Nat.le_of_ble_eq_true rfl) ⟨Nat.zero_le _, Nat.zero_le _⟩ dX3_seize_6 (fun H locs hI => ?_)
  refine g_tf (fun c1 => ?_) (fun c1 => ?_)
  · refine lv_if_eq (tgt := 46) hx hb dX3_seize_9 (by decide) (fun c2 => absurd c2 (by decide)) (fun _ => ?_)
    refine lv_aload_n hx hb dX3_seize_12 rfl (lv_at hl 1 rfl) ?_
    refine g_get 5 hx hb hts hown hC hI i_X3 (ok_c 0 hr (by decide)) (e_st hr g_us) rfl (by decide) qf_X3_33 rfl rfl dX3_seize_13 ?_
    refine lv_iload_n hx hb dX3_seize_16 rfl (lv_at hl 0 rfl) ?_
    refine lv_dup2_11 hx hb dX3_seize_17 rfl rfl ?_
    refine g_iald ((V (12 + i1) 4).toNatClampNeg) hx hb hC hI (ok_c 6 hr (by decide)) (e_sz hr g_us) (k_vin c1 rfl) rfl dX3_seize_18 ?_
    refine lv_aload_n hx hb dX3_seize_19 rfl (lv_at hl 2 rfl) ?_
    refine g_get 5 hx hb hts hown hC hI i_X1 (ok_rec hr hi1) (e_rec hr hi1 g_us) rfl (by decide) qf_X3_139 rfl rfl dX3_seize_20 ?_
    refine lv_iadd hx hb dX3_seize_23 ?_
    refine g_iast ((V (12 + i1) 4).toNatClampNeg) hx hb hC hI (ok_c 6 hr (by decide)) (e_sz hr g_us) (k_vin c1 rfl) rfl (p_sz hr) g_hs dX3_seize_24 (fun H locs hI => ?_)
    refine lv_aload_n hx hb dX3_seize_25 rfl (lv_at hl 1 rfl) ?_
    refine lv_dup hx hb dX3_seize_26 rfl ?_
    refine g_get 8 hx hb hts hown hC hI i_X3 (ok_c 0 hr (by decide)) (e_st hr g_us) rfl (by decide) qf_X3_61 rfl rfl dX3_seize_27 ?_
    refine lv_iconst (v := 1) hx hb dX3_seize_30 (by decide) ?_
    refine lv_iadd hx hb dX3_seize_31 ?_
    refine g_put 8 (ty := .int) hx hb hts hown hC hI i_X3 tyX3_ok nmX3 (ok_c 0 hr (by decide)) (e_st hr g_us) rfl (by decide) qf_X3_61 rfl rfl rfl rfl rfl (Nat.le_of_ble_eq_true rfl) (p_st hr (by decide)) g_hs dX3_seize_32 (fun H locs hI => ?_)
    refine lv_aload_n hx hb dX3_seize_35 rfl (lv_at hl 2 rfl) ?_
    refine lv_iconst (v := 5) hx hb dX3_seize_36 (by decide) ?_
    refine lv_iload_n hx hb dX3_seize_37 rfl (lv_at hl 0 rfl) ?_
    refine lv_iadd hx hb dX3_seize_38 ?_
    refine g_put 1 (ty := .int) hx hb hts hown hC hI i_X1 tyX1_ok nmX1 (ok_rec hr hi1) (e_rec hr hi1 g_us) rfl (by decide) qf_X3_107 rfl rfl rfl rfl rfl (Nat.le_of_ble_eq_true rfl) (p_rec hr hi1 (by decide)) g_hs dX3_seize_39 (fun H locs hI => ?_)
    refine lv_aload_n hx hb dX3_seize_42 rfl (lv_at hl 2 rfl) ?_
    refine g_callVv (rest := []) (c_X1_endPledge l D tb ad hj P M r hr (g_w2 (g_w2 (g_w2 V 6 ((V (12 + i1) 4).toNatClampNeg) ((V 6 ((V (12 + i1) 4).toNatClampNeg)) + (V (12 + i1) 5))) 0 8 (((g_w2 V 6 ((V (12 + i1) 4).toNatClampNeg) ((V 6 ((V (12 + i1) 4).toNatClampNeg)) + (V (12 + i1) 5))) 0 8) + 1)) (12 + i1) 1 (5 + (V (12 + i1) 4))) i1 hi1) rfl rfl gm_X1_endPledge hx hb hml hown hts hC hI (ok_rec hr hi1) (e_rec hr hi1 g_us) rfl rfl qm_X3_148 rfl hl.1 rfl ⟨rfl, rfl, by decide, by decide⟩ (Nat.le_of_ble_eq_true rfl) ⟨Nat.zero_le _, Nat.zero_le _⟩ dX3_seize_43 (fun H locs hI => ?_)
    exact g_vr hQ hx hb hr0 hlk hC hI dX3_seize_46 rfl (by unfold q_seize; (first | rw [if_pos c1] | rw [if_neg c1] | skip); try rfl)
  · refine lv_if_eq (tgt := 46) hx hb dX3_seize_9 (by decide) (fun _ => ?_) (fun c3 => absurd c3 (by decide))
    exact g_vr hQ hx hb hr0 hlk hC hI dX3_seize_46 rfl (by unfold q_seize; (first | rw [if_pos c1] | rw [if_neg c1] | skip); try rfl)
def q_hand (V : g_V) (n : Int32) (o : Int32) : Int32 × g_V :=
  match (q_find V n) with | none => ((-2000000001), V) | some i2 => (if k_in o 8 then (if (V (12 + i2) 1) = o then ((-2000000002), V) else (if q_pledged V i2 then ((-2000000002), V) else (V (12 + i2) 1, (g_w2 V (12 + i2) 1 o)))) else ((-2000000001), V))
abbrev rm_X3_handOn : Room := { frames := 2, cells := 0, slots := 0, locals := 45 }
set_option maxHeartbeats 4000000 in
set_option maxRecDepth 100000 in
theorem c_X3_handOn (l : Launch) (D : va_G) (tb : g_T) (ad : g_Ad) (hj : g_inj ad) (P : g_P) (M : g_M) (r : Nat) (hr : r < 6) (V : g_V) (n : Int32) (o : Int32) : g_Ci l yX3_handOn cX3_handOn 5 (some .int) rm_X3_handOn D tb ad [.ref (ad r 0), .int n, .int o] P (va_up M r V) ((q_hand V n o).1) P (va_up M r ((q_hand V n o).2)) := by
  refine g_go (by decide) (Nat.le_of_ble_eq_true rfl) hj ?_
  intro p e s m below meth c ls H locs R args Q hR0 hQ hx hb hml hr0 hlk hown hts hC hI hl
  subst hR0
  have hown : s.vm.findClass RX3 = some m.cls := hown
  have hl : lv_has ls 5 [(0, .ref (ad r 0)), (1, .int n), (2, .int o)] := hl
  refine lv_aload_n hx hb dX3_handOn_0 rfl (lv_at hl 0 rfl) ?_
  refine lv_iload_n hx hb dX3_handOn_1 rfl (lv_at hl 1 rfl) ?_
  refine g_callVq (rest := []) (c_X3_find l D tb ad hj P M r hr V n) rfl rfl gm_X3_find hx hb hml hown hts hC hI (ok_c 0 hr (by decide)) (e_st hr g_us) rfl rfl qm_X3_99 rfl hl.1 rfl ⟨rfl, rfl, by decide, by decide⟩ (Nat.le_of_ble_eq_true rfl) ⟨Nat.zero_le _, Nat.zero_le _⟩ dX3_handOn_2 (fun H locs hI => ?_)
  refine g_nf (fun q1 => ?_) (fun i2 q1 => ?_)
  · refine lv_astore_nN (lv' := [(3, .null), (0, .ref (ad r 0)), (1, .int n), (2, .int o)]) hx hb dX3_handOn_5 rfl hl (by decide) rfl (fun ls hl => ?_)
    refine lv_aload_nN hx hb dX3_handOn_6 rfl (lv_at hl 0 rfl) ?_
    refine lv_ifnullN (tgt := 17) hx hb dX3_handOn_7 (by decide) ?_
    refine lv_ldc (v := (-2000000001)) hx hb hown (hts _ qc_X3_74) dX3_handOn_17 ?_
    exact g_ir hQ hx hb hr0 hlk hC hI dX3_handOn_19 rfl (by unfold q_hand; (try simp only [q1]); try rfl) rfl (by unfold q_hand; (try simp only [q1]); try rfl)
  · have hi3 : i2 < 16 := k_find_lt q1
    refine lv_astore_n (lv' := [(3, .ref (ad r (12 + i2))), (0, .ref (ad r 0)), (1, .int n), (2, .int o)]) hx hb dX3_handOn_5 rfl hl (by decide) rfl (fun ls hl => ?_)
    refine lv_aload_n hx hb dX3_handOn_6 rfl (lv_at hl 0 rfl) ?_
    refine lv_ifnull hx hb dX3_handOn_7 ?_
    refine lv_iload_n hx hb dX3_handOn_10 rfl (lv_at hl 3 rfl) ?_
    refine g_callNi (rest := []) (c_X4_isOwner l D tb ad hj P (va_up M r V) o) rfl rfl gm_X4_isOwner hx hb hml hown hts hC hI qN_X3_122 rfl hl.1 rfl ⟨rfl, rfl, by decide, by decide⟩ (Nat.le_of_ble_eq_true rfl) ⟨Nat.zero_le _, Nat.zero_le _⟩ dX3_handOn_11 (fun H locs hI => ?_)
    refine g_tf (fun c4 => ?_) (fun c4 => ?_)
    · refine lv_if_ne (tgt := 20) hx hb dX3_handOn_14 (by decide) (fun _ => ?_) (fun c5 => absurd c5 (by decide))
      refine lv_aload_n hx hb dX3_handOn_20 rfl (lv_at hl 0 rfl) ?_
      refine g_get 1 hx hb hts hown hC hI i_X1 (ok_rec hr hi3) (e_rec hr hi3 g_us) rfl (by decide) qf_X3_107 rfl rfl dX3_handOn_21 ?_
      refine lv_iload_n hx hb dX3_handOn_24 rfl (lv_at hl 3 rfl) ?_
      refine lv_icmp_eq (tgt := 35) hx hb dX3_handOn_25 (by decide) (fun c6 => ?_) (fun c6 => ?_)
      · refine lv_ldc (v := (-2000000002)) hx hb hown (hts _ qc_X3_106) dX3_handOn_35 ?_
        exact g_ir hQ hx hb hr0 hlk hC hI dX3_handOn_37 rfl (by unfold q_hand; (try simp only [q1]); (first | rw [if_pos c4] | rw [if_neg c4] | skip); (first | rw [if_pos c6] | rw [if_neg c6] | skip); try rfl) rfl (by unfold q_hand; (try simp only [q1]); (first | rw [if_pos c4] | rw [if_neg c4] | skip); (first | rw [if_pos c6] | rw [if_neg c6] | skip); try rfl)
      · refine lv_aload_n hx hb dX3_handOn_28 rfl (lv_at hl 0 rfl) ?_
        refine g_callVi (rest := []) (c_X1_isPledged l D tb ad hj P M r hr V i2 hi3) rfl rfl gm_X1_isPledged hx hb hml hown hts hC hI (ok_rec hr hi3) (e_rec hr hi3 g_us) rfl rfl qm_X3_115 rfl hl.1 rfl ⟨rfl, rfl, by decide, by decide⟩ (Nat.le_of_ble_eq_true rfl) ⟨Nat.zero_le _, Nat.zero_le _⟩ dX3_handOn_29 (fun H locs hI => ?_)
        refine g_tf (fun c7 => ?_) (fun c7 => ?_)
        · refine lv_if_eq (tgt := 38) hx hb dX3_handOn_32 (by decide) (fun c8 => absurd c8 (by decide)) (fun _ => ?_)
          refine lv_ldc (v := (-2000000002)) hx hb hown (hts _ qc_X3_106) dX3_handOn_35 ?_
          exact g_ir hQ hx hb hr0 hlk hC hI dX3_handOn_37 rfl (by unfold q_hand; (try simp only [q1]); (first | rw [if_pos c4] | rw [if_neg c4] | skip); (first | rw [if_pos c6] | rw [if_neg c6] | skip); (first | rw [if_pos c7] | rw [if_neg c7] | skip); try rfl) rfl (by unfold q_hand; (try simp only [q1]); (first | rw [if_pos c4] | rw [if_neg c4] | skip); (first | rw [if_pos c6] | rw [if_neg c6] | skip); (first | rw [if_pos c7] | rw [if_neg c7] | skip); try rfl)
        · refine lv_if_eq (tgt := 38) hx hb dX3_handOn_32 (by decide) (fun _ => ?_) (fun c9 => absurd c9 (by decide))
          refine lv_aload_n hx hb dX3_handOn_38 rfl (lv_at hl 0 rfl) ?_
          refine g_get 1 hx hb hts hown hC hI i_X1 (ok_rec hr hi3) (e_rec hr hi3 g_us) rfl (by decide) qf_X3_107 rfl rfl dX3_handOn_39 ?_
          refine lv_istore (lv' := [(4, .int (V (12 + i2) 1)), (3, .ref (ad r (12 + i2))), (0, .ref (ad r 0)), (1, .int n), (2, .int o)]) hx hb dX3_handOn_42 hl (by decide) rfl (fun ls hl => ?_)
          refine lv_aload_n hx hb dX3_handOn_44 rfl (lv_at hl 1 rfl) ?_
          refine lv_iload_n hx hb dX3_handOn_45 rfl (lv_at hl 4 rfl) ?_
          refine g_put 1 (ty := .int) hx hb hts hown hC hI i_X1 tyX1_ok nmX1 (ok_rec hr hi3) (e_rec hr hi3 g_us) rfl (by decide) qf_X3_107 rfl rfl rfl rfl rfl (Nat.le_of_ble_eq_true rfl) (p_rec hr hi3 (by decide)) g_hs dX3_handOn_46 (fun H locs hI => ?_)
          refine lv_iload hx hb dX3_handOn_49 (lv_at hl 0 rfl) ?_
          exact g_ir hQ hx hb hr0 hlk hC hI dX3_handOn_51 rfl (by unfold q_hand; (try simp only [q1]); (first | rw [if_pos c4] | rw [if_neg c4] | skip); (first | rw [if_pos c6] | rw [if_neg c6] | skip); (first | rw [if_pos c7] | rw [if_neg c7] | skip); try rfl) rfl (by unfold q_hand; (try simp only [q1]); (first | rw [if_pos c4] | rw [if_neg c4] | skip); (first | rw [if_pos c6] | rw [if_neg c6] | skip); (first | rw [if_pos c7] | rw [if_neg c7] | skip); try rfl)
    · refine lv_if_ne (tgt := 20) hx hb dX3_handOn_14 (by decide) (fun c10 => absurd c10 (by decide)) (fun _ => ?_)
      refine lv_ldc (v := (-2000000001)) hx hb hown (hts _ qc_X3_74) dX3_handOn_17 ?_
      exact g_ir hQ hx hb hr0 hlk hC hI dX3_handOn_19 rfl (by unfold q_hand; (try simp only [q1]); (first | rw [if_pos c4] | rw [if_neg c4] | skip); try rfl) rfl (by unfold q_hand; (try simp only [q1]); (first | rw [if_pos c4] | rw [if_neg c4] | skip); try rfl)
def q_join (V : g_V) (n : Int32) (o : Int32) : Int32 × g_V :=
  match (q_find V n) with | none => (match (q_find V o) with | none => ((-2000000001), V) | some i4 => ((-2000000001), V)) | some i2 => (match (q_find V o) with | none => ((-2000000001), V) | some i8 => (if n = o then ((-2000000001), V) else (if (V (12 + i2) 1) = (V (12 + i8) 1) then (if (V (12 + i2) 2) = (V (12 + i8) 2) then (if q_pledged V i2 then ((-2000000002), V) else (if q_pledged V i8 then ((-2000000002), V) else ((q_free (g_w2 V (12 + i8) 3 ((V (12 + i8) 3) + (V (12 + i2) 3))) i2) (12 + i8) 3, (q_free (g_w2 V (12 + i8) 3 ((V (12 + i8) 3) + (V (12 + i2) 3))) i2)))) else ((-2000000002), V)) else ((-2000000002), V))))
abbrev rm_X3_joinInto : Room := { frames := 2, cells := 0, slots := 0, locals := 45 }
set_option maxHeartbeats 4000000 in
set_option maxRecDepth 100000 in
theorem c_X3_joinInto (l : Launch) (D : va_G) (tb : g_T) (ad : g_Ad) (hj : g_inj ad) (P : g_P) (M : g_M) (r : Nat) (hr : r < 6) (V : g_V) (n : Int32) (o : Int32) : g_Ci l yX3_joinInto cX3_joinInto 5 (some .int) rm_X3_joinInto D tb ad [.ref (ad r 0), .int n, .int o] P (va_up M r V) ((q_join V n o).1) P (va_up M r ((q_join V n o).2)) := by
  refine g_go (by decide) (Nat.le_of_ble_eq_true rfl) hj ?_
  intro p e s m below meth c ls H locs R args Q hR0 hQ hx hb hml hr0 hlk hown hts hC hI hl
  subst hR0
  have hown : s.vm.findClass RX3 = some m.cls := hown
  have hl : lv_has ls 5 [(0, .ref (ad r 0)), (1, .int n), (2, .int o)] := hl
  refine lv_aload_n hx hb dX3_joinInto_0 rfl (lv_at hl 0 rfl) ?_
  refine lv_iload_n hx hb dX3_joinInto_1 rfl (lv_at hl 1 rfl) ?_
  refine g_callVq (rest := []) (c_X3_find l D tb ad hj P M r hr V n) rfl rfl gm_X3_find hx hb hml hown hts hC hI (ok_c 0 hr (by decide)) (e_st hr g_us) rfl rfl qm_X3_99 rfl hl.1 rfl ⟨rfl, rfl, by decide, by decide⟩ (Nat.le_of_ble_eq_true rfl) ⟨Nat.zero_le _, Nat.zero_le _⟩ dX3_joinInto_2 (fun H locs hI => ?_)
  refine g_nf (fun q1 => ?_) (fun i2 q1 => ?_)
  · refine lv_astore_nN (lv' := [(3, .null), (0, .ref (ad r 0)), (1, .int n), (2, .int o)]) hx hb dX3_joinInto_5 rfl hl (by decide) rfl (fun ls hl => ?_)
    refine lv_aload_n hx hb dX3_joinInto_6 rfl (lv_at hl 1 rfl) ?_
    refine lv_iload_n hx hb dX3_joinInto_7 rfl (lv_at hl 3 rfl) ?_
    refine g_callVq (rest := []) (c_X3_find l D tb ad hj P M r hr V o) rfl rfl gm_X3_find hx hb hml hown hts hC hI (ok_c 0 hr (by decide)) (e_st hr g_us) rfl rfl qm_X3_99 rfl hl.1 rfl ⟨rfl, rfl, by decide, by decide⟩ (Nat.le_of_ble_eq_true rfl) ⟨Nat.zero_le _, Nat.zero_le _⟩ dX3_joinInto_8 (fun H locs hI => ?_)
    refine g_nf (fun q3 => ?_) (fun i4 q3 => ?_)
    · refine lv_astoreN (lv' := [(4, .null), (3, .null), (0, .ref (ad r 0)), (1, .int n), (2, .int o)]) hx hb dX3_joinInto_11 hl (by decide) rfl (fun ls hl => ?_)
      refine lv_aload_nN hx hb dX3_joinInto_13 rfl (lv_at hl 1 rfl) ?_
      refine lv_ifnullN (tgt := 27) hx hb dX3_joinInto_14 (by decide) ?_
      refine lv_ldc (v := (-2000000001)) hx hb hown (hts _ qc_X3_74) dX3_joinInto_27 ?_
      exact g_ir hQ hx hb hr0 hlk hC hI dX3_joinInto_29 rfl (by unfold q_join; (try simp only [q1]); (try simp only [q3]); try rfl) rfl (by unfold q_join; (try simp only [q1]); (try simp only [q3]); try rfl)
    · have hi5 : i4 < 16 := k_find_lt q3
      refine lv_astore (lv' := [(4, .ref (ad r (12 + i4))), (3, .null), (0, .ref (ad r 0)), (1, .int n), (2, .int o)]) hx hb dX3_joinInto_11 hl (by decide) rfl (fun ls hl => ?_)
      refine lv_aload_nN hx hb dX3_joinInto_13 rfl (lv_at hl 1 rfl) ?_
      refine lv_ifnullN (tgt := 27) hx hb dX3_joinInto_14 (by decide) ?_
      refine lv_ldc (v := (-2000000001)) hx hb hown (hts _ qc_X3_74) dX3_joinInto_27 ?_
      exact g_ir hQ hx hb hr0 hlk hC hI dX3_joinInto_29 rfl (by unfold q_join; (try simp only [q1]); (try simp only [q3]); try rfl) rfl (by unfold q_join; (try simp only [q1]); (try simp only [q3]); try rfl)
  · have hi6 : i2 < 16 := k_find_lt q1
    refine lv_astore_n (lv' := [(3, .ref (ad r (12 + i2))), (0, .ref (ad r 0)), (1, .int n), (2, .int o)]) hx hb dX3_joinInto_5 rfl hl (by decide) rfl (fun ls hl => ?_)
    refine lv_aload_n hx hb dX3_joinInto_6 rfl (lv_at hl 1 rfl) ?_
    refine lv_iload_n hx hb dX3_joinInto_7 rfl (lv_at hl 3 rfl) ?_
    refine g_callVq (rest := []) (c_X3_find l D tb ad hj P M r hr V o) rfl rfl gm_X3_find hx hb hml hown hts hC hI (ok_c 0 hr (by decide)) (e_st hr g_us) rfl rfl qm_X3_99 rfl hl.1 rfl ⟨rfl, rfl, by decide, by decide⟩ (Nat.le_of_ble_eq_true rfl) ⟨Nat.zero_le _, Nat.zero_le _⟩ dX3_joinInto_8 (fun H locs hI => ?_)
    refine g_nf (fun q7 => ?_) (fun i8 q7 => ?_)
    · refine lv_astoreN (lv' := [(4, .null), (3, .ref (ad r (12 + i2))), (0, .ref (ad r 0)), (1, .int n), (2, .int o)]) hx hb dX3_joinInto_11 hl (by decide) rfl (fun ls hl => ?_)
      refine lv_aload_n hx hb dX3_joinInto_13 rfl (lv_at hl 1 rfl) ?_
      refine lv_ifnull hx hb dX3_joinInto_14 ?_
      refine lv_aloadN hx hb dX3_joinInto_17 (lv_at hl 0 rfl) ?_
      refine lv_ifnullN (tgt := 27) hx hb dX3_joinInto_19 (by decide) ?_
      refine lv_ldc (v := (-2000000001)) hx hb hown (hts _ qc_X3_74) dX3_joinInto_27 ?_
      exact g_ir hQ hx hb hr0 hlk hC hI dX3_joinInto_29 rfl (by unfold q_join; (try simp only [q1]); (try simp only [q7]); try rfl) rfl (by unfold q_join; (try simp only [q1]); (try simp only [q7]); try rfl)
    · have hi9 : i8 < 16 := k_find_lt q7
      refine lv_astore (lv' := [(4, .ref (ad r (12 + i8))), (3, .ref (ad r (12 + i2))), (0, .ref (ad r 0)), (1, .int n), (2, .int o)]) hx hb dX3_joinInto_11 hl (by decide) rfl (fun ls hl => ?_)
      refine lv_aload_n hx hb dX3_joinInto_13 rfl (lv_at hl 1 rfl) ?_
      refine lv_ifnull hx hb dX3_joinInto_14 ?_
      refine lv_aload hx hb dX3_joinInto_17 (lv_at hl 0 rfl) ?_
      refine lv_ifnull hx hb dX3_joinInto_19 ?_
      refine lv_iload_n hx hb dX3_joinInto_22 rfl (lv_at hl 3 rfl) ?_
      refine lv_iload_n hx hb dX3_joinInto_23 rfl (lv_at hl 4 rfl) ?_
      refine lv_icmp_ne (tgt := 30) hx hb dX3_joinInto_24 (by decide) (fun c10 => ?_) (fun c10 => ?_)
      · refine lv_aload_n hx hb dX3_joinInto_30 rfl (lv_at hl 1 rfl) ?_
        refine g_get 1 hx hb hts hown hC hI i_X1 (ok_rec hr hi6) (e_rec hr hi6 g_us) rfl (by decide) qf_X3_107 rfl rfl dX3_joinInto_31 ?_
        refine lv_aload hx hb dX3_joinInto_34 (lv_at hl 0 rfl) ?_
        refine g_get 1 hx hb hts hown hC hI i_X1 (ok_rec hr hi9) (e_rec hr hi9 g_us) rfl (by decide) qf_X3_107 rfl rfl dX3_joinInto_36 ?_
        refine lv_icmp_ne (tgt := 69) hx hb dX3_joinInto_39 (by decide) (fun c11 => ?_) (fun c11 => ?_)
        · refine lv_ldc (v := (-2000000002)) hx hb hown (hts _ qc_X3_106) dX3_joinInto_69 ?_
          exact g_ir hQ hx hb hr0 hlk hC hI dX3_joinInto_71 rfl (by unfold q_join; (try simp only [q1]); (try simp only [q7]); (first | rw [if_pos c10] | rw [if_neg c10] | skip); (first | rw [if_pos c11] | rw [if_neg c11] | skip); try rfl) rfl (by unfold q_join; (try simp only [q1]); (try simp only [q7]); (first | rw [if_pos c10] | rw [if_neg c10] | skip); (first | rw [if_pos c11] | rw [if_neg c11] | skip); try rfl)
        · refine lv_aload_n hx hb dX3_joinInto_42 rfl (lv_at hl 1 rfl) ?_
          refine g_get 2 hx hb hts hown hC hI i_X1 (ok_rec hr hi6) (e_rec hr hi6 g_us) rfl (by decide) qf_X3_110 rfl rfl dX3_joinInto_43 ?_
          refine lv_aload hx hb dX3_joinInto_46 (lv_at hl 0 rfl) ?_
          refine g_get 2 hx hb hts hown hC hI i_X1 (ok_rec hr hi9) (e_rec hr hi9 g_us) rfl (by decide) qf_X3_110 rfl rfl dX3_joinInto_48 ?_
          refine lv_icmp_ne (tgt := 69) hx hb dX3_joinInto_51 (by decide) (fun c12 => ?_) (fun c12 => ?_)
          · refine lv_ldc (v := (-2000000002)) hx hb hown (hts _ qc_X3_106) dX3_joinInto_69 ?_
            exact g_ir hQ hx hb hr0 hlk hC hI dX3_joinInto_71 rfl (by unfold q_join; (try simp only [q1]); (try simp only [q7]); (first | rw [if_pos c10] | rw [if_neg c10] | skip); (first | rw [if_pos c11] | rw [if_neg c11] | skip); (first | rw [if_pos c12] | rw [if_neg c12] | skip); try rfl) rfl (by unfold q_join; (try simp only [q1]); (try simp only [q7]); (first | rw [if_pos c10] | rw [if_neg c10] | skip); (first | rw [if_pos c11] | rw [if_neg c11] | skip); (first | rw [if_pos c12] | rw [if_neg c12] | skip); try rfl)
          · refine lv_aload_n hx hb dX3_joinInto_54 rfl (lv_at hl 1 rfl) ?_
            refine g_callVi (rest := []) (c_X1_isPledged l D tb ad hj P M r hr V i2 hi6) rfl rfl gm_X1_isPledged hx hb hml hown hts hC hI (ok_rec hr hi6) (e_rec hr hi6 g_us) rfl rfl qm_X3_115 rfl hl.1 rfl ⟨rfl, rfl, by decide, by decide⟩ (Nat.le_of_ble_eq_true rfl) ⟨Nat.zero_le _, Nat.zero_le _⟩ dX3_joinInto_55 (fun H locs hI => ?_)
            refine g_tf (fun c13 => ?_) (fun c13 => ?_)
            · refine lv_if_ne (tgt := 69) hx hb dX3_joinInto_58 (by decide) (fun _ => ?_) (fun c14 => absurd c14 (by decide))
              refine lv_ldc (v := (-2000000002)) hx hb hown (hts _ qc_X3_106) dX3_joinInto_69 ?_
              exact g_ir hQ hx hb hr0 hlk hC hI dX3_joinInto_71 rfl (by unfold q_join; (try simp only [q1]); (try simp only [q7]); (first | rw [if_pos c10] | rw [if_neg c10] | skip); (first | rw [if_pos c11] | rw [if_neg c11] | skip); (first | rw [if_pos c12] | rw [if_neg c12] | skip); (first | rw [if_pos c13] | rw [if_neg c13] | skip); try rfl) rfl (by unfold q_join; (try simp only [q1]); (try simp only [q7]); (first | rw [if_pos c10] | rw [if_neg c10] | skip); (first | rw [if_pos c11] | rw [if_neg c11] | skip); (first | rw [if_pos c12] | rw [if_neg c12] | skip); (first | rw [if_pos c13] | rw [if_neg c13] | skip); try rfl)
            · refine lv_if_ne (tgt := 69) hx hb dX3_joinInto_58 (by decide) (fun c15 => absurd c15 (by decide)) (fun _ => ?_)
              refine lv_aload hx hb dX3_joinInto_61 (lv_at hl 0 rfl) ?_
              refine g_callVi (rest := []) (c_X1_isPledged l D tb ad hj P M r hr V i8 hi9) rfl rfl gm_X1_isPledged hx hb hml hown hts hC hI (ok_rec hr hi9) (e_rec hr hi9 g_us) rfl rfl qm_X3_115 rfl hl.1 rfl ⟨rfl, rfl, by decide, by decide⟩ (Nat.le_of_ble_eq_true rfl) ⟨Nat.zero_le _, Nat.zero_le _⟩ dX3_joinInto_63 (fun H locs hI => ?_)
              refine g_tf (fun c16 => ?_) (fun c16 => ?_)
              · refine lv_if_eq (tgt := 72) hx hb dX3_joinInto_66 (by decide) (fun c17 => absurd c17 (by decide)) (fun _ => ?_)
                refine lv_ldc (v := (-2000000002)) hx hb hown (hts _ qc_X3_106) dX3_joinInto_69 ?_
                exact g_ir hQ hx hb hr0 hlk hC hI dX3_joinInto_71 rfl (by unfold q_join; (try simp only [q1]); (try simp only [q7]); (first | rw [if_pos c10] | rw [if_neg c10] | skip); (first | rw [if_pos c11] | rw [if_neg c11] | skip); (first | rw [if_pos c12] | rw [if_neg c12] | skip); (first | rw [if_pos c13] | rw [if_neg c13] | skip); (first | rw [if_pos c16] | rw [if_neg c16] | skip); try rfl) rfl (by unfold q_join; (try simp only [q1]); (try simp only [q7]); (first | rw [if_pos c10] | rw [if_neg c10] | skip); (first | rw [if_pos c11] | rw [if_neg c11] | skip); (first | rw [if_pos c12] | rw [if_neg c12] | skip); (first | rw [if_pos c13] | rw [if_neg c13] | skip); (first | rw [if_pos c16] | rw [if_neg c16] | skip); try rfl)
              · refine lv_if_eq (tgt := 72) hx hb dX3_joinInto_66 (by decide) (fun _ => ?_) (fun c18 => absurd c18 (by decide))
                refine lv_aload hx hb dX3_joinInto_72 (lv_at hl 0 rfl) ?_
                refine lv_dup hx hb dX3_joinInto_74 rfl ?_
                refine g_get 3 hx hb hts hown hC hI i_X1 (ok_rec hr hi9) (e_rec hr hi9 g_us) rfl (by decide) qf_X3_103 rfl rfl dX3_joinInto_75 ?_
                refine lv_aload_n hx hb dX3_joinInto_78 rfl (lv_at hl 1 rfl) ?_
                refine g_get 3 hx hb hts hown hC hI i_X1 (ok_rec hr hi6) (e_rec hr hi6 g_us) rfl (by decide) qf_X3_103 rfl rfl dX3_joinInto_79 ?_
                refine lv_iadd hx hb dX3_joinInto_82 ?_
                refine g_put 3 (ty := .int) hx hb hts hown hC hI i_X1 tyX1_ok nmX1 (ok_rec hr hi9) (e_rec hr hi9 g_us) rfl (by decide) qf_X3_103 rfl rfl rfl rfl rfl (Nat.le_of_ble_eq_true rfl) (p_rec hr hi9 (by decide)) g_hs dX3_joinInto_83 (fun H locs hI => ?_)
                refine lv_aload_n hx hb dX3_joinInto_86 rfl (lv_at hl 1 rfl) ?_
                refine g_callVv (rest := []) (c_X1_free l D tb ad hj P M r hr (g_w2 V (12 + i8) 3 ((V (12 + i8) 3) + (V (12 + i2) 3))) i2 hi6) rfl rfl gm_X1_free hx hb hml hown hts hC hI (ok_rec hr hi6) (e_rec hr hi6 g_us) rfl rfl qm_X3_119 rfl hl.1 rfl ⟨rfl, rfl, by decide, by decide⟩ (Nat.le_of_ble_eq_true rfl) ⟨Nat.zero_le _, Nat.zero_le _⟩ dX3_joinInto_87 (fun H locs hI => ?_)
                refine lv_aload hx hb dX3_joinInto_90 (lv_at hl 0 rfl) ?_
                refine g_get 3 hx hb hts hown hC hI i_X1 (ok_rec hr hi9) (e_rec hr hi9 g_us) rfl (by decide) qf_X3_103 rfl rfl dX3_joinInto_92 ?_
                exact g_ir hQ hx hb hr0 hlk hC hI dX3_joinInto_95 rfl (by unfold q_join; (try simp only [q1]); (try simp only [q7]); (first | rw [if_pos c10] | rw [if_neg c10] | skip); (first | rw [if_pos c11] | rw [if_neg c11] | skip); (first | rw [if_pos c12] | rw [if_neg c12] | skip); (first | rw [if_pos c13] | rw [if_neg c13] | skip); (first | rw [if_pos c16] | rw [if_neg c16] | skip); try rfl) rfl (by unfold q_join; (try simp only [q1]); (try simp only [q7]); (first | rw [if_pos c10] | rw [if_neg c10] | skip); (first | rw [if_pos c11] | rw [if_neg c11] | skip); (first | rw [if_pos c12] | rw [if_neg c12] | skip); (first | rw [if_pos c13] | rw [if_neg c13] | skip); (first | rw [if_pos c16] | rw [if_neg c16] | skip); try rfl)
      · refine lv_ldc (v := (-2000000001)) hx hb hown (hts _ qc_X3_74) dX3_joinInto_27 ?_
        exact g_ir hQ hx hb hr0 hlk hC hI dX3_joinInto_29 rfl (by unfold q_join; (try simp only [q1]); (try simp only [q7]); (first | rw [if_pos c10] | rw [if_neg c10] | skip); try rfl) rfl (by unfold q_join; (try simp only [q1]); (try simp only [q7]); (first | rw [if_pos c10] | rw [if_neg c10] | skip); try rfl)
def q_price (V : g_V) (g : Int32) (x : Int32) : Int32 × g_V :=
  if k_in g 3 then (if x < 1 then ((-2000000001), V) else (if x ≤ 99 then (V 3 g.toNatClampNeg, (g_w2 V 3 g.toNatClampNeg x)) else ((-2000000001), V))) else ((-2000000001), V)
abbrev rm_X3_changePrice : Room := { frames := 1, cells := 0, slots := 0, locals := 20 }
set_option maxHeartbeats 4000000 in
set_option maxRecDepth 100000 in
theorem c_X3_changePrice (l : Launch) (D : va_G) (tb : g_T) (ad : g_Ad) (hj : g_inj ad) (P : g_P) (M : g_M) (r : Nat) (hr : r < 6) (V : g_V) (g : Int32) (x : Int32) : g_Ci l yX3_changePrice cX3_changePrice 4 (some .int) rm_X3_changePrice D tb ad [.ref (ad r 0), .int g, .int x] P (va_up M r V) ((q_price V g x).1) P (va_up M r ((q_price V g x).2)) := by
  refine g_go (by decide) (Nat.le_of_ble_eq_true rfl) hj ?_
  intro p e s m below meth c ls H locs R args Q hR0 hQ hx hb hml hr0 hlk hown hts hC hI hl
  subst hR0
  have hown : s.vm.findClass RX3 = some m.cls := hown
  have hl : lv_has ls 4 [(0, .ref (ad r 0)), (1, .int g), (2, .int x)] := hl
  refine lv_iload_n hx hb dX3_changePrice_0 rfl (lv_at hl 1 rfl) ?_
  refine g_callNi (rest := []) (c_X4_isGrade l D tb ad hj P (va_up M r V) g) rfl rfl gm_X4_isGrade hx hb hml hown hts hC hI qN_X3_70 rfl hl.1 rfl ⟨rfl, rfl, by decide, by decide⟩ (Nat.le_of_ble_eq_true rfl) ⟨Nat.zero_le _, Nat.zero_le _⟩ dX3_changePrice_1 (fun H locs hI => ?_)
  refine g_tf (fun c1 => ?_) (fun c1 => ?_)
  · refine lv_if_eq (tgt := 18) hx hb dX3_changePrice_4 (by decide) (fun c2 => absurd c2 (by decide)) (fun _ => ?_)
    refine lv_iload_n hx hb dX3_changePrice_7 rfl (lv_at hl 2 rfl) ?_
    refine lv_iconst (v := 1) hx hb dX3_changePrice_8 (by decide) ?_
    refine lv_icmp_lt (tgt := 18) hx hb dX3_changePrice_9 (by decide) (fun c3 => ?_) (fun c3 => ?_)
    · refine lv_ldc (v := (-2000000001)) hx hb hown (hts _ qc_X3_74) dX3_changePrice_18 ?_
      exact g_ir hQ hx hb hr0 hlk hC hI dX3_changePrice_20 rfl (by unfold q_price; (first | rw [if_pos c1] | rw [if_neg c1] | skip); (first | rw [if_pos c3] | rw [if_neg c3] | skip); try rfl) rfl (by unfold q_price; (first | rw [if_pos c1] | rw [if_neg c1] | skip); (first | rw [if_pos c3] | rw [if_neg c3] | skip); try rfl)
    · refine lv_iload_n hx hb dX3_changePrice_12 rfl (lv_at hl 2 rfl) ?_
      refine lv_bipush (v := 99) hx hb dX3_changePrice_13 (by decide) ?_
      refine lv_icmp_le (tgt := 21) hx hb dX3_changePrice_15 (by decide) (fun c4 => ?_) (fun c4 => ?_)
      · refine lv_aload_n hx hb dX3_changePrice_21 rfl (lv_at hl 0 rfl) ?_
        refine g_get 2 hx hb hts hown hC hI i_X3 (ok_c 0 hr (by decide)) (e_st hr g_us) rfl (by decide) qf_X3_23 rfl rfl dX3_changePrice_22 ?_
        refine lv_iload_n hx hb dX3_changePrice_25 rfl (lv_at hl 1 rfl) ?_
        refine g_iald g.toNatClampNeg hx hb hC hI (ok_c 3 hr (by decide)) (e_pr hr g_us) (k_vin c1 rfl) rfl dX3_changePrice_26 ?_
        refine lv_istore_n (lv' := [(3, .int (V 3 g.toNatClampNeg)), (0, .ref (ad r 0)), (1, .int g), (2, .int x)]) hx hb dX3_changePrice_27 rfl hl (by decide) rfl (fun ls hl => ?_)
        refine lv_aload_n hx hb dX3_changePrice_28 rfl (lv_at hl 1 rfl) ?_
        refine g_get 2 hx hb hts hown hC hI i_X3 (ok_c 0 hr (by decide)) (e_st hr g_us) rfl (by decide) qf_X3_23 rfl rfl dX3_changePrice_29 ?_
        refine lv_iload_n hx hb dX3_changePrice_32 rfl (lv_at hl 2 rfl) ?_
        refine lv_iload_n hx hb dX3_changePrice_33 rfl (lv_at hl 3 rfl) ?_
        refine g_iast g.toNatClampNeg hx hb hC hI (ok_c 3 hr (by decide)) (e_pr hr g_us) (k_vin c1 rfl) rfl (p_pr hr) g_hs dX3_changePrice_34 (fun H locs hI => ?_)
        refine lv_iload_n hx hb dX3_changePrice_35 rfl (lv_at hl 0 rfl) ?_
        exact g_ir hQ hx hb hr0 hlk hC hI dX3_changePrice_36 rfl (by unfold q_price; (first | rw [if_pos c1] | rw [if_neg c1] | skip); (first | rw [if_pos c3] | rw [if_neg c3] | skip); (first | rw [if_pos c4] | rw [if_neg c4] | skip); try rfl) rfl (by unfold q_price; (first | rw [if_pos c1] | rw [if_neg c1] | skip); (first | rw [if_pos c3] | rw [if_neg c3] | skip); (first | rw [if_pos c4] | rw [if_neg c4] | skip); try rfl)
      · refine lv_ldc (v := (-2000000001)) hx hb hown (hts _ qc_X3_74) dX3_changePrice_18 ?_
        exact g_ir hQ hx hb hr0 hlk hC hI dX3_changePrice_20 rfl (by unfold q_price; (first | rw [if_pos c1] | rw [if_neg c1] | skip); (first | rw [if_pos c3] | rw [if_neg c3] | skip); (first | rw [if_pos c4] | rw [if_neg c4] | skip); try rfl) rfl (by unfold q_price; (first | rw [if_pos c1] | rw [if_neg c1] | skip); (first | rw [if_pos c3] | rw [if_neg c3] | skip); (first | rw [if_pos c4] | rw [if_neg c4] | skip); try rfl)
  · refine lv_if_eq (tgt := 18) hx hb dX3_changePrice_4 (by decide) (fun _ => ?_) (fun c5 => absurd c5 (by decide))
    refine lv_ldc (v := (-2000000001)) hx hb hown (hts _ qc_X3_74) dX3_changePrice_18 ?_
    exact g_ir hQ hx hb hr0 hlk hC hI dX3_changePrice_20 rfl (by unfold q_price; (first | rw [if_pos c1] | rw [if_neg c1] | skip); try rfl) rfl (by unfold q_price; (first | rw [if_pos c1] | rw [if_neg c1] | skip); try rfl)
def q_pledge (V : g_V) (n : Int32) (le : Int32) (lo : Int32) : Int32 × g_V :=
  match (q_find V n) with | none => ((-2000000001), V) | some i2 => (if k_in le 3 then (if 1 ≤ lo then (if q_pledged V i2 then ((-2000000002), V) else (if (V (12 + i2) 1) = (5 + le) then ((-2000000002), V) else (if lo ≤ (q_greatestLoan V i2) then (q_moneyOf (q_addMoney (g_w2 (g_w2 V (12 + i2) 4 le) (12 + i2) 5 lo) ((g_w2 (g_w2 V (12 + i2) 4 le) (12 + i2) 5 lo) (12 + i2) 1) lo) ((q_addMoney (g_w2 (g_w2 V (12 + i2) 4 le) (12 + i2) 5 lo) ((g_w2 (g_w2 V (12 + i2) 4 le) (12 + i2) 5 lo) (12 + i2) 1) lo) (12 + i2) 1), (q_addMoney (g_w2 (g_w2 V (12 + i2) 4 le) (12 + i2) 5 lo) ((g_w2 (g_w2 V (12 + i2) 4 le) (12 + i2) 5 lo) (12 + i2) 1) lo)) else ((-2000000002), V)))) else ((-2000000001), V)) else ((-2000000001), V))
abbrev rm_X3_pledgeTo : Room := { frames := 2, cells := 0, slots := 0, locals := 45 }
set_option maxHeartbeats 4000000 in
set_option maxRecDepth 100000 in
theorem c_X3_pledgeTo (l : Launch) (D : va_G) (tb : g_T) (ad : g_Ad) (hj : g_inj ad) (P : g_P) (M : g_M) (r : Nat) (hr : r < 6) (V : g_V) (n : Int32) (le : Int32) (lo : Int32) : g_Ci l yX3_pledgeTo cX3_pledgeTo 5 (some .int) rm_X3_pledgeTo D tb ad [.ref (ad r 0), .int n, .int le, .int lo] P (va_up M r V) ((q_pledge V n le lo).1) P (va_up M r ((q_pledge V n le lo).2)) := by
  refine g_go (by decide) (Nat.le_of_ble_eq_true rfl) hj ?_
  intro p e s m below meth c ls H locs R args Q hR0 hQ hx hb hml hr0 hlk hown hts hC hI hl
  subst hR0
  have hown : s.vm.findClass RX3 = some m.cls := hown
  have hl : lv_has ls 5 [(0, .ref (ad r 0)), (1, .int n), (2, .int le), (3, .int lo)] := hl
  refine lv_aload_n hx hb dX3_pledgeTo_0 rfl (lv_at hl 0 rfl) ?_
  refine lv_iload_n hx hb dX3_pledgeTo_1 rfl (lv_at hl 1 rfl) ?_
  refine g_callVq (rest := []) (c_X3_find l D tb ad hj P M r hr V n) rfl rfl gm_X3_find hx hb hml hown hts hC hI (ok_c 0 hr (by decide)) (e_st hr g_us) rfl rfl qm_X3_99 rfl hl.1 rfl ⟨rfl, rfl, by decide, by decide⟩ (Nat.le_of_ble_eq_true rfl) ⟨Nat.zero_le _, Nat.zero_le _⟩ dX3_pledgeTo_2 (fun H locs hI => ?_)
  refine g_nf (fun q1 => ?_) (fun i2 q1 => ?_)
  · refine lv_astoreN (lv' := [(4, .null), (0, .ref (ad r 0)), (1, .int n), (2, .int le), (3, .int lo)]) hx hb dX3_pledgeTo_5 hl (by decide) rfl (fun ls hl => ?_)
    refine lv_aloadN hx hb dX3_pledgeTo_7 (lv_at hl 0 rfl) ?_
    refine lv_ifnullN (tgt := 24) hx hb dX3_pledgeTo_9 (by decide) ?_
    refine lv_ldc (v := (-2000000001)) hx hb hown (hts _ qc_X3_74) dX3_pledgeTo_24 ?_
    exact g_ir hQ hx hb hr0 hlk hC hI dX3_pledgeTo_26 rfl (by unfold q_pledge; (try simp only [q1]); try rfl) rfl (by unfold q_pledge; (try simp only [q1]); try rfl)
  · have hi3 : i2 < 16 := k_find_lt q1
    refine lv_astore (lv' := [(4, .ref (ad r (12 + i2))), (0, .ref (ad r 0)), (1, .int n), (2, .int le), (3, .int lo)]) hx hb dX3_pledgeTo_5 hl (by decide) rfl (fun ls hl => ?_)
    refine lv_aload hx hb dX3_pledgeTo_7 (lv_at hl 0 rfl) ?_
    refine lv_ifnull hx hb dX3_pledgeTo_9 ?_
    refine lv_iload_n hx hb dX3_pledgeTo_12 rfl (lv_at hl 3 rfl) ?_
    refine g_callNi (rest := []) (c_X4_isLender l D tb ad hj P (va_up M r V) le) rfl rfl gm_X4_isLender hx hb hml hown hts hC hI qN_X3_129 rfl hl.1 rfl ⟨rfl, rfl, by decide, by decide⟩ (Nat.le_of_ble_eq_true rfl) ⟨Nat.zero_le _, Nat.zero_le _⟩ dX3_pledgeTo_13 (fun H locs hI => ?_)
    refine g_tf (fun c4 => ?_) (fun c4 => ?_)
    · refine lv_if_eq (tgt := 24) hx hb dX3_pledgeTo_16 (by decide) (fun c5 => absurd c5 (by decide)) (fun _ => ?_)
      refine lv_iload_n hx hb dX3_pledgeTo_19 rfl (lv_at hl 4 rfl) ?_
      refine lv_iconst (v := 1) hx hb dX3_pledgeTo_20 (by decide) ?_
      refine lv_icmp_ge (tgt := 27) hx hb dX3_pledgeTo_21 (by decide) (fun c6 => ?_) (fun c6 => ?_)
      · refine lv_aload hx hb dX3_pledgeTo_27 (lv_at hl 0 rfl) ?_
        refine g_callVi (rest := []) (c_X1_isPledged l D tb ad hj P M r hr V i2 hi3) rfl rfl gm_X1_isPledged hx hb hml hown hts hC hI (ok_rec hr hi3) (e_rec hr hi3 g_us) rfl rfl qm_X3_115 rfl hl.1 rfl ⟨rfl, rfl, by decide, by decide⟩ (Nat.le_of_ble_eq_true rfl) ⟨Nat.zero_le _, Nat.zero_le _⟩ dX3_pledgeTo_29 (fun H locs hI => ?_)
        refine g_tf (fun c7 => ?_) (fun c7 => ?_)
        · refine lv_if_ne (tgt := 56) hx hb dX3_pledgeTo_32 (by decide) (fun _ => ?_) (fun c8 => absurd c8 (by decide))
          refine lv_ldc (v := (-2000000002)) hx hb hown (hts _ qc_X3_106) dX3_pledgeTo_56 ?_
          exact g_ir hQ hx hb hr0 hlk hC hI dX3_pledgeTo_58 rfl (by unfold q_pledge; (try simp only [q1]); (first | rw [if_pos c4] | rw [if_neg c4] | skip); (first | rw [if_pos c6] | rw [if_neg c6] | skip); (first | rw [if_pos c7] | rw [if_neg c7] | skip); try rfl) rfl (by unfold q_pledge; (try simp only [q1]); (first | rw [if_pos c4] | rw [if_neg c4] | skip); (first | rw [if_pos c6] | rw [if_neg c6] | skip); (first | rw [if_pos c7] | rw [if_neg c7] | skip); try rfl)
        · refine lv_if_ne (tgt := 56) hx hb dX3_pledgeTo_32 (by decide) (fun c9 => absurd c9 (by decide)) (fun _ => ?_)
          refine lv_aload hx hb dX3_pledgeTo_35 (lv_at hl 0 rfl) ?_
          refine g_get 1 hx hb hts hown hC hI i_X1 (ok_rec hr hi3) (e_rec hr hi3 g_us) rfl (by decide) qf_X3_107 rfl rfl dX3_pledgeTo_37 ?_
          refine lv_iconst (v := 5) hx hb dX3_pledgeTo_40 (by decide) ?_
          refine lv_iload_n hx hb dX3_pledgeTo_41 rfl (lv_at hl 3 rfl) ?_
          refine lv_iadd hx hb dX3_pledgeTo_42 ?_
          refine lv_icmp_eq (tgt := 56) hx hb dX3_pledgeTo_43 (by decide) (fun c10 => ?_) (fun c10 => ?_)
          · refine lv_ldc (v := (-2000000002)) hx hb hown (hts _ qc_X3_106) dX3_pledgeTo_56 ?_
            exact g_ir hQ hx hb hr0 hlk hC hI dX3_pledgeTo_58 rfl (by unfold q_pledge; (try simp only [q1]); (first | rw [if_pos c4] | rw [if_neg c4] | skip); (first | rw [if_pos c6] | rw [if_neg c6] | skip); (first | rw [if_pos c7] | rw [if_neg c7] | skip); (first | rw [if_pos c10] | rw [if_neg c10] | skip); try rfl) rfl (by unfold q_pledge; (try simp only [q1]); (first | rw [if_pos c4] | rw [if_neg c4] | skip); (first | rw [if_pos c6] | rw [if_neg c6] | skip); (first | rw [if_pos c7] | rw [if_neg c7] | skip); (first | rw [if_pos c10] | rw [if_neg c10] | skip); try rfl)
          · refine lv_iload_n hx hb dX3_pledgeTo_46 rfl (lv_at hl 4 rfl) ?_
            refine lv_aload_n hx hb dX3_pledgeTo_47 rfl (lv_at hl 1 rfl) ?_
            refine lv_aload hx hb dX3_pledgeTo_48 (lv_at hl 0 rfl) ?_
            refine g_callVi (rest := [.int lo]) (c_X3_greatestLoan l D tb ad hj P M r hr V i2 hi3) rfl rfl gm_X3_greatestLoan hx hb hml hown hts hC hI (ok_c 0 hr (by decide)) (e_st hr g_us) rfl rfl qm_X3_132 rfl hl.1 rfl ⟨rfl, rfl, by decide, by decide⟩ (Nat.le_of_ble_eq_true rfl) ⟨Nat.zero_le _, Nat.zero_le _⟩ dX3_pledgeTo_50 (fun H locs hI => ?_)
            refine lv_icmp_le (tgt := 59) hx hb dX3_pledgeTo_53 (by decide) (fun c11 => ?_) (fun c11 => ?_)
            · refine lv_aload hx hb dX3_pledgeTo_59 (lv_at hl 0 rfl) ?_
              refine lv_iload_n hx hb dX3_pledgeTo_61 rfl (lv_at hl 3 rfl) ?_
              refine g_put 4 (ty := .int) hx hb hts hown hC hI i_X1 tyX1_ok nmX1 (ok_rec hr hi3) (e_rec hr hi3 g_us) rfl (by decide) qf_X3_136 rfl rfl rfl rfl rfl (Nat.le_of_ble_eq_true rfl) (p_rec hr hi3 (by decide)) g_hs dX3_pledgeTo_62 (fun H locs hI => ?_)
              refine lv_aload hx hb dX3_pledgeTo_65 (lv_at hl 0 rfl) ?_
              refine lv_iload_n hx hb dX3_pledgeTo_67 rfl (lv_at hl 4 rfl) ?_
              refine g_put 5 (ty := .int) hx hb hts hown hC hI i_X1 tyX1_ok nmX1 (ok_rec hr hi3) (e_rec hr hi3 g_us) rfl (by decide) qf_X3_139 rfl rfl rfl rfl rfl (Nat.le_of_ble_eq_true rfl) (p_rec hr hi3 (by decide)) g_hs dX3_pledgeTo_68 (fun H locs hI => ?_)
              refine lv_aload_n hx hb dX3_pledgeTo_71 rfl (lv_at hl 1 rfl) ?_
              refine lv_aload hx hb dX3_pledgeTo_72 (lv_at hl 0 rfl) ?_
              refine g_get 1 hx hb hts hown hC hI i_X1 (ok_rec hr hi3) (e_rec hr hi3 g_us) rfl (by decide) qf_X3_107 rfl rfl dX3_pledgeTo_74 ?_
              refine lv_iload_n hx hb dX3_pledgeTo_77 rfl (lv_at hl 4 rfl) ?_
              refine g_callVv (rest := []) (c_X3_addMoney l D tb ad hj P M r hr (g_w2 (g_w2 V (12 + i2) 4 le) (12 + i2) 5 lo) ((g_w2 (g_w2 V (12 + i2) 4 le) (12 + i2) 5 lo) (12 + i2) 1) lo) rfl rfl gm_X3_addMoney hx hb hml hown hts hC hI (ok_c 0 hr (by decide)) (e_st hr g_us) rfl rfl qm_X3_142 rfl hl.1 rfl ⟨rfl, rfl, by decide, by decide⟩ (Nat.le_of_ble_eq_true rfl) ⟨Nat.zero_le _, Nat.zero_le _⟩ dX3_pledgeTo_78 (fun H locs hI => ?_)
              refine lv_aload_n hx hb dX3_pledgeTo_81 rfl (lv_at hl 1 rfl) ?_
              refine lv_aload hx hb dX3_pledgeTo_82 (lv_at hl 0 rfl) ?_
              refine g_get 1 hx hb hts hown hC hI i_X1 (ok_rec hr hi3) (e_rec hr hi3 g_us) rfl (by decide) qf_X3_107 rfl rfl dX3_pledgeTo_84 ?_
              refine g_callVi (rest := []) (c_X3_moneyOf l D tb ad hj P M r hr (q_addMoney (g_w2 (g_w2 V (12 + i2) 4 le) (12 + i2) 5 lo) ((g_w2 (g_w2 V (12 + i2) 4 le) (12 + i2) 5 lo) (12 + i2) 1) lo) ((q_addMoney (g_w2 (g_w2 V (12 + i2) 4 le) (12 + i2) 5 lo) ((g_w2 (g_w2 V (12 + i2) 4 le) (12 + i2) 5 lo) (12 + i2) 1) lo) (12 + i2) 1)) rfl rfl gm_X3_moneyOf hx hb hml hown hts hC hI (ok_c 0 hr (by decide)) (e_st hr g_us) rfl rfl qm_X3_145 rfl hl.1 rfl ⟨rfl, rfl, by decide, by decide⟩ (Nat.le_of_ble_eq_true rfl) ⟨Nat.zero_le _, Nat.zero_le _⟩ dX3_pledgeTo_87 (fun H locs hI => ?_)
              exact g_ir hQ hx hb hr0 hlk hC hI dX3_pledgeTo_90 rfl (by unfold q_pledge; (try simp only [q1]); (first | rw [if_pos c4] | rw [if_neg c4] | skip); (first | rw [if_pos c6] | rw [if_neg c6] | skip); (first | rw [if_pos c7] | rw [if_neg c7] | skip); (first | rw [if_pos c10] | rw [if_neg c10] | skip); (first | rw [if_pos c11] | rw [if_neg c11] | skip); try rfl) rfl (by unfold q_pledge; (try simp only [q1]); (first | rw [if_pos c4] | rw [if_neg c4] | skip); (first | rw [if_pos c6] | rw [if_neg c6] | skip); (first | rw [if_pos c7] | rw [if_neg c7] | skip); (first | rw [if_pos c10] | rw [if_neg c10] | skip); (first | rw [if_pos c11] | rw [if_neg c11] | skip); try rfl)
            · refine lv_ldc (v := (-2000000002)) hx hb hown (hts _ qc_X3_106) dX3_pledgeTo_56 ?_
              exact g_ir hQ hx hb hr0 hlk hC hI dX3_pledgeTo_58 rfl (by unfold q_pledge; (try simp only [q1]); (first | rw [if_pos c4] | rw [if_neg c4] | skip); (first | rw [if_pos c6] | rw [if_neg c6] | skip); (first | rw [if_pos c7] | rw [if_neg c7] | skip); (first | rw [if_pos c10] | rw [if_neg c10] | skip); (first | rw [if_pos c11] | rw [if_neg c11] | skip); try rfl) rfl (by unfold q_pledge; (try simp only [q1]); (first | rw [if_pos c4] | rw [if_neg c4] | skip); (first | rw [if_pos c6] | rw [if_neg c6] | skip); (first | rw [if_pos c7] | rw [if_neg c7] | skip); (first | rw [if_pos c10] | rw [if_neg c10] | skip); (first | rw [if_pos c11] | rw [if_neg c11] | skip); try rfl)
      · refine lv_ldc (v := (-2000000001)) hx hb hown (hts _ qc_X3_74) dX3_pledgeTo_24 ?_
        exact g_ir hQ hx hb hr0 hlk hC hI dX3_pledgeTo_26 rfl (by unfold q_pledge; (try simp only [q1]); (first | rw [if_pos c4] | rw [if_neg c4] | skip); (first | rw [if_pos c6] | rw [if_neg c6] | skip); try rfl) rfl (by unfold q_pledge; (try simp only [q1]); (first | rw [if_pos c4] | rw [if_neg c4] | skip); (first | rw [if_pos c6] | rw [if_neg c6] | skip); try rfl)
    · refine lv_if_eq (tgt := 24) hx hb dX3_pledgeTo_16 (by decide) (fun _ => ?_) (fun c12 => absurd c12 (by decide))
      refine lv_ldc (v := (-2000000001)) hx hb hown (hts _ qc_X3_74) dX3_pledgeTo_24 ?_
      exact g_ir hQ hx hb hr0 hlk hC hI dX3_pledgeTo_26 rfl (by unfold q_pledge; (try simp only [q1]); (first | rw [if_pos c4] | rw [if_neg c4] | skip); try rfl) rfl (by unfold q_pledge; (try simp only [q1]); (first | rw [if_pos c4] | rw [if_neg c4] | skip); try rfl)
def q_repay (V : g_V) (n : Int32) (a : Int32) : Int32 × g_V :=
  match (q_find V n) with | none => ((-2000000001), V) | some i2 => (if 1 ≤ a then (if q_pledged V i2 then (if a ≤ (V (12 + i2) 5) then (if ((q_addMoney (g_w2 V (12 + i2) 5 ((V (12 + i2) 5) - a)) ((g_w2 V (12 + i2) 5 ((V (12 + i2) 5) - a)) (12 + i2) 1) (-a)) (12 + i2) 5) = 0 then ((q_endPledge (q_addMoney (g_w2 V (12 + i2) 5 ((V (12 + i2) 5) - a)) ((g_w2 V (12 + i2) 5 ((V (12 + i2) 5) - a)) (12 + i2) 1) (-a)) i2) (12 + i2) 5, (q_endPledge (q_addMoney (g_w2 V (12 + i2) 5 ((V (12 + i2) 5) - a)) ((g_w2 V (12 + i2) 5 ((V (12 + i2) 5) - a)) (12 + i2) 1) (-a)) i2)) else (if q_tooHigh (q_addMoney (g_w2 V (12 + i2) 5 ((V (12 + i2) 5) - a)) ((g_w2 V (12 + i2) 5 ((V (12 + i2) 5) - a)) (12 + i2) 1) (-a)) i2 then ((q_addMoney (g_w2 V (12 + i2) 5 ((V (12 + i2) 5) - a)) ((g_w2 V (12 + i2) 5 ((V (12 + i2) 5) - a)) (12 + i2) 1) (-a)) (12 + i2) 5, (q_addMoney (g_w2 V (12 + i2) 5 ((V (12 + i2) 5) - a)) ((g_w2 V (12 + i2) 5 ((V (12 + i2) 5) - a)) (12 + i2) 1) (-a))) else ((g_w2 (q_addMoney (g_w2 V (12 + i2) 5 ((V (12 + i2) 5) - a)) ((g_w2 V (12 + i2) 5 ((V (12 + i2) 5) - a)) (12 + i2) 1) (-a)) (12 + i2) 6 0) (12 + i2) 5, (g_w2 (q_addMoney (g_w2 V (12 + i2) 5 ((V (12 + i2) 5) - a)) ((g_w2 V (12 + i2) 5 ((V (12 + i2) 5) - a)) (12 + i2) 1) (-a)) (12 + i2) 6 0)))) else ((-2000000002), V)) else ((-2000000002), V)) else ((-2000000001), V))
abbrev rm_X3_payBack : Room := { frames := 2, cells := 0, slots := 0, locals := 45 }
set_option maxHeartbeats 4000000 in
set_option maxRecDepth 100000 in
theorem c_X3_payBack (l : Launch) (D : va_G) (tb : g_T) (ad : g_Ad) (hj : g_inj ad) (P : g_P) (M : g_M) (r : Nat) (hr : r < 6) (V : g_V) (n : Int32) (a : Int32) : g_Ci l yX3_payBack cX3_payBack 4 (some .int) rm_X3_payBack D tb ad [.ref (ad r 0), .int n, .int a] P (va_up M r V) ((q_repay V n a).1) P (va_up M r ((q_repay V n a).2)) := by
  refine g_go (by decide) (Nat.le_of_ble_eq_true rfl) hj ?_
  intro p e s m below meth c ls H locs R args Q hR0 hQ hx hb hml hr0 hlk hown hts hC hI hl
  subst hR0
  have hown : s.vm.findClass RX3 = some m.cls := hown
  have hl : lv_has ls 4 [(0, .ref (ad r 0)), (1, .int n), (2, .int a)] := hl
  refine lv_aload_n hx hb dX3_payBack_0 rfl (lv_at hl 0 rfl) ?_
  refine lv_iload_n hx hb dX3_payBack_1 rfl (lv_at hl 1 rfl) ?_
  refine g_callVq (rest := []) (c_X3_find l D tb ad hj P M r hr V n) rfl rfl gm_X3_find hx hb hml hown hts hC hI (ok_c 0 hr (by decide)) (e_st hr g_us) rfl rfl qm_X3_99 rfl hl.1 rfl ⟨rfl, rfl, by decide, by decide⟩ (Nat.le_of_ble_eq_true rfl) ⟨Nat.zero_le _, Nat.zero_le _⟩ dX3_payBack_2 (fun H locs hI => ?_)
  refine g_nf (fun q1 => ?_) (fun i2 q1 => ?_)
  · refine lv_astore_nN (lv' := [(3, .null), (0, .ref (ad r 0)), (1, .int n), (2, .int a)]) hx hb dX3_payBack_5 rfl hl (by decide) rfl (fun ls hl => ?_)
    refine lv_aload_nN hx hb dX3_payBack_6 rfl (lv_at hl 0 rfl) ?_
    refine lv_ifnullN (tgt := 15) hx hb dX3_payBack_7 (by decide) ?_
    refine lv_ldc (v := (-2000000001)) hx hb hown (hts _ qc_X3_74) dX3_payBack_15 ?_
    exact g_ir hQ hx hb hr0 hlk hC hI dX3_payBack_17 rfl (by unfold q_repay; (try simp only [q1]); try rfl) rfl (by unfold q_repay; (try simp only [q1]); try rfl)
  · have hi3 : i2 < 16 := k_find_lt q1
    refine lv_astore_n (lv' := [(3, .ref (ad r (12 + i2))), (0, .ref (ad r 0)), (1, .int n), (2, .int a)]) hx hb dX3_payBack_5 rfl hl (by decide) rfl (fun ls hl => ?_)
    refine lv_aload_n hx hb dX3_payBack_6 rfl (lv_at hl 0 rfl) ?_
    refine lv_ifnull hx hb dX3_payBack_7 ?_
    refine lv_iload_n hx hb dX3_payBack_10 rfl (lv_at hl 3 rfl) ?_
    refine lv_iconst (v := 1) hx hb dX3_payBack_11 (by decide) ?_
    refine lv_icmp_ge (tgt := 18) hx hb dX3_payBack_12 (by decide) (fun c4 => ?_) (fun c4 => ?_)
    · refine lv_aload_n hx hb dX3_payBack_18 rfl (lv_at hl 0 rfl) ?_
      refine g_callVi (rest := []) (c_X1_isPledged l D tb ad hj P M r hr V i2 hi3) rfl rfl gm_X1_isPledged hx hb hml hown hts hC hI (ok_rec hr hi3) (e_rec hr hi3 g_us) rfl rfl qm_X3_115 rfl hl.1 rfl ⟨rfl, rfl, by decide, by decide⟩ (Nat.le_of_ble_eq_true rfl) ⟨Nat.zero_le _, Nat.zero_le _⟩ dX3_payBack_19 (fun H locs hI => ?_)
      refine g_tf (fun c5 => ?_) (fun c5 => ?_)
      · refine lv_if_eq (tgt := 33) hx hb dX3_payBack_22 (by decide) (fun c6 => absurd c6 (by decide)) (fun _ => ?_)
        refine lv_aload_n hx hb dX3_payBack_25 rfl (lv_at hl 0 rfl) ?_
        refine g_get 5 hx hb hts hown hC hI i_X1 (ok_rec hr hi3) (e_rec hr hi3 g_us) rfl (by decide) qf_X3_139 rfl rfl dX3_payBack_26 ?_
        refine lv_iload_n hx hb dX3_payBack_29 rfl (lv_at hl 3 rfl) ?_
        refine lv_icmp_ge (tgt := 36) hx hb dX3_payBack_30 (by decide) (fun c7 => ?_) (fun c7 => ?_)
        · refine lv_aload_n hx hb dX3_payBack_36 rfl (lv_at hl 0 rfl) ?_
          refine lv_dup hx hb dX3_payBack_37 rfl ?_
          refine g_get 5 hx hb hts hown hC hI i_X1 (ok_rec hr hi3) (e_rec hr hi3 g_us) rfl (by decide) qf_X3_139 rfl rfl dX3_payBack_38 ?_
          refine lv_iload_n hx hb dX3_payBack_41 rfl (lv_at hl 3 rfl) ?_
          refine lv_isub hx hb dX3_payBack_42 ?_
          refine g_put 5 (ty := .int) hx hb hts hown hC hI i_X1 tyX1_ok nmX1 (ok_rec hr hi3) (e_rec hr hi3 g_us) rfl (by decide) qf_X3_139 rfl rfl rfl rfl rfl (Nat.le_of_ble_eq_true rfl) (p_rec hr hi3 (by decide)) g_hs dX3_payBack_43 (fun H locs hI => ?_)
          refine lv_aload_n hx hb dX3_payBack_46 rfl (lv_at hl 1 rfl) ?_
          refine lv_aload_n hx hb dX3_payBack_47 rfl (lv_at hl 0 rfl) ?_
          refine g_get 1 hx hb hts hown hC hI i_X1 (ok_rec hr hi3) (e_rec hr hi3 g_us) rfl (by decide) qf_X3_107 rfl rfl dX3_payBack_48 ?_
          refine lv_iload_n hx hb dX3_payBack_51 rfl (lv_at hl 3 rfl) ?_
          refine lv_ineg hx hb dX3_payBack_52 ?_
          refine g_callVv (rest := []) (c_X3_addMoney l D tb ad hj P M r hr (g_w2 V (12 + i2) 5 ((V (12 + i2) 5) - a)) ((g_w2 V (12 + i2) 5 ((V (12 + i2) 5) - a)) (12 + i2) 1) (-a)) rfl rfl gm_X3_addMoney hx hb hml hown hts hC hI (ok_c 0 hr (by decide)) (e_st hr g_us) rfl rfl qm_X3_142 rfl hl.1 rfl ⟨rfl, rfl, by decide, by decide⟩ (Nat.le_of_ble_eq_true rfl) ⟨Nat.zero_le _, Nat.zero_le _⟩ dX3_payBack_53 (fun H locs hI => ?_)
          refine lv_aload_n hx hb dX3_payBack_56 rfl (lv_at hl 0 rfl) ?_
          refine g_get 5 hx hb hts hown hC hI i_X1 (ok_rec hr hi3) (e_rec hr hi3 g_us) rfl (by decide) qf_X3_139 rfl rfl dX3_payBack_57 ?_
          refine lv_if_ne (tgt := 70) hx hb dX3_payBack_60 (by decide) (fun c8 => ?_) (fun c8 => ?_)
          · refine lv_aload_n hx hb dX3_payBack_70 rfl (lv_at hl 1 rfl) ?_
            refine lv_aload_n hx hb dX3_payBack_71 rfl (lv_at hl 0 rfl) ?_
            refine g_callVi (rest := []) (c_X3_isLoanTooHigh l D tb ad hj P M r hr (q_addMoney (g_w2 V (12 + i2) 5 ((V (12 + i2) 5) - a)) ((g_w2 V (12 + i2) 5 ((V (12 + i2) 5) - a)) (12 + i2) 1) (-a)) i2 hi3) rfl rfl gm_X3_isLoanTooHigh hx hb hml hown hts hC hI (ok_c 0 hr (by decide)) (e_st hr g_us) rfl rfl qm_X3_151 rfl hl.1 rfl ⟨rfl, rfl, by decide, by decide⟩ (Nat.le_of_ble_eq_true rfl) ⟨Nat.zero_le _, Nat.zero_le _⟩ dX3_payBack_72 (fun H locs hI => ?_)
            refine g_tf (fun c9 => ?_) (fun c9 => ?_)
            · refine lv_if_ne (tgt := 83) hx hb dX3_payBack_75 (by decide) (fun _ => ?_) (fun c10 => absurd c10 (by decide))
              refine lv_aload_n hx hb dX3_payBack_83 rfl (lv_at hl 0 rfl) ?_
              refine g_get 5 hx hb hts hown hC hI i_X1 (ok_rec hr hi3) (e_rec hr hi3 g_us) rfl (by decide) qf_X3_139 rfl rfl dX3_payBack_84 ?_
              exact g_ir hQ hx hb hr0 hlk hC hI dX3_payBack_87 rfl (by unfold q_repay; (try simp only [q1]); (first | rw [if_pos c4] | rw [if_neg c4] | skip); (first | rw [if_pos c5] | rw [if_neg c5] | skip); (first | rw [if_pos c7] | rw [if_neg c7] | skip); (first | rw [if_pos c8] | rw [if_neg c8] | skip); (first | rw [if_pos c9] | rw [if_neg c9] | skip); try rfl) rfl (by unfold q_repay; (try simp only [q1]); (first | rw [if_pos c4] | rw [if_neg c4] | skip); (first | rw [if_pos c5] | rw [if_neg c5] | skip); (first | rw [if_pos c7] | rw [if_neg c7] | skip); (first | rw [if_pos c8] | rw [if_neg c8] | skip); (first | rw [if_pos c9] | rw [if_neg c9] | skip); try rfl)
            · refine lv_if_ne (tgt := 83) hx hb dX3_payBack_75 (by decide) (fun c11 => absurd c11 (by decide)) (fun _ => ?_)
              refine lv_aload_n hx hb dX3_payBack_78 rfl (lv_at hl 0 rfl) ?_
              refine lv_iconst (v := 0) hx hb dX3_payBack_79 (by decide) ?_
              refine g_put 6 (ty := .int) hx hb hts hown hC hI i_X1 tyX1_ok nmX1 (ok_rec hr hi3) (e_rec hr hi3 g_us) rfl (by decide) qf_X3_155 rfl rfl rfl rfl rfl (Nat.le_of_ble_eq_true rfl) (p_rec hr hi3 (by decide)) g_hs dX3_payBack_80 (fun H locs hI => ?_)
              refine lv_aload_n hx hb dX3_payBack_83 rfl (lv_at hl 0 rfl) ?_
              refine g_get 5 hx hb hts hown hC hI i_X1 (ok_rec hr hi3) (e_rec hr hi3 g_us) rfl (by decide) qf_X3_139 rfl rfl dX3_payBack_84 ?_
              exact g_ir hQ hx hb hr0 hlk hC hI dX3_payBack_87 rfl (by unfold q_repay; (try simp only [q1]); (first | rw [if_pos c4] | rw [if_neg c4] | skip); (first | rw [if_pos c5] | rw [if_neg c5] | skip); (first | rw [if_pos c7] | rw [if_neg c7] | skip); (first | rw [if_pos c8] | rw [if_neg c8] | skip); (first | rw [if_pos c9] | rw [if_neg c9] | skip); try rfl) rfl (by unfold q_repay; (try simp only [q1]); (first | rw [if_pos c4] | rw [if_neg c4] | skip); (first | rw [if_pos c5] | rw [if_neg c5] | skip); (first | rw [if_pos c7] | rw [if_neg c7] | skip); (first | rw [if_pos c8] | rw [if_neg c8] | skip); (first | rw [if_pos c9] | rw [if_neg c9] | skip); try rfl)
          · refine lv_aload_n hx hb dX3_payBack_63 rfl (lv_at hl 0 rfl) ?_
            refine g_callVv (rest := []) (c_X1_endPledge l D tb ad hj P M r hr (q_addMoney (g_w2 V (12 + i2) 5 ((V (12 + i2) 5) - a)) ((g_w2 V (12 + i2) 5 ((V (12 + i2) 5) - a)) (12 + i2) 1) (-a)) i2 hi3) rfl rfl gm_X1_endPledge hx hb hml hown hts hC hI (ok_rec hr hi3) (e_rec hr hi3 g_us) rfl rfl qm_X3_148 rfl hl.1 rfl ⟨rfl, rfl, by decide, by decide⟩ (Nat.le_of_ble_eq_true rfl) ⟨Nat.zero_le _, Nat.zero_le _⟩ dX3_payBack_64 (fun H locs hI => ?_)
            refine lv_goto (tgt := 83) hx hb dX3_payBack_67 (by decide) ?_
            refine lv_aload_n hx hb dX3_payBack_83 rfl (lv_at hl 0 rfl) ?_
            refine g_get 5 hx hb hts hown hC hI i_X1 (ok_rec hr hi3) (e_rec hr hi3 g_us) rfl (by decide) qf_X3_139 rfl rfl dX3_payBack_84 ?_
            exact g_ir hQ hx hb hr0 hlk hC hI dX3_payBack_87 rfl (by unfold q_repay; (try simp only [q1]); (first | rw [if_pos c4] | rw [if_neg c4] | skip); (first | rw [if_pos c5] | rw [if_neg c5] | skip); (first | rw [if_pos c7] | rw [if_neg c7] | skip); (first | rw [if_pos c8] | rw [if_neg c8] | skip); try rfl) rfl (by unfold q_repay; (try simp only [q1]); (first | rw [if_pos c4] | rw [if_neg c4] | skip); (first | rw [if_pos c5] | rw [if_neg c5] | skip); (first | rw [if_pos c7] | rw [if_neg c7] | skip); (first | rw [if_pos c8] | rw [if_neg c8] | skip); try rfl)
        · refine lv_ldc (v := (-2000000002)) hx hb hown (hts _ qc_X3_106) dX3_payBack_33 ?_
          exact g_ir hQ hx hb hr0 hlk hC hI dX3_payBack_35 rfl (by unfold q_repay; (try simp only [q1]); (first | rw [if_pos c4] | rw [if_neg c4] | skip); (first | rw [if_pos c5] | rw [if_neg c5] | skip); (first | rw [if_pos c7] | rw [if_neg c7] | skip); try rfl) rfl (by unfold q_repay; (try simp only [q1]); (first | rw [if_pos c4] | rw [if_neg c4] | skip); (first | rw [if_pos c5] | rw [if_neg c5] | skip); (first | rw [if_pos c7] | rw [if_neg c7] | skip); try rfl)
      · refine lv_if_eq (tgt := 33) hx hb dX3_payBack_22 (by decide) (fun _ => ?_) (fun c12 => absurd c12 (by decide))
        refine lv_ldc (v := (-2000000002)) hx hb hown (hts _ qc_X3_106) dX3_payBack_33 ?_
        exact g_ir hQ hx hb hr0 hlk hC hI dX3_payBack_35 rfl (by unfold q_repay; (try simp only [q1]); (first | rw [if_pos c4] | rw [if_neg c4] | skip); (first | rw [if_pos c5] | rw [if_neg c5] | skip); try rfl) rfl (by unfold q_repay; (try simp only [q1]); (first | rw [if_pos c4] | rw [if_neg c4] | skip); (first | rw [if_pos c5] | rw [if_neg c5] | skip); try rfl)
    · refine lv_ldc (v := (-2000000001)) hx hb hown (hts _ qc_X3_74) dX3_payBack_15 ?_
      exact g_ir hQ hx hb hr0 hlk hC hI dX3_payBack_17 rfl (by unfold q_repay; (try simp only [q1]); (first | rw [if_pos c4] | rw [if_neg c4] | skip); try rfl) rfl (by unfold q_repay; (try simp only [q1]); (first | rw [if_pos c4] | rw [if_neg c4] | skip); try rfl)
def q_split (V : g_V) (n : Int32) (a : Int32) : Int32 × g_V :=
  match (q_find V n) with | none => ((-2000000001), V) | some i2 => (if 1 ≤ a then (if a < (V (12 + i2) 3) then (match (q_freePlace V) with | none => ((-2000000003), V) | some i7 => ((g_w2 (q_splitLoanA (q_use (q_next V) i7 (V 0 7) ((q_next V) (12 + i2) 1) ((q_next V) (12 + i2) 2) a) i2 i7) (12 + i2) 3 (((q_splitLoanA (q_use (q_next V) i7 (V 0 7) ((q_next V) (12 + i2) 1) ((q_next V) (12 + i2) 2) a) i2 i7) (12 + i2) 3) - a)) (12 + i7) 0, (g_w2 (q_splitLoanA (q_use (q_next V) i7 (V 0 7) ((q_next V) (12 + i2) 1) ((q_next V) (12 + i2) 2) a) i2 i7) (12 + i2) 3 (((q_splitLoanA (q_use (q_next V) i7 (V 0 7) ((q_next V) (12 + i2) 1) ((q_next V) (12 + i2) 2) a) i2 i7) (12 + i2) 3) - a)))) else ((-2000000002), V)) else ((-2000000001), V))
abbrev rm_X3_splitOff : Room := { frames := 2, cells := 0, slots := 0, locals := 45 }
set_option maxHeartbeats 4000000 in
set_option maxRecDepth 100000 in
theorem c_X3_splitOff (l : Launch) (D : va_G) (tb : g_T) (ad : g_Ad) (hj : g_inj ad) (P : g_P) (M : g_M) (r : Nat) (hr : r < 6) (V : g_V) (n : Int32) (a : Int32) : g_Ci l yX3_splitOff cX3_splitOff 5 (some .int) rm_X3_splitOff D tb ad [.ref (ad r 0), .int n, .int a] P (va_up M r V) ((q_split V n a).1) P (va_up M r ((q_split V n a).2)) := by
  refine g_go (by decide) (Nat.le_of_ble_eq_true rfl) hj ?_
  intro p e s m below meth c ls H locs R args Q hR0 hQ hx hb hml hr0 hlk hown hts hC hI hl
  subst hR0
  have hown : s.vm.findClass RX3 = some m.cls := hown
  have hl : lv_has ls 5 [(0, .ref (ad r 0)), (1, .int n), (2, .int a)] := hl
  refine lv_aload_n hx hb dX3_splitOff_0 rfl (lv_at hl 0 rfl) ?_
  refine lv_iload_n hx hb dX3_splitOff_1 rfl (lv_at hl 1 rfl) ?_
  refine g_callVq (rest := []) (c_X3_find l D tb ad hj P M r hr V n) rfl rfl gm_X3_find hx hb hml hown hts hC hI (ok_c 0 hr (by decide)) (e_st hr g_us) rfl rfl qm_X3_99 rfl hl.1 rfl ⟨rfl, rfl, by decide, by decide⟩ (Nat.le_of_ble_eq_true rfl) ⟨Nat.zero_le _, Nat.zero_le _⟩ dX3_splitOff_2 (fun H locs hI => ?_)
  refine g_nf (fun q1 => ?_) (fun i2 q1 => ?_)
  · refine lv_astore_nN (lv' := [(3, .null), (0, .ref (ad r 0)), (1, .int n), (2, .int a)]) hx hb dX3_splitOff_5 rfl hl (by decide) rfl (fun ls hl => ?_)
    refine lv_aload_nN hx hb dX3_splitOff_6 rfl (lv_at hl 0 rfl) ?_
    refine lv_ifnullN (tgt := 15) hx hb dX3_splitOff_7 (by decide) ?_
    refine lv_ldc (v := (-2000000001)) hx hb hown (hts _ qc_X3_74) dX3_splitOff_15 ?_
    exact g_ir hQ hx hb hr0 hlk hC hI dX3_splitOff_17 rfl (by unfold q_split; (try simp only [q1]); try rfl) rfl (by unfold q_split; (try simp only [q1]); try rfl)
  · have hi3 : i2 < 16 := k_find_lt q1
    refine lv_astore_n (lv' := [(3, .ref (ad r (12 + i2))), (0, .ref (ad r 0)), (1, .int n), (2, .int a)]) hx hb dX3_splitOff_5 rfl hl (by decide) rfl (fun ls hl => ?_)
    refine lv_aload_n hx hb dX3_splitOff_6 rfl (lv_at hl 0 rfl) ?_
    refine lv_ifnull hx hb dX3_splitOff_7 ?_
    refine lv_iload_n hx hb dX3_splitOff_10 rfl (lv_at hl 3 rfl) ?_
    refine lv_iconst (v := 1) hx hb dX3_splitOff_11 (by decide) ?_
    refine lv_icmp_ge (tgt := 18) hx hb dX3_splitOff_12 (by decide) (fun c4 => ?_) (fun c4 => ?_)
    · refine lv_iload_n hx hb dX3_splitOff_18 rfl (lv_at hl 3 rfl) ?_
      refine lv_aload_n hx hb dX3_splitOff_19 rfl (lv_at hl 0 rfl) ?_
      refine g_get 3 hx hb hts hown hC hI i_X1 (ok_rec hr hi3) (e_rec hr hi3 g_us) rfl (by decide) qf_X3_103 rfl rfl dX3_splitOff_20 ?_
      refine lv_icmp_lt (tgt := 29) hx hb dX3_splitOff_23 (by decide) (fun c5 => ?_) (fun c5 => ?_)
      · refine lv_aload_n hx hb dX3_splitOff_29 rfl (lv_at hl 1 rfl) ?_
        refine g_callVq (rest := []) (c_X3_freePlace l D tb ad hj P M r hr V) rfl rfl gm_X3_freePlace hx hb hml hown hts hC hI (ok_c 0 hr (by decide)) (e_st hr g_us) rfl rfl qm_X3_75 rfl hl.1 rfl ⟨rfl, rfl, by decide, by decide⟩ (Nat.le_of_ble_eq_true rfl) ⟨Nat.zero_le _, Nat.zero_le _⟩ dX3_splitOff_30 (fun H locs hI => ?_)
        refine g_nf (fun q6 => ?_) (fun i7 q6 => ?_)
        · refine lv_astoreN (lv' := [(4, .null), (3, .ref (ad r (12 + i2))), (0, .ref (ad r 0)), (1, .int n), (2, .int a)]) hx hb dX3_splitOff_33 hl (by decide) rfl (fun ls hl => ?_)
          refine lv_aloadN hx hb dX3_splitOff_35 (lv_at hl 0 rfl) ?_
          refine lv_ifnonnullN hx hb dX3_splitOff_37 ?_
          refine lv_ldc (v := (-2000000003)) hx hb hown (hts _ qc_X3_83) dX3_splitOff_40 ?_
          exact g_ir hQ hx hb hr0 hlk hC hI dX3_splitOff_42 rfl (by unfold q_split; (try simp only [q1]); (first | rw [if_pos c4] | rw [if_neg c4] | skip); (first | rw [if_pos c5] | rw [if_neg c5] | skip); (try simp only [q6]); try rfl) rfl (by unfold q_split; (try simp only [q1]); (first | rw [if_pos c4] | rw [if_neg c4] | skip); (first | rw [if_pos c5] | rw [if_neg c5] | skip); (try simp only [q6]); try rfl)
        · have hi8 : i7 < 16 := k_find_lt q6
          refine lv_astore (lv' := [(4, .ref (ad r (12 + i7))), (3, .ref (ad r (12 + i2))), (0, .ref (ad r 0)), (1, .int n), (2, .int a)]) hx hb dX3_splitOff_33 hl (by decide) rfl (fun ls hl => ?_)
          refine lv_aload hx hb dX3_splitOff_35 (lv_at hl 0 rfl) ?_
          refine lv_ifnonnull (tgt := 43) hx hb dX3_splitOff_37 (by decide) ?_
          refine lv_aload hx hb dX3_splitOff_43 (lv_at hl 0 rfl) ?_
          refine lv_aload_n hx hb dX3_splitOff_45 rfl (lv_at hl 2 rfl) ?_
          refine g_callVi (rest := [.ref (ad r (12 + i7))]) (c_X3_nextNumber l D tb ad hj P M r hr V) rfl rfl gm_X3_nextNumber hx hb hml hown hts hC hI (ok_c 0 hr (by decide)) (e_st hr g_us) rfl rfl qm_X3_88 rfl hl.1 rfl ⟨rfl, rfl, by decide, by decide⟩ (Nat.le_of_ble_eq_true rfl) ⟨Nat.zero_le _, Nat.zero_le _⟩ dX3_splitOff_46 (fun H locs hI => ?_)
          refine lv_aload_n hx hb dX3_splitOff_49 rfl (lv_at hl 1 rfl) ?_
          refine g_get 1 hx hb hts hown hC hI i_X1 (ok_rec hr hi3) (e_rec hr hi3 g_us) rfl (by decide) qf_X3_107 rfl rfl dX3_splitOff_50 ?_
          refine lv_aload_n hx hb dX3_splitOff_53 rfl (lv_at hl 1 rfl) ?_
          refine g_get 2 hx hb hts hown hC hI i_X1 (ok_rec hr hi3) (e_rec hr hi3 g_us) rfl (by decide) qf_X3_110 rfl rfl dX3_splitOff_54 ?_
          refine lv_iload_n hx hb dX3_splitOff_57 rfl (lv_at hl 4 rfl) ?_
          refine g_callVv (rest := []) (c_X1_use l D tb ad hj P M r hr (q_next V) i7 hi8 (V 0 7) ((q_next V) (12 + i2) 1) ((q_next V) (12 + i2) 2) a) rfl rfl gm_X1_use hx hb hml hown hts hC hI (ok_rec hr hi8) (e_rec hr hi8 g_us) rfl rfl qm_X3_92 rfl hl.1 rfl ⟨rfl, rfl, by decide, by decide⟩ (Nat.le_of_ble_eq_true rfl) ⟨Nat.zero_le _, Nat.zero_le _⟩ dX3_splitOff_58 (fun H locs hI => ?_)
          refine lv_aload_n hx hb dX3_splitOff_61 rfl (lv_at hl 2 rfl) ?_
          refine lv_aload_n hx hb dX3_splitOff_62 rfl (lv_at hl 1 rfl) ?_
          refine lv_aload hx hb dX3_splitOff_63 (lv_at hl 0 rfl) ?_
          refine g_callVv (rest := []) (c_X3_splitLoan l D tb ad hj P M r hr (q_use (q_next V) i7 (V 0 7) ((q_next V) (12 + i2) 1) ((q_next V) (12 + i2) 2) a) i2 hi3 i7 hi8) rfl rfl gm_X3_splitLoan hx hb hml hown hts hC hI (ok_c 0 hr (by decide)) (e_st hr g_us) rfl rfl qm_X3_111 rfl hl.1 rfl ⟨rfl, rfl, by decide, by decide⟩ (Nat.le_of_ble_eq_true rfl) ⟨Nat.zero_le _, Nat.zero_le _⟩ dX3_splitOff_65 (fun H locs hI => ?_)
          refine lv_aload_n hx hb dX3_splitOff_68 rfl (lv_at hl 1 rfl) ?_
          refine lv_dup hx hb dX3_splitOff_69 rfl ?_
          refine g_get 3 hx hb hts hown hC hI i_X1 (ok_rec hr hi3) (e_rec hr hi3 g_us) rfl (by decide) qf_X3_103 rfl rfl dX3_splitOff_70 ?_
          refine lv_iload_n hx hb dX3_splitOff_73 rfl (lv_at hl 4 rfl) ?_
          refine lv_isub hx hb dX3_splitOff_74 ?_
          refine g_put 3 (ty := .int) hx hb hts hown hC hI i_X1 tyX1_ok nmX1 (ok_rec hr hi3) (e_rec hr hi3 g_us) rfl (by decide) qf_X3_103 rfl rfl rfl rfl rfl (Nat.le_of_ble_eq_true rfl) (p_rec hr hi3 (by decide)) g_hs dX3_splitOff_75 (fun H locs hI => ?_)
          refine lv_aload hx hb dX3_splitOff_78 (lv_at hl 0 rfl) ?_
          refine g_get 0 hx hb hts hown hC hI i_X1 (ok_rec hr hi8) (e_rec hr hi8 g_us) rfl (by decide) qf_X3_96 rfl rfl dX3_splitOff_80 ?_
          exact g_ir hQ hx hb hr0 hlk hC hI dX3_splitOff_83 rfl (by unfold q_split; (try simp only [q1]); (first | rw [if_pos c4] | rw [if_neg c4] | skip); (first | rw [if_pos c5] | rw [if_neg c5] | skip); (try simp only [q6]); try rfl) rfl (by unfold q_split; (try simp only [q1]); (first | rw [if_pos c4] | rw [if_neg c4] | skip); (first | rw [if_pos c5] | rw [if_neg c5] | skip); (try simp only [q6]); try rfl)
      · refine lv_ldc (v := (-2000000002)) hx hb hown (hts _ qc_X3_106) dX3_splitOff_26 ?_
        exact g_ir hQ hx hb hr0 hlk hC hI dX3_splitOff_28 rfl (by unfold q_split; (try simp only [q1]); (first | rw [if_pos c4] | rw [if_neg c4] | skip); (first | rw [if_pos c5] | rw [if_neg c5] | skip); try rfl) rfl (by unfold q_split; (try simp only [q1]); (first | rw [if_pos c4] | rw [if_neg c4] | skip); (first | rw [if_pos c5] | rw [if_neg c5] | skip); try rfl)
    · refine lv_ldc (v := (-2000000001)) hx hb hown (hts _ qc_X3_74) dX3_splitOff_15 ?_
      exact g_ir hQ hx hb hr0 hlk hC hI dX3_splitOff_17 rfl (by unfold q_split; (try simp only [q1]); (first | rw [if_pos c4] | rw [if_neg c4] | skip); try rfl) rfl (by unfold q_split; (try simp only [q1]); (first | rw [if_pos c4] | rw [if_neg c4] | skip); try rfl)
def q_store (V : g_V) (o : Int32) (g : Int32) (a : Int32) : Int32 × g_V :=
  if o < 0 then ((-2000000001), V) else (if 5 ≤ o then ((-2000000001), V) else (if k_in g 3 then (if a < 1 then ((-2000000001), V) else (if a ≤ 4000 then (match (q_freePlace V) with | none => ((-2000000003), V) | some i8 => (if a ≤ (q_roomIn V g) then ((q_use (q_next (q_fill V g a)) i8 ((q_fill V g a) 0 7) o g (a - ((a * ((q_fill V g a) 4 3)) / 100))) (12 + i8) 0, (q_use (q_next (q_fill V g a)) i8 ((q_fill V g a) 0 7) o g (a - ((a * ((q_fill V g a) 4 3)) / 100)))) else ((-2000000003), V))) else ((-2000000001), V))) else ((-2000000001), V)))
abbrev rm_X3_storeGrain : Room := { frames := 2, cells := 0, slots := 0, locals := 49 }
set_option maxHeartbeats 4000000 in
set_option maxRecDepth 100000 in
theorem c_X3_storeGrain (l : Launch) (D : va_G) (tb : g_T) (ad : g_Ad) (hj : g_inj ad) (P : g_P) (M : g_M) (r : Nat) (hr : r < 6) (V : g_V) (o : Int32) (g : Int32) (a : Int32) : g_Ci l yX3_storeGrain cX3_storeGrain 6 (some .int) rm_X3_storeGrain D tb ad [.ref (ad r 0), .int o, .int g, .int a] P (va_up M r V) ((q_store V o g a).1) P (va_up M r ((q_store V o g a).2)) := by
  refine g_go (by decide) (Nat.le_of_ble_eq_true rfl) hj ?_
  intro p e s m below meth c ls H locs R args Q hR0 hQ hx hb hml hr0 hlk hown hts hC hI hl
  subst hR0
  have hown : s.vm.findClass RX3 = some m.cls := hown
  have hl : lv_has ls 6 [(0, .ref (ad r 0)), (1, .int o), (2, .int g), (3, .int a)] := hl
  refine lv_iload_n hx hb dX3_storeGrain_0 rfl (lv_at hl 1 rfl) ?_
  refine lv_if_lt (tgt := 28) hx hb dX3_storeGrain_1 (by decide) (fun c1 => ?_) (fun c1 => ?_)
  · refine lv_ldc (v := (-2000000001)) hx hb hown (hts _ qc_X3_74) dX3_storeGrain_28 ?_
    exact g_ir hQ hx hb hr0 hlk hC hI dX3_storeGrain_30 rfl (by unfold q_store; (first | rw [if_pos c1] | rw [if_neg c1] | skip); try rfl) rfl (by unfold q_store; (first | rw [if_pos c1] | rw [if_neg c1] | skip); try rfl)
  · refine lv_iload_n hx hb dX3_storeGrain_4 rfl (lv_at hl 1 rfl) ?_
    refine lv_iconst (v := 5) hx hb dX3_storeGrain_5 (by decide) ?_
    refine lv_icmp_ge (tgt := 28) hx hb dX3_storeGrain_6 (by decide) (fun c2 => ?_) (fun c2 => ?_)
    · refine lv_ldc (v := (-2000000001)) hx hb hown (hts _ qc_X3_74) dX3_storeGrain_28 ?_
      exact g_ir hQ hx hb hr0 hlk hC hI dX3_storeGrain_30 rfl (by unfold q_store; (first | rw [if_pos c1] | rw [if_neg c1] | skip); (first | rw [if_pos c2] | rw [if_neg c2] | skip); try rfl) rfl (by unfold q_store; (first | rw [if_pos c1] | rw [if_neg c1] | skip); (first | rw [if_pos c2] | rw [if_neg c2] | skip); try rfl)
    · refine lv_iload_n hx hb dX3_storeGrain_9 rfl (lv_at hl 2 rfl) ?_
      refine g_callNi (rest := []) (c_X4_isGrade l D tb ad hj P (va_up M r V) g) rfl rfl gm_X4_isGrade hx hb hml hown hts hC hI qN_X3_70 rfl hl.1 rfl ⟨rfl, rfl, by decide, by decide⟩ (Nat.le_of_ble_eq_true rfl) ⟨Nat.zero_le _, Nat.zero_le _⟩ dX3_storeGrain_10 (fun H locs hI => ?_)
      refine g_tf (fun c3 => ?_) (fun c3 => ?_)
      · refine lv_if_eq (tgt := 28) hx hb dX3_storeGrain_13 (by decide) (fun c4 => absurd c4 (by decide)) (fun _ => ?_)
        refine lv_iload_n hx hb dX3_storeGrain_16 rfl (lv_at hl 3 rfl) ?_
        refine lv_iconst (v := 1) hx hb dX3_storeGrain_17 (by decide) ?_
        refine lv_icmp_lt (tgt := 28) hx hb dX3_storeGrain_18 (by decide) (fun c5 => ?_) (fun c5 => ?_)
        · refine lv_ldc (v := (-2000000001)) hx hb hown (hts _ qc_X3_74) dX3_storeGrain_28 ?_
          exact g_ir hQ hx hb hr0 hlk hC hI dX3_storeGrain_30 rfl (by unfold q_store; (first | rw [if_pos c1] | rw [if_neg c1] | skip); (first | rw [if_pos c2] | rw [if_neg c2] | skip); (first | rw [if_pos c3] | rw [if_neg c3] | skip); (first | rw [if_pos c5] | rw [if_neg c5] | skip); try rfl) rfl (by unfold q_store; (first | rw [if_pos c1] | rw [if_neg c1] | skip); (first | rw [if_pos c2] | rw [if_neg c2] | skip); (first | rw [if_pos c3] | rw [if_neg c3] | skip); (first | rw [if_pos c5] | rw [if_neg c5] | skip); try rfl)
        · refine lv_iload_n hx hb dX3_storeGrain_21 rfl (lv_at hl 3 rfl) ?_
          refine lv_sipush (v := 4000) hx hb dX3_storeGrain_22 (by decide) ?_
          refine lv_icmp_le (tgt := 31) hx hb dX3_storeGrain_25 (by decide) (fun c6 => ?_) (fun c6 => ?_)
          · refine lv_aload_n hx hb dX3_storeGrain_31 rfl (lv_at hl 0 rfl) ?_
            refine g_callVq (rest := []) (c_X3_freePlace l D tb ad hj P M r hr V) rfl rfl gm_X3_freePlace hx hb hml hown hts hC hI (ok_c 0 hr (by decide)) (e_st hr g_us) rfl rfl qm_X3_75 rfl hl.1 rfl ⟨rfl, rfl, by decide, by decide⟩ (Nat.le_of_ble_eq_true rfl) ⟨Nat.zero_le _, Nat.zero_le _⟩ dX3_storeGrain_32 (fun H locs hI => ?_)
            refine g_nf (fun q7 => ?_) (fun i8 q7 => ?_)
            · refine lv_astoreN (lv' := [(4, .null), (0, .ref (ad r 0)), (1, .int o), (2, .int g), (3, .int a)]) hx hb dX3_storeGrain_35 hl (by decide) rfl (fun ls hl => ?_)
              refine lv_aloadN hx hb dX3_storeGrain_37 (lv_at hl 0 rfl) ?_
              refine lv_ifnullN (tgt := 51) hx hb dX3_storeGrain_39 (by decide) ?_
              refine lv_ldc (v := (-2000000003)) hx hb hown (hts _ qc_X3_83) dX3_storeGrain_51 ?_
              exact g_ir hQ hx hb hr0 hlk hC hI dX3_storeGrain_53 rfl (by unfold q_store; (first | rw [if_pos c1] | rw [if_neg c1] | skip); (first | rw [if_pos c2] | rw [if_neg c2] | skip); (first | rw [if_pos c3] | rw [if_neg c3] | skip); (first | rw [if_pos c5] | rw [if_neg c5] | skip); (first | rw [if_pos c6] | rw [if_neg c6] | skip); (try simp only [q7]); try rfl) rfl (by unfold q_store; (first | rw [if_pos c1] | rw [if_neg c1] | skip); (first | rw [if_pos c2] | rw [if_neg c2] | skip); (first | rw [if_pos c3] | rw [if_neg c3] | skip); (first | rw [if_pos c5] | rw [if_neg c5] | skip); (first | rw [if_pos c6] | rw [if_neg c6] | skip); (try simp only [q7]); try rfl)
            · have hi9 : i8 < 16 := k_find_lt q7
              refine lv_astore (lv' := [(4, .ref (ad r (12 + i8))), (0, .ref (ad r 0)), (1, .int o), (2, .int g), (3, .int a)]) hx hb dX3_storeGrain_35 hl (by decide) rfl (fun ls hl => ?_)
              refine lv_aload hx hb dX3_storeGrain_37 (lv_at hl 0 rfl) ?_
              refine lv_ifnull hx hb dX3_storeGrain_39 ?_
              refine lv_iload_n hx hb dX3_storeGrain_42 rfl (lv_at hl 4 rfl) ?_
              refine lv_aload_n hx hb dX3_storeGrain_43 rfl (lv_at hl 1 rfl) ?_
              refine lv_iload_n hx hb dX3_storeGrain_44 rfl (lv_at hl 3 rfl) ?_
              refine g_callVi (rest := [.int a]) (c_X3_roomIn l D tb ad hj P M r hr V g) rfl rfl gm_X3_roomIn hx hb hml hown hts hC hI (ok_c 0 hr (by decide)) (e_st hr g_us) rfl rfl qm_X3_79 rfl hl.1 rfl ⟨rfl, rfl, by decide, by decide⟩ (Nat.le_of_ble_eq_true rfl) ⟨Nat.zero_le _, Nat.zero_le _⟩ dX3_storeGrain_45 (fun H locs hI => ?_)
              refine lv_icmp_le (tgt := 54) hx hb dX3_storeGrain_48 (by decide) (fun c10 => ?_) (fun c10 => ?_)
              · refine lv_aload_n hx hb dX3_storeGrain_54 rfl (lv_at hl 1 rfl) ?_
                refine lv_iload_n hx hb dX3_storeGrain_55 rfl (lv_at hl 3 rfl) ?_
                refine lv_iload_n hx hb dX3_storeGrain_56 rfl (lv_at hl 4 rfl) ?_
                refine g_callVv (rest := []) (c_X3_fillBins l D tb ad hj P M r hr V g a) rfl rfl gm_X3_fillBins hx hb hml hown hts hC hI (ok_c 0 hr (by decide)) (e_st hr g_us) rfl rfl qm_X3_84 rfl hl.1 rfl ⟨rfl, rfl, by decide, by decide⟩ (Nat.le_of_ble_eq_true rfl) ⟨Nat.zero_le _, Nat.zero_le _⟩ dX3_storeGrain_57 (fun H locs hI => ?_)
                refine lv_iload_n hx hb dX3_storeGrain_60 rfl (lv_at hl 4 rfl) ?_
                refine lv_aload_n hx hb dX3_storeGrain_61 rfl (lv_at hl 1 rfl) ?_
                refine g_get 3 hx hb hts hown hC hI i_X3 (ok_c 0 hr (by decide)) (e_st hr g_us) rfl (by decide) qf_X3_27 rfl rfl dX3_storeGrain_62 ?_
                refine lv_iconst (v := 3) hx hb dX3_storeGrain_65 (by decide) ?_
                refine g_iald 3 hx hb hC hI (ok_c 4 hr (by decide)) (e_se hr g_us) (by unfold vp_in; decide) rfl dX3_storeGrain_66 ?_
                refine lv_imul hx hb dX3_storeGrain_67 ?_
                refine lv_bipush (v := 100) hx hb dX3_storeGrain_68 (by decide) ?_
                refine lv_idiv hx hb dX3_storeGrain_70 (by decide) ?_
                refine lv_istore (lv' := [(5, .int ((a * ((q_fill V g a) 4 3)) / 100)), (4, .ref (ad r (12 + i8))), (0, .ref (ad r 0)), (1, .int o), (2, .int g), (3, .int a)]) hx hb dX3_storeGrain_71 hl (by decide) rfl (fun ls hl => ?_)
                refine lv_aload hx hb dX3_storeGrain_73 (lv_at hl 1 rfl) ?_
                refine lv_aload_n hx hb dX3_storeGrain_75 rfl (lv_at hl 2 rfl) ?_
                refine g_callVi (rest := [.ref (ad r (12 + i8))]) (c_X3_nextNumber l D tb ad hj P M r hr (q_fill V g a)) rfl rfl gm_X3_nextNumber hx hb hml hown hts hC hI (ok_c 0 hr (by decide)) (e_st hr g_us) rfl rfl qm_X3_88 rfl hl.1 rfl ⟨rfl, rfl, by decide, by decide⟩ (Nat.le_of_ble_eq_true rfl) ⟨Nat.zero_le _, Nat.zero_le _⟩ dX3_storeGrain_76 (fun H locs hI => ?_)
                refine lv_iload_n hx hb dX3_storeGrain_79 rfl (lv_at hl 3 rfl) ?_
                refine lv_iload_n hx hb dX3_storeGrain_80 rfl (lv_at hl 4 rfl) ?_
                refine lv_iload_n hx hb dX3_storeGrain_81 rfl (lv_at hl 5 rfl) ?_
                refine lv_iload hx hb dX3_storeGrain_82 (lv_at hl 0 rfl) ?_
                refine lv_isub hx hb dX3_storeGrain_84 ?_
                refine g_callVv (rest := []) (c_X1_use l D tb ad hj P M r hr (q_next (q_fill V g a)) i8 hi9 ((q_fill V g a) 0 7) o g (a - ((a * ((q_fill V g a) 4 3)) / 100))) rfl rfl gm_X1_use hx hb hml hown hts hC hI (ok_rec hr hi9) (e_rec hr hi9 g_us) rfl rfl qm_X3_92 rfl hl.1 rfl ⟨rfl, rfl, by decide, by decide⟩ (Nat.le_of_ble_eq_true rfl) ⟨Nat.zero_le _, Nat.zero_le _⟩ dX3_storeGrain_85 (fun H locs hI => ?_)
                refine lv_aload hx hb dX3_storeGrain_88 (lv_at hl 1 rfl) ?_
                refine g_get 0 hx hb hts hown hC hI i_X1 (ok_rec hr hi9) (e_rec hr hi9 g_us) rfl (by decide) qf_X3_96 rfl rfl dX3_storeGrain_90 ?_
                exact g_ir hQ hx hb hr0 hlk hC hI dX3_storeGrain_93 rfl (by unfold q_store; (first | rw [if_pos c1] | rw [if_neg c1] | skip); (first | rw [if_pos c2] | rw [if_neg c2] | skip); (first | rw [if_pos c3] | rw [if_neg c3] | skip); (first | rw [if_pos c5] | rw [if_neg c5] | skip); (first | rw [if_pos c6] | rw [if_neg c6] | skip); (try simp only [q7]); (first | rw [if_pos c10] | rw [if_neg c10] | skip); try rfl) rfl (by unfold q_store; (first | rw [if_pos c1] | rw [if_neg c1] | skip); (first | rw [if_pos c2] | rw [if_neg c2] | skip); (first | rw [if_pos c3] | rw [if_neg c3] | skip); (first | rw [if_pos c5] | rw [if_neg c5] | skip); (first | rw [if_pos c6] | rw [if_neg c6] | skip); (try simp only [q7]); (first | rw [if_pos c10] | rw [if_neg c10] | skip); try rfl)
              · refine lv_ldc (v := (-2000000003)) hx hb hown (hts _ qc_X3_83) dX3_storeGrain_51 ?_
                exact g_ir hQ hx hb hr0 hlk hC hI dX3_storeGrain_53 rfl (by unfold q_store; (first | rw [if_pos c1] | rw [if_neg c1] | skip); (first | rw [if_pos c2] | rw [if_neg c2] | skip); (first | rw [if_pos c3] | rw [if_neg c3] | skip); (first | rw [if_pos c5] | rw [if_neg c5] | skip); (first | rw [if_pos c6] | rw [if_neg c6] | skip); (try simp only [q7]); (first | rw [if_pos c10] | rw [if_neg c10] | skip); try rfl) rfl (by unfold q_store; (first | rw [if_pos c1] | rw [if_neg c1] | skip); (first | rw [if_pos c2] | rw [if_neg c2] | skip); (first | rw [if_pos c3] | rw [if_neg c3] | skip); (first | rw [if_pos c5] | rw [if_neg c5] | skip); (first | rw [if_pos c6] | rw [if_neg c6] | skip); (try simp only [q7]); (first | rw [if_pos c10] | rw [if_neg c10] | skip); try rfl)
          · refine lv_ldc (v := (-2000000001)) hx hb hown (hts _ qc_X3_74) dX3_storeGrain_28 ?_
            exact g_ir hQ hx hb hr0 hlk hC hI dX3_storeGrain_30 rfl (by unfold q_store; (first | rw [if_pos c1] | rw [if_neg c1] | skip); (first | rw [if_pos c2] | rw [if_neg c2] | skip); (first | rw [if_pos c3] | rw [if_neg c3] | skip); (first | rw [if_pos c5] | rw [if_neg c5] | skip); (first | rw [if_pos c6] | rw [if_neg c6] | skip); try rfl) rfl (by unfold q_store; (first | rw [if_pos c1] | rw [if_neg c1] | skip); (first | rw [if_pos c2] | rw [if_neg c2] | skip); (first | rw [if_pos c3] | rw [if_neg c3] | skip); (first | rw [if_pos c5] | rw [if_neg c5] | skip); (first | rw [if_pos c6] | rw [if_neg c6] | skip); try rfl)
      · refine lv_if_eq (tgt := 28) hx hb dX3_storeGrain_13 (by decide) (fun _ => ?_) (fun c11 => absurd c11 (by decide))
        refine lv_ldc (v := (-2000000001)) hx hb hown (hts _ qc_X3_74) dX3_storeGrain_28 ?_
        exact g_ir hQ hx hb hr0 hlk hC hI dX3_storeGrain_30 rfl (by unfold q_store; (first | rw [if_pos c1] | rw [if_neg c1] | skip); (first | rw [if_pos c2] | rw [if_neg c2] | skip); (first | rw [if_pos c3] | rw [if_neg c3] | skip); try rfl) rfl (by unfold q_store; (first | rw [if_pos c1] | rw [if_neg c1] | skip); (first | rw [if_pos c2] | rw [if_neg c2] | skip); (first | rw [if_pos c3] | rw [if_neg c3] | skip); try rfl)
end
