section
-- ===== PART A: goes FIRST, ahead of the names: the tables' words, and 'selects' of the private methods out of them =====
/-- a private method of a class that the tables say can be made, by its rows of tables_1 -/
def lw_okq (q : MethodName × Nat) : Prop := (q.1.cls ≠ "java/lang/invoke/MethodHandle" ∧ q.1.cls ≠ "java/lang/invoke/VarHandle") ∧ Cond.instantiable q.1.cls q.2 ∈ tables_1 ∧ Cond.privateMethod q.1 ∈ tables_1 ∧ Cond.instanceMethod q.1 ∈ tables_1
theorem lw_p0 : lw_okq (⟨"SlidingRanks$Teller", "scan", "(LSlidingRanks$Tape;)V"⟩, 12) := ⟨⟨by decide +kernel, by decide +kernel⟩, List.mem_of_getElem? (i := 40) (by decide +kernel), List.mem_of_getElem? (i := 249) (by decide +kernel), List.mem_of_getElem? (i := 250) (by decide +kernel)⟩
theorem lw_p1 : lw_okq (⟨"SlidingRanks$Teller", "scanName", "(LSlidingRanks$Tape;)V"⟩, 12) := ⟨⟨by decide +kernel, by decide +kernel⟩, List.mem_of_getElem? (i := 40) (by decide +kernel), List.mem_of_getElem? (i := 260) (by decide +kernel), List.mem_of_getElem? (i := 261) (by decide +kernel)⟩
theorem lw_p2 : lw_okq (⟨"SlidingRanks$Teller", "numberOfName", "(LSlidingRanks$Tape;)I"⟩, 12) := ⟨⟨by decide +kernel, by decide +kernel⟩, List.mem_of_getElem? (i := 40) (by decide +kernel), List.mem_of_getElem? (i := 264) (by decide +kernel), List.mem_of_getElem? (i := 265) (by decide +kernel)⟩
theorem lw_p3 : lw_okq (⟨"SlidingRanks$Teller", "scanNumber", "(LSlidingRanks$Tape;)V"⟩, 12) := ⟨⟨by decide +kernel, by decide +kernel⟩, List.mem_of_getElem? (i := 40) (by decide +kernel), List.mem_of_getElem? (i := 320) (by decide +kernel), List.mem_of_getElem? (i := 321) (by decide +kernel)⟩
theorem lw_p4 : lw_okq (⟨"SlidingRanks$Teller", "refuse", "(I)V"⟩, 12) := ⟨⟨by decide +kernel, by decide +kernel⟩, List.mem_of_getElem? (i := 40) (by decide +kernel), List.mem_of_getElem? (i := 324) (by decide +kernel), List.mem_of_getElem? (i := 325) (by decide +kernel)⟩
theorem lw_p5 : lw_okq (⟨"SlidingRanks$Teller", "takeToken", "(I)V"⟩, 12) := ⟨⟨by decide +kernel, by decide +kernel⟩, List.mem_of_getElem? (i := 40) (by decide +kernel), List.mem_of_getElem? (i := 328) (by decide +kernel), List.mem_of_getElem? (i := 329) (by decide +kernel)⟩
theorem lw_p6 : lw_okq (⟨"SlidingRanks$Teller", "takeLineName", "()V"⟩, 12) := ⟨⟨by decide +kernel, by decide +kernel⟩, List.mem_of_getElem? (i := 40) (by decide +kernel), List.mem_of_getElem? (i := 332) (by decide +kernel), List.mem_of_getElem? (i := 333) (by decide +kernel)⟩
theorem lw_p7 : lw_okq (⟨"SlidingRanks$Teller", "takeNumber", "(III)I"⟩, 12) := ⟨⟨by decide +kernel, by decide +kernel⟩, List.mem_of_getElem? (i := 40) (by decide +kernel), List.mem_of_getElem? (i := 336) (by decide +kernel), List.mem_of_getElem? (i := 337) (by decide +kernel)⟩
theorem lw_p8 : lw_okq (⟨"SlidingRanks$Teller", "takeChoice", "(II)I"⟩, 12) := ⟨⟨by decide +kernel, by decide +kernel⟩, List.mem_of_getElem? (i := 40) (by decide +kernel), List.mem_of_getElem? (i := 343) (by decide +kernel), List.mem_of_getElem? (i := 344) (by decide +kernel)⟩
theorem lw_p9 : lw_okq (⟨"SlidingRanks$Teller", "takeLineEnd", "(I)V"⟩, 12) := ⟨⟨by decide +kernel, by decide +kernel⟩, List.mem_of_getElem? (i := 40) (by decide +kernel), List.mem_of_getElem? (i := 347) (by decide +kernel), List.mem_of_getElem? (i := 348) (by decide +kernel)⟩
theorem lw_p10 : lw_okq (⟨"SlidingRanks$Teller", "takeWhole", "()V"⟩, 12) := ⟨⟨by decide +kernel, by decide +kernel⟩, List.mem_of_getElem? (i := 40) (by decide +kernel), List.mem_of_getElem? (i := 351) (by decide +kernel), List.mem_of_getElem? (i := 352) (by decide +kernel)⟩
theorem lw_p11 : lw_okq (⟨"SlidingRanks$Teller", "takeFraction", "()V"⟩, 12) := ⟨⟨by decide +kernel, by decide +kernel⟩, List.mem_of_getElem? (i := 40) (by decide +kernel), List.mem_of_getElem? (i := 363) (by decide +kernel), List.mem_of_getElem? (i := 364) (by decide +kernel)⟩
theorem lw_p12 : lw_okq (⟨"SlidingRanks$Teller", "takeReadingOrMore", "(I)V"⟩, 12) := ⟨⟨by decide +kernel, by decide +kernel⟩, List.mem_of_getElem? (i := 40) (by decide +kernel), List.mem_of_getElem? (i := 375) (by decide +kernel), List.mem_of_getElem? (i := 376) (by decide +kernel)⟩
theorem lw_p13 : lw_okq (⟨"SlidingRanks", "countResults", "()I"⟩, 9) := ⟨⟨by decide +kernel, by decide +kernel⟩, List.mem_of_getElem? (i := 16) (by decide +kernel), List.mem_of_getElem? (i := 401) (by decide +kernel), List.mem_of_getElem? (i := 402) (by decide +kernel)⟩
theorem lw_p14 : lw_okq (⟨"SlidingRanks$Row", "takeOut", "(I)V"⟩, 3) := ⟨⟨by decide +kernel, by decide +kernel⟩, List.mem_of_getElem? (i := 143) (by decide +kernel), List.mem_of_getElem? (i := 417) (by decide +kernel), List.mem_of_getElem? (i := 418) (by decide +kernel)⟩
theorem lw_p15 : lw_okq (⟨"SlidingRanks$Row", "putIn", "(I)V"⟩, 3) := ⟨⟨by decide +kernel, by decide +kernel⟩, List.mem_of_getElem? (i := 143) (by decide +kernel), List.mem_of_getElem? (i := 425) (by decide +kernel), List.mem_of_getElem? (i := 426) (by decide +kernel)⟩
def lw_privs_1 : List (MethodName × Nat) := [(⟨"SlidingRanks$Teller", "scan", "(LSlidingRanks$Tape;)V"⟩, 12), (⟨"SlidingRanks$Teller", "scanName", "(LSlidingRanks$Tape;)V"⟩, 12), (⟨"SlidingRanks$Teller", "numberOfName", "(LSlidingRanks$Tape;)I"⟩, 12), (⟨"SlidingRanks$Teller", "scanNumber", "(LSlidingRanks$Tape;)V"⟩, 12), (⟨"SlidingRanks$Teller", "refuse", "(I)V"⟩, 12), (⟨"SlidingRanks$Teller", "takeToken", "(I)V"⟩, 12), (⟨"SlidingRanks$Teller", "takeLineName", "()V"⟩, 12), (⟨"SlidingRanks$Teller", "takeNumber", "(III)I"⟩, 12), (⟨"SlidingRanks$Teller", "takeChoice", "(II)I"⟩, 12), (⟨"SlidingRanks$Teller", "takeLineEnd", "(I)V"⟩, 12), (⟨"SlidingRanks$Teller", "takeWhole", "()V"⟩, 12), (⟨"SlidingRanks$Teller", "takeFraction", "()V"⟩, 12), (⟨"SlidingRanks$Teller", "takeReadingOrMore", "(I)V"⟩, 12), (⟨"SlidingRanks", "countResults", "()I"⟩, 9), (⟨"SlidingRanks$Row", "takeOut", "(I)V"⟩, 3), (⟨"SlidingRanks$Row", "putIn", "(I)V"⟩, 3)]
theorem lw_r1 : ∀ q ∈ lw_privs_1, lw_okq q := List.forall_mem_cons.mpr ⟨lw_p0, List.forall_mem_cons.mpr ⟨lw_p1, List.forall_mem_cons.mpr ⟨lw_p2, List.forall_mem_cons.mpr ⟨lw_p3, List.forall_mem_cons.mpr ⟨lw_p4, List.forall_mem_cons.mpr ⟨lw_p5, List.forall_mem_cons.mpr ⟨lw_p6, List.forall_mem_cons.mpr ⟨lw_p7, List.forall_mem_cons.mpr ⟨lw_p8, List.forall_mem_cons.mpr ⟨lw_p9, List.forall_mem_cons.mpr ⟨lw_p10, List.forall_mem_cons.mpr ⟨lw_p11, List.forall_mem_cons.mpr ⟨lw_p12, List.forall_mem_cons.mpr ⟨lw_p13, List.forall_mem_cons.mpr ⟨lw_p14, List.forall_mem_cons.mpr ⟨lw_p15, fun _ h => absurd h List.not_mem_nil⟩⟩⟩⟩⟩⟩⟩⟩⟩⟩⟩⟩⟩⟩⟩⟩
theorem lw_p16 : lw_okq (⟨"SlidingRanks$Row", "isNearLower", "(II)Z"⟩, 3) := ⟨⟨by decide +kernel, by decide +kernel⟩, List.mem_of_getElem? (i := 143) (by decide +kernel), List.mem_of_getElem? (i := 478) (by decide +kernel), List.mem_of_getElem? (i := 479) (by decide +kernel)⟩
theorem lw_p17 : lw_okq (⟨"SlidingRanks", "writeWords", "()V"⟩, 9) := ⟨⟨by decide +kernel, by decide +kernel⟩, List.mem_of_getElem? (i := 16) (by decide +kernel), List.mem_of_getElem? (i := 508) (by decide +kernel), List.mem_of_getElem? (i := 509) (by decide +kernel)⟩
theorem lw_p18 : lw_okq (⟨"SlidingRanks$Words", "push", "(I)V"⟩, 2) := ⟨⟨by decide +kernel, by decide +kernel⟩, List.mem_of_getElem? (i := 160) (by decide +kernel), List.mem_of_getElem? (i := 516) (by decide +kernel), List.mem_of_getElem? (i := 517) (by decide +kernel)⟩
theorem lw_p19 : lw_okq (⟨"SlidingRanks$Words", "writeWhole", "(I)V"⟩, 2) := ⟨⟨by decide +kernel, by decide +kernel⟩, List.mem_of_getElem? (i := 160) (by decide +kernel), List.mem_of_getElem? (i := 521) (by decide +kernel), List.mem_of_getElem? (i := 522) (by decide +kernel)⟩
theorem lw_p20 : lw_okq (⟨"SlidingRanks", "putBehind", "(I)I"⟩, 9) := ⟨⟨by decide +kernel, by decide +kernel⟩, List.mem_of_getElem? (i := 16) (by decide +kernel), List.mem_of_getElem? (i := 585) (by decide +kernel), List.mem_of_getElem? (i := 586) (by decide +kernel)⟩
theorem lw_p21 : lw_okq (⟨"SlidingRanks", "replace", "(II)I"⟩, 9) := ⟨⟨by decide +kernel, by decide +kernel⟩, List.mem_of_getElem? (i := 16) (by decide +kernel), List.mem_of_getElem? (i := 599) (by decide +kernel), List.mem_of_getElem? (i := 600) (by decide +kernel)⟩
theorem lw_p22 : lw_okq (⟨"SlidingRanks", "isImage", "(I)Z"⟩, 9) := ⟨⟨by decide +kernel, by decide +kernel⟩, List.mem_of_getElem? (i := 16) (by decide +kernel), List.mem_of_getElem? (i := 652) (by decide +kernel), List.mem_of_getElem? (i := 653) (by decide +kernel)⟩
theorem lw_p23 : lw_okq (⟨"SlidingRanks", "isSheet", "(I)Z"⟩, 9) := ⟨⟨by decide +kernel, by decide +kernel⟩, List.mem_of_getElem? (i := 16) (by decide +kernel), List.mem_of_getElem? (i := 664) (by decide +kernel), List.mem_of_getElem? (i := 665) (by decide +kernel)⟩
theorem lw_p24 : lw_okq (⟨"SlidingRanks", "countImages", "()I"⟩, 9) := ⟨⟨by decide +kernel, by decide +kernel⟩, List.mem_of_getElem? (i := 16) (by decide +kernel), List.mem_of_getElem? (i := 713) (by decide +kernel), List.mem_of_getElem? (i := 714) (by decide +kernel)⟩
theorem lw_p25 : lw_okq (⟨"SlidingRanks", "countShownBytes", "()I"⟩, 9) := ⟨⟨by decide +kernel, by decide +kernel⟩, List.mem_of_getElem? (i := 16) (by decide +kernel), List.mem_of_getElem? (i := 717) (by decide +kernel), List.mem_of_getElem? (i := 718) (by decide +kernel)⟩
theorem lw_p26 : lw_okq (⟨"SlidingRanksModel", "starts", "()V"⟩, 28) := ⟨⟨by decide +kernel, by decide +kernel⟩, List.mem_of_getElem? (i := 721) (by decide +kernel), List.mem_of_getElem? (i := 828) (by decide +kernel), List.mem_of_getElem? (i := 829) (by decide +kernel)⟩
theorem lw_p27 : lw_okq (⟨"SlidingRanksModel", "begins", "(I)V"⟩, 28) := ⟨⟨by decide +kernel, by decide +kernel⟩, List.mem_of_getElem? (i := 721) (by decide +kernel), List.mem_of_getElem? (i := 832) (by decide +kernel), List.mem_of_getElem? (i := 833) (by decide +kernel)⟩
theorem lw_p28 : lw_okq (⟨"SlidingRanksModel", "readsOn", "()V"⟩, 28) := ⟨⟨by decide +kernel, by decide +kernel⟩, List.mem_of_getElem? (i := 721) (by decide +kernel), List.mem_of_getElem? (i := 836) (by decide +kernel), List.mem_of_getElem? (i := 837) (by decide +kernel)⟩
theorem lw_p29 : lw_okq (⟨"SlidingRanksModel", "byteAt", "(I)I"⟩, 28) := ⟨⟨by decide +kernel, by decide +kernel⟩, List.mem_of_getElem? (i := 721) (by decide +kernel), List.mem_of_getElem? (i := 840) (by decide +kernel), List.mem_of_getElem? (i := 841) (by decide +kernel)⟩
theorem lw_p30 : lw_okq (⟨"SlidingRanksModel", "fails", "(I)V"⟩, 28) := ⟨⟨by decide +kernel, by decide +kernel⟩, List.mem_of_getElem? (i := 721) (by decide +kernel), List.mem_of_getElem? (i := 848) (by decide +kernel), List.mem_of_getElem? (i := 849) (by decide +kernel)⟩
theorem lw_p31 : lw_okq (⟨"SlidingRanksModel", "readLine", "()V"⟩, 28) := ⟨⟨by decide +kernel, by decide +kernel⟩, List.mem_of_getElem? (i := 721) (by decide +kernel), List.mem_of_getElem? (i := 852) (by decide +kernel), List.mem_of_getElem? (i := 853) (by decide +kernel)⟩
def lw_privs_2 : List (MethodName × Nat) := [(⟨"SlidingRanks$Row", "isNearLower", "(II)Z"⟩, 3), (⟨"SlidingRanks", "writeWords", "()V"⟩, 9), (⟨"SlidingRanks$Words", "push", "(I)V"⟩, 2), (⟨"SlidingRanks$Words", "writeWhole", "(I)V"⟩, 2), (⟨"SlidingRanks", "putBehind", "(I)I"⟩, 9), (⟨"SlidingRanks", "replace", "(II)I"⟩, 9), (⟨"SlidingRanks", "isImage", "(I)Z"⟩, 9), (⟨"SlidingRanks", "isSheet", "(I)Z"⟩, 9), (⟨"SlidingRanks", "countImages", "()I"⟩, 9), (⟨"SlidingRanks", "countShownBytes", "()I"⟩, 9), (⟨"SlidingRanksModel", "starts", "()V"⟩, 28), (⟨"SlidingRanksModel", "begins", "(I)V"⟩, 28), (⟨"SlidingRanksModel", "readsOn", "()V"⟩, 28), (⟨"SlidingRanksModel", "byteAt", "(I)I"⟩, 28), (⟨"SlidingRanksModel", "fails", "(I)V"⟩, 28), (⟨"SlidingRanksModel", "readLine", "()V"⟩, 28)]
theorem lw_r2 : ∀ q ∈ lw_privs_2, lw_okq q := List.forall_mem_cons.mpr ⟨lw_p16, List.forall_mem_cons.mpr ⟨lw_p17, List.forall_mem_cons.mpr ⟨lw_p18, List.forall_mem_cons.mpr ⟨lw_p19, List.forall_mem_cons.mpr ⟨lw_p20, List.forall_mem_cons.mpr ⟨lw_p21, List.forall_mem_cons.mpr ⟨lw_p22, List.forall_mem_cons.mpr ⟨lw_p23, List.forall_mem_cons.mpr ⟨lw_p24, List.forall_mem_cons.mpr ⟨lw_p25, List.forall_mem_cons.mpr ⟨lw_p26, List.forall_mem_cons.mpr ⟨lw_p27, List.forall_mem_cons.mpr ⟨lw_p28, List.forall_mem_cons.mpr ⟨lw_p29, List.forall_mem_cons.mpr ⟨lw_p30, List.forall_mem_cons.mpr ⟨lw_p31, fun _ h => absurd h List.not_mem_nil⟩⟩⟩⟩⟩⟩⟩⟩⟩⟩⟩⟩⟩⟩⟩⟩
theorem lw_p32 : lw_okq (⟨"SlidingRanksModel", "nameHere", "()I"⟩, 28) := ⟨⟨by decide +kernel, by decide +kernel⟩, List.mem_of_getElem? (i := 721) (by decide +kernel), List.mem_of_getElem? (i := 856) (by decide +kernel), List.mem_of_getElem? (i := 857) (by decide +kernel)⟩
theorem lw_p33 : lw_okq (⟨"SlidingRanksModel", "numberRead", "(II)I"⟩, 28) := ⟨⟨by decide +kernel, by decide +kernel⟩, List.mem_of_getElem? (i := 721) (by decide +kernel), List.mem_of_getElem? (i := 861) (by decide +kernel), List.mem_of_getElem? (i := 862) (by decide +kernel)⟩
theorem lw_p34 : lw_okq (⟨"SlidingRanksModel", "wordRead", "(II)I"⟩, 28) := ⟨⟨by decide +kernel, by decide +kernel⟩, List.mem_of_getElem? (i := 721) (by decide +kernel), List.mem_of_getElem? (i := 865) (by decide +kernel), List.mem_of_getElem? (i := 866) (by decide +kernel)⟩
theorem lw_p35 : lw_okq (⟨"SlidingRanksModel", "readPut", "()V"⟩, 28) := ⟨⟨by decide +kernel, by decide +kernel⟩, List.mem_of_getElem? (i := 721) (by decide +kernel), List.mem_of_getElem? (i := 869) (by decide +kernel), List.mem_of_getElem? (i := 870) (by decide +kernel)⟩
theorem lw_p36 : lw_okq (⟨"SlidingRanksModel", "readReading", "()V"⟩, 28) := ⟨⟨by decide +kernel, by decide +kernel⟩, List.mem_of_getElem? (i := 721) (by decide +kernel), List.mem_of_getElem? (i := 873) (by decide +kernel), List.mem_of_getElem? (i := 874) (by decide +kernel)⟩
theorem lw_p37 : lw_okq (⟨"SlidingRanksModel", "isReadingHere", "()Z"⟩, 28) := ⟨⟨by decide +kernel, by decide +kernel⟩, List.mem_of_getElem? (i := 721) (by decide +kernel), List.mem_of_getElem? (i := 877) (by decide +kernel), List.mem_of_getElem? (i := 878) (by decide +kernel)⟩
theorem lw_p38 : lw_okq (⟨"SlidingRanksModel", "hundredthsRead", "()I"⟩, 28) := ⟨⟨by decide +kernel, by decide +kernel⟩, List.mem_of_getElem? (i := 721) (by decide +kernel), List.mem_of_getElem? (i := 882) (by decide +kernel), List.mem_of_getElem? (i := 883) (by decide +kernel)⟩
theorem lw_p39 : lw_okq (⟨"SlidingRanksModel", "copies", "(II)V"⟩, 28) := ⟨⟨by decide +kernel, by decide +kernel⟩, List.mem_of_getElem? (i := 721) (by decide +kernel), List.mem_of_getElem? (i := 886) (by decide +kernel), List.mem_of_getElem? (i := 887) (by decide +kernel)⟩
theorem lw_p40 : lw_okq (⟨"SlidingRanksModel", "many", "()I"⟩, 28) := ⟨⟨by decide +kernel, by decide +kernel⟩, List.mem_of_getElem? (i := 721) (by decide +kernel), List.mem_of_getElem? (i := 890) (by decide +kernel), List.mem_of_getElem? (i := 891) (by decide +kernel)⟩
theorem lw_p41 : lw_okq (⟨"SlidingRanksModel", "missing", "()I"⟩, 28) := ⟨⟨by decide +kernel, by decide +kernel⟩, List.mem_of_getElem? (i := 721) (by decide +kernel), List.mem_of_getElem? (i := 902) (by decide +kernel), List.mem_of_getElem? (i := 903) (by decide +kernel)⟩
theorem lw_p42 : lw_okq (⟨"SlidingRanksModel", "results", "()I"⟩, 28) := ⟨⟨by decide +kernel, by decide +kernel⟩, List.mem_of_getElem? (i := 721) (by decide +kernel), List.mem_of_getElem? (i := 906) (by decide +kernel), List.mem_of_getElem? (i := 907) (by decide +kernel)⟩
theorem lw_p43 : lw_okq (⟨"SlidingRanksModel", "isResult", "(I)Z"⟩, 28) := ⟨⟨by decide +kernel, by decide +kernel⟩, List.mem_of_getElem? (i := 721) (by decide +kernel), List.mem_of_getElem? (i := 910) (by decide +kernel), List.mem_of_getElem? (i := 911) (by decide +kernel)⟩
theorem lw_p44 : lw_okq (⟨"SlidingRanksModel", "rowOf", "(I)V"⟩, 28) := ⟨⟨by decide +kernel, by decide +kernel⟩, List.mem_of_getElem? (i := 721) (by decide +kernel), List.mem_of_getElem? (i := 914) (by decide +kernel), List.mem_of_getElem? (i := 915) (by decide +kernel)⟩
theorem lw_p45 : lw_okq (⟨"SlidingRanksModel", "isThere", "(I)Z"⟩, 28) := ⟨⟨by decide +kernel, by decide +kernel⟩, List.mem_of_getElem? (i := 721) (by decide +kernel), List.mem_of_getElem? (i := 927) (by decide +kernel), List.mem_of_getElem? (i := 928) (by decide +kernel)⟩
theorem lw_p46 : lw_okq (⟨"SlidingRanksModel", "rounded", "()I"⟩, 28) := ⟨⟨by decide +kernel, by decide +kernel⟩, List.mem_of_getElem? (i := 721) (by decide +kernel), List.mem_of_getElem? (i := 943) (by decide +kernel), List.mem_of_getElem? (i := 944) (by decide +kernel)⟩
theorem lw_p47 : lw_okq (⟨"SlidingRanksModel", "shownOf", "(I)I"⟩, 28) := ⟨⟨by decide +kernel, by decide +kernel⟩, List.mem_of_getElem? (i := 721) (by decide +kernel), List.mem_of_getElem? (i := 955) (by decide +kernel), List.mem_of_getElem? (i := 956) (by decide +kernel)⟩
def lw_privs_3 : List (MethodName × Nat) := [(⟨"SlidingRanksModel", "nameHere", "()I"⟩, 28), (⟨"SlidingRanksModel", "numberRead", "(II)I"⟩, 28), (⟨"SlidingRanksModel", "wordRead", "(II)I"⟩, 28), (⟨"SlidingRanksModel", "readPut", "()V"⟩, 28), (⟨"SlidingRanksModel", "readReading", "()V"⟩, 28), (⟨"SlidingRanksModel", "isReadingHere", "()Z"⟩, 28), (⟨"SlidingRanksModel", "hundredthsRead", "()I"⟩, 28), (⟨"SlidingRanksModel", "copies", "(II)V"⟩, 28), (⟨"SlidingRanksModel", "many", "()I"⟩, 28), (⟨"SlidingRanksModel", "missing", "()I"⟩, 28), (⟨"SlidingRanksModel", "results", "()I"⟩, 28), (⟨"SlidingRanksModel", "isResult", "(I)Z"⟩, 28), (⟨"SlidingRanksModel", "rowOf", "(I)V"⟩, 28), (⟨"SlidingRanksModel", "isThere", "(I)Z"⟩, 28), (⟨"SlidingRanksModel", "rounded", "()I"⟩, 28), (⟨"SlidingRanksModel", "shownOf", "(I)I"⟩, 28)]
theorem lw_r3 : ∀ q ∈ lw_privs_3, lw_okq q := List.forall_mem_cons.mpr ⟨lw_p32, List.forall_mem_cons.mpr ⟨lw_p33, List.forall_mem_cons.mpr ⟨lw_p34, List.forall_mem_cons.mpr ⟨lw_p35, List.forall_mem_cons.mpr ⟨lw_p36, List.forall_mem_cons.mpr ⟨lw_p37, List.forall_mem_cons.mpr ⟨lw_p38, List.forall_mem_cons.mpr ⟨lw_p39, List.forall_mem_cons.mpr ⟨lw_p40, List.forall_mem_cons.mpr ⟨lw_p41, List.forall_mem_cons.mpr ⟨lw_p42, List.forall_mem_cons.mpr ⟨lw_p43, List.forall_mem_cons.mpr ⟨lw_p44, List.forall_mem_cons.mpr ⟨lw_p45, List.forall_mem_cons.mpr ⟨lw_p46, List.forall_mem_cons.mpr ⟨lw_p47, fun _ h => absurd h List.not_mem_nil⟩⟩⟩⟩⟩⟩⟩⟩⟩⟩⟩⟩⟩⟩⟩⟩
theorem lw_p48 : lw_okq (⟨"SlidingRanksModel", "shows", "(I)V"⟩, 28) := ⟨⟨by decide +kernel, by decide +kernel⟩, List.mem_of_getElem? (i := 721) (by decide +kernel), List.mem_of_getElem? (i := 959) (by decide +kernel), List.mem_of_getElem? (i := 960) (by decide +kernel)⟩
theorem lw_p49 : lw_okq (⟨"SlidingRanksModel", "showsNumber", "(I)V"⟩, 28) := ⟨⟨by decide +kernel, by decide +kernel⟩, List.mem_of_getElem? (i := 721) (by decide +kernel), List.mem_of_getElem? (i := 963) (by decide +kernel), List.mem_of_getElem? (i := 964) (by decide +kernel)⟩
theorem lw_p50 : lw_okq (⟨"SlidingRanksModel", "spreadOf", "()I"⟩, 28) := ⟨⟨by decide +kernel, by decide +kernel⟩, List.mem_of_getElem? (i := 721) (by decide +kernel), List.mem_of_getElem? (i := 971) (by decide +kernel), List.mem_of_getElem? (i := 972) (by decide +kernel)⟩
theorem lw_p51 : lw_okq (⟨"SlidingRanksModel", "isFar", "(II)Z"⟩, 28) := ⟨⟨by decide +kernel, by decide +kernel⟩, List.mem_of_getElem? (i := 721) (by decide +kernel), List.mem_of_getElem? (i := 983) (by decide +kernel), List.mem_of_getElem? (i := 984) (by decide +kernel)⟩
theorem lw_p52 : lw_okq (⟨"SlidingRanksModel", "comes", "(I)I"⟩, 28) := ⟨⟨by decide +kernel, by decide +kernel⟩, List.mem_of_getElem? (i := 721) (by decide +kernel), List.mem_of_getElem? (i := 1009) (by decide +kernel), List.mem_of_getElem? (i := 1010) (by decide +kernel)⟩
theorem lw_p53 : lw_okq (⟨"SlidingRanksModel", "becomes", "(ZII)I"⟩, 28) := ⟨⟨by decide +kernel, by decide +kernel⟩, List.mem_of_getElem? (i := 721) (by decide +kernel), List.mem_of_getElem? (i := 1034) (by decide +kernel), List.mem_of_getElem? (i := 1035) (by decide +kernel)⟩
theorem lw_p54 : lw_okq (⟨"SlidingRanksModel", "latest", "()I"⟩, 28) := ⟨⟨by decide +kernel, by decide +kernel⟩, List.mem_of_getElem? (i := 721) (by decide +kernel), List.mem_of_getElem? (i := 1061) (by decide +kernel), List.mem_of_getElem? (i := 1062) (by decide +kernel)⟩
theorem lw_p55 : lw_okq (⟨"SlidingRanksModel", "shownAll", "()I"⟩, 28) := ⟨⟨by decide +kernel, by decide +kernel⟩, List.mem_of_getElem? (i := 721) (by decide +kernel), List.mem_of_getElem? (i := 1096) (by decide +kernel), List.mem_of_getElem? (i := 1097) (by decide +kernel)⟩
def lw_privs_4 : List (MethodName × Nat) := [(⟨"SlidingRanksModel", "shows", "(I)V"⟩, 28), (⟨"SlidingRanksModel", "showsNumber", "(I)V"⟩, 28), (⟨"SlidingRanksModel", "spreadOf", "()I"⟩, 28), (⟨"SlidingRanksModel", "isFar", "(II)Z"⟩, 28), (⟨"SlidingRanksModel", "comes", "(I)I"⟩, 28), (⟨"SlidingRanksModel", "becomes", "(ZII)I"⟩, 28), (⟨"SlidingRanksModel", "latest", "()I"⟩, 28), (⟨"SlidingRanksModel", "shownAll", "()I"⟩, 28)]
theorem lw_r4 : ∀ q ∈ lw_privs_4, lw_okq q := List.forall_mem_cons.mpr ⟨lw_p48, List.forall_mem_cons.mpr ⟨lw_p49, List.forall_mem_cons.mpr ⟨lw_p50, List.forall_mem_cons.mpr ⟨lw_p51, List.forall_mem_cons.mpr ⟨lw_p52, List.forall_mem_cons.mpr ⟨lw_p53, List.forall_mem_cons.mpr ⟨lw_p54, List.forall_mem_cons.mpr ⟨lw_p55, fun _ h => absurd h List.not_mem_nil⟩⟩⟩⟩⟩⟩⟩⟩
def lw_privs : List (MethodName × Nat) := lw_privs_1 ++ (lw_privs_2 ++ (lw_privs_3 ++ (lw_privs_4)))
def lw_tbl : List Cond := k2_sels lw_privs ++ tables_1
theorem lw_privs_ok : ∀ q ∈ lw_privs, lw_okq q := by
  show ∀ q ∈ lw_privs_1 ++ (lw_privs_2 ++ (lw_privs_3 ++ (lw_privs_4))), lw_okq q
  exact List.forall_mem_append.mpr ⟨lw_r1, List.forall_mem_append.mpr ⟨lw_r2, List.forall_mem_append.mpr ⟨lw_r3, lw_r4⟩⟩⟩
-- ===== end of PART A; then your names; then what follows =====
end
section
def RX0 : String := "SlidingRanks$Row"
def TX0 : u_T := fun k => match k with
  | 0 => ("SlidingRanks$Row", "series", "LSlidingRanks$Series;", true)
  | 1 => ("SlidingRanks$Row", "x", "[I", true)
  | _ => ("SlidingRanks$Row", "n", "I", false)
def tyX0 : Nat → FieldType := fun k => match k with
  | 0 => .object "SlidingRanks$Series"
  | 1 => .array .int
  | _ => .int
abbrev wsX00 : List Cond := u_ws RX0 TX0 3
theorem nmX0 : ∀ a, a < 3 → ∀ b, b < 3 → a ≠ b → (TX0 a).2.1 ≠ (TX0 b).2.1 := by decide +kernel
theorem tyX0_ok : ∀ k, k < 3 → parseFieldDescriptor (TX0 k).2.2.1 = some (tyX0 k) := by decide +kernel
abbrev cX0_init : ByteArray := prog_2_method_1_code
def yX0_init : MethodName := ⟨RX0, "<init>", "(LSlidingRanks$Series;)V"⟩
abbrev cX0_clear : ByteArray := prog_2_method_2_code
def yX0_clear : MethodName := ⟨RX0, "clear", "()V"⟩
abbrev cX0_load : ByteArray := prog_2_method_3_code
def yX0_load : MethodName := ⟨RX0, "load", "(I)V"⟩
abbrev cX0_slideTo : ByteArray := prog_2_method_4_code
def yX0_slideTo : MethodName := ⟨RX0, "slideTo", "(I)V"⟩
abbrev cX0_putIn : ByteArray := prog_2_method_5_code
def yX0_putIn : MethodName := ⟨RX0, "putIn", "(I)V"⟩
abbrev cX0_takeOut : ByteArray := prog_2_method_6_code
def yX0_takeOut : MethodName := ⟨RX0, "takeOut", "(I)V"⟩
abbrev cX0_at : ByteArray := prog_2_method_7_code
def yX0_at : MethodName := ⟨RX0, "at", "(I)I"⟩
abbrev cX0_countLess : ByteArray := prog_2_method_8_code
def yX0_countLess : MethodName := ⟨RX0, "countLess", "(I)I"⟩
abbrev cX0_countSame : ByteArray := prog_2_method_9_code
def yX0_countSame : MethodName := ⟨RX0, "countSame", "(I)I"⟩
abbrev cX0_hasResult : ByteArray := prog_2_method_10_code
def yX0_hasResult : MethodName := ⟨RX0, "hasResult", "()Z"⟩
abbrev cX0_placeWhole : ByteArray := prog_2_method_11_code
def yX0_placeWhole : MethodName := ⟨RX0, "placeWhole", "()I"⟩
abbrev cX0_placeRest : ByteArray := prog_2_method_12_code
def yX0_placeRest : MethodName := ⟨RX0, "placeRest", "()I"⟩
abbrev cX0_numerator : ByteArray := prog_2_method_13_code
def yX0_numerator : MethodName := ⟨RX0, "numerator", "()I"⟩
abbrev cX0_isNearLower : ByteArray := prog_2_method_14_code
def yX0_isNearLower : MethodName := ⟨RX0, "isNearLower", "(II)Z"⟩
abbrev cX0_denominator : ByteArray := prog_2_method_15_code
def yX0_denominator : MethodName := ⟨RX0, "denominator", "()I"⟩
abbrev cX0_rounded : ByteArray := prog_2_method_16_code
def yX0_rounded : MethodName := ⟨RX0, "rounded", "()I"⟩
abbrev cX0_isAbove : ByteArray := prog_2_method_17_code
def yX0_isAbove : MethodName := ⟨RX0, "isAbove", "(I)Z"⟩
abbrev cX0_middleValue : ByteArray := prog_2_method_18_code
def yX0_middleValue : MethodName := ⟨RX0, "middleValue", "()I"⟩
abbrev cX0_spread : ByteArray := prog_2_method_19_code
def yX0_spread : MethodName := ⟨RX0, "spread", "()I"⟩
abbrev cX0_isFar : ByteArray := prog_2_method_20_code
def yX0_isFar : MethodName := ⟨RX0, "isFar", "(II)Z"⟩
def RX1 : String := "SlidingRanks$Series"
def TX1 : u_T := fun k => match k with
  | 0 => ("SlidingRanks$Series", "readings", "[I", true)
  | 1 => ("SlidingRanks$Series", "size", "I", false)
  | 2 => ("SlidingRanks$Series", "width", "I", false)
  | 3 => ("SlidingRanks$Series", "need", "I", false)
  | 4 => ("SlidingRanks$Series", "p", "I", false)
  | 5 => ("SlidingRanks$Series", "q", "I", false)
  | 6 => ("SlidingRanks$Series", "rule", "I", false)
  | _ => ("SlidingRanks$Series", "form", "I", false)
def tyX1 : Nat → FieldType := fun k => match k with
  | 0 => .array .int
  | 1 => .int
  | 2 => .int
  | 3 => .int
  | 4 => .int
  | 5 => .int
  | 6 => .int
  | _ => .int
abbrev wsX10 : List Cond := u_ws RX1 TX1 8
theorem nmX1 : ∀ a, a < 8 → ∀ b, b < 8 → a ≠ b → (TX1 a).2.1 ≠ (TX1 b).2.1 := by decide +kernel
theorem tyX1_ok : ∀ k, k < 8 → parseFieldDescriptor (TX1 k).2.2.1 = some (tyX1 k) := by decide +kernel
abbrev cX1_init : ByteArray := prog_3_method_1_code
def yX1_init : MethodName := ⟨RX1, "<init>", "()V"⟩
abbrev cX1_reset : ByteArray := prog_3_method_2_code
def yX1_reset : MethodName := ⟨RX1, "reset", "()V"⟩
abbrev cX1_copyFrom : ByteArray := prog_3_method_3_code
def yX1_copyFrom : MethodName := ⟨RX1, "copyFrom", "(LSlidingRanks$Series;)V"⟩
abbrev cX1_has : ByteArray := prog_3_method_4_code
def yX1_has : MethodName := ⟨RX1, "has", "(I)Z"⟩
abbrev cX1_isFull : ByteArray := prog_3_method_5_code
def yX1_isFull : MethodName := ⟨RX1, "isFull", "()Z"⟩
abbrev cX1_valueAt : ByteArray := prog_3_method_6_code
def yX1_valueAt : MethodName := ⟨RX1, "valueAt", "(I)I"⟩
abbrev cX1_append : ByteArray := prog_3_method_7_code
def yX1_append : MethodName := ⟨RX1, "append", "(I)V"⟩
abbrev cX1_change : ByteArray := prog_3_method_8_code
def yX1_change : MethodName := ⟨RX1, "change", "(II)V"⟩
abbrev cX1_dropFirst : ByteArray := prog_3_method_9_code
def yX1_dropFirst : MethodName := ⟨RX1, "dropFirst", "(I)V"⟩
abbrev cX1_countMissing : ByteArray := prog_3_method_10_code
def yX1_countMissing : MethodName := ⟨RX1, "countMissing", "()I"⟩
abbrev cX1_latestValue : ByteArray := prog_3_method_11_code
def yX1_latestValue : MethodName := ⟨RX1, "latestValue", "()I"⟩
def RX2 : String := "SlidingRanks$Sheet"
def TX2 : u_T := fun k => match k with
  | 0 => ("SlidingRanks$Sheet", "cells", "[I", true)
  | 1 => ("SlidingRanks$Sheet", "lane", "I", false)
  | _ => ("SlidingRanks$Sheet", "size", "I", false)
def tyX2 : Nat → FieldType := fun k => match k with
  | 0 => .array .int
  | 1 => .int
  | _ => .int
abbrev wsX20 : List Cond := u_ws RX2 TX2 3
theorem nmX2 : ∀ a, a < 3 → ∀ b, b < 3 → a ≠ b → (TX2 a).2.1 ≠ (TX2 b).2.1 := by decide +kernel
theorem tyX2_ok : ∀ k, k < 3 → parseFieldDescriptor (TX2 k).2.2.1 = some (tyX2 k) := by decide +kernel
abbrev cX2_init : ByteArray := prog_4_method_1_code
def yX2_init : MethodName := ⟨RX2, "<init>", "()V"⟩
abbrev cX2_isNothing : ByteArray := prog_4_method_2_code
def yX2_isNothing : MethodName := ⟨RX2, "isNothing", "()Z"⟩
abbrev cX2_renew : ByteArray := prog_4_method_3_code
def yX2_renew : MethodName := ⟨RX2, "renew", "(II)V"⟩
abbrev cX2_hasCell : ByteArray := prog_4_method_4_code
def yX2_hasCell : MethodName := ⟨RX2, "hasCell", "(I)Z"⟩
abbrev cX2_valueAt : ByteArray := prog_4_method_5_code
def yX2_valueAt : MethodName := ⟨RX2, "valueAt", "(I)I"⟩
abbrev cX2_write : ByteArray := prog_4_method_6_code
def yX2_write : MethodName := ⟨RX2, "write", "(II)V"⟩
def RX3 : String := "SlidingRanks$Tape"
def TX3 : u_T := fun k => match k with
  | 0 => ("SlidingRanks$Tape", "bytes", "[B", true)
  | _ => ("SlidingRanks$Tape", "length", "I", false)
def tyX3 : Nat → FieldType := fun k => match k with
  | 0 => .array .byte
  | _ => .int
abbrev wsX30 : List Cond := u_ws RX3 TX3 2
theorem nmX3 : ∀ a, a < 2 → ∀ b, b < 2 → a ≠ b → (TX3 a).2.1 ≠ (TX3 b).2.1 := by decide +kernel
theorem tyX3_ok : ∀ k, k < 2 → parseFieldDescriptor (TX3 k).2.2.1 = some (tyX3 k) := by decide +kernel
abbrev cX3_init : ByteArray := prog_5_method_1_code
def yX3_init : MethodName := ⟨RX3, "<init>", "()V"⟩
abbrev cX3_isFull : ByteArray := prog_5_method_2_code
def yX3_isFull : MethodName := ⟨RX3, "isFull", "()Z"⟩
abbrev cX3_append : ByteArray := prog_5_method_3_code
def yX3_append : MethodName := ⟨RX3, "append", "(I)V"⟩
abbrev cX3_byteAt : ByteArray := prog_5_method_4_code
def yX3_byteAt : MethodName := ⟨RX3, "byteAt", "(I)I"⟩
def RX4 : String := "SlidingRanks$Teller"
def TX4 : u_T := fun k => match k with
  | 0 => ("SlidingRanks$Teller", "draft", "LSlidingRanks$Series;", true)
  | 1 => ("SlidingRanks$Teller", "wanted", "I", false)
  | 2 => ("SlidingRanks$Teller", "told", "I", false)
  | 3 => ("SlidingRanks$Teller", "negative", "Z", false)
  | 4 => ("SlidingRanks$Teller", "hundredths", "I", false)
  | 5 => ("SlidingRanks$Teller", "kind", "I", false)
  | 6 => ("SlidingRanks$Teller", "start", "I", false)
  | 7 => ("SlidingRanks$Teller", "next", "I", false)
  | 8 => ("SlidingRanks$Teller", "name", "I", false)
  | 9 => ("SlidingRanks$Teller", "value", "I", false)
  | 10 => ("SlidingRanks$Teller", "fault", "I", false)
  | _ => ("SlidingRanks$Teller", "faultPlace", "I", false)
def tyX4 : Nat → FieldType := fun k => match k with
  | 0 => .object "SlidingRanks$Series"
  | 1 => .int
  | 2 => .int
  | 3 => .boolean
  | 4 => .int
  | 5 => .int
  | 6 => .int
  | 7 => .int
  | 8 => .int
  | 9 => .int
  | 10 => .int
  | _ => .int
abbrev wsX40 : List Cond := u_ws RX4 TX4 12
theorem nmX4 : ∀ a, a < 12 → ∀ b, b < 12 → a ≠ b → (TX4 a).2.1 ≠ (TX4 b).2.1 := by decide +kernel
theorem tyX4_ok : ∀ k, k < 12 → parseFieldDescriptor (TX4 k).2.2.1 = some (tyX4 k) := by decide +kernel
abbrev cX4_init : ByteArray := prog_6_method_1_code
def yX4_init : MethodName := ⟨RX4, "<init>", "()V"⟩
abbrev cX4_tell : ByteArray := prog_6_method_2_code
def yX4_tell : MethodName := ⟨RX4, "tell", "(LSlidingRanks$Tape;)Z"⟩
abbrev cX4_refuse : ByteArray := prog_6_method_3_code
def yX4_refuse : MethodName := ⟨RX4, "refuse", "(I)V"⟩
abbrev cX4_takeToken : ByteArray := prog_6_method_4_code
def yX4_takeToken : MethodName := ⟨RX4, "takeToken", "(I)V"⟩
abbrev cX4_takeReadingOrMore : ByteArray := prog_6_method_5_code
def yX4_takeReadingOrMore : MethodName := ⟨RX4, "takeReadingOrMore", "(I)V"⟩
abbrev cX4_takeWhole : ByteArray := prog_6_method_6_code
def yX4_takeWhole : MethodName := ⟨RX4, "takeWhole", "()V"⟩
abbrev cX4_takeFraction : ByteArray := prog_6_method_7_code
def yX4_takeFraction : MethodName := ⟨RX4, "takeFraction", "()V"⟩
abbrev cX4_takeLineName : ByteArray := prog_6_method_8_code
def yX4_takeLineName : MethodName := ⟨RX4, "takeLineName", "()V"⟩
abbrev cX4_takeNumber : ByteArray := prog_6_method_9_code
def yX4_takeNumber : MethodName := ⟨RX4, "takeNumber", "(III)I"⟩
abbrev cX4_takeChoice : ByteArray := prog_6_method_10_code
def yX4_takeChoice : MethodName := ⟨RX4, "takeChoice", "(II)I"⟩
abbrev cX4_takeLineEnd : ByteArray := prog_6_method_11_code
def yX4_takeLineEnd : MethodName := ⟨RX4, "takeLineEnd", "(I)V"⟩
abbrev cX4_scan : ByteArray := prog_6_method_12_code
def yX4_scan : MethodName := ⟨RX4, "scan", "(LSlidingRanks$Tape;)V"⟩
abbrev cX4_scanName : ByteArray := prog_6_method_13_code
def yX4_scanName : MethodName := ⟨RX4, "scanName", "(LSlidingRanks$Tape;)V"⟩
abbrev cX4_numberOfName : ByteArray := prog_6_method_14_code
def yX4_numberOfName : MethodName := ⟨RX4, "numberOfName", "(LSlidingRanks$Tape;)I"⟩
abbrev cX4_scanNumber : ByteArray := prog_6_method_15_code
def yX4_scanNumber : MethodName := ⟨RX4, "scanNumber", "(LSlidingRanks$Tape;)V"⟩
abbrev cX4_isLetter : ByteArray := prog_6_method_16_code
def yX4_isLetter : MethodName := ⟨RX4, "isLetter", "(I)Z"⟩
abbrev cX4_isFigure : ByteArray := prog_6_method_17_code
def yX4_isFigure : MethodName := ⟨RX4, "isFigure", "(I)Z"⟩
def RX5 : String := "SlidingRanks$Words"
def TX5 : u_T := fun k => match k with
  | 0 => ("SlidingRanks$Words", "bytes", "[B", true)
  | _ => ("SlidingRanks$Words", "length", "I", false)
def tyX5 : Nat → FieldType := fun k => match k with
  | 0 => .array .byte
  | _ => .int
abbrev wsX50 : List Cond := u_ws RX5 TX5 2
theorem nmX5 : ∀ a, a < 2 → ∀ b, b < 2 → a ≠ b → (TX5 a).2.1 ≠ (TX5 b).2.1 := by decide +kernel
theorem tyX5_ok : ∀ k, k < 2 → parseFieldDescriptor (TX5 k).2.2.1 = some (tyX5 k) := by decide +kernel
abbrev cX5_init : ByteArray := prog_7_method_1_code
def yX5_init : MethodName := ⟨RX5, "<init>", "()V"⟩
abbrev cX5_byteAt : ByteArray := prog_7_method_2_code
def yX5_byteAt : MethodName := ⟨RX5, "byteAt", "(I)I"⟩
abbrev cX5_writeNone : ByteArray := prog_7_method_3_code
def yX5_writeNone : MethodName := ⟨RX5, "writeNone", "()V"⟩
abbrev cX5_writeNumber : ByteArray := prog_7_method_4_code
def yX5_writeNumber : MethodName := ⟨RX5, "writeNumber", "(II)V"⟩
abbrev cX5_writeWhole : ByteArray := prog_7_method_5_code
def yX5_writeWhole : MethodName := ⟨RX5, "writeWhole", "(I)V"⟩
abbrev cX5_push : ByteArray := prog_7_method_6_code
def yX5_push : MethodName := ⟨RX5, "push", "(I)V"⟩
def RX6 : String := "SlidingRanks"
def TX6 : u_T := fun k => match k with
  | 0 => ("SlidingRanks", "tape", "LSlidingRanks$Tape;", true)
  | 1 => ("SlidingRanks", "teller", "LSlidingRanks$Teller;", true)
  | 2 => ("SlidingRanks", "now", "LSlidingRanks$Series;", true)
  | 3 => ("SlidingRanks", "ordered", "LSlidingRanks$Row;", true)
  | 4 => ("SlidingRanks", "words", "LSlidingRanks$Words;", true)
  | 5 => ("SlidingRanks", "images", "[LSlidingRanks$Series;", true)
  | 6 => ("SlidingRanks", "kept", "[Z", true)
  | 7 => ("SlidingRanks", "sheets", "[LSlidingRanks$Sheet;", true)
  | _ => ("SlidingRanks", "latestTear", "I", false)
def tyX6 : Nat → FieldType := fun k => match k with
  | 0 => .object "SlidingRanks$Tape"
  | 1 => .object "SlidingRanks$Teller"
  | 2 => .object "SlidingRanks$Series"
  | 3 => .object "SlidingRanks$Row"
  | 4 => .object "SlidingRanks$Words"
  | 5 => .array (.object "SlidingRanks$Series")
  | 6 => .array .boolean
  | 7 => .array (.object "SlidingRanks$Sheet")
  | _ => .int
abbrev wsX60 : List Cond := u_ws RX6 TX6 9
theorem nmX6 : ∀ a, a < 9 → ∀ b, b < 9 → a ≠ b → (TX6 a).2.1 ≠ (TX6 b).2.1 := by decide +kernel
theorem tyX6_ok : ∀ k, k < 9 → parseFieldDescriptor (TX6 k).2.2.1 = some (tyX6 k) := by decide +kernel
abbrev cX6_init : ByteArray := prog_1_method_1_code
def yX6_init : MethodName := ⟨RX6, "<init>", "()V"⟩
abbrev cX6_feed : ByteArray := prog_1_method_2_code
def yX6_feed : MethodName := ⟨RX6, "feed", "(I)I"⟩
abbrev cX6_end : ByteArray := prog_1_method_3_code
def yX6_end : MethodName := ⟨RX6, "end", "(I)I"⟩
abbrev cX6_text : ByteArray := prog_1_method_4_code
def yX6_text : MethodName := ⟨RX6, "text", "()I"⟩
abbrev cX6_fault : ByteArray := prog_1_method_5_code
def yX6_fault : MethodName := ⟨RX6, "fault", "()I"⟩
abbrev cX6_rule : ByteArray := prog_1_method_6_code
def yX6_rule : MethodName := ⟨RX6, "rule", "(I)I"⟩
abbrev cX6_reading : ByteArray := prog_1_method_7_code
def yX6_reading : MethodName := ⟨RX6, "reading", "(I)I"⟩
abbrev cX6_row : ByteArray := prog_1_method_8_code
def yX6_row : MethodName := ⟨RX6, "row", "(II)I"⟩
abbrev cX6_item : ByteArray := prog_1_method_9_code
def yX6_item : MethodName := ⟨RX6, "item", "(II)I"⟩
abbrev cX6_result : ByteArray := prog_1_method_10_code
def yX6_result : MethodName := ⟨RX6, "result", "(II)I"⟩
abbrev cX6_rank : ByteArray := prog_1_method_11_code
def yX6_rank : MethodName := ⟨RX6, "rank", "(III)I"⟩
abbrev cX6_shown : ByteArray := prog_1_method_12_code
def yX6_shown : MethodName := ⟨RX6, "shown", "(II)I"⟩
abbrev cX6_middle : ByteArray := prog_1_method_13_code
def yX6_middle : MethodName := ⟨RX6, "middle", "(II)I"⟩
abbrev cX6_far : ByteArray := prog_1_method_14_code
def yX6_far : MethodName := ⟨RX6, "far", "(II)I"⟩
abbrev cX6_fars : ByteArray := prog_1_method_15_code
def yX6_fars : MethodName := ⟨RX6, "fars", "(I)I"⟩
abbrev cX6_above : ByteArray := prog_1_method_16_code
def yX6_above : MethodName := ⟨RX6, "above", "(II)I"⟩
abbrev cX6_most : ByteArray := prog_1_method_17_code
def yX6_most : MethodName := ⟨RX6, "most", "(I)I"⟩
abbrev cX6_add : ByteArray := prog_1_method_18_code
def yX6_add : MethodName := ⟨RX6, "add", "(I)I"⟩
abbrev cX6_miss : ByteArray := prog_1_method_19_code
def yX6_miss : MethodName := ⟨RX6, "miss", "()I"⟩
abbrev cX6_set : ByteArray := prog_1_method_20_code
def yX6_set : MethodName := ⟨RX6, "set", "(II)I"⟩
abbrev cX6_lose : ByteArray := prog_1_method_21_code
def yX6_lose : MethodName := ⟨RX6, "lose", "(I)I"⟩
abbrev cX6_drop : ByteArray := prog_1_method_22_code
def yX6_drop : MethodName := ⟨RX6, "drop", "(I)I"⟩
abbrev cX6_width : ByteArray := prog_1_method_23_code
def yX6_width : MethodName := ⟨RX6, "width", "(I)I"⟩
abbrev cX6_need : ByteArray := prog_1_method_24_code
def yX6_need : MethodName := ⟨RX6, "need", "(I)I"⟩
abbrev cX6_part : ByteArray := prog_1_method_25_code
def yX6_part : MethodName := ⟨RX6, "part", "(II)I"⟩
abbrev cX6_choose : ByteArray := prog_1_method_26_code
def yX6_choose : MethodName := ⟨RX6, "choose", "(I)I"⟩
abbrev cX6_form : ByteArray := prog_1_method_27_code
def yX6_form : MethodName := ⟨RX6, "form", "(I)I"⟩
abbrev cX6_drift : ByteArray := prog_1_method_28_code
def yX6_drift : MethodName := ⟨RX6, "drift", "(II)I"⟩
abbrev cX6_keep : ByteArray := prog_1_method_29_code
def yX6_keep : MethodName := ⟨RX6, "keep", "(I)I"⟩
abbrev cX6_back : ByteArray := prog_1_method_30_code
def yX6_back : MethodName := ⟨RX6, "back", "(I)I"⟩
abbrev cX6_sheet : ByteArray := prog_1_method_31_code
def yX6_sheet : MethodName := ⟨RX6, "sheet", "(III)I"⟩
abbrev cX6_lay : ByteArray := prog_1_method_32_code
def yX6_lay : MethodName := ⟨RX6, "lay", "(III)I"⟩
abbrev cX6_read : ByteArray := prog_1_method_33_code
def yX6_read : MethodName := ⟨RX6, "read", "(IIII)I"⟩
abbrev cX6_torn : ByteArray := prog_1_method_34_code
def yX6_torn : MethodName := ⟨RX6, "torn", "()I"⟩
abbrev cX6_count : ByteArray := prog_1_method_35_code
def yX6_count : MethodName := ⟨RX6, "count", "(I)I"⟩
abbrev cX6_isHundredths : ByteArray := prog_1_method_36_code
def yX6_isHundredths : MethodName := ⟨RX6, "isHundredths", "(I)Z"⟩
abbrev cX6_isFactor : ByteArray := prog_1_method_37_code
def yX6_isFactor : MethodName := ⟨RX6, "isFactor", "(I)Z"⟩
abbrev cX6_isImage : ByteArray := prog_1_method_38_code
def yX6_isImage : MethodName := ⟨RX6, "isImage", "(I)Z"⟩
abbrev cX6_isSheet : ByteArray := prog_1_method_39_code
def yX6_isSheet : MethodName := ⟨RX6, "isSheet", "(I)Z"⟩
abbrev cX6_isLane : ByteArray := prog_1_method_40_code
def yX6_isLane : MethodName := ⟨RX6, "isLane", "(I)Z"⟩
abbrev cX6_putBehind : ByteArray := prog_1_method_41_code
def yX6_putBehind : MethodName := ⟨RX6, "putBehind", "(I)I"⟩
abbrev cX6_replace : ByteArray := prog_1_method_42_code
def yX6_replace : MethodName := ⟨RX6, "replace", "(II)I"⟩
abbrev cX6_countResults : ByteArray := prog_1_method_43_code
def yX6_countResults : MethodName := ⟨RX6, "countResults", "()I"⟩
abbrev cX6_countImages : ByteArray := prog_1_method_44_code
def yX6_countImages : MethodName := ⟨RX6, "countImages", "()I"⟩
abbrev cX6_countShownBytes : ByteArray := prog_1_method_45_code
def yX6_countShownBytes : MethodName := ⟨RX6, "countShownBytes", "()I"⟩
abbrev cX6_writeWords : ByteArray := prog_1_method_46_code
def yX6_writeWords : MethodName := ⟨RX6, "writeWords", "()V"⟩
abbrev cX6_tearAt : ByteArray := prog_1_method_47_code
def yX6_tearAt : MethodName := ⟨RX6, "tearAt", "(LSlidingRanks$Sheet;II)I"⟩
def RX7 : String := "SlidingRanksModel"
def TX7 : u_T := fun k => match k with
  | 0 => ("SlidingRanksModel", "state", "[I", true)
  | 1 => ("SlidingRanksModel", "isBegun", "Z", false)
  | 2 => ("SlidingRanksModel", "tape", "[I", true)
  | 3 => ("SlidingRanksModel", "taped", "I", false)
  | 4 => ("SlidingRanksModel", "fault", "I", false)
  | 5 => ("SlidingRanksModel", "broken", "I", false)
  | 6 => ("SlidingRanksModel", "brokenAt", "I", false)
  | 7 => ("SlidingRanksModel", "spot", "I", false)
  | 8 => ("SlidingRanksModel", "here", "I", false)
  | 9 => ("SlidingRanksModel", "token", "I", false)
  | 10 => ("SlidingRanksModel", "number", "I", false)
  | 11 => ("SlidingRanksModel", "once", "I", false)
  | 12 => ("SlidingRanksModel", "ends", "[I", true)
  | 13 => ("SlidingRanksModel", "letters", "[I", true)
  | 14 => ("SlidingRanksModel", "sorted", "[I", true)
  | 15 => ("SlidingRanksModel", "rowMany", "I", false)
  | 16 => ("SlidingRanksModel", "spread", "[I", true)
  | 17 => ("SlidingRanksModel", "whole", "I", false)
  | 18 => ("SlidingRanksModel", "rest", "I", false)
  | 19 => ("SlidingRanksModel", "over", "I", false)
  | 20 => ("SlidingRanksModel", "under", "I", false)
  | 21 => ("SlidingRanksModel", "page", "[I", true)
  | 22 => ("SlidingRanksModel", "paged", "I", false)
  | 23 => ("SlidingRanksModel", "isKept", "[Z", true)
  | 24 => ("SlidingRanksModel", "lanes", "[I", true)
  | 25 => ("SlidingRanksModel", "lengths", "[I", true)
  | 26 => ("SlidingRanksModel", "cells", "[I", true)
  | _ => ("SlidingRanksModel", "torn", "I", false)
def tyX7 : Nat → FieldType := fun k => match k with
  | 0 => .array .int
  | 1 => .boolean
  | 2 => .array .int
  | 3 => .int
  | 4 => .int
  | 5 => .int
  | 6 => .int
  | 7 => .int
  | 8 => .int
  | 9 => .int
  | 10 => .int
  | 11 => .int
  | 12 => .array .int
  | 13 => .array .int
  | 14 => .array .int
  | 15 => .int
  | 16 => .array .int
  | 17 => .int
  | 18 => .int
  | 19 => .int
  | 20 => .int
  | 21 => .array .int
  | 22 => .int
  | 23 => .array .boolean
  | 24 => .array .int
  | 25 => .array .int
  | 26 => .array .int
  | _ => .int
abbrev wsX70 : List Cond := u_ws RX7 TX7 28
theorem nmX7 : ∀ a, a < 28 → ∀ b, b < 28 → a ≠ b → (TX7 a).2.1 ≠ (TX7 b).2.1 := by decide +kernel
theorem tyX7_ok : ∀ k, k < 28 → parseFieldDescriptor (TX7 k).2.2.1 = some (tyX7 k) := by decide +kernel
abbrev cX7_init : ByteArray := prog_9_method_1_code
def yX7_init : MethodName := ⟨RX7, "<init>", "()V"⟩
abbrev cX7_in : ByteArray := prog_9_method_3_code
def yX7_in : MethodName := ⟨RX7, "in", "(JJJ)Z"⟩
abbrev cX7_begins : ByteArray := prog_9_method_4_code
def yX7_begins : MethodName := ⟨RX7, "begins", "(I)V"⟩
abbrev cX7_starts : ByteArray := prog_9_method_5_code
def yX7_starts : MethodName := ⟨RX7, "starts", "()V"⟩
abbrev cX7_feed : ByteArray := prog_9_method_6_code
def yX7_feed : MethodName := ⟨RX7, "feed", "(I)I"⟩
abbrev cX7_end : ByteArray := prog_9_method_7_code
def yX7_end : MethodName := ⟨RX7, "end", "(I)I"⟩
abbrev cX7_byteAt : ByteArray := prog_9_method_8_code
def yX7_byteAt : MethodName := ⟨RX7, "byteAt", "(I)I"⟩
abbrev cX7_fails : ByteArray := prog_9_method_9_code
def yX7_fails : MethodName := ⟨RX7, "fails", "(I)V"⟩
abbrev cX7_nameHere : ByteArray := prog_9_method_10_code
def yX7_nameHere : MethodName := ⟨RX7, "nameHere", "()I"⟩
abbrev cX7_readsOn : ByteArray := prog_9_method_11_code
def yX7_readsOn : MethodName := ⟨RX7, "readsOn", "()V"⟩
abbrev cX7_numberRead : ByteArray := prog_9_method_12_code
def yX7_numberRead : MethodName := ⟨RX7, "numberRead", "(II)I"⟩
abbrev cX7_wordRead : ByteArray := prog_9_method_13_code
def yX7_wordRead : MethodName := ⟨RX7, "wordRead", "(II)I"⟩
abbrev cX7_hundredthsRead : ByteArray := prog_9_method_14_code
def yX7_hundredthsRead : MethodName := ⟨RX7, "hundredthsRead", "()I"⟩
abbrev cX7_isReadingHere : ByteArray := prog_9_method_15_code
def yX7_isReadingHere : MethodName := ⟨RX7, "isReadingHere", "()Z"⟩
abbrev cX7_readReading : ByteArray := prog_9_method_16_code
def yX7_readReading : MethodName := ⟨RX7, "readReading", "()V"⟩
abbrev cX7_readPut : ByteArray := prog_9_method_17_code
def yX7_readPut : MethodName := ⟨RX7, "readPut", "()V"⟩
abbrev cX7_readLine : ByteArray := prog_9_method_18_code
def yX7_readLine : MethodName := ⟨RX7, "readLine", "()V"⟩
abbrev cX7_text : ByteArray := prog_9_method_19_code
def yX7_text : MethodName := ⟨RX7, "text", "()I"⟩
abbrev cX7_fault : ByteArray := prog_9_method_20_code
def yX7_fault : MethodName := ⟨RX7, "fault", "()I"⟩
abbrev cX7_copies : ByteArray := prog_9_method_21_code
def yX7_copies : MethodName := ⟨RX7, "copies", "(II)V"⟩
abbrev cX7_many : ByteArray := prog_9_method_22_code
def yX7_many : MethodName := ⟨RX7, "many", "()I"⟩
abbrev cX7_isThere : ByteArray := prog_9_method_23_code
def yX7_isThere : MethodName := ⟨RX7, "isThere", "(I)Z"⟩
abbrev cX7_puts : ByteArray := prog_9_method_24_code
def yX7_puts : MethodName := ⟨RX7, "puts", "([III)V"⟩
abbrev cX7_rowOf : ByteArray := prog_9_method_25_code
def yX7_rowOf : MethodName := ⟨RX7, "rowOf", "(I)V"⟩
abbrev cX7_isResult : ByteArray := prog_9_method_26_code
def yX7_isResult : MethodName := ⟨RX7, "isResult", "(I)Z"⟩
abbrev cX7_rounded : ByteArray := prog_9_method_27_code
def yX7_rounded : MethodName := ⟨RX7, "rounded", "()I"⟩
abbrev cX7_missing : ByteArray := prog_9_method_28_code
def yX7_missing : MethodName := ⟨RX7, "missing", "()I"⟩
abbrev cX7_results : ByteArray := prog_9_method_29_code
def yX7_results : MethodName := ⟨RX7, "results", "()I"⟩
abbrev cX7_rule : ByteArray := prog_9_method_30_code
def yX7_rule : MethodName := ⟨RX7, "rule", "(I)I"⟩
abbrev cX7_reading : ByteArray := prog_9_method_31_code
def yX7_reading : MethodName := ⟨RX7, "reading", "(I)I"⟩
abbrev cX7_row : ByteArray := prog_9_method_32_code
def yX7_row : MethodName := ⟨RX7, "row", "(II)I"⟩
abbrev cX7_item : ByteArray := prog_9_method_33_code
def yX7_item : MethodName := ⟨RX7, "item", "(II)I"⟩
abbrev cX7_result : ByteArray := prog_9_method_34_code
def yX7_result : MethodName := ⟨RX7, "result", "(II)I"⟩
abbrev cX7_rank : ByteArray := prog_9_method_35_code
def yX7_rank : MethodName := ⟨RX7, "rank", "(III)I"⟩
abbrev cX7_shows : ByteArray := prog_9_method_36_code
def yX7_shows : MethodName := ⟨RX7, "shows", "(I)V"⟩
abbrev cX7_showsNumber : ByteArray := prog_9_method_37_code
def yX7_showsNumber : MethodName := ⟨RX7, "showsNumber", "(I)V"⟩
abbrev cX7_shownOf : ByteArray := prog_9_method_38_code
def yX7_shownOf : MethodName := ⟨RX7, "shownOf", "(I)I"⟩
abbrev cX7_shown : ByteArray := prog_9_method_39_code
def yX7_shown : MethodName := ⟨RX7, "shown", "(II)I"⟩
abbrev cX7_off : ByteArray := prog_9_method_40_code
def yX7_off : MethodName := ⟨RX7, "off", "(II)I"⟩
abbrev cX7_spreadOf : ByteArray := prog_9_method_41_code
def yX7_spreadOf : MethodName := ⟨RX7, "spreadOf", "()I"⟩
abbrev cX7_middle : ByteArray := prog_9_method_42_code
def yX7_middle : MethodName := ⟨RX7, "middle", "(II)I"⟩
abbrev cX7_isFar : ByteArray := prog_9_method_43_code
def yX7_isFar : MethodName := ⟨RX7, "isFar", "(II)Z"⟩
abbrev cX7_far : ByteArray := prog_9_method_44_code
def yX7_far : MethodName := ⟨RX7, "far", "(II)I"⟩
abbrev cX7_fars : ByteArray := prog_9_method_45_code
def yX7_fars : MethodName := ⟨RX7, "fars", "(I)I"⟩
abbrev cX7_above : ByteArray := prog_9_method_46_code
def yX7_above : MethodName := ⟨RX7, "above", "(II)I"⟩
abbrev cX7_most : ByteArray := prog_9_method_47_code
def yX7_most : MethodName := ⟨RX7, "most", "(I)I"⟩
abbrev cX7_comes : ByteArray := prog_9_method_48_code
def yX7_comes : MethodName := ⟨RX7, "comes", "(I)I"⟩
abbrev cX7_isReading : ByteArray := prog_9_method_49_code
def yX7_isReading : MethodName := ⟨RX7, "isReading", "(I)Z"⟩
abbrev cX7_add : ByteArray := prog_9_method_50_code
def yX7_add : MethodName := ⟨RX7, "add", "(I)I"⟩
abbrev cX7_miss : ByteArray := prog_9_method_51_code
def yX7_miss : MethodName := ⟨RX7, "miss", "()I"⟩
abbrev cX7_set : ByteArray := prog_9_method_52_code
def yX7_set : MethodName := ⟨RX7, "set", "(II)I"⟩
abbrev cX7_lose : ByteArray := prog_9_method_53_code
def yX7_lose : MethodName := ⟨RX7, "lose", "(I)I"⟩
abbrev cX7_drop : ByteArray := prog_9_method_54_code
def yX7_drop : MethodName := ⟨RX7, "drop", "(I)I"⟩
abbrev cX7_becomes : ByteArray := prog_9_method_55_code
def yX7_becomes : MethodName := ⟨RX7, "becomes", "(ZII)I"⟩
abbrev cX7_width : ByteArray := prog_9_method_56_code
def yX7_width : MethodName := ⟨RX7, "width", "(I)I"⟩
abbrev cX7_need : ByteArray := prog_9_method_57_code
def yX7_need : MethodName := ⟨RX7, "need", "(I)I"⟩
abbrev cX7_part : ByteArray := prog_9_method_58_code
def yX7_part : MethodName := ⟨RX7, "part", "(II)I"⟩
abbrev cX7_choose : ByteArray := prog_9_method_59_code
def yX7_choose : MethodName := ⟨RX7, "choose", "(I)I"⟩
abbrev cX7_form : ByteArray := prog_9_method_60_code
def yX7_form : MethodName := ⟨RX7, "form", "(I)I"⟩
abbrev cX7_latest : ByteArray := prog_9_method_61_code
def yX7_latest : MethodName := ⟨RX7, "latest", "()I"⟩
abbrev cX7_drift : ByteArray := prog_9_method_62_code
def yX7_drift : MethodName := ⟨RX7, "drift", "(II)I"⟩
abbrev cX7_keep : ByteArray := prog_9_method_63_code
def yX7_keep : MethodName := ⟨RX7, "keep", "(I)I"⟩
abbrev cX7_back : ByteArray := prog_9_method_64_code
def yX7_back : MethodName := ⟨RX7, "back", "(I)I"⟩
abbrev cX7_sheet : ByteArray := prog_9_method_65_code
def yX7_sheet : MethodName := ⟨RX7, "sheet", "(III)I"⟩
abbrev cX7_lay : ByteArray := prog_9_method_66_code
def yX7_lay : MethodName := ⟨RX7, "lay", "(III)I"⟩
abbrev cX7_read : ByteArray := prog_9_method_67_code
def yX7_read : MethodName := ⟨RX7, "read", "(IIII)I"⟩
abbrev cX7_torn : ByteArray := prog_9_method_68_code
def yX7_torn : MethodName := ⟨RX7, "torn", "()I"⟩
abbrev cX7_shownAll : ByteArray := prog_9_method_69_code
def yX7_shownAll : MethodName := ⟨RX7, "shownAll", "()I"⟩
abbrev cX7_count : ByteArray := prog_9_method_70_code
def yX7_count : MethodName := ⟨RX7, "count", "(I)I"⟩
def RJ9 : String := "java/lang/Math"
def TJ9 : u_T := fun k => match k with
  | _ => ("", "", "", false)
def tyJ9 : Nat → FieldType := fun k => match k with
  | _ => .int
abbrev wsJ90 : List Cond := u_ws RJ9 TJ9 0
theorem nmJ9 : ∀ a, a < 0 → ∀ b, b < 0 → a ≠ b → (TJ9 a).2.1 ≠ (TJ9 b).2.1 := by decide +kernel
theorem tyJ9_ok : ∀ k, k < 0 → parseFieldDescriptor (TJ9 k).2.2.1 = some (tyJ9 k) := by decide +kernel
abbrev cJ9_abs_0f7a4 : ByteArray := prog_10_method_59_code
def yJ9_abs_0f7a4 : MethodName := ⟨RJ9, "abs", "(I)I"⟩
abbrev cJ9_max_7cf53 : ByteArray := prog_10_method_65_code
def yJ9_max_7cf53 : MethodName := ⟨RJ9, "max", "(II)I"⟩
abbrev cJ9_min_7cf53 : ByteArray := prog_10_method_69_code
def yJ9_min_7cf53 : MethodName := ⟨RJ9, "min", "(II)I"⟩
def RJ0 : String := "java/lang/String"
def TJ0 : u_T := fun k => match k with
  | _ => ("", "", "", false)
def tyJ0 : Nat → FieldType := fun k => match k with
  | _ => .int
abbrev wsJ00 : List Cond := u_ws RJ0 TJ0 0
theorem nmJ0 : ∀ a, a < 0 → ∀ b, b < 0 → a ≠ b → (TJ0 a).2.1 ≠ (TJ0 b).2.1 := by decide +kernel
theorem tyJ0_ok : ∀ k, k < 0 → parseFieldDescriptor (TJ0 k).2.2.1 = some (tyJ0 k) := by decide +kernel
abbrev cJ0_length_8abf5 : ByteArray := prog_11_method_54_code
def yJ0_length_8abf5 : MethodName := ⟨RJ0, "length", "()I"⟩
abbrev cJ0_charAt_5068e : ByteArray := prog_11_method_56_code
def yJ0_charAt_5068e : MethodName := ⟨RJ0, "charAt", "(I)C"⟩
abbrev cJ0_coder_7d493 : ByteArray := prog_11_method_152_code
def yJ0_coder_7d493 : MethodName := ⟨RJ0, "coder", "()B"⟩
abbrev cJ0_isLatin1_aae02 : ByteArray := prog_11_method_154_code
def yJ0_isLatin1_aae02 : MethodName := ⟨RJ0, "isLatin1", "()Z"⟩
abbrev cJ0_checkIndex_df160 : ByteArray := prog_11_method_155_code
def yJ0_checkIndex_df160 : MethodName := ⟨RJ0, "checkIndex", "(II)V"⟩
def RJ1 : String := "java/lang/StringLatin1"
def TJ1 : u_T := fun k => match k with
  | _ => ("", "", "", false)
def tyJ1 : Nat → FieldType := fun k => match k with
  | _ => .int
abbrev wsJ10 : List Cond := u_ws RJ1 TJ1 0
theorem nmJ1 : ∀ a, a < 0 → ∀ b, b < 0 → a ≠ b → (TJ1 a).2.1 ≠ (TJ1 b).2.1 := by decide +kernel
theorem tyJ1_ok : ∀ k, k < 0 → parseFieldDescriptor (TJ1 k).2.2.1 = some (tyJ1 k) := by decide +kernel
abbrev cJ1_charAt_3b067 : ByteArray := prog_12_method_2_code
def yJ1_charAt_3b067 : MethodName := ⟨RJ1, "charAt", "([BI)C"⟩
def RJ2 : String := "java/lang/StringUTF16"
def TJ2 : u_T := fun k => match k with
  | _ => ("", "", "", false)
def tyJ2 : Nat → FieldType := fun k => match k with
  | _ => .int
abbrev wsJ20 : List Cond := u_ws RJ2 TJ2 0
theorem nmJ2 : ∀ a, a < 0 → ∀ b, b < 0 → a ≠ b → (TJ2 a).2.1 ≠ (TJ2 b).2.1 := by decide +kernel
theorem tyJ2_ok : ∀ k, k < 0 → parseFieldDescriptor (TJ2 k).2.2.1 = some (tyJ2 k) := by decide +kernel
abbrev cJ2_getChar_3b067 : ByteArray := prog_13_method_5_code
def yJ2_getChar_3b067 : MethodName := ⟨RJ2, "getChar", "([BI)C"⟩
abbrev cJ2_length_9d52b : ByteArray := prog_13_method_6_code
def yJ2_length_9d52b : MethodName := ⟨RJ2, "length", "([B)I"⟩
abbrev cJ2_charAt_3b067 : ByteArray := prog_13_method_83_code
def yJ2_charAt_3b067 : MethodName := ⟨RJ2, "charAt", "([BI)C"⟩
abbrev cJ2_checkIndex_2214a : ByteArray := prog_13_method_91_code
def yJ2_checkIndex_2214a : MethodName := ⟨RJ2, "checkIndex", "(I[B)V"⟩
def RJ10 : String := "java/lang/System"
def TJ10 : u_T := fun k => match k with
  | _ => ("", "", "", false)
def tyJ10 : Nat → FieldType := fun k => match k with
  | _ => .int
abbrev wsJ100 : List Cond := u_ws RJ10 TJ10 0
theorem nmJ10 : ∀ a, a < 0 → ∀ b, b < 0 → a ≠ b → (TJ10 a).2.1 ≠ (TJ10 b).2.1 := by decide +kernel
theorem tyJ10_ok : ∀ k, k < 0 → parseFieldDescriptor (TJ10 k).2.2.1 = some (tyJ10 k) := by decide +kernel
def RJ3 : String := "jdk/internal/util/Preconditions"
def TJ3 : u_T := fun k => match k with
  | _ => ("", "", "", false)
def tyJ3 : Nat → FieldType := fun k => match k with
  | _ => .int
abbrev wsJ30 : List Cond := u_ws RJ3 TJ3 0
theorem nmJ3 : ∀ a, a < 0 → ∀ b, b < 0 → a ≠ b → (TJ3 a).2.1 ≠ (TJ3 b).2.1 := by decide +kernel
theorem tyJ3_ok : ∀ k, k < 0 → parseFieldDescriptor (TJ3 k).2.2.1 = some (tyJ3 k) := by decide +kernel
abbrev cJ3_checkIndex_8e157 : ByteArray := prog_15_method_11_code
def yJ3_checkIndex_8e157 : MethodName := ⟨RJ3, "checkIndex", "(IILjava/util/function/BiFunction;)I"⟩
def RL : String := "SlidingRanksLaw"
abbrev cL_law : ByteArray := code
def yL_law : MethodName := ⟨RL, "law", "([I)Z"⟩
abbrev vwCl : List vw_C := [(RX0, TX0, 3), (RX1, TX1, 8), (RX2, TX2, 3), (RX3, TX3, 2), (RX4, TX4, 12), (RX5, TX5, 2), (RX6, TX6, 9), (RX7, TX7, 28)]
end
section
theorem dX0_init_0 : decode cX0_init 0 = .ok (.aload_n 0, 1) := by decide +kernel
theorem dX0_init_1 : decode cX0_init 1 = .ok (.invokespecial 3, 3) := by decide +kernel
theorem dX0_init_4 : decode cX0_init 4 = .ok (.aload_n 0, 1) := by decide +kernel
theorem dX0_init_5 : decode cX0_init 5 = .ok (.bipush 24, 2) := by decide +kernel
theorem dX0_init_7 : decode cX0_init 7 = .ok (.newarray .int, 2) := by decide +kernel
theorem dX0_init_9 : decode cX0_init 9 = .ok (.putfield 9, 3) := by decide +kernel
theorem dX0_init_12 : decode cX0_init 12 = .ok (.aload_n 0, 1) := by decide +kernel
theorem dX0_init_13 : decode cX0_init 13 = .ok (.iconst 0, 1) := by decide +kernel
theorem dX0_init_14 : decode cX0_init 14 = .ok (.putfield 15, 3) := by decide +kernel
theorem dX0_init_17 : decode cX0_init 17 = .ok (.aload_n 0, 1) := by decide +kernel
theorem dX0_init_18 : decode cX0_init 18 = .ok (.aload_n 1, 1) := by decide +kernel
theorem dX0_init_19 : decode cX0_init 19 = .ok (.putfield 19, 3) := by decide +kernel
theorem dX0_init_22 : decode cX0_init 22 = .ok (.return_, 1) := by decide +kernel
theorem dX0_clear_0 : decode cX0_clear 0 = .ok (.aload_n 0, 1) := by decide +kernel
theorem dX0_clear_1 : decode cX0_clear 1 = .ok (.iconst 0, 1) := by decide +kernel
theorem dX0_clear_2 : decode cX0_clear 2 = .ok (.putfield 15, 3) := by decide +kernel
theorem dX0_clear_5 : decode cX0_clear 5 = .ok (.return_, 1) := by decide +kernel
theorem dX0_load_0 : decode cX0_load 0 = .ok (.aload_n 0, 1) := by decide +kernel
theorem dX0_load_1 : decode cX0_load 1 = .ok (.invokevirtual 23, 3) := by decide +kernel
theorem dX0_load_4 : decode cX0_load 4 = .ok (.iconst 0, 1) := by decide +kernel
theorem dX0_load_5 : decode cX0_load 5 = .ok (.iload_n 1, 1) := by decide +kernel
theorem dX0_load_6 : decode cX0_load 6 = .ok (.aload_n 0, 1) := by decide +kernel
theorem dX0_load_7 : decode cX0_load 7 = .ok (.getfield 19, 3) := by decide +kernel
theorem dX0_load_10 : decode cX0_load 10 = .ok (.getfield 26, 3) := by decide +kernel
theorem dX0_load_13 : decode cX0_load 13 = .ok (.isub, 1) := by decide +kernel
theorem dX0_load_14 : decode cX0_load 14 = .ok (.iconst 1, 1) := by decide +kernel
theorem dX0_load_15 : decode cX0_load 15 = .ok (.iadd, 1) := by decide +kernel
theorem dX0_load_16 : decode cX0_load 16 = .ok (.invokestatic 31, 3) := by decide +kernel
theorem dX0_load_19 : decode cX0_load 19 = .ok (.istore_n 2, 1) := by decide +kernel
theorem dX0_load_20 : decode cX0_load 20 = .ok (.iload_n 2, 1) := by decide +kernel
theorem dX0_load_21 : decode cX0_load 21 = .ok (.iload_n 1, 1) := by decide +kernel
theorem dX0_load_22 : decode cX0_load 22 = .ok (.if_icmp .gt 21, 3) := by decide +kernel
theorem dX0_load_25 : decode cX0_load 25 = .ok (.aload_n 0, 1) := by decide +kernel
theorem dX0_load_26 : decode cX0_load 26 = .ok (.aload_n 0, 1) := by decide +kernel
theorem dX0_load_27 : decode cX0_load 27 = .ok (.getfield 19, 3) := by decide +kernel
theorem dX0_load_30 : decode cX0_load 30 = .ok (.iload_n 2, 1) := by decide +kernel
theorem dX0_load_31 : decode cX0_load 31 = .ok (.invokevirtual 37, 3) := by decide +kernel
theorem dX0_load_34 : decode cX0_load 34 = .ok (.invokevirtual 41, 3) := by decide +kernel
theorem dX0_load_37 : decode cX0_load 37 = .ok (.iinc 2 1, 3) := by decide +kernel
theorem dX0_load_40 : decode cX0_load 40 = .ok (.goto (-20), 3) := by decide +kernel
theorem dX0_load_43 : decode cX0_load 43 = .ok (.return_, 1) := by decide +kernel
theorem dX0_slideTo_0 : decode cX0_slideTo 0 = .ok (.aload_n 0, 1) := by decide +kernel
theorem dX0_slideTo_1 : decode cX0_slideTo 1 = .ok (.aload_n 0, 1) := by decide +kernel
theorem dX0_slideTo_2 : decode cX0_slideTo 2 = .ok (.getfield 19, 3) := by decide +kernel
theorem dX0_slideTo_5 : decode cX0_slideTo 5 = .ok (.iload_n 1, 1) := by decide +kernel
theorem dX0_slideTo_6 : decode cX0_slideTo 6 = .ok (.aload_n 0, 1) := by decide +kernel
theorem dX0_slideTo_7 : decode cX0_slideTo 7 = .ok (.getfield 19, 3) := by decide +kernel
theorem dX0_slideTo_10 : decode cX0_slideTo 10 = .ok (.getfield 26, 3) := by decide +kernel
theorem dX0_slideTo_13 : decode cX0_slideTo 13 = .ok (.isub, 1) := by decide +kernel
theorem dX0_slideTo_14 : decode cX0_slideTo 14 = .ok (.invokevirtual 37, 3) := by decide +kernel
theorem dX0_slideTo_17 : decode cX0_slideTo 17 = .ok (.invokevirtual 45, 3) := by decide +kernel
theorem dX0_slideTo_20 : decode cX0_slideTo 20 = .ok (.aload_n 0, 1) := by decide +kernel
theorem dX0_slideTo_21 : decode cX0_slideTo 21 = .ok (.aload_n 0, 1) := by decide +kernel
theorem dX0_slideTo_22 : decode cX0_slideTo 22 = .ok (.getfield 19, 3) := by decide +kernel
theorem dX0_slideTo_25 : decode cX0_slideTo 25 = .ok (.iload_n 1, 1) := by decide +kernel
theorem dX0_slideTo_26 : decode cX0_slideTo 26 = .ok (.invokevirtual 37, 3) := by decide +kernel
theorem dX0_slideTo_29 : decode cX0_slideTo 29 = .ok (.invokevirtual 41, 3) := by decide +kernel
theorem dX0_slideTo_32 : decode cX0_slideTo 32 = .ok (.return_, 1) := by decide +kernel
theorem dX0_putIn_0 : decode cX0_putIn 0 = .ok (.iload_n 1, 1) := by decide +kernel
theorem dX0_putIn_1 : decode cX0_putIn 1 = .ok (.ldc 48, 2) := by decide +kernel
theorem dX0_putIn_3 : decode cX0_putIn 3 = .ok (.if_icmp .eq 15, 3) := by decide +kernel
theorem dX0_putIn_6 : decode cX0_putIn 6 = .ok (.aload_n 0, 1) := by decide +kernel
theorem dX0_putIn_7 : decode cX0_putIn 7 = .ok (.getfield 15, 3) := by decide +kernel
theorem dX0_putIn_10 : decode cX0_putIn 10 = .ok (.aload_n 0, 1) := by decide +kernel
theorem dX0_putIn_11 : decode cX0_putIn 11 = .ok (.getfield 9, 3) := by decide +kernel
theorem dX0_putIn_14 : decode cX0_putIn 14 = .ok (.arraylength, 1) := by decide +kernel
theorem dX0_putIn_15 : decode cX0_putIn 15 = .ok (.if_icmp .lt 4, 3) := by decide +kernel
theorem dX0_putIn_18 : decode cX0_putIn 18 = .ok (.return_, 1) := by decide +kernel
theorem dX0_putIn_19 : decode cX0_putIn 19 = .ok (.aload_n 0, 1) := by decide +kernel
theorem dX0_putIn_20 : decode cX0_putIn 20 = .ok (.getfield 15, 3) := by decide +kernel
theorem dX0_putIn_23 : decode cX0_putIn 23 = .ok (.istore_n 2, 1) := by decide +kernel
theorem dX0_putIn_24 : decode cX0_putIn 24 = .ok (.iload_n 2, 1) := by decide +kernel
theorem dX0_putIn_25 : decode cX0_putIn 25 = .ok (.ifCond .le 35, 3) := by decide +kernel
theorem dX0_putIn_28 : decode cX0_putIn 28 = .ok (.aload_n 0, 1) := by decide +kernel
theorem dX0_putIn_29 : decode cX0_putIn 29 = .ok (.getfield 9, 3) := by decide +kernel
theorem dX0_putIn_32 : decode cX0_putIn 32 = .ok (.iload_n 2, 1) := by decide +kernel
theorem dX0_putIn_33 : decode cX0_putIn 33 = .ok (.iconst 1, 1) := by decide +kernel
theorem dX0_putIn_34 : decode cX0_putIn 34 = .ok (.isub, 1) := by decide +kernel
theorem dX0_putIn_35 : decode cX0_putIn 35 = .ok (.iaload, 1) := by decide +kernel
theorem dX0_putIn_36 : decode cX0_putIn 36 = .ok (.iload_n 1, 1) := by decide +kernel
theorem dX0_putIn_37 : decode cX0_putIn 37 = .ok (.if_icmp .le 23, 3) := by decide +kernel
theorem dX0_putIn_40 : decode cX0_putIn 40 = .ok (.aload_n 0, 1) := by decide +kernel
theorem dX0_putIn_41 : decode cX0_putIn 41 = .ok (.getfield 9, 3) := by decide +kernel
theorem dX0_putIn_44 : decode cX0_putIn 44 = .ok (.iload_n 2, 1) := by decide +kernel
theorem dX0_putIn_45 : decode cX0_putIn 45 = .ok (.aload_n 0, 1) := by decide +kernel
theorem dX0_putIn_46 : decode cX0_putIn 46 = .ok (.getfield 9, 3) := by decide +kernel
theorem dX0_putIn_49 : decode cX0_putIn 49 = .ok (.iload_n 2, 1) := by decide +kernel
theorem dX0_putIn_50 : decode cX0_putIn 50 = .ok (.iconst 1, 1) := by decide +kernel
theorem dX0_putIn_51 : decode cX0_putIn 51 = .ok (.isub, 1) := by decide +kernel
theorem dX0_putIn_52 : decode cX0_putIn 52 = .ok (.iaload, 1) := by decide +kernel
theorem dX0_putIn_53 : decode cX0_putIn 53 = .ok (.iastore, 1) := by decide +kernel
theorem dX0_putIn_54 : decode cX0_putIn 54 = .ok (.iinc 2 (-1), 3) := by decide +kernel
theorem dX0_putIn_57 : decode cX0_putIn 57 = .ok (.goto (-33), 3) := by decide +kernel
theorem dX0_putIn_60 : decode cX0_putIn 60 = .ok (.aload_n 0, 1) := by decide +kernel
theorem dX0_putIn_61 : decode cX0_putIn 61 = .ok (.getfield 9, 3) := by decide +kernel
theorem dX0_putIn_64 : decode cX0_putIn 64 = .ok (.iload_n 2, 1) := by decide +kernel
theorem dX0_putIn_65 : decode cX0_putIn 65 = .ok (.iload_n 1, 1) := by decide +kernel
theorem dX0_putIn_66 : decode cX0_putIn 66 = .ok (.iastore, 1) := by decide +kernel
theorem dX0_putIn_67 : decode cX0_putIn 67 = .ok (.aload_n 0, 1) := by decide +kernel
theorem dX0_putIn_68 : decode cX0_putIn 68 = .ok (.dup, 1) := by decide +kernel
theorem dX0_putIn_69 : decode cX0_putIn 69 = .ok (.getfield 15, 3) := by decide +kernel
theorem dX0_putIn_72 : decode cX0_putIn 72 = .ok (.iconst 1, 1) := by decide +kernel
theorem dX0_putIn_73 : decode cX0_putIn 73 = .ok (.iadd, 1) := by decide +kernel
theorem dX0_putIn_74 : decode cX0_putIn 74 = .ok (.putfield 15, 3) := by decide +kernel
theorem dX0_putIn_77 : decode cX0_putIn 77 = .ok (.return_, 1) := by decide +kernel
theorem dX0_takeOut_0 : decode cX0_takeOut 0 = .ok (.aload_n 0, 1) := by decide +kernel
theorem dX0_takeOut_1 : decode cX0_takeOut 1 = .ok (.iload_n 1, 1) := by decide +kernel
theorem dX0_takeOut_2 : decode cX0_takeOut 2 = .ok (.invokevirtual 49, 3) := by decide +kernel
theorem dX0_takeOut_5 : decode cX0_takeOut 5 = .ok (.istore_n 2, 1) := by decide +kernel
theorem dX0_takeOut_6 : decode cX0_takeOut 6 = .ok (.iload_n 2, 1) := by decide +kernel
theorem dX0_takeOut_7 : decode cX0_takeOut 7 = .ok (.aload_n 0, 1) := by decide +kernel
theorem dX0_takeOut_8 : decode cX0_takeOut 8 = .ok (.getfield 15, 3) := by decide +kernel
theorem dX0_takeOut_11 : decode cX0_takeOut 11 = .ok (.if_icmp .ge 13, 3) := by decide +kernel
theorem dX0_takeOut_14 : decode cX0_takeOut 14 = .ok (.aload_n 0, 1) := by decide +kernel
theorem dX0_takeOut_15 : decode cX0_takeOut 15 = .ok (.getfield 9, 3) := by decide +kernel
theorem dX0_takeOut_18 : decode cX0_takeOut 18 = .ok (.iload_n 2, 1) := by decide +kernel
theorem dX0_takeOut_19 : decode cX0_takeOut 19 = .ok (.iaload, 1) := by decide +kernel
theorem dX0_takeOut_20 : decode cX0_takeOut 20 = .ok (.iload_n 1, 1) := by decide +kernel
theorem dX0_takeOut_21 : decode cX0_takeOut 21 = .ok (.if_icmp .eq 4, 3) := by decide +kernel
theorem dX0_takeOut_24 : decode cX0_takeOut 24 = .ok (.return_, 1) := by decide +kernel
theorem dX0_takeOut_25 : decode cX0_takeOut 25 = .ok (.aload_n 0, 1) := by decide +kernel
theorem dX0_takeOut_26 : decode cX0_takeOut 26 = .ok (.dup, 1) := by decide +kernel
theorem dX0_takeOut_27 : decode cX0_takeOut 27 = .ok (.getfield 15, 3) := by decide +kernel
theorem dX0_takeOut_30 : decode cX0_takeOut 30 = .ok (.iconst 1, 1) := by decide +kernel
theorem dX0_takeOut_31 : decode cX0_takeOut 31 = .ok (.isub, 1) := by decide +kernel
theorem dX0_takeOut_32 : decode cX0_takeOut 32 = .ok (.putfield 15, 3) := by decide +kernel
theorem dX0_takeOut_35 : decode cX0_takeOut 35 = .ok (.iload_n 2, 1) := by decide +kernel
theorem dX0_takeOut_36 : decode cX0_takeOut 36 = .ok (.aload_n 0, 1) := by decide +kernel
theorem dX0_takeOut_37 : decode cX0_takeOut 37 = .ok (.getfield 15, 3) := by decide +kernel
theorem dX0_takeOut_40 : decode cX0_takeOut 40 = .ok (.if_icmp .ge 23, 3) := by decide +kernel
theorem dX0_takeOut_43 : decode cX0_takeOut 43 = .ok (.aload_n 0, 1) := by decide +kernel
theorem dX0_takeOut_44 : decode cX0_takeOut 44 = .ok (.getfield 9, 3) := by decide +kernel
theorem dX0_takeOut_47 : decode cX0_takeOut 47 = .ok (.iload_n 2, 1) := by decide +kernel
theorem dX0_takeOut_48 : decode cX0_takeOut 48 = .ok (.aload_n 0, 1) := by decide +kernel
theorem dX0_takeOut_49 : decode cX0_takeOut 49 = .ok (.getfield 9, 3) := by decide +kernel
theorem dX0_takeOut_52 : decode cX0_takeOut 52 = .ok (.iload_n 2, 1) := by decide +kernel
theorem dX0_takeOut_53 : decode cX0_takeOut 53 = .ok (.iconst 1, 1) := by decide +kernel
theorem dX0_takeOut_54 : decode cX0_takeOut 54 = .ok (.iadd, 1) := by decide +kernel
theorem dX0_takeOut_55 : decode cX0_takeOut 55 = .ok (.iaload, 1) := by decide +kernel
theorem dX0_takeOut_56 : decode cX0_takeOut 56 = .ok (.iastore, 1) := by decide +kernel
theorem dX0_takeOut_57 : decode cX0_takeOut 57 = .ok (.iinc 2 1, 3) := by decide +kernel
theorem dX0_takeOut_60 : decode cX0_takeOut 60 = .ok (.goto (-25), 3) := by decide +kernel
theorem dX0_takeOut_63 : decode cX0_takeOut 63 = .ok (.return_, 1) := by decide +kernel
theorem dX0_at_0 : decode cX0_at 0 = .ok (.iload_n 1, 1) := by decide +kernel
theorem dX0_at_1 : decode cX0_at 1 = .ok (.ifCond .lt 20, 3) := by decide +kernel
theorem dX0_at_4 : decode cX0_at 4 = .ok (.iload_n 1, 1) := by decide +kernel
theorem dX0_at_5 : decode cX0_at 5 = .ok (.aload_n 0, 1) := by decide +kernel
theorem dX0_at_6 : decode cX0_at 6 = .ok (.getfield 15, 3) := by decide +kernel
theorem dX0_at_9 : decode cX0_at 9 = .ok (.if_icmp .ge 12, 3) := by decide +kernel
theorem dX0_at_12 : decode cX0_at 12 = .ok (.aload_n 0, 1) := by decide +kernel
theorem dX0_at_13 : decode cX0_at 13 = .ok (.getfield 9, 3) := by decide +kernel
theorem dX0_at_16 : decode cX0_at 16 = .ok (.iload_n 1, 1) := by decide +kernel
theorem dX0_at_17 : decode cX0_at 17 = .ok (.iaload, 1) := by decide +kernel
theorem dX0_at_18 : decode cX0_at 18 = .ok (.goto 5, 3) := by decide +kernel
theorem dX0_at_21 : decode cX0_at 21 = .ok (.ldc 48, 2) := by decide +kernel
theorem dX0_at_23 : decode cX0_at 23 = .ok (.ireturn, 1) := by decide +kernel
theorem dX0_countLess_0 : decode cX0_countLess 0 = .ok (.iconst 0, 1) := by decide +kernel
theorem dX0_countLess_1 : decode cX0_countLess 1 = .ok (.istore_n 2, 1) := by decide +kernel
theorem dX0_countLess_2 : decode cX0_countLess 2 = .ok (.iload_n 2, 1) := by decide +kernel
theorem dX0_countLess_3 : decode cX0_countLess 3 = .ok (.aload_n 0, 1) := by decide +kernel
theorem dX0_countLess_4 : decode cX0_countLess 4 = .ok (.getfield 15, 3) := by decide +kernel
theorem dX0_countLess_7 : decode cX0_countLess 7 = .ok (.if_icmp .ge 19, 3) := by decide +kernel
theorem dX0_countLess_10 : decode cX0_countLess 10 = .ok (.aload_n 0, 1) := by decide +kernel
theorem dX0_countLess_11 : decode cX0_countLess 11 = .ok (.getfield 9, 3) := by decide +kernel
theorem dX0_countLess_14 : decode cX0_countLess 14 = .ok (.iload_n 2, 1) := by decide +kernel
theorem dX0_countLess_15 : decode cX0_countLess 15 = .ok (.iaload, 1) := by decide +kernel
theorem dX0_countLess_16 : decode cX0_countLess 16 = .ok (.iload_n 1, 1) := by decide +kernel
theorem dX0_countLess_17 : decode cX0_countLess 17 = .ok (.if_icmp .ge 9, 3) := by decide +kernel
theorem dX0_countLess_20 : decode cX0_countLess 20 = .ok (.iinc 2 1, 3) := by decide +kernel
theorem dX0_countLess_23 : decode cX0_countLess 23 = .ok (.goto (-21), 3) := by decide +kernel
theorem dX0_countLess_26 : decode cX0_countLess 26 = .ok (.iload_n 2, 1) := by decide +kernel
theorem dX0_countLess_27 : decode cX0_countLess 27 = .ok (.ireturn, 1) := by decide +kernel
theorem dX0_countSame_0 : decode cX0_countSame 0 = .ok (.iconst 0, 1) := by decide +kernel
theorem dX0_countSame_1 : decode cX0_countSame 1 = .ok (.istore_n 2, 1) := by decide +kernel
theorem dX0_countSame_2 : decode cX0_countSame 2 = .ok (.iconst 0, 1) := by decide +kernel
theorem dX0_countSame_3 : decode cX0_countSame 3 = .ok (.istore_n 3, 1) := by decide +kernel
theorem dX0_countSame_4 : decode cX0_countSame 4 = .ok (.iload_n 3, 1) := by decide +kernel
theorem dX0_countSame_5 : decode cX0_countSame 5 = .ok (.aload_n 0, 1) := by decide +kernel
theorem dX0_countSame_6 : decode cX0_countSame 6 = .ok (.getfield 15, 3) := by decide +kernel
theorem dX0_countSame_9 : decode cX0_countSame 9 = .ok (.if_icmp .ge 22, 3) := by decide +kernel
theorem dX0_countSame_12 : decode cX0_countSame 12 = .ok (.aload_n 0, 1) := by decide +kernel
theorem dX0_countSame_13 : decode cX0_countSame 13 = .ok (.getfield 9, 3) := by decide +kernel
theorem dX0_countSame_16 : decode cX0_countSame 16 = .ok (.iload_n 3, 1) := by decide +kernel
theorem dX0_countSame_17 : decode cX0_countSame 17 = .ok (.iaload, 1) := by decide +kernel
theorem dX0_countSame_18 : decode cX0_countSame 18 = .ok (.iload_n 1, 1) := by decide +kernel
theorem dX0_countSame_19 : decode cX0_countSame 19 = .ok (.if_icmp .ne 6, 3) := by decide +kernel
theorem dX0_countSame_22 : decode cX0_countSame 22 = .ok (.iinc 2 1, 3) := by decide +kernel
theorem dX0_countSame_25 : decode cX0_countSame 25 = .ok (.iinc 3 1, 3) := by decide +kernel
theorem dX0_countSame_28 : decode cX0_countSame 28 = .ok (.goto (-24), 3) := by decide +kernel
theorem dX0_countSame_31 : decode cX0_countSame 31 = .ok (.iload_n 2, 1) := by decide +kernel
theorem dX0_countSame_32 : decode cX0_countSame 32 = .ok (.ireturn, 1) := by decide +kernel
theorem dX0_hasResult_0 : decode cX0_hasResult 0 = .ok (.aload_n 0, 1) := by decide +kernel
theorem dX0_hasResult_1 : decode cX0_hasResult 1 = .ok (.getfield 15, 3) := by decide +kernel
theorem dX0_hasResult_4 : decode cX0_hasResult 4 = .ok (.ifCond .le 21, 3) := by decide +kernel
theorem dX0_hasResult_7 : decode cX0_hasResult 7 = .ok (.aload_n 0, 1) := by decide +kernel
theorem dX0_hasResult_8 : decode cX0_hasResult 8 = .ok (.getfield 15, 3) := by decide +kernel
theorem dX0_hasResult_11 : decode cX0_hasResult 11 = .ok (.aload_n 0, 1) := by decide +kernel
theorem dX0_hasResult_12 : decode cX0_hasResult 12 = .ok (.getfield 19, 3) := by decide +kernel
theorem dX0_hasResult_15 : decode cX0_hasResult 15 = .ok (.getfield 52, 3) := by decide +kernel
theorem dX0_hasResult_18 : decode cX0_hasResult 18 = .ok (.if_icmp .lt 7, 3) := by decide +kernel
theorem dX0_hasResult_21 : decode cX0_hasResult 21 = .ok (.iconst 1, 1) := by decide +kernel
theorem dX0_hasResult_22 : decode cX0_hasResult 22 = .ok (.goto 4, 3) := by decide +kernel
theorem dX0_hasResult_25 : decode cX0_hasResult 25 = .ok (.iconst 0, 1) := by decide +kernel
theorem dX0_hasResult_26 : decode cX0_hasResult 26 = .ok (.ireturn, 1) := by decide +kernel
theorem dX0_placeWhole_0 : decode cX0_placeWhole 0 = .ok (.aload_n 0, 1) := by decide +kernel
theorem dX0_placeWhole_1 : decode cX0_placeWhole 1 = .ok (.getfield 19, 3) := by decide +kernel
theorem dX0_placeWhole_4 : decode cX0_placeWhole 4 = .ok (.getfield 55, 3) := by decide +kernel
theorem dX0_placeWhole_7 : decode cX0_placeWhole 7 = .ok (.iconst 1, 1) := by decide +kernel
theorem dX0_placeWhole_8 : decode cX0_placeWhole 8 = .ok (.if_icmp .ge 7, 3) := by decide +kernel
theorem dX0_placeWhole_11 : decode cX0_placeWhole 11 = .ok (.iconst 0, 1) := by decide +kernel
theorem dX0_placeWhole_12 : decode cX0_placeWhole 12 = .ok (.goto 25, 3) := by decide +kernel
theorem dX0_placeWhole_15 : decode cX0_placeWhole 15 = .ok (.aload_n 0, 1) := by decide +kernel
theorem dX0_placeWhole_16 : decode cX0_placeWhole 16 = .ok (.getfield 15, 3) := by decide +kernel
theorem dX0_placeWhole_19 : decode cX0_placeWhole 19 = .ok (.iconst 1, 1) := by decide +kernel
theorem dX0_placeWhole_20 : decode cX0_placeWhole 20 = .ok (.isub, 1) := by decide +kernel
theorem dX0_placeWhole_21 : decode cX0_placeWhole 21 = .ok (.aload_n 0, 1) := by decide +kernel
theorem dX0_placeWhole_22 : decode cX0_placeWhole 22 = .ok (.getfield 19, 3) := by decide +kernel
theorem dX0_placeWhole_25 : decode cX0_placeWhole 25 = .ok (.getfield 58, 3) := by decide +kernel
theorem dX0_placeWhole_28 : decode cX0_placeWhole 28 = .ok (.imul, 1) := by decide +kernel
theorem dX0_placeWhole_29 : decode cX0_placeWhole 29 = .ok (.aload_n 0, 1) := by decide +kernel
theorem dX0_placeWhole_30 : decode cX0_placeWhole 30 = .ok (.getfield 19, 3) := by decide +kernel
theorem dX0_placeWhole_33 : decode cX0_placeWhole 33 = .ok (.getfield 55, 3) := by decide +kernel
theorem dX0_placeWhole_36 : decode cX0_placeWhole 36 = .ok (.idiv, 1) := by decide +kernel
theorem dX0_placeWhole_37 : decode cX0_placeWhole 37 = .ok (.ireturn, 1) := by decide +kernel
theorem dX0_placeRest_0 : decode cX0_placeRest 0 = .ok (.aload_n 0, 1) := by decide +kernel
theorem dX0_placeRest_1 : decode cX0_placeRest 1 = .ok (.getfield 19, 3) := by decide +kernel
theorem dX0_placeRest_4 : decode cX0_placeRest 4 = .ok (.getfield 55, 3) := by decide +kernel
theorem dX0_placeRest_7 : decode cX0_placeRest 7 = .ok (.iconst 1, 1) := by decide +kernel
theorem dX0_placeRest_8 : decode cX0_placeRest 8 = .ok (.if_icmp .ge 7, 3) := by decide +kernel
theorem dX0_placeRest_11 : decode cX0_placeRest 11 = .ok (.iconst 0, 1) := by decide +kernel
theorem dX0_placeRest_12 : decode cX0_placeRest 12 = .ok (.goto 25, 3) := by decide +kernel
theorem dX0_placeRest_15 : decode cX0_placeRest 15 = .ok (.aload_n 0, 1) := by decide +kernel
theorem dX0_placeRest_16 : decode cX0_placeRest 16 = .ok (.getfield 15, 3) := by decide +kernel
theorem dX0_placeRest_19 : decode cX0_placeRest 19 = .ok (.iconst 1, 1) := by decide +kernel
theorem dX0_placeRest_20 : decode cX0_placeRest 20 = .ok (.isub, 1) := by decide +kernel
theorem dX0_placeRest_21 : decode cX0_placeRest 21 = .ok (.aload_n 0, 1) := by decide +kernel
theorem dX0_placeRest_22 : decode cX0_placeRest 22 = .ok (.getfield 19, 3) := by decide +kernel
theorem dX0_placeRest_25 : decode cX0_placeRest 25 = .ok (.getfield 58, 3) := by decide +kernel
theorem dX0_placeRest_28 : decode cX0_placeRest 28 = .ok (.imul, 1) := by decide +kernel
theorem dX0_placeRest_29 : decode cX0_placeRest 29 = .ok (.aload_n 0, 1) := by decide +kernel
theorem dX0_placeRest_30 : decode cX0_placeRest 30 = .ok (.getfield 19, 3) := by decide +kernel
theorem dX0_placeRest_33 : decode cX0_placeRest 33 = .ok (.getfield 55, 3) := by decide +kernel
theorem dX0_placeRest_36 : decode cX0_placeRest 36 = .ok (.irem, 1) := by decide +kernel
theorem dX0_placeRest_37 : decode cX0_placeRest 37 = .ok (.ireturn, 1) := by decide +kernel
theorem dX0_numerator_0 : decode cX0_numerator 0 = .ok (.aload_n 0, 1) := by decide +kernel
theorem dX0_numerator_1 : decode cX0_numerator 1 = .ok (.invokevirtual 61, 3) := by decide +kernel
theorem dX0_numerator_4 : decode cX0_numerator 4 = .ok (.istore_n 1, 1) := by decide +kernel
theorem dX0_numerator_5 : decode cX0_numerator 5 = .ok (.aload_n 0, 1) := by decide +kernel
theorem dX0_numerator_6 : decode cX0_numerator 6 = .ok (.invokevirtual 65, 3) := by decide +kernel
theorem dX0_numerator_9 : decode cX0_numerator 9 = .ok (.istore_n 2, 1) := by decide +kernel
theorem dX0_numerator_10 : decode cX0_numerator 10 = .ok (.aload_n 0, 1) := by decide +kernel
theorem dX0_numerator_11 : decode cX0_numerator 11 = .ok (.iload_n 1, 1) := by decide +kernel
theorem dX0_numerator_12 : decode cX0_numerator 12 = .ok (.invokevirtual 68, 3) := by decide +kernel
theorem dX0_numerator_15 : decode cX0_numerator 15 = .ok (.istore_n 3, 1) := by decide +kernel
theorem dX0_numerator_16 : decode cX0_numerator 16 = .ok (.iload_n 2, 1) := by decide +kernel
theorem dX0_numerator_17 : decode cX0_numerator 17 = .ok (.ifCond .le 13, 3) := by decide +kernel
theorem dX0_numerator_20 : decode cX0_numerator 20 = .ok (.aload_n 0, 1) := by decide +kernel
theorem dX0_numerator_21 : decode cX0_numerator 21 = .ok (.iload_n 1, 1) := by decide +kernel
theorem dX0_numerator_22 : decode cX0_numerator 22 = .ok (.iconst 1, 1) := by decide +kernel
theorem dX0_numerator_23 : decode cX0_numerator 23 = .ok (.iadd, 1) := by decide +kernel
theorem dX0_numerator_24 : decode cX0_numerator 24 = .ok (.invokevirtual 68, 3) := by decide +kernel
theorem dX0_numerator_27 : decode cX0_numerator 27 = .ok (.goto 4, 3) := by decide +kernel
theorem dX0_numerator_30 : decode cX0_numerator 30 = .ok (.iload_n 3, 1) := by decide +kernel
theorem dX0_numerator_31 : decode cX0_numerator 31 = .ok (.istore 4, 2) := by decide +kernel
theorem dX0_numerator_33 : decode cX0_numerator 33 = .ok (.aload_n 0, 1) := by decide +kernel
theorem dX0_numerator_34 : decode cX0_numerator 34 = .ok (.getfield 19, 3) := by decide +kernel
theorem dX0_numerator_37 : decode cX0_numerator 37 = .ok (.getfield 71, 3) := by decide +kernel
theorem dX0_numerator_40 : decode cX0_numerator 40 = .ok (.tableswitch 58 0 3 #[32, 34, 37, 53], 32) := by decide +kernel
theorem dX0_numerator_72 : decode cX0_numerator 72 = .ok (.iload_n 3, 1) := by decide +kernel
theorem dX0_numerator_73 : decode cX0_numerator 73 = .ok (.ireturn, 1) := by decide +kernel
theorem dX0_numerator_74 : decode cX0_numerator 74 = .ok (.iload 4, 2) := by decide +kernel
theorem dX0_numerator_76 : decode cX0_numerator 76 = .ok (.ireturn, 1) := by decide +kernel
theorem dX0_numerator_77 : decode cX0_numerator 77 = .ok (.aload_n 0, 1) := by decide +kernel
theorem dX0_numerator_78 : decode cX0_numerator 78 = .ok (.iload_n 1, 1) := by decide +kernel
theorem dX0_numerator_79 : decode cX0_numerator 79 = .ok (.iload_n 2, 1) := by decide +kernel
theorem dX0_numerator_80 : decode cX0_numerator 80 = .ok (.invokevirtual 74, 3) := by decide +kernel
theorem dX0_numerator_83 : decode cX0_numerator 83 = .ok (.ifCond .eq 7, 3) := by decide +kernel
theorem dX0_numerator_86 : decode cX0_numerator 86 = .ok (.iload_n 3, 1) := by decide +kernel
theorem dX0_numerator_87 : decode cX0_numerator 87 = .ok (.goto 5, 3) := by decide +kernel
theorem dX0_numerator_90 : decode cX0_numerator 90 = .ok (.iload 4, 2) := by decide +kernel
theorem dX0_numerator_92 : decode cX0_numerator 92 = .ok (.ireturn, 1) := by decide +kernel
theorem dX0_numerator_93 : decode cX0_numerator 93 = .ok (.iload_n 3, 1) := by decide +kernel
theorem dX0_numerator_94 : decode cX0_numerator 94 = .ok (.iload 4, 2) := by decide +kernel
theorem dX0_numerator_96 : decode cX0_numerator 96 = .ok (.iadd, 1) := by decide +kernel
theorem dX0_numerator_97 : decode cX0_numerator 97 = .ok (.ireturn, 1) := by decide +kernel
theorem dX0_numerator_98 : decode cX0_numerator 98 = .ok (.iload_n 3, 1) := by decide +kernel
theorem dX0_numerator_99 : decode cX0_numerator 99 = .ok (.aload_n 0, 1) := by decide +kernel
theorem dX0_numerator_100 : decode cX0_numerator 100 = .ok (.getfield 19, 3) := by decide +kernel
theorem dX0_numerator_103 : decode cX0_numerator 103 = .ok (.getfield 55, 3) := by decide +kernel
theorem dX0_numerator_106 : decode cX0_numerator 106 = .ok (.iload_n 2, 1) := by decide +kernel
theorem dX0_numerator_107 : decode cX0_numerator 107 = .ok (.isub, 1) := by decide +kernel
theorem dX0_numerator_108 : decode cX0_numerator 108 = .ok (.imul, 1) := by decide +kernel
theorem dX0_numerator_109 : decode cX0_numerator 109 = .ok (.iload 4, 2) := by decide +kernel
theorem dX0_numerator_111 : decode cX0_numerator 111 = .ok (.iload_n 2, 1) := by decide +kernel
theorem dX0_numerator_112 : decode cX0_numerator 112 = .ok (.imul, 1) := by decide +kernel
theorem dX0_numerator_113 : decode cX0_numerator 113 = .ok (.iadd, 1) := by decide +kernel
theorem dX0_numerator_114 : decode cX0_numerator 114 = .ok (.ireturn, 1) := by decide +kernel
theorem dX0_isNearLower_0 : decode cX0_isNearLower 0 = .ok (.iconst 2, 1) := by decide +kernel
theorem dX0_isNearLower_1 : decode cX0_isNearLower 1 = .ok (.iload_n 2, 1) := by decide +kernel
theorem dX0_isNearLower_2 : decode cX0_isNearLower 2 = .ok (.imul, 1) := by decide +kernel
theorem dX0_isNearLower_3 : decode cX0_isNearLower 3 = .ok (.aload_n 0, 1) := by decide +kernel
theorem dX0_isNearLower_4 : decode cX0_isNearLower 4 = .ok (.getfield 19, 3) := by decide +kernel
theorem dX0_isNearLower_7 : decode cX0_isNearLower 7 = .ok (.getfield 55, 3) := by decide +kernel
theorem dX0_isNearLower_10 : decode cX0_isNearLower 10 = .ok (.if_icmp .lt 22, 3) := by decide +kernel
theorem dX0_isNearLower_13 : decode cX0_isNearLower 13 = .ok (.iconst 2, 1) := by decide +kernel
theorem dX0_isNearLower_14 : decode cX0_isNearLower 14 = .ok (.iload_n 2, 1) := by decide +kernel
theorem dX0_isNearLower_15 : decode cX0_isNearLower 15 = .ok (.imul, 1) := by decide +kernel
theorem dX0_isNearLower_16 : decode cX0_isNearLower 16 = .ok (.aload_n 0, 1) := by decide +kernel
theorem dX0_isNearLower_17 : decode cX0_isNearLower 17 = .ok (.getfield 19, 3) := by decide +kernel
theorem dX0_isNearLower_20 : decode cX0_isNearLower 20 = .ok (.getfield 55, 3) := by decide +kernel
theorem dX0_isNearLower_23 : decode cX0_isNearLower 23 = .ok (.if_icmp .ne 13, 3) := by decide +kernel
theorem dX0_isNearLower_26 : decode cX0_isNearLower 26 = .ok (.iload_n 1, 1) := by decide +kernel
theorem dX0_isNearLower_27 : decode cX0_isNearLower 27 = .ok (.iconst 2, 1) := by decide +kernel
theorem dX0_isNearLower_28 : decode cX0_isNearLower 28 = .ok (.irem, 1) := by decide +kernel
theorem dX0_isNearLower_29 : decode cX0_isNearLower 29 = .ok (.ifCond .ne 7, 3) := by decide +kernel
theorem dX0_isNearLower_32 : decode cX0_isNearLower 32 = .ok (.iconst 1, 1) := by decide +kernel
theorem dX0_isNearLower_33 : decode cX0_isNearLower 33 = .ok (.goto 4, 3) := by decide +kernel
theorem dX0_isNearLower_36 : decode cX0_isNearLower 36 = .ok (.iconst 0, 1) := by decide +kernel
theorem dX0_isNearLower_37 : decode cX0_isNearLower 37 = .ok (.ireturn, 1) := by decide +kernel
theorem dX0_denominator_0 : decode cX0_denominator 0 = .ok (.aload_n 0, 1) := by decide +kernel
theorem dX0_denominator_1 : decode cX0_denominator 1 = .ok (.getfield 19, 3) := by decide +kernel
theorem dX0_denominator_4 : decode cX0_denominator 4 = .ok (.getfield 71, 3) := by decide +kernel
theorem dX0_denominator_7 : decode cX0_denominator 7 = .ok (.lookupswitch 35 #[(3, 25), (4, 27)], 25) := by decide +kernel
theorem dX0_denominator_32 : decode cX0_denominator 32 = .ok (.iconst 2, 1) := by decide +kernel
theorem dX0_denominator_33 : decode cX0_denominator 33 = .ok (.ireturn, 1) := by decide +kernel
theorem dX0_denominator_34 : decode cX0_denominator 34 = .ok (.aload_n 0, 1) := by decide +kernel
theorem dX0_denominator_35 : decode cX0_denominator 35 = .ok (.getfield 19, 3) := by decide +kernel
theorem dX0_denominator_38 : decode cX0_denominator 38 = .ok (.getfield 55, 3) := by decide +kernel
theorem dX0_denominator_41 : decode cX0_denominator 41 = .ok (.ireturn, 1) := by decide +kernel
theorem dX0_denominator_42 : decode cX0_denominator 42 = .ok (.iconst 1, 1) := by decide +kernel
theorem dX0_denominator_43 : decode cX0_denominator 43 = .ok (.ireturn, 1) := by decide +kernel
theorem dX0_rounded_0 : decode cX0_rounded 0 = .ok (.aload_n 0, 1) := by decide +kernel
theorem dX0_rounded_1 : decode cX0_rounded 1 = .ok (.invokevirtual 78, 3) := by decide +kernel
theorem dX0_rounded_4 : decode cX0_rounded 4 = .ok (.istore_n 1, 1) := by decide +kernel
theorem dX0_rounded_5 : decode cX0_rounded 5 = .ok (.aload_n 0, 1) := by decide +kernel
theorem dX0_rounded_6 : decode cX0_rounded 6 = .ok (.invokevirtual 81, 3) := by decide +kernel
theorem dX0_rounded_9 : decode cX0_rounded 9 = .ok (.istore_n 2, 1) := by decide +kernel
theorem dX0_rounded_10 : decode cX0_rounded 10 = .ok (.iload_n 2, 1) := by decide +kernel
theorem dX0_rounded_11 : decode cX0_rounded 11 = .ok (.iconst 1, 1) := by decide +kernel
theorem dX0_rounded_12 : decode cX0_rounded 12 = .ok (.if_icmp .ge 5, 3) := by decide +kernel
theorem dX0_rounded_15 : decode cX0_rounded 15 = .ok (.iconst 0, 1) := by decide +kernel
theorem dX0_rounded_16 : decode cX0_rounded 16 = .ok (.ireturn, 1) := by decide +kernel
theorem dX0_rounded_17 : decode cX0_rounded 17 = .ok (.iconst 2, 1) := by decide +kernel
theorem dX0_rounded_18 : decode cX0_rounded 18 = .ok (.iload_n 1, 1) := by decide +kernel
theorem dX0_rounded_19 : decode cX0_rounded 19 = .ok (.invokestatic 84, 3) := by decide +kernel
theorem dX0_rounded_22 : decode cX0_rounded 22 = .ok (.imul, 1) := by decide +kernel
theorem dX0_rounded_23 : decode cX0_rounded 23 = .ok (.iload_n 2, 1) := by decide +kernel
theorem dX0_rounded_24 : decode cX0_rounded 24 = .ok (.iadd, 1) := by decide +kernel
theorem dX0_rounded_25 : decode cX0_rounded 25 = .ok (.iconst 2, 1) := by decide +kernel
theorem dX0_rounded_26 : decode cX0_rounded 26 = .ok (.iload_n 2, 1) := by decide +kernel
theorem dX0_rounded_27 : decode cX0_rounded 27 = .ok (.imul, 1) := by decide +kernel
theorem dX0_rounded_28 : decode cX0_rounded 28 = .ok (.idiv, 1) := by decide +kernel
theorem dX0_rounded_29 : decode cX0_rounded 29 = .ok (.istore_n 3, 1) := by decide +kernel
theorem dX0_rounded_30 : decode cX0_rounded 30 = .ok (.iload_n 1, 1) := by decide +kernel
theorem dX0_rounded_31 : decode cX0_rounded 31 = .ok (.ifCond .ge 8, 3) := by decide +kernel
theorem dX0_rounded_34 : decode cX0_rounded 34 = .ok (.iload_n 3, 1) := by decide +kernel
theorem dX0_rounded_35 : decode cX0_rounded 35 = .ok (.ineg, 1) := by decide +kernel
theorem dX0_rounded_36 : decode cX0_rounded 36 = .ok (.goto 4, 3) := by decide +kernel
theorem dX0_rounded_39 : decode cX0_rounded 39 = .ok (.iload_n 3, 1) := by decide +kernel
theorem dX0_rounded_40 : decode cX0_rounded 40 = .ok (.ireturn, 1) := by decide +kernel
theorem dX0_isAbove_0 : decode cX0_isAbove 0 = .ok (.aload_n 0, 1) := by decide +kernel
theorem dX0_isAbove_1 : decode cX0_isAbove 1 = .ok (.invokevirtual 87, 3) := by decide +kernel
theorem dX0_isAbove_4 : decode cX0_isAbove 4 = .ok (.ifCond .eq 24, 3) := by decide +kernel
theorem dX0_isAbove_7 : decode cX0_isAbove 7 = .ok (.aload_n 0, 1) := by decide +kernel
theorem dX0_isAbove_8 : decode cX0_isAbove 8 = .ok (.invokevirtual 78, 3) := by decide +kernel
theorem dX0_isAbove_11 : decode cX0_isAbove 11 = .ok (.i2l, 1) := by decide +kernel
theorem dX0_isAbove_12 : decode cX0_isAbove 12 = .ok (.iload_n 1, 1) := by decide +kernel
theorem dX0_isAbove_13 : decode cX0_isAbove 13 = .ok (.i2l, 1) := by decide +kernel
theorem dX0_isAbove_14 : decode cX0_isAbove 14 = .ok (.aload_n 0, 1) := by decide +kernel
theorem dX0_isAbove_15 : decode cX0_isAbove 15 = .ok (.invokevirtual 81, 3) := by decide +kernel
theorem dX0_isAbove_18 : decode cX0_isAbove 18 = .ok (.i2l, 1) := by decide +kernel
theorem dX0_isAbove_19 : decode cX0_isAbove 19 = .ok (.lmul, 1) := by decide +kernel
theorem dX0_isAbove_20 : decode cX0_isAbove 20 = .ok (.lcmp, 1) := by decide +kernel
theorem dX0_isAbove_21 : decode cX0_isAbove 21 = .ok (.ifCond .le 7, 3) := by decide +kernel
theorem dX0_isAbove_24 : decode cX0_isAbove 24 = .ok (.iconst 1, 1) := by decide +kernel
theorem dX0_isAbove_25 : decode cX0_isAbove 25 = .ok (.goto 4, 3) := by decide +kernel
theorem dX0_isAbove_28 : decode cX0_isAbove 28 = .ok (.iconst 0, 1) := by decide +kernel
theorem dX0_isAbove_29 : decode cX0_isAbove 29 = .ok (.ireturn, 1) := by decide +kernel
theorem dX0_middleValue_0 : decode cX0_middleValue 0 = .ok (.aload_n 0, 1) := by decide +kernel
theorem dX0_middleValue_1 : decode cX0_middleValue 1 = .ok (.aload_n 0, 1) := by decide +kernel
theorem dX0_middleValue_2 : decode cX0_middleValue 2 = .ok (.getfield 15, 3) := by decide +kernel
theorem dX0_middleValue_5 : decode cX0_middleValue 5 = .ok (.iconst 1, 1) := by decide +kernel
theorem dX0_middleValue_6 : decode cX0_middleValue 6 = .ok (.isub, 1) := by decide +kernel
theorem dX0_middleValue_7 : decode cX0_middleValue 7 = .ok (.iconst 2, 1) := by decide +kernel
theorem dX0_middleValue_8 : decode cX0_middleValue 8 = .ok (.idiv, 1) := by decide +kernel
theorem dX0_middleValue_9 : decode cX0_middleValue 9 = .ok (.invokevirtual 68, 3) := by decide +kernel
theorem dX0_middleValue_12 : decode cX0_middleValue 12 = .ok (.ireturn, 1) := by decide +kernel
theorem dX0_spread_0 : decode cX0_spread 0 = .ok (.aload_n 0, 1) := by decide +kernel
theorem dX0_spread_1 : decode cX0_spread 1 = .ok (.getfield 15, 3) := by decide +kernel
theorem dX0_spread_4 : decode cX0_spread 4 = .ok (.iconst 1, 1) := by decide +kernel
theorem dX0_spread_5 : decode cX0_spread 5 = .ok (.isub, 1) := by decide +kernel
theorem dX0_spread_6 : decode cX0_spread 6 = .ok (.iconst 2, 1) := by decide +kernel
theorem dX0_spread_7 : decode cX0_spread 7 = .ok (.idiv, 1) := by decide +kernel
theorem dX0_spread_8 : decode cX0_spread 8 = .ok (.istore_n 1, 1) := by decide +kernel
theorem dX0_spread_9 : decode cX0_spread 9 = .ok (.iload_n 1, 1) := by decide +kernel
theorem dX0_spread_10 : decode cX0_spread 10 = .ok (.iconst 1, 1) := by decide +kernel
theorem dX0_spread_11 : decode cX0_spread 11 = .ok (.isub, 1) := by decide +kernel
theorem dX0_spread_12 : decode cX0_spread 12 = .ok (.istore_n 2, 1) := by decide +kernel
theorem dX0_spread_13 : decode cX0_spread 13 = .ok (.iload_n 1, 1) := by decide +kernel
theorem dX0_spread_14 : decode cX0_spread 14 = .ok (.iconst 1, 1) := by decide +kernel
theorem dX0_spread_15 : decode cX0_spread 15 = .ok (.iadd, 1) := by decide +kernel
theorem dX0_spread_16 : decode cX0_spread 16 = .ok (.istore_n 3, 1) := by decide +kernel
theorem dX0_spread_17 : decode cX0_spread 17 = .ok (.iconst 0, 1) := by decide +kernel
theorem dX0_spread_18 : decode cX0_spread 18 = .ok (.istore 4, 2) := by decide +kernel
theorem dX0_spread_20 : decode cX0_spread 20 = .ok (.iconst 0, 1) := by decide +kernel
theorem dX0_spread_21 : decode cX0_spread 21 = .ok (.istore 5, 2) := by decide +kernel
theorem dX0_spread_23 : decode cX0_spread 23 = .ok (.iload 5, 2) := by decide +kernel
theorem dX0_spread_25 : decode cX0_spread 25 = .ok (.iload_n 1, 1) := by decide +kernel
theorem dX0_spread_26 : decode cX0_spread 26 = .ok (.if_icmp .ge 81, 3) := by decide +kernel
theorem dX0_spread_29 : decode cX0_spread 29 = .ok (.iload_n 2, 1) := by decide +kernel
theorem dX0_spread_30 : decode cX0_spread 30 = .ok (.ifCond .lt 17, 3) := by decide +kernel
theorem dX0_spread_33 : decode cX0_spread 33 = .ok (.aload_n 0, 1) := by decide +kernel
theorem dX0_spread_34 : decode cX0_spread 34 = .ok (.iload_n 1, 1) := by decide +kernel
theorem dX0_spread_35 : decode cX0_spread 35 = .ok (.invokevirtual 68, 3) := by decide +kernel
theorem dX0_spread_38 : decode cX0_spread 38 = .ok (.aload_n 0, 1) := by decide +kernel
theorem dX0_spread_39 : decode cX0_spread 39 = .ok (.iload_n 2, 1) := by decide +kernel
theorem dX0_spread_40 : decode cX0_spread 40 = .ok (.invokevirtual 68, 3) := by decide +kernel
theorem dX0_spread_43 : decode cX0_spread 43 = .ok (.isub, 1) := by decide +kernel
theorem dX0_spread_44 : decode cX0_spread 44 = .ok (.goto 5, 3) := by decide +kernel
theorem dX0_spread_47 : decode cX0_spread 47 = .ok (.ldc 48, 2) := by decide +kernel
theorem dX0_spread_49 : decode cX0_spread 49 = .ok (.istore 6, 2) := by decide +kernel
theorem dX0_spread_51 : decode cX0_spread 51 = .ok (.iload_n 3, 1) := by decide +kernel
theorem dX0_spread_52 : decode cX0_spread 52 = .ok (.aload_n 0, 1) := by decide +kernel
theorem dX0_spread_53 : decode cX0_spread 53 = .ok (.getfield 15, 3) := by decide +kernel
theorem dX0_spread_56 : decode cX0_spread 56 = .ok (.if_icmp .ge 17, 3) := by decide +kernel
theorem dX0_spread_59 : decode cX0_spread 59 = .ok (.aload_n 0, 1) := by decide +kernel
theorem dX0_spread_60 : decode cX0_spread 60 = .ok (.iload_n 3, 1) := by decide +kernel
theorem dX0_spread_61 : decode cX0_spread 61 = .ok (.invokevirtual 68, 3) := by decide +kernel
theorem dX0_spread_64 : decode cX0_spread 64 = .ok (.aload_n 0, 1) := by decide +kernel
theorem dX0_spread_65 : decode cX0_spread 65 = .ok (.iload_n 1, 1) := by decide +kernel
theorem dX0_spread_66 : decode cX0_spread 66 = .ok (.invokevirtual 68, 3) := by decide +kernel
theorem dX0_spread_69 : decode cX0_spread 69 = .ok (.isub, 1) := by decide +kernel
theorem dX0_spread_70 : decode cX0_spread 70 = .ok (.goto 5, 3) := by decide +kernel
theorem dX0_spread_73 : decode cX0_spread 73 = .ok (.ldc 48, 2) := by decide +kernel
theorem dX0_spread_75 : decode cX0_spread 75 = .ok (.istore 7, 2) := by decide +kernel
theorem dX0_spread_77 : decode cX0_spread 77 = .ok (.iload 6, 2) := by decide +kernel
theorem dX0_spread_79 : decode cX0_spread 79 = .ok (.iload 7, 2) := by decide +kernel
theorem dX0_spread_81 : decode cX0_spread 81 = .ok (.if_icmp .gt 13, 3) := by decide +kernel
theorem dX0_spread_84 : decode cX0_spread 84 = .ok (.iload 6, 2) := by decide +kernel
theorem dX0_spread_86 : decode cX0_spread 86 = .ok (.istore 4, 2) := by decide +kernel
theorem dX0_spread_88 : decode cX0_spread 88 = .ok (.iinc 2 (-1), 3) := by decide +kernel
theorem dX0_spread_91 : decode cX0_spread 91 = .ok (.goto 10, 3) := by decide +kernel
theorem dX0_spread_94 : decode cX0_spread 94 = .ok (.iload 7, 2) := by decide +kernel
theorem dX0_spread_96 : decode cX0_spread 96 = .ok (.istore 4, 2) := by decide +kernel
theorem dX0_spread_98 : decode cX0_spread 98 = .ok (.iinc 3 1, 3) := by decide +kernel
theorem dX0_spread_101 : decode cX0_spread 101 = .ok (.iinc 5 1, 3) := by decide +kernel
theorem dX0_spread_104 : decode cX0_spread 104 = .ok (.goto (-81), 3) := by decide +kernel
theorem dX0_spread_107 : decode cX0_spread 107 = .ok (.iload 4, 2) := by decide +kernel
theorem dX0_spread_109 : decode cX0_spread 109 = .ok (.ireturn, 1) := by decide +kernel
theorem dX0_isFar_0 : decode cX0_isFar 0 = .ok (.iload_n 1, 1) := by decide +kernel
theorem dX0_isFar_1 : decode cX0_isFar 1 = .ok (.ldc 48, 2) := by decide +kernel
theorem dX0_isFar_3 : decode cX0_isFar 3 = .ok (.if_icmp .eq 25, 3) := by decide +kernel
theorem dX0_isFar_6 : decode cX0_isFar 6 = .ok (.iload_n 1, 1) := by decide +kernel
theorem dX0_isFar_7 : decode cX0_isFar 7 = .ok (.aload_n 0, 1) := by decide +kernel
theorem dX0_isFar_8 : decode cX0_isFar 8 = .ok (.invokevirtual 91, 3) := by decide +kernel
theorem dX0_isFar_11 : decode cX0_isFar 11 = .ok (.isub, 1) := by decide +kernel
theorem dX0_isFar_12 : decode cX0_isFar 12 = .ok (.invokestatic 84, 3) := by decide +kernel
theorem dX0_isFar_15 : decode cX0_isFar 15 = .ok (.iload_n 2, 1) := by decide +kernel
theorem dX0_isFar_16 : decode cX0_isFar 16 = .ok (.aload_n 0, 1) := by decide +kernel
theorem dX0_isFar_17 : decode cX0_isFar 17 = .ok (.invokevirtual 94, 3) := by decide +kernel
theorem dX0_isFar_20 : decode cX0_isFar 20 = .ok (.imul, 1) := by decide +kernel
theorem dX0_isFar_21 : decode cX0_isFar 21 = .ok (.if_icmp .le 7, 3) := by decide +kernel
theorem dX0_isFar_24 : decode cX0_isFar 24 = .ok (.iconst 1, 1) := by decide +kernel
theorem dX0_isFar_25 : decode cX0_isFar 25 = .ok (.goto 4, 3) := by decide +kernel
theorem dX0_isFar_28 : decode cX0_isFar 28 = .ok (.iconst 0, 1) := by decide +kernel
theorem dX0_isFar_29 : decode cX0_isFar 29 = .ok (.ireturn, 1) := by decide +kernel
theorem dX1_init_0 : decode cX1_init 0 = .ok (.aload_n 0, 1) := by decide +kernel
theorem dX1_init_1 : decode cX1_init 1 = .ok (.invokespecial 3, 3) := by decide +kernel
theorem dX1_init_4 : decode cX1_init 4 = .ok (.aload_n 0, 1) := by decide +kernel
theorem dX1_init_5 : decode cX1_init 5 = .ok (.bipush 96, 2) := by decide +kernel
theorem dX1_init_7 : decode cX1_init 7 = .ok (.newarray .int, 2) := by decide +kernel
theorem dX1_init_9 : decode cX1_init 9 = .ok (.putfield 9, 3) := by decide +kernel
theorem dX1_init_12 : decode cX1_init 12 = .ok (.aload_n 0, 1) := by decide +kernel
theorem dX1_init_13 : decode cX1_init 13 = .ok (.invokevirtual 15, 3) := by decide +kernel
theorem dX1_init_16 : decode cX1_init 16 = .ok (.return_, 1) := by decide +kernel
theorem dX1_reset_0 : decode cX1_reset 0 = .ok (.aload_n 0, 1) := by decide +kernel
theorem dX1_reset_1 : decode cX1_reset 1 = .ok (.iconst 0, 1) := by decide +kernel
theorem dX1_reset_2 : decode cX1_reset 2 = .ok (.putfield 18, 3) := by decide +kernel
theorem dX1_reset_5 : decode cX1_reset 5 = .ok (.aload_n 0, 1) := by decide +kernel
theorem dX1_reset_6 : decode cX1_reset 6 = .ok (.iconst 5, 1) := by decide +kernel
theorem dX1_reset_7 : decode cX1_reset 7 = .ok (.putfield 22, 3) := by decide +kernel
theorem dX1_reset_10 : decode cX1_reset 10 = .ok (.aload_n 0, 1) := by decide +kernel
theorem dX1_reset_11 : decode cX1_reset 11 = .ok (.iconst 1, 1) := by decide +kernel
theorem dX1_reset_12 : decode cX1_reset 12 = .ok (.putfield 25, 3) := by decide +kernel
theorem dX1_reset_15 : decode cX1_reset 15 = .ok (.aload_n 0, 1) := by decide +kernel
theorem dX1_reset_16 : decode cX1_reset 16 = .ok (.iconst 1, 1) := by decide +kernel
theorem dX1_reset_17 : decode cX1_reset 17 = .ok (.putfield 28, 3) := by decide +kernel
theorem dX1_reset_20 : decode cX1_reset 20 = .ok (.aload_n 0, 1) := by decide +kernel
theorem dX1_reset_21 : decode cX1_reset 21 = .ok (.iconst 2, 1) := by decide +kernel
theorem dX1_reset_22 : decode cX1_reset 22 = .ok (.putfield 31, 3) := by decide +kernel
theorem dX1_reset_25 : decode cX1_reset 25 = .ok (.aload_n 0, 1) := by decide +kernel
theorem dX1_reset_26 : decode cX1_reset 26 = .ok (.iconst 0, 1) := by decide +kernel
theorem dX1_reset_27 : decode cX1_reset 27 = .ok (.putfield 34, 3) := by decide +kernel
theorem dX1_reset_30 : decode cX1_reset 30 = .ok (.aload_n 0, 1) := by decide +kernel
theorem dX1_reset_31 : decode cX1_reset 31 = .ok (.iconst 0, 1) := by decide +kernel
theorem dX1_reset_32 : decode cX1_reset 32 = .ok (.putfield 37, 3) := by decide +kernel
theorem dX1_reset_35 : decode cX1_reset 35 = .ok (.return_, 1) := by decide +kernel
theorem dX1_copyFrom_0 : decode cX1_copyFrom 0 = .ok (.aload_n 1, 1) := by decide +kernel
theorem dX1_copyFrom_1 : decode cX1_copyFrom 1 = .ok (.getfield 9, 3) := by decide +kernel
theorem dX1_copyFrom_4 : decode cX1_copyFrom 4 = .ok (.iconst 0, 1) := by decide +kernel
theorem dX1_copyFrom_5 : decode cX1_copyFrom 5 = .ok (.aload_n 0, 1) := by decide +kernel
theorem dX1_copyFrom_6 : decode cX1_copyFrom 6 = .ok (.getfield 9, 3) := by decide +kernel
theorem dX1_copyFrom_9 : decode cX1_copyFrom 9 = .ok (.iconst 0, 1) := by decide +kernel
theorem dX1_copyFrom_10 : decode cX1_copyFrom 10 = .ok (.aload_n 1, 1) := by decide +kernel
theorem dX1_copyFrom_11 : decode cX1_copyFrom 11 = .ok (.getfield 18, 3) := by decide +kernel
theorem dX1_copyFrom_14 : decode cX1_copyFrom 14 = .ok (.invokestatic 40, 3) := by decide +kernel
theorem dX1_copyFrom_17 : decode cX1_copyFrom 17 = .ok (.aload_n 0, 1) := by decide +kernel
theorem dX1_copyFrom_18 : decode cX1_copyFrom 18 = .ok (.aload_n 1, 1) := by decide +kernel
theorem dX1_copyFrom_19 : decode cX1_copyFrom 19 = .ok (.getfield 18, 3) := by decide +kernel
theorem dX1_copyFrom_22 : decode cX1_copyFrom 22 = .ok (.putfield 18, 3) := by decide +kernel
theorem dX1_copyFrom_25 : decode cX1_copyFrom 25 = .ok (.aload_n 0, 1) := by decide +kernel
theorem dX1_copyFrom_26 : decode cX1_copyFrom 26 = .ok (.aload_n 1, 1) := by decide +kernel
theorem dX1_copyFrom_27 : decode cX1_copyFrom 27 = .ok (.getfield 22, 3) := by decide +kernel
theorem dX1_copyFrom_30 : decode cX1_copyFrom 30 = .ok (.putfield 22, 3) := by decide +kernel
theorem dX1_copyFrom_33 : decode cX1_copyFrom 33 = .ok (.aload_n 0, 1) := by decide +kernel
theorem dX1_copyFrom_34 : decode cX1_copyFrom 34 = .ok (.aload_n 1, 1) := by decide +kernel
theorem dX1_copyFrom_35 : decode cX1_copyFrom 35 = .ok (.getfield 25, 3) := by decide +kernel
theorem dX1_copyFrom_38 : decode cX1_copyFrom 38 = .ok (.putfield 25, 3) := by decide +kernel
theorem dX1_copyFrom_41 : decode cX1_copyFrom 41 = .ok (.aload_n 0, 1) := by decide +kernel
theorem dX1_copyFrom_42 : decode cX1_copyFrom 42 = .ok (.aload_n 1, 1) := by decide +kernel
theorem dX1_copyFrom_43 : decode cX1_copyFrom 43 = .ok (.getfield 28, 3) := by decide +kernel
theorem dX1_copyFrom_46 : decode cX1_copyFrom 46 = .ok (.putfield 28, 3) := by decide +kernel
theorem dX1_copyFrom_49 : decode cX1_copyFrom 49 = .ok (.aload_n 0, 1) := by decide +kernel
theorem dX1_copyFrom_50 : decode cX1_copyFrom 50 = .ok (.aload_n 1, 1) := by decide +kernel
theorem dX1_copyFrom_51 : decode cX1_copyFrom 51 = .ok (.getfield 31, 3) := by decide +kernel
theorem dX1_copyFrom_54 : decode cX1_copyFrom 54 = .ok (.putfield 31, 3) := by decide +kernel
theorem dX1_copyFrom_57 : decode cX1_copyFrom 57 = .ok (.aload_n 0, 1) := by decide +kernel
theorem dX1_copyFrom_58 : decode cX1_copyFrom 58 = .ok (.aload_n 1, 1) := by decide +kernel
theorem dX1_copyFrom_59 : decode cX1_copyFrom 59 = .ok (.getfield 34, 3) := by decide +kernel
theorem dX1_copyFrom_62 : decode cX1_copyFrom 62 = .ok (.putfield 34, 3) := by decide +kernel
theorem dX1_copyFrom_65 : decode cX1_copyFrom 65 = .ok (.aload_n 0, 1) := by decide +kernel
theorem dX1_copyFrom_66 : decode cX1_copyFrom 66 = .ok (.aload_n 1, 1) := by decide +kernel
theorem dX1_copyFrom_67 : decode cX1_copyFrom 67 = .ok (.getfield 37, 3) := by decide +kernel
theorem dX1_copyFrom_70 : decode cX1_copyFrom 70 = .ok (.putfield 37, 3) := by decide +kernel
theorem dX1_copyFrom_73 : decode cX1_copyFrom 73 = .ok (.return_, 1) := by decide +kernel
theorem dX1_has_0 : decode cX1_has 0 = .ok (.iload_n 1, 1) := by decide +kernel
theorem dX1_has_1 : decode cX1_has 1 = .ok (.ifCond .lt 15, 3) := by decide +kernel
theorem dX1_has_4 : decode cX1_has 4 = .ok (.iload_n 1, 1) := by decide +kernel
theorem dX1_has_5 : decode cX1_has 5 = .ok (.aload_n 0, 1) := by decide +kernel
theorem dX1_has_6 : decode cX1_has 6 = .ok (.getfield 18, 3) := by decide +kernel
theorem dX1_has_9 : decode cX1_has 9 = .ok (.if_icmp .ge 7, 3) := by decide +kernel
theorem dX1_has_12 : decode cX1_has 12 = .ok (.iconst 1, 1) := by decide +kernel
theorem dX1_has_13 : decode cX1_has 13 = .ok (.goto 4, 3) := by decide +kernel
theorem dX1_has_16 : decode cX1_has 16 = .ok (.iconst 0, 1) := by decide +kernel
theorem dX1_has_17 : decode cX1_has 17 = .ok (.ireturn, 1) := by decide +kernel
theorem dX1_isFull_0 : decode cX1_isFull 0 = .ok (.aload_n 0, 1) := by decide +kernel
theorem dX1_isFull_1 : decode cX1_isFull 1 = .ok (.getfield 18, 3) := by decide +kernel
theorem dX1_isFull_4 : decode cX1_isFull 4 = .ok (.bipush 96, 2) := by decide +kernel
theorem dX1_isFull_6 : decode cX1_isFull 6 = .ok (.if_icmp .lt 7, 3) := by decide +kernel
theorem dX1_isFull_9 : decode cX1_isFull 9 = .ok (.iconst 1, 1) := by decide +kernel
theorem dX1_isFull_10 : decode cX1_isFull 10 = .ok (.goto 4, 3) := by decide +kernel
theorem dX1_isFull_13 : decode cX1_isFull 13 = .ok (.iconst 0, 1) := by decide +kernel
theorem dX1_isFull_14 : decode cX1_isFull 14 = .ok (.ireturn, 1) := by decide +kernel
theorem dX1_valueAt_0 : decode cX1_valueAt 0 = .ok (.aload_n 0, 1) := by decide +kernel
theorem dX1_valueAt_1 : decode cX1_valueAt 1 = .ok (.iload_n 1, 1) := by decide +kernel
theorem dX1_valueAt_2 : decode cX1_valueAt 2 = .ok (.invokevirtual 46, 3) := by decide +kernel
theorem dX1_valueAt_5 : decode cX1_valueAt 5 = .ok (.ifCond .eq 12, 3) := by decide +kernel
theorem dX1_valueAt_8 : decode cX1_valueAt 8 = .ok (.aload_n 0, 1) := by decide +kernel
theorem dX1_valueAt_9 : decode cX1_valueAt 9 = .ok (.getfield 9, 3) := by decide +kernel
theorem dX1_valueAt_12 : decode cX1_valueAt 12 = .ok (.iload_n 1, 1) := by decide +kernel
theorem dX1_valueAt_13 : decode cX1_valueAt 13 = .ok (.iaload, 1) := by decide +kernel
theorem dX1_valueAt_14 : decode cX1_valueAt 14 = .ok (.goto 5, 3) := by decide +kernel
theorem dX1_valueAt_17 : decode cX1_valueAt 17 = .ok (.ldc 50, 2) := by decide +kernel
theorem dX1_valueAt_19 : decode cX1_valueAt 19 = .ok (.ireturn, 1) := by decide +kernel
theorem dX1_append_0 : decode cX1_append 0 = .ok (.aload_n 0, 1) := by decide +kernel
theorem dX1_append_1 : decode cX1_append 1 = .ok (.invokevirtual 51, 3) := by decide +kernel
theorem dX1_append_4 : decode cX1_append 4 = .ok (.ifCond .ne 23, 3) := by decide +kernel
theorem dX1_append_7 : decode cX1_append 7 = .ok (.aload_n 0, 1) := by decide +kernel
theorem dX1_append_8 : decode cX1_append 8 = .ok (.getfield 9, 3) := by decide +kernel
theorem dX1_append_11 : decode cX1_append 11 = .ok (.aload_n 0, 1) := by decide +kernel
theorem dX1_append_12 : decode cX1_append 12 = .ok (.getfield 18, 3) := by decide +kernel
theorem dX1_append_15 : decode cX1_append 15 = .ok (.iload_n 1, 1) := by decide +kernel
theorem dX1_append_16 : decode cX1_append 16 = .ok (.iastore, 1) := by decide +kernel
theorem dX1_append_17 : decode cX1_append 17 = .ok (.aload_n 0, 1) := by decide +kernel
theorem dX1_append_18 : decode cX1_append 18 = .ok (.dup, 1) := by decide +kernel
theorem dX1_append_19 : decode cX1_append 19 = .ok (.getfield 18, 3) := by decide +kernel
theorem dX1_append_22 : decode cX1_append 22 = .ok (.iconst 1, 1) := by decide +kernel
theorem dX1_append_23 : decode cX1_append 23 = .ok (.iadd, 1) := by decide +kernel
theorem dX1_append_24 : decode cX1_append 24 = .ok (.putfield 18, 3) := by decide +kernel
theorem dX1_append_27 : decode cX1_append 27 = .ok (.return_, 1) := by decide +kernel
theorem dX1_change_0 : decode cX1_change 0 = .ok (.aload_n 0, 1) := by decide +kernel
theorem dX1_change_1 : decode cX1_change 1 = .ok (.iload_n 1, 1) := by decide +kernel
theorem dX1_change_2 : decode cX1_change 2 = .ok (.invokevirtual 46, 3) := by decide +kernel
theorem dX1_change_5 : decode cX1_change 5 = .ok (.ifCond .eq 10, 3) := by decide +kernel
theorem dX1_change_8 : decode cX1_change 8 = .ok (.aload_n 0, 1) := by decide +kernel
theorem dX1_change_9 : decode cX1_change 9 = .ok (.getfield 9, 3) := by decide +kernel
theorem dX1_change_12 : decode cX1_change 12 = .ok (.iload_n 1, 1) := by decide +kernel
theorem dX1_change_13 : decode cX1_change 13 = .ok (.iload_n 2, 1) := by decide +kernel
theorem dX1_change_14 : decode cX1_change 14 = .ok (.iastore, 1) := by decide +kernel
theorem dX1_change_15 : decode cX1_change 15 = .ok (.return_, 1) := by decide +kernel
theorem dX1_dropFirst_0 : decode cX1_dropFirst 0 = .ok (.iload_n 1, 1) := by decide +kernel
theorem dX1_dropFirst_1 : decode cX1_dropFirst 1 = .ok (.ifCond .lt 40, 3) := by decide +kernel
theorem dX1_dropFirst_4 : decode cX1_dropFirst 4 = .ok (.iload_n 1, 1) := by decide +kernel
theorem dX1_dropFirst_5 : decode cX1_dropFirst 5 = .ok (.aload_n 0, 1) := by decide +kernel
theorem dX1_dropFirst_6 : decode cX1_dropFirst 6 = .ok (.getfield 18, 3) := by decide +kernel
theorem dX1_dropFirst_9 : decode cX1_dropFirst 9 = .ok (.if_icmp .gt 32, 3) := by decide +kernel
theorem dX1_dropFirst_12 : decode cX1_dropFirst 12 = .ok (.aload_n 0, 1) := by decide +kernel
theorem dX1_dropFirst_13 : decode cX1_dropFirst 13 = .ok (.getfield 9, 3) := by decide +kernel
theorem dX1_dropFirst_16 : decode cX1_dropFirst 16 = .ok (.iload_n 1, 1) := by decide +kernel
theorem dX1_dropFirst_17 : decode cX1_dropFirst 17 = .ok (.aload_n 0, 1) := by decide +kernel
theorem dX1_dropFirst_18 : decode cX1_dropFirst 18 = .ok (.getfield 9, 3) := by decide +kernel
theorem dX1_dropFirst_21 : decode cX1_dropFirst 21 = .ok (.iconst 0, 1) := by decide +kernel
theorem dX1_dropFirst_22 : decode cX1_dropFirst 22 = .ok (.aload_n 0, 1) := by decide +kernel
theorem dX1_dropFirst_23 : decode cX1_dropFirst 23 = .ok (.getfield 18, 3) := by decide +kernel
theorem dX1_dropFirst_26 : decode cX1_dropFirst 26 = .ok (.iload_n 1, 1) := by decide +kernel
theorem dX1_dropFirst_27 : decode cX1_dropFirst 27 = .ok (.isub, 1) := by decide +kernel
theorem dX1_dropFirst_28 : decode cX1_dropFirst 28 = .ok (.invokestatic 40, 3) := by decide +kernel
theorem dX1_dropFirst_31 : decode cX1_dropFirst 31 = .ok (.aload_n 0, 1) := by decide +kernel
theorem dX1_dropFirst_32 : decode cX1_dropFirst 32 = .ok (.dup, 1) := by decide +kernel
theorem dX1_dropFirst_33 : decode cX1_dropFirst 33 = .ok (.getfield 18, 3) := by decide +kernel
theorem dX1_dropFirst_36 : decode cX1_dropFirst 36 = .ok (.iload_n 1, 1) := by decide +kernel
theorem dX1_dropFirst_37 : decode cX1_dropFirst 37 = .ok (.isub, 1) := by decide +kernel
theorem dX1_dropFirst_38 : decode cX1_dropFirst 38 = .ok (.putfield 18, 3) := by decide +kernel
theorem dX1_dropFirst_41 : decode cX1_dropFirst 41 = .ok (.return_, 1) := by decide +kernel
theorem dX1_countMissing_0 : decode cX1_countMissing 0 = .ok (.iconst 0, 1) := by decide +kernel
theorem dX1_countMissing_1 : decode cX1_countMissing 1 = .ok (.istore_n 1, 1) := by decide +kernel
theorem dX1_countMissing_2 : decode cX1_countMissing 2 = .ok (.iconst 0, 1) := by decide +kernel
theorem dX1_countMissing_3 : decode cX1_countMissing 3 = .ok (.istore_n 2, 1) := by decide +kernel
theorem dX1_countMissing_4 : decode cX1_countMissing 4 = .ok (.iload_n 2, 1) := by decide +kernel
theorem dX1_countMissing_5 : decode cX1_countMissing 5 = .ok (.aload_n 0, 1) := by decide +kernel
theorem dX1_countMissing_6 : decode cX1_countMissing 6 = .ok (.getfield 18, 3) := by decide +kernel
theorem dX1_countMissing_9 : decode cX1_countMissing 9 = .ok (.if_icmp .ge 23, 3) := by decide +kernel
theorem dX1_countMissing_12 : decode cX1_countMissing 12 = .ok (.aload_n 0, 1) := by decide +kernel
theorem dX1_countMissing_13 : decode cX1_countMissing 13 = .ok (.getfield 9, 3) := by decide +kernel
theorem dX1_countMissing_16 : decode cX1_countMissing 16 = .ok (.iload_n 2, 1) := by decide +kernel
theorem dX1_countMissing_17 : decode cX1_countMissing 17 = .ok (.iaload, 1) := by decide +kernel
theorem dX1_countMissing_18 : decode cX1_countMissing 18 = .ok (.ldc 50, 2) := by decide +kernel
theorem dX1_countMissing_20 : decode cX1_countMissing 20 = .ok (.if_icmp .ne 6, 3) := by decide +kernel
theorem dX1_countMissing_23 : decode cX1_countMissing 23 = .ok (.iinc 1 1, 3) := by decide +kernel
theorem dX1_countMissing_26 : decode cX1_countMissing 26 = .ok (.iinc 2 1, 3) := by decide +kernel
theorem dX1_countMissing_29 : decode cX1_countMissing 29 = .ok (.goto (-25), 3) := by decide +kernel
theorem dX1_countMissing_32 : decode cX1_countMissing 32 = .ok (.iload_n 1, 1) := by decide +kernel
theorem dX1_countMissing_33 : decode cX1_countMissing 33 = .ok (.ireturn, 1) := by decide +kernel
theorem dX1_latestValue_0 : decode cX1_latestValue 0 = .ok (.aload_n 0, 1) := by decide +kernel
theorem dX1_latestValue_1 : decode cX1_latestValue 1 = .ok (.getfield 18, 3) := by decide +kernel
theorem dX1_latestValue_4 : decode cX1_latestValue 4 = .ok (.iconst 1, 1) := by decide +kernel
theorem dX1_latestValue_5 : decode cX1_latestValue 5 = .ok (.isub, 1) := by decide +kernel
theorem dX1_latestValue_6 : decode cX1_latestValue 6 = .ok (.istore_n 1, 1) := by decide +kernel
theorem dX1_latestValue_7 : decode cX1_latestValue 7 = .ok (.iload_n 1, 1) := by decide +kernel
theorem dX1_latestValue_8 : decode cX1_latestValue 8 = .ok (.ifCond .lt 27, 3) := by decide +kernel
theorem dX1_latestValue_11 : decode cX1_latestValue 11 = .ok (.aload_n 0, 1) := by decide +kernel
theorem dX1_latestValue_12 : decode cX1_latestValue 12 = .ok (.getfield 9, 3) := by decide +kernel
theorem dX1_latestValue_15 : decode cX1_latestValue 15 = .ok (.iload_n 1, 1) := by decide +kernel
theorem dX1_latestValue_16 : decode cX1_latestValue 16 = .ok (.iaload, 1) := by decide +kernel
theorem dX1_latestValue_17 : decode cX1_latestValue 17 = .ok (.ldc 50, 2) := by decide +kernel
theorem dX1_latestValue_19 : decode cX1_latestValue 19 = .ok (.if_icmp .eq 10, 3) := by decide +kernel
theorem dX1_latestValue_22 : decode cX1_latestValue 22 = .ok (.aload_n 0, 1) := by decide +kernel
theorem dX1_latestValue_23 : decode cX1_latestValue 23 = .ok (.getfield 9, 3) := by decide +kernel
theorem dX1_latestValue_26 : decode cX1_latestValue 26 = .ok (.iload_n 1, 1) := by decide +kernel
theorem dX1_latestValue_27 : decode cX1_latestValue 27 = .ok (.iaload, 1) := by decide +kernel
theorem dX1_latestValue_28 : decode cX1_latestValue 28 = .ok (.ireturn, 1) := by decide +kernel
theorem dX1_latestValue_29 : decode cX1_latestValue 29 = .ok (.iinc 1 (-1), 3) := by decide +kernel
theorem dX1_latestValue_32 : decode cX1_latestValue 32 = .ok (.goto (-25), 3) := by decide +kernel
theorem dX1_latestValue_35 : decode cX1_latestValue 35 = .ok (.iconst 0, 1) := by decide +kernel
theorem dX1_latestValue_36 : decode cX1_latestValue 36 = .ok (.ireturn, 1) := by decide +kernel
theorem dX2_init_0 : decode cX2_init 0 = .ok (.aload_n 0, 1) := by decide +kernel
theorem dX2_init_1 : decode cX2_init 1 = .ok (.invokespecial 3, 3) := by decide +kernel
theorem dX2_init_4 : decode cX2_init 4 = .ok (.aload_n 0, 1) := by decide +kernel
theorem dX2_init_5 : decode cX2_init 5 = .ok (.bipush 40, 2) := by decide +kernel
theorem dX2_init_7 : decode cX2_init 7 = .ok (.newarray .int, 2) := by decide +kernel
theorem dX2_init_9 : decode cX2_init 9 = .ok (.putfield 9, 3) := by decide +kernel
theorem dX2_init_12 : decode cX2_init 12 = .ok (.aload_n 0, 1) := by decide +kernel
theorem dX2_init_13 : decode cX2_init 13 = .ok (.iconst 0, 1) := by decide +kernel
theorem dX2_init_14 : decode cX2_init 14 = .ok (.putfield 15, 3) := by decide +kernel
theorem dX2_init_17 : decode cX2_init 17 = .ok (.aload_n 0, 1) := by decide +kernel
theorem dX2_init_18 : decode cX2_init 18 = .ok (.iconst (-1), 1) := by decide +kernel
theorem dX2_init_19 : decode cX2_init 19 = .ok (.putfield 19, 3) := by decide +kernel
theorem dX2_init_22 : decode cX2_init 22 = .ok (.return_, 1) := by decide +kernel
theorem dX2_isNothing_0 : decode cX2_isNothing 0 = .ok (.aload_n 0, 1) := by decide +kernel
theorem dX2_isNothing_1 : decode cX2_isNothing 1 = .ok (.getfield 19, 3) := by decide +kernel
theorem dX2_isNothing_4 : decode cX2_isNothing 4 = .ok (.iconst (-1), 1) := by decide +kernel
theorem dX2_isNothing_5 : decode cX2_isNothing 5 = .ok (.if_icmp .ne 7, 3) := by decide +kernel
theorem dX2_isNothing_8 : decode cX2_isNothing 8 = .ok (.iconst 1, 1) := by decide +kernel
theorem dX2_isNothing_9 : decode cX2_isNothing 9 = .ok (.goto 4, 3) := by decide +kernel
theorem dX2_isNothing_12 : decode cX2_isNothing 12 = .ok (.iconst 0, 1) := by decide +kernel
theorem dX2_isNothing_13 : decode cX2_isNothing 13 = .ok (.ireturn, 1) := by decide +kernel
theorem dX2_renew_0 : decode cX2_renew 0 = .ok (.aload_n 0, 1) := by decide +kernel
theorem dX2_renew_1 : decode cX2_renew 1 = .ok (.iload_n 1, 1) := by decide +kernel
theorem dX2_renew_2 : decode cX2_renew 2 = .ok (.putfield 15, 3) := by decide +kernel
theorem dX2_renew_5 : decode cX2_renew 5 = .ok (.aload_n 0, 1) := by decide +kernel
theorem dX2_renew_6 : decode cX2_renew 6 = .ok (.iload_n 2, 1) := by decide +kernel
theorem dX2_renew_7 : decode cX2_renew 7 = .ok (.ifCond .ge 7, 3) := by decide +kernel
theorem dX2_renew_10 : decode cX2_renew 10 = .ok (.iconst (-1), 1) := by decide +kernel
theorem dX2_renew_11 : decode cX2_renew 11 = .ok (.goto 12, 3) := by decide +kernel
theorem dX2_renew_14 : decode cX2_renew 14 = .ok (.iload_n 2, 1) := by decide +kernel
theorem dX2_renew_15 : decode cX2_renew 15 = .ok (.aload_n 0, 1) := by decide +kernel
theorem dX2_renew_16 : decode cX2_renew 16 = .ok (.getfield 9, 3) := by decide +kernel
theorem dX2_renew_19 : decode cX2_renew 19 = .ok (.arraylength, 1) := by decide +kernel
theorem dX2_renew_20 : decode cX2_renew 20 = .ok (.invokestatic 22, 3) := by decide +kernel
theorem dX2_renew_23 : decode cX2_renew 23 = .ok (.putfield 19, 3) := by decide +kernel
theorem dX2_renew_26 : decode cX2_renew 26 = .ok (.iconst 0, 1) := by decide +kernel
theorem dX2_renew_27 : decode cX2_renew 27 = .ok (.istore_n 3, 1) := by decide +kernel
theorem dX2_renew_28 : decode cX2_renew 28 = .ok (.iload_n 3, 1) := by decide +kernel
theorem dX2_renew_29 : decode cX2_renew 29 = .ok (.aload_n 0, 1) := by decide +kernel
theorem dX2_renew_30 : decode cX2_renew 30 = .ok (.getfield 9, 3) := by decide +kernel
theorem dX2_renew_33 : decode cX2_renew 33 = .ok (.arraylength, 1) := by decide +kernel
theorem dX2_renew_34 : decode cX2_renew 34 = .ok (.if_icmp .ge 16, 3) := by decide +kernel
theorem dX2_renew_37 : decode cX2_renew 37 = .ok (.aload_n 0, 1) := by decide +kernel
theorem dX2_renew_38 : decode cX2_renew 38 = .ok (.getfield 9, 3) := by decide +kernel
theorem dX2_renew_41 : decode cX2_renew 41 = .ok (.iload_n 3, 1) := by decide +kernel
theorem dX2_renew_42 : decode cX2_renew 42 = .ok (.iconst 0, 1) := by decide +kernel
theorem dX2_renew_43 : decode cX2_renew 43 = .ok (.iastore, 1) := by decide +kernel
theorem dX2_renew_44 : decode cX2_renew 44 = .ok (.iinc 3 1, 3) := by decide +kernel
theorem dX2_renew_47 : decode cX2_renew 47 = .ok (.goto (-19), 3) := by decide +kernel
theorem dX2_renew_50 : decode cX2_renew 50 = .ok (.return_, 1) := by decide +kernel
theorem dX2_hasCell_0 : decode cX2_hasCell 0 = .ok (.iload_n 1, 1) := by decide +kernel
theorem dX2_hasCell_1 : decode cX2_hasCell 1 = .ok (.ifCond .lt 24, 3) := by decide +kernel
theorem dX2_hasCell_4 : decode cX2_hasCell 4 = .ok (.iload_n 1, 1) := by decide +kernel
theorem dX2_hasCell_5 : decode cX2_hasCell 5 = .ok (.aload_n 0, 1) := by decide +kernel
theorem dX2_hasCell_6 : decode cX2_hasCell 6 = .ok (.getfield 19, 3) := by decide +kernel
theorem dX2_hasCell_9 : decode cX2_hasCell 9 = .ok (.if_icmp .ge 16, 3) := by decide +kernel
theorem dX2_hasCell_12 : decode cX2_hasCell 12 = .ok (.iload_n 1, 1) := by decide +kernel
theorem dX2_hasCell_13 : decode cX2_hasCell 13 = .ok (.aload_n 0, 1) := by decide +kernel
theorem dX2_hasCell_14 : decode cX2_hasCell 14 = .ok (.getfield 9, 3) := by decide +kernel
theorem dX2_hasCell_17 : decode cX2_hasCell 17 = .ok (.arraylength, 1) := by decide +kernel
theorem dX2_hasCell_18 : decode cX2_hasCell 18 = .ok (.if_icmp .ge 7, 3) := by decide +kernel
theorem dX2_hasCell_21 : decode cX2_hasCell 21 = .ok (.iconst 1, 1) := by decide +kernel
theorem dX2_hasCell_22 : decode cX2_hasCell 22 = .ok (.goto 4, 3) := by decide +kernel
theorem dX2_hasCell_25 : decode cX2_hasCell 25 = .ok (.iconst 0, 1) := by decide +kernel
theorem dX2_hasCell_26 : decode cX2_hasCell 26 = .ok (.ireturn, 1) := by decide +kernel
theorem dX2_valueAt_0 : decode cX2_valueAt 0 = .ok (.aload_n 0, 1) := by decide +kernel
theorem dX2_valueAt_1 : decode cX2_valueAt 1 = .ok (.iload_n 1, 1) := by decide +kernel
theorem dX2_valueAt_2 : decode cX2_valueAt 2 = .ok (.invokevirtual 28, 3) := by decide +kernel
theorem dX2_valueAt_5 : decode cX2_valueAt 5 = .ok (.ifCond .eq 12, 3) := by decide +kernel
theorem dX2_valueAt_8 : decode cX2_valueAt 8 = .ok (.aload_n 0, 1) := by decide +kernel
theorem dX2_valueAt_9 : decode cX2_valueAt 9 = .ok (.getfield 9, 3) := by decide +kernel
theorem dX2_valueAt_12 : decode cX2_valueAt 12 = .ok (.iload_n 1, 1) := by decide +kernel
theorem dX2_valueAt_13 : decode cX2_valueAt 13 = .ok (.iaload, 1) := by decide +kernel
theorem dX2_valueAt_14 : decode cX2_valueAt 14 = .ok (.goto 4, 3) := by decide +kernel
theorem dX2_valueAt_17 : decode cX2_valueAt 17 = .ok (.iconst 0, 1) := by decide +kernel
theorem dX2_valueAt_18 : decode cX2_valueAt 18 = .ok (.ireturn, 1) := by decide +kernel
theorem dX2_write_0 : decode cX2_write 0 = .ok (.aload_n 0, 1) := by decide +kernel
theorem dX2_write_1 : decode cX2_write 1 = .ok (.iload_n 1, 1) := by decide +kernel
theorem dX2_write_2 : decode cX2_write 2 = .ok (.invokevirtual 28, 3) := by decide +kernel
theorem dX2_write_5 : decode cX2_write 5 = .ok (.ifCond .eq 35, 3) := by decide +kernel
theorem dX2_write_8 : decode cX2_write 8 = .ok (.aload_n 0, 1) := by decide +kernel
theorem dX2_write_9 : decode cX2_write 9 = .ok (.getfield 9, 3) := by decide +kernel
theorem dX2_write_12 : decode cX2_write 12 = .ok (.iload_n 1, 1) := by decide +kernel
theorem dX2_write_13 : decode cX2_write 13 = .ok (.aload_n 0, 1) := by decide +kernel
theorem dX2_write_14 : decode cX2_write 14 = .ok (.getfield 15, 3) := by decide +kernel
theorem dX2_write_17 : decode cX2_write 17 = .ok (.ifCond .ne 8, 3) := by decide +kernel
theorem dX2_write_20 : decode cX2_write 20 = .ok (.iload_n 2, 1) := by decide +kernel
theorem dX2_write_21 : decode cX2_write 21 = .ok (.i2b, 1) := by decide +kernel
theorem dX2_write_22 : decode cX2_write 22 = .ok (.goto 17, 3) := by decide +kernel
theorem dX2_write_25 : decode cX2_write 25 = .ok (.aload_n 0, 1) := by decide +kernel
theorem dX2_write_26 : decode cX2_write 26 = .ok (.getfield 15, 3) := by decide +kernel
theorem dX2_write_29 : decode cX2_write 29 = .ok (.iconst 1, 1) := by decide +kernel
theorem dX2_write_30 : decode cX2_write 30 = .ok (.if_icmp .ne 8, 3) := by decide +kernel
theorem dX2_write_33 : decode cX2_write 33 = .ok (.iload_n 2, 1) := by decide +kernel
theorem dX2_write_34 : decode cX2_write 34 = .ok (.i2s, 1) := by decide +kernel
theorem dX2_write_35 : decode cX2_write 35 = .ok (.goto 4, 3) := by decide +kernel
theorem dX2_write_38 : decode cX2_write 38 = .ok (.iload_n 2, 1) := by decide +kernel
theorem dX2_write_39 : decode cX2_write 39 = .ok (.iastore, 1) := by decide +kernel
theorem dX2_write_40 : decode cX2_write 40 = .ok (.return_, 1) := by decide +kernel
theorem dX3_init_0 : decode cX3_init 0 = .ok (.aload_n 0, 1) := by decide +kernel
theorem dX3_init_1 : decode cX3_init 1 = .ok (.invokespecial 3, 3) := by decide +kernel
theorem dX3_init_4 : decode cX3_init 4 = .ok (.aload_n 0, 1) := by decide +kernel
theorem dX3_init_5 : decode cX3_init 5 = .ok (.sipush 320, 3) := by decide +kernel
theorem dX3_init_8 : decode cX3_init 8 = .ok (.newarray .byte, 2) := by decide +kernel
theorem dX3_init_10 : decode cX3_init 10 = .ok (.putfield 9, 3) := by decide +kernel
theorem dX3_init_13 : decode cX3_init 13 = .ok (.aload_n 0, 1) := by decide +kernel
theorem dX3_init_14 : decode cX3_init 14 = .ok (.iconst 0, 1) := by decide +kernel
theorem dX3_init_15 : decode cX3_init 15 = .ok (.putfield 15, 3) := by decide +kernel
theorem dX3_init_18 : decode cX3_init 18 = .ok (.return_, 1) := by decide +kernel
theorem dX3_isFull_0 : decode cX3_isFull 0 = .ok (.aload_n 0, 1) := by decide +kernel
theorem dX3_isFull_1 : decode cX3_isFull 1 = .ok (.getfield 15, 3) := by decide +kernel
theorem dX3_isFull_4 : decode cX3_isFull 4 = .ok (.sipush 320, 3) := by decide +kernel
theorem dX3_isFull_7 : decode cX3_isFull 7 = .ok (.if_icmp .lt 7, 3) := by decide +kernel
theorem dX3_isFull_10 : decode cX3_isFull 10 = .ok (.iconst 1, 1) := by decide +kernel
theorem dX3_isFull_11 : decode cX3_isFull 11 = .ok (.goto 4, 3) := by decide +kernel
theorem dX3_isFull_14 : decode cX3_isFull 14 = .ok (.iconst 0, 1) := by decide +kernel
theorem dX3_isFull_15 : decode cX3_isFull 15 = .ok (.ireturn, 1) := by decide +kernel
theorem dX3_append_0 : decode cX3_append 0 = .ok (.aload_n 0, 1) := by decide +kernel
theorem dX3_append_1 : decode cX3_append 1 = .ok (.invokevirtual 19, 3) := by decide +kernel
theorem dX3_append_4 : decode cX3_append 4 = .ok (.ifCond .ne 24, 3) := by decide +kernel
theorem dX3_append_7 : decode cX3_append 7 = .ok (.aload_n 0, 1) := by decide +kernel
theorem dX3_append_8 : decode cX3_append 8 = .ok (.getfield 9, 3) := by decide +kernel
theorem dX3_append_11 : decode cX3_append 11 = .ok (.aload_n 0, 1) := by decide +kernel
theorem dX3_append_12 : decode cX3_append 12 = .ok (.getfield 15, 3) := by decide +kernel
theorem dX3_append_15 : decode cX3_append 15 = .ok (.iload_n 1, 1) := by decide +kernel
theorem dX3_append_16 : decode cX3_append 16 = .ok (.i2b, 1) := by decide +kernel
theorem dX3_append_17 : decode cX3_append 17 = .ok (.bastore, 1) := by decide +kernel
theorem dX3_append_18 : decode cX3_append 18 = .ok (.aload_n 0, 1) := by decide +kernel
theorem dX3_append_19 : decode cX3_append 19 = .ok (.dup, 1) := by decide +kernel
theorem dX3_append_20 : decode cX3_append 20 = .ok (.getfield 15, 3) := by decide +kernel
theorem dX3_append_23 : decode cX3_append 23 = .ok (.iconst 1, 1) := by decide +kernel
theorem dX3_append_24 : decode cX3_append 24 = .ok (.iadd, 1) := by decide +kernel
theorem dX3_append_25 : decode cX3_append 25 = .ok (.putfield 15, 3) := by decide +kernel
theorem dX3_append_28 : decode cX3_append 28 = .ok (.return_, 1) := by decide +kernel
theorem dX3_byteAt_0 : decode cX3_byteAt 0 = .ok (.iload_n 1, 1) := by decide +kernel
theorem dX3_byteAt_1 : decode cX3_byteAt 1 = .ok (.ifCond .lt 20, 3) := by decide +kernel
theorem dX3_byteAt_4 : decode cX3_byteAt 4 = .ok (.iload_n 1, 1) := by decide +kernel
theorem dX3_byteAt_5 : decode cX3_byteAt 5 = .ok (.aload_n 0, 1) := by decide +kernel
theorem dX3_byteAt_6 : decode cX3_byteAt 6 = .ok (.getfield 15, 3) := by decide +kernel
theorem dX3_byteAt_9 : decode cX3_byteAt 9 = .ok (.if_icmp .ge 12, 3) := by decide +kernel
theorem dX3_byteAt_12 : decode cX3_byteAt 12 = .ok (.aload_n 0, 1) := by decide +kernel
theorem dX3_byteAt_13 : decode cX3_byteAt 13 = .ok (.getfield 9, 3) := by decide +kernel
theorem dX3_byteAt_16 : decode cX3_byteAt 16 = .ok (.iload_n 1, 1) := by decide +kernel
theorem dX3_byteAt_17 : decode cX3_byteAt 17 = .ok (.baload, 1) := by decide +kernel
theorem dX3_byteAt_18 : decode cX3_byteAt 18 = .ok (.goto 4, 3) := by decide +kernel
theorem dX3_byteAt_21 : decode cX3_byteAt 21 = .ok (.iconst (-1), 1) := by decide +kernel
theorem dX3_byteAt_22 : decode cX3_byteAt 22 = .ok (.ireturn, 1) := by decide +kernel
theorem dX4_init_0 : decode cX4_init 0 = .ok (.aload_n 0, 1) := by decide +kernel
theorem dX4_init_1 : decode cX4_init 1 = .ok (.invokespecial 3, 3) := by decide +kernel
theorem dX4_init_4 : decode cX4_init 4 = .ok (.aload_n 0, 1) := by decide +kernel
theorem dX4_init_5 : decode cX4_init 5 = .ok (.new 9, 3) := by decide +kernel
theorem dX4_init_8 : decode cX4_init 8 = .ok (.dup, 1) := by decide +kernel
theorem dX4_init_9 : decode cX4_init 9 = .ok (.invokespecial 11, 3) := by decide +kernel
theorem dX4_init_12 : decode cX4_init 12 = .ok (.putfield 12, 3) := by decide +kernel
theorem dX4_init_15 : decode cX4_init 15 = .ok (.aload_n 0, 1) := by decide +kernel
theorem dX4_init_16 : decode cX4_init 16 = .ok (.bipush 12, 2) := by decide +kernel
theorem dX4_init_18 : decode cX4_init 18 = .ok (.putfield 18, 3) := by decide +kernel
theorem dX4_init_21 : decode cX4_init 21 = .ok (.aload_n 0, 1) := by decide +kernel
theorem dX4_init_22 : decode cX4_init 22 = .ok (.iconst 0, 1) := by decide +kernel
theorem dX4_init_23 : decode cX4_init 23 = .ok (.putfield 22, 3) := by decide +kernel
theorem dX4_init_26 : decode cX4_init 26 = .ok (.aload_n 0, 1) := by decide +kernel
theorem dX4_init_27 : decode cX4_init 27 = .ok (.iconst 0, 1) := by decide +kernel
theorem dX4_init_28 : decode cX4_init 28 = .ok (.putfield 25, 3) := by decide +kernel
theorem dX4_init_31 : decode cX4_init 31 = .ok (.aload_n 0, 1) := by decide +kernel
theorem dX4_init_32 : decode cX4_init 32 = .ok (.iconst 0, 1) := by decide +kernel
theorem dX4_init_33 : decode cX4_init 33 = .ok (.putfield 29, 3) := by decide +kernel
theorem dX4_init_36 : decode cX4_init 36 = .ok (.aload_n 0, 1) := by decide +kernel
theorem dX4_init_37 : decode cX4_init 37 = .ok (.iconst 0, 1) := by decide +kernel
theorem dX4_init_38 : decode cX4_init 38 = .ok (.putfield 32, 3) := by decide +kernel
theorem dX4_init_41 : decode cX4_init 41 = .ok (.aload_n 0, 1) := by decide +kernel
theorem dX4_init_42 : decode cX4_init 42 = .ok (.iconst 0, 1) := by decide +kernel
theorem dX4_init_43 : decode cX4_init 43 = .ok (.putfield 35, 3) := by decide +kernel
theorem dX4_init_46 : decode cX4_init 46 = .ok (.aload_n 0, 1) := by decide +kernel
theorem dX4_init_47 : decode cX4_init 47 = .ok (.iconst 0, 1) := by decide +kernel
theorem dX4_init_48 : decode cX4_init 48 = .ok (.putfield 38, 3) := by decide +kernel
theorem dX4_init_51 : decode cX4_init 51 = .ok (.aload_n 0, 1) := by decide +kernel
theorem dX4_init_52 : decode cX4_init 52 = .ok (.bipush (-4), 2) := by decide +kernel
theorem dX4_init_54 : decode cX4_init 54 = .ok (.putfield 41, 3) := by decide +kernel
theorem dX4_init_57 : decode cX4_init 57 = .ok (.aload_n 0, 1) := by decide +kernel
theorem dX4_init_58 : decode cX4_init 58 = .ok (.iconst 0, 1) := by decide +kernel
theorem dX4_init_59 : decode cX4_init 59 = .ok (.putfield 44, 3) := by decide +kernel
theorem dX4_init_62 : decode cX4_init 62 = .ok (.aload_n 0, 1) := by decide +kernel
theorem dX4_init_63 : decode cX4_init 63 = .ok (.iconst 0, 1) := by decide +kernel
theorem dX4_init_64 : decode cX4_init 64 = .ok (.putfield 47, 3) := by decide +kernel
theorem dX4_init_67 : decode cX4_init 67 = .ok (.aload_n 0, 1) := by decide +kernel
theorem dX4_init_68 : decode cX4_init 68 = .ok (.iconst 0, 1) := by decide +kernel
theorem dX4_init_69 : decode cX4_init 69 = .ok (.putfield 50, 3) := by decide +kernel
theorem dX4_init_72 : decode cX4_init 72 = .ok (.return_, 1) := by decide +kernel
theorem dX4_tell_0 : decode cX4_tell 0 = .ok (.aload_n 0, 1) := by decide +kernel
theorem dX4_tell_1 : decode cX4_tell 1 = .ok (.getfield 12, 3) := by decide +kernel
theorem dX4_tell_4 : decode cX4_tell 4 = .ok (.invokevirtual 53, 3) := by decide +kernel
theorem dX4_tell_7 : decode cX4_tell 7 = .ok (.aload_n 0, 1) := by decide +kernel
theorem dX4_tell_8 : decode cX4_tell 8 = .ok (.bipush 12, 2) := by decide +kernel
theorem dX4_tell_10 : decode cX4_tell 10 = .ok (.putfield 18, 3) := by decide +kernel
theorem dX4_tell_13 : decode cX4_tell 13 = .ok (.aload_n 0, 1) := by decide +kernel
theorem dX4_tell_14 : decode cX4_tell 14 = .ok (.iconst 0, 1) := by decide +kernel
theorem dX4_tell_15 : decode cX4_tell 15 = .ok (.putfield 22, 3) := by decide +kernel
theorem dX4_tell_18 : decode cX4_tell 18 = .ok (.aload_n 0, 1) := by decide +kernel
theorem dX4_tell_19 : decode cX4_tell 19 = .ok (.iconst 0, 1) := by decide +kernel
theorem dX4_tell_20 : decode cX4_tell 20 = .ok (.putfield 38, 3) := by decide +kernel
theorem dX4_tell_23 : decode cX4_tell 23 = .ok (.aload_n 0, 1) := by decide +kernel
theorem dX4_tell_24 : decode cX4_tell 24 = .ok (.iconst 0, 1) := by decide +kernel
theorem dX4_tell_25 : decode cX4_tell 25 = .ok (.putfield 47, 3) := by decide +kernel
theorem dX4_tell_28 : decode cX4_tell 28 = .ok (.aload_n 0, 1) := by decide +kernel
theorem dX4_tell_29 : decode cX4_tell 29 = .ok (.iconst 0, 1) := by decide +kernel
theorem dX4_tell_30 : decode cX4_tell 30 = .ok (.putfield 50, 3) := by decide +kernel
theorem dX4_tell_33 : decode cX4_tell 33 = .ok (.aload_n 0, 1) := by decide +kernel
theorem dX4_tell_34 : decode cX4_tell 34 = .ok (.aload_n 1, 1) := by decide +kernel
theorem dX4_tell_35 : decode cX4_tell 35 = .ok (.invokevirtual 56, 3) := by decide +kernel
theorem dX4_tell_38 : decode cX4_tell 38 = .ok (.iconst 0, 1) := by decide +kernel
theorem dX4_tell_39 : decode cX4_tell 39 = .ok (.istore_n 2, 1) := by decide +kernel
theorem dX4_tell_40 : decode cX4_tell 40 = .ok (.iload_n 2, 1) := by decide +kernel
theorem dX4_tell_41 : decode cX4_tell 41 = .ok (.sipush 320, 3) := by decide +kernel
theorem dX4_tell_44 : decode cX4_tell 44 = .ok (.if_icmp .ge 47, 3) := by decide +kernel
theorem dX4_tell_47 : decode cX4_tell 47 = .ok (.aload_n 0, 1) := by decide +kernel
theorem dX4_tell_48 : decode cX4_tell 48 = .ok (.getfield 47, 3) := by decide +kernel
theorem dX4_tell_51 : decode cX4_tell 51 = .ok (.ifCond .ne 40, 3) := by decide +kernel
theorem dX4_tell_54 : decode cX4_tell 54 = .ok (.aload_n 0, 1) := by decide +kernel
theorem dX4_tell_55 : decode cX4_tell 55 = .ok (.getfield 32, 3) := by decide +kernel
theorem dX4_tell_58 : decode cX4_tell 58 = .ok (.ifCond .eq 33, 3) := by decide +kernel
theorem dX4_tell_61 : decode cX4_tell 61 = .ok (.aload_n 0, 1) := by decide +kernel
theorem dX4_tell_62 : decode cX4_tell 62 = .ok (.aload_n 1, 1) := by decide +kernel
theorem dX4_tell_63 : decode cX4_tell 63 = .ok (.aload_n 0, 1) := by decide +kernel
theorem dX4_tell_64 : decode cX4_tell 64 = .ok (.getfield 35, 3) := by decide +kernel
theorem dX4_tell_67 : decode cX4_tell 67 = .ok (.invokevirtual 60, 3) := by decide +kernel
theorem dX4_tell_70 : decode cX4_tell 70 = .ok (.invokevirtual 66, 3) := by decide +kernel
theorem dX4_tell_73 : decode cX4_tell 73 = .ok (.aload_n 0, 1) := by decide +kernel
theorem dX4_tell_74 : decode cX4_tell 74 = .ok (.getfield 47, 3) := by decide +kernel
theorem dX4_tell_77 : decode cX4_tell 77 = .ok (.ifCond .ne 8, 3) := by decide +kernel
theorem dX4_tell_80 : decode cX4_tell 80 = .ok (.aload_n 0, 1) := by decide +kernel
theorem dX4_tell_81 : decode cX4_tell 81 = .ok (.aload_n 1, 1) := by decide +kernel
theorem dX4_tell_82 : decode cX4_tell 82 = .ok (.invokevirtual 56, 3) := by decide +kernel
theorem dX4_tell_85 : decode cX4_tell 85 = .ok (.iinc 2 1, 3) := by decide +kernel
theorem dX4_tell_88 : decode cX4_tell 88 = .ok (.goto (-48), 3) := by decide +kernel
theorem dX4_tell_91 : decode cX4_tell 91 = .ok (.aload_n 0, 1) := by decide +kernel
theorem dX4_tell_92 : decode cX4_tell 92 = .ok (.getfield 47, 3) := by decide +kernel
theorem dX4_tell_95 : decode cX4_tell 95 = .ok (.ifCond .ne 17, 3) := by decide +kernel
theorem dX4_tell_98 : decode cX4_tell 98 = .ok (.aload_n 0, 1) := by decide +kernel
theorem dX4_tell_99 : decode cX4_tell 99 = .ok (.getfield 18, 3) := by decide +kernel
theorem dX4_tell_102 : decode cX4_tell 102 = .ok (.bipush 12, 2) := by decide +kernel
theorem dX4_tell_104 : decode cX4_tell 104 = .ok (.if_icmp .eq 8, 3) := by decide +kernel
theorem dX4_tell_107 : decode cX4_tell 107 = .ok (.aload_n 0, 1) := by decide +kernel
theorem dX4_tell_108 : decode cX4_tell 108 = .ok (.iconst 2, 1) := by decide +kernel
theorem dX4_tell_109 : decode cX4_tell 109 = .ok (.invokevirtual 70, 3) := by decide +kernel
theorem dX4_tell_112 : decode cX4_tell 112 = .ok (.aload_n 0, 1) := by decide +kernel
theorem dX4_tell_113 : decode cX4_tell 113 = .ok (.getfield 47, 3) := by decide +kernel
theorem dX4_tell_116 : decode cX4_tell 116 = .ok (.ifCond .ne 7, 3) := by decide +kernel
theorem dX4_tell_119 : decode cX4_tell 119 = .ok (.iconst 1, 1) := by decide +kernel
theorem dX4_tell_120 : decode cX4_tell 120 = .ok (.goto 4, 3) := by decide +kernel
theorem dX4_tell_123 : decode cX4_tell 123 = .ok (.iconst 0, 1) := by decide +kernel
theorem dX4_tell_124 : decode cX4_tell 124 = .ok (.ireturn, 1) := by decide +kernel
theorem dX4_refuse_0 : decode cX4_refuse 0 = .ok (.aload_n 0, 1) := by decide +kernel
theorem dX4_refuse_1 : decode cX4_refuse 1 = .ok (.iload_n 1, 1) := by decide +kernel
theorem dX4_refuse_2 : decode cX4_refuse 2 = .ok (.putfield 47, 3) := by decide +kernel
theorem dX4_refuse_5 : decode cX4_refuse 5 = .ok (.aload_n 0, 1) := by decide +kernel
theorem dX4_refuse_6 : decode cX4_refuse 6 = .ok (.aload_n 0, 1) := by decide +kernel
theorem dX4_refuse_7 : decode cX4_refuse 7 = .ok (.getfield 35, 3) := by decide +kernel
theorem dX4_refuse_10 : decode cX4_refuse 10 = .ok (.putfield 50, 3) := by decide +kernel
theorem dX4_refuse_13 : decode cX4_refuse 13 = .ok (.return_, 1) := by decide +kernel
theorem dX4_takeToken_0 : decode cX4_takeToken 0 = .ok (.aload_n 0, 1) := by decide +kernel
theorem dX4_takeToken_1 : decode cX4_takeToken 1 = .ok (.getfield 18, 3) := by decide +kernel
theorem dX4_takeToken_4 : decode cX4_takeToken 4 = .ok (.tableswitch 219 0 12 #[75, 94, 113, 161, 179, 219, 132, 205, 219, 212, 219, 197, 68], 68) := by decide +kernel
theorem dX4_takeToken_72 : decode cX4_takeToken 72 = .ok (.aload_n 0, 1) := by decide +kernel
theorem dX4_takeToken_73 : decode cX4_takeToken 73 = .ok (.invokevirtual 73, 3) := by decide +kernel
theorem dX4_takeToken_76 : decode cX4_takeToken 76 = .ok (.goto 152, 3) := by decide +kernel
theorem dX4_takeToken_79 : decode cX4_takeToken 79 = .ok (.aload_n 0, 1) := by decide +kernel
theorem dX4_takeToken_80 : decode cX4_takeToken 80 = .ok (.getfield 12, 3) := by decide +kernel
theorem dX4_takeToken_83 : decode cX4_takeToken 83 = .ok (.aload_n 0, 1) := by decide +kernel
theorem dX4_takeToken_84 : decode cX4_takeToken 84 = .ok (.iconst 1, 1) := by decide +kernel
theorem dX4_takeToken_85 : decode cX4_takeToken 85 = .ok (.bipush 24, 2) := by decide +kernel
theorem dX4_takeToken_87 : decode cX4_takeToken 87 = .ok (.bipush 11, 2) := by decide +kernel
theorem dX4_takeToken_89 : decode cX4_takeToken 89 = .ok (.invokevirtual 76, 3) := by decide +kernel
theorem dX4_takeToken_92 : decode cX4_takeToken 92 = .ok (.putfield 80, 3) := by decide +kernel
theorem dX4_takeToken_95 : decode cX4_takeToken 95 = .ok (.goto 133, 3) := by decide +kernel
theorem dX4_takeToken_98 : decode cX4_takeToken 98 = .ok (.aload_n 0, 1) := by decide +kernel
theorem dX4_takeToken_99 : decode cX4_takeToken 99 = .ok (.getfield 12, 3) := by decide +kernel
theorem dX4_takeToken_102 : decode cX4_takeToken 102 = .ok (.aload_n 0, 1) := by decide +kernel
theorem dX4_takeToken_103 : decode cX4_takeToken 103 = .ok (.iconst 1, 1) := by decide +kernel
theorem dX4_takeToken_104 : decode cX4_takeToken 104 = .ok (.bipush 24, 2) := by decide +kernel
theorem dX4_takeToken_106 : decode cX4_takeToken 106 = .ok (.bipush 11, 2) := by decide +kernel
theorem dX4_takeToken_108 : decode cX4_takeToken 108 = .ok (.invokevirtual 76, 3) := by decide +kernel
theorem dX4_takeToken_111 : decode cX4_takeToken 111 = .ok (.putfield 83, 3) := by decide +kernel
theorem dX4_takeToken_114 : decode cX4_takeToken 114 = .ok (.goto 114, 3) := by decide +kernel
theorem dX4_takeToken_117 : decode cX4_takeToken 117 = .ok (.aload_n 0, 1) := by decide +kernel
theorem dX4_takeToken_118 : decode cX4_takeToken 118 = .ok (.getfield 12, 3) := by decide +kernel
theorem dX4_takeToken_121 : decode cX4_takeToken 121 = .ok (.aload_n 0, 1) := by decide +kernel
theorem dX4_takeToken_122 : decode cX4_takeToken 122 = .ok (.iconst 0, 1) := by decide +kernel
theorem dX4_takeToken_123 : decode cX4_takeToken 123 = .ok (.bipush 100, 2) := by decide +kernel
theorem dX4_takeToken_125 : decode cX4_takeToken 125 = .ok (.bipush 6, 2) := by decide +kernel
theorem dX4_takeToken_127 : decode cX4_takeToken 127 = .ok (.invokevirtual 76, 3) := by decide +kernel
theorem dX4_takeToken_130 : decode cX4_takeToken 130 = .ok (.putfield 86, 3) := by decide +kernel
theorem dX4_takeToken_133 : decode cX4_takeToken 133 = .ok (.goto 95, 3) := by decide +kernel
theorem dX4_takeToken_136 : decode cX4_takeToken 136 = .ok (.aload_n 0, 1) := by decide +kernel
theorem dX4_takeToken_137 : decode cX4_takeToken 137 = .ok (.getfield 12, 3) := by decide +kernel
theorem dX4_takeToken_140 : decode cX4_takeToken 140 = .ok (.aload_n 0, 1) := by decide +kernel
theorem dX4_takeToken_141 : decode cX4_takeToken 141 = .ok (.iconst 1, 1) := by decide +kernel
theorem dX4_takeToken_142 : decode cX4_takeToken 142 = .ok (.aload_n 0, 1) := by decide +kernel
theorem dX4_takeToken_143 : decode cX4_takeToken 143 = .ok (.getfield 12, 3) := by decide +kernel
theorem dX4_takeToken_146 : decode cX4_takeToken 146 = .ok (.getfield 86, 3) := by decide +kernel
theorem dX4_takeToken_149 : decode cX4_takeToken 149 = .ok (.invokestatic 89, 3) := by decide +kernel
theorem dX4_takeToken_152 : decode cX4_takeToken 152 = .ok (.bipush 100, 2) := by decide +kernel
theorem dX4_takeToken_154 : decode cX4_takeToken 154 = .ok (.bipush 11, 2) := by decide +kernel
theorem dX4_takeToken_156 : decode cX4_takeToken 156 = .ok (.invokevirtual 76, 3) := by decide +kernel
theorem dX4_takeToken_159 : decode cX4_takeToken 159 = .ok (.putfield 95, 3) := by decide +kernel
theorem dX4_takeToken_162 : decode cX4_takeToken 162 = .ok (.goto 66, 3) := by decide +kernel
theorem dX4_takeToken_165 : decode cX4_takeToken 165 = .ok (.aload_n 0, 1) := by decide +kernel
theorem dX4_takeToken_166 : decode cX4_takeToken 166 = .ok (.getfield 12, 3) := by decide +kernel
theorem dX4_takeToken_169 : decode cX4_takeToken 169 = .ok (.aload_n 0, 1) := by decide +kernel
theorem dX4_takeToken_170 : decode cX4_takeToken 170 = .ok (.bipush 7, 2) := by decide +kernel
theorem dX4_takeToken_172 : decode cX4_takeToken 172 = .ok (.bipush 11, 2) := by decide +kernel
theorem dX4_takeToken_174 : decode cX4_takeToken 174 = .ok (.invokevirtual 98, 3) := by decide +kernel
theorem dX4_takeToken_177 : decode cX4_takeToken 177 = .ok (.putfield 101, 3) := by decide +kernel
theorem dX4_takeToken_180 : decode cX4_takeToken 180 = .ok (.goto 48, 3) := by decide +kernel
theorem dX4_takeToken_183 : decode cX4_takeToken 183 = .ok (.aload_n 0, 1) := by decide +kernel
theorem dX4_takeToken_184 : decode cX4_takeToken 184 = .ok (.getfield 12, 3) := by decide +kernel
theorem dX4_takeToken_187 : decode cX4_takeToken 187 = .ok (.aload_n 0, 1) := by decide +kernel
theorem dX4_takeToken_188 : decode cX4_takeToken 188 = .ok (.bipush 12, 2) := by decide +kernel
theorem dX4_takeToken_190 : decode cX4_takeToken 190 = .ok (.bipush 14, 2) := by decide +kernel
theorem dX4_takeToken_192 : decode cX4_takeToken 192 = .ok (.invokevirtual 98, 3) := by decide +kernel
theorem dX4_takeToken_195 : decode cX4_takeToken 195 = .ok (.putfield 104, 3) := by decide +kernel
theorem dX4_takeToken_198 : decode cX4_takeToken 198 = .ok (.goto 30, 3) := by decide +kernel
theorem dX4_takeToken_201 : decode cX4_takeToken 201 = .ok (.aload_n 0, 1) := by decide +kernel
theorem dX4_takeToken_202 : decode cX4_takeToken 202 = .ok (.iload_n 1, 1) := by decide +kernel
theorem dX4_takeToken_203 : decode cX4_takeToken 203 = .ok (.invokevirtual 107, 3) := by decide +kernel
theorem dX4_takeToken_206 : decode cX4_takeToken 206 = .ok (.goto 22, 3) := by decide +kernel
theorem dX4_takeToken_209 : decode cX4_takeToken 209 = .ok (.aload_n 0, 1) := by decide +kernel
theorem dX4_takeToken_210 : decode cX4_takeToken 210 = .ok (.invokevirtual 110, 3) := by decide +kernel
theorem dX4_takeToken_213 : decode cX4_takeToken 213 = .ok (.goto 15, 3) := by decide +kernel
theorem dX4_takeToken_216 : decode cX4_takeToken 216 = .ok (.aload_n 0, 1) := by decide +kernel
theorem dX4_takeToken_217 : decode cX4_takeToken 217 = .ok (.invokevirtual 113, 3) := by decide +kernel
theorem dX4_takeToken_220 : decode cX4_takeToken 220 = .ok (.goto 8, 3) := by decide +kernel
theorem dX4_takeToken_223 : decode cX4_takeToken 223 = .ok (.aload_n 0, 1) := by decide +kernel
theorem dX4_takeToken_224 : decode cX4_takeToken 224 = .ok (.iload_n 1, 1) := by decide +kernel
theorem dX4_takeToken_225 : decode cX4_takeToken 225 = .ok (.invokevirtual 116, 3) := by decide +kernel
theorem dX4_takeToken_228 : decode cX4_takeToken 228 = .ok (.return_, 1) := by decide +kernel
theorem dX4_takeReadingOrMore_0 : decode cX4_takeReadingOrMore 0 = .ok (.iload_n 1, 1) := by decide +kernel
theorem dX4_takeReadingOrMore_1 : decode cX4_takeReadingOrMore 1 = .ok (.bipush 45, 2) := by decide +kernel
theorem dX4_takeReadingOrMore_3 : decode cX4_takeReadingOrMore 3 = .ok (.if_icmp .ne 7, 3) := by decide +kernel
theorem dX4_takeReadingOrMore_6 : decode cX4_takeReadingOrMore 6 = .ok (.iconst 1, 1) := by decide +kernel
theorem dX4_takeReadingOrMore_7 : decode cX4_takeReadingOrMore 7 = .ok (.goto 4, 3) := by decide +kernel
theorem dX4_takeReadingOrMore_10 : decode cX4_takeReadingOrMore 10 = .ok (.iconst 0, 1) := by decide +kernel
theorem dX4_takeReadingOrMore_11 : decode cX4_takeReadingOrMore 11 = .ok (.istore_n 2, 1) := by decide +kernel
theorem dX4_takeReadingOrMore_12 : decode cX4_takeReadingOrMore 12 = .ok (.aload_n 0, 1) := by decide +kernel
theorem dX4_takeReadingOrMore_13 : decode cX4_takeReadingOrMore 13 = .ok (.getfield 18, 3) := by decide +kernel
theorem dX4_takeReadingOrMore_16 : decode cX4_takeReadingOrMore 16 = .ok (.bipush 8, 2) := by decide +kernel
theorem dX4_takeReadingOrMore_18 : decode cX4_takeReadingOrMore 18 = .ok (.if_icmp .ne 18, 3) := by decide +kernel
theorem dX4_takeReadingOrMore_21 : decode cX4_takeReadingOrMore 21 = .ok (.iload_n 1, 1) := by decide +kernel
theorem dX4_takeReadingOrMore_22 : decode cX4_takeReadingOrMore 22 = .ok (.bipush 46, 2) := by decide +kernel
theorem dX4_takeReadingOrMore_24 : decode cX4_takeReadingOrMore 24 = .ok (.if_icmp .ne 12, 3) := by decide +kernel
theorem dX4_takeReadingOrMore_27 : decode cX4_takeReadingOrMore 27 = .ok (.aload_n 0, 1) := by decide +kernel
theorem dX4_takeReadingOrMore_28 : decode cX4_takeReadingOrMore 28 = .ok (.bipush 9, 2) := by decide +kernel
theorem dX4_takeReadingOrMore_30 : decode cX4_takeReadingOrMore 30 = .ok (.putfield 18, 3) := by decide +kernel
theorem dX4_takeReadingOrMore_33 : decode cX4_takeReadingOrMore 33 = .ok (.goto 119, 3) := by decide +kernel
theorem dX4_takeReadingOrMore_36 : decode cX4_takeReadingOrMore 36 = .ok (.aload_n 0, 1) := by decide +kernel
theorem dX4_takeReadingOrMore_37 : decode cX4_takeReadingOrMore 37 = .ok (.getfield 18, 3) := by decide +kernel
theorem dX4_takeReadingOrMore_40 : decode cX4_takeReadingOrMore 40 = .ok (.iconst 5, 1) := by decide +kernel
theorem dX4_takeReadingOrMore_41 : decode cX4_takeReadingOrMore 41 = .ok (.if_icmp .eq 18, 3) := by decide +kernel
theorem dX4_takeReadingOrMore_44 : decode cX4_takeReadingOrMore 44 = .ok (.iload_n 1, 1) := by decide +kernel
theorem dX4_takeReadingOrMore_45 : decode cX4_takeReadingOrMore 45 = .ok (.bipush 59, 2) := by decide +kernel
theorem dX4_takeReadingOrMore_47 : decode cX4_takeReadingOrMore 47 = .ok (.if_icmp .ne 12, 3) := by decide +kernel
theorem dX4_takeReadingOrMore_50 : decode cX4_takeReadingOrMore 50 = .ok (.aload_n 0, 1) := by decide +kernel
theorem dX4_takeReadingOrMore_51 : decode cX4_takeReadingOrMore 51 = .ok (.bipush 12, 2) := by decide +kernel
theorem dX4_takeReadingOrMore_53 : decode cX4_takeReadingOrMore 53 = .ok (.putfield 18, 3) := by decide +kernel
theorem dX4_takeReadingOrMore_56 : decode cX4_takeReadingOrMore 56 = .ok (.goto 96, 3) := by decide +kernel
theorem dX4_takeReadingOrMore_59 : decode cX4_takeReadingOrMore 59 = .ok (.iload_n 2, 1) := by decide +kernel
theorem dX4_takeReadingOrMore_60 : decode cX4_takeReadingOrMore 60 = .ok (.ifCond .ne 28, 3) := by decide +kernel
theorem dX4_takeReadingOrMore_63 : decode cX4_takeReadingOrMore 63 = .ok (.aload_n 0, 1) := by decide +kernel
theorem dX4_takeReadingOrMore_64 : decode cX4_takeReadingOrMore 64 = .ok (.getfield 32, 3) := by decide +kernel
theorem dX4_takeReadingOrMore_67 : decode cX4_takeReadingOrMore 67 = .ok (.iconst 2, 1) := by decide +kernel
theorem dX4_takeReadingOrMore_68 : decode cX4_takeReadingOrMore 68 = .ok (.if_icmp .eq 20, 3) := by decide +kernel
theorem dX4_takeReadingOrMore_71 : decode cX4_takeReadingOrMore 71 = .ok (.aload_n 0, 1) := by decide +kernel
theorem dX4_takeReadingOrMore_72 : decode cX4_takeReadingOrMore 72 = .ok (.getfield 41, 3) := by decide +kernel
theorem dX4_takeReadingOrMore_75 : decode cX4_takeReadingOrMore 75 = .ok (.bipush 6, 2) := by decide +kernel
theorem dX4_takeReadingOrMore_77 : decode cX4_takeReadingOrMore 77 = .ok (.if_icmp .eq 11, 3) := by decide +kernel
theorem dX4_takeReadingOrMore_80 : decode cX4_takeReadingOrMore 80 = .ok (.aload_n 0, 1) := by decide +kernel
theorem dX4_takeReadingOrMore_81 : decode cX4_takeReadingOrMore 81 = .ok (.iconst 2, 1) := by decide +kernel
theorem dX4_takeReadingOrMore_82 : decode cX4_takeReadingOrMore 82 = .ok (.invokevirtual 70, 3) := by decide +kernel
theorem dX4_takeReadingOrMore_85 : decode cX4_takeReadingOrMore 85 = .ok (.goto 67, 3) := by decide +kernel
theorem dX4_takeReadingOrMore_88 : decode cX4_takeReadingOrMore 88 = .ok (.aload_n 0, 1) := by decide +kernel
theorem dX4_takeReadingOrMore_89 : decode cX4_takeReadingOrMore 89 = .ok (.getfield 12, 3) := by decide +kernel
theorem dX4_takeReadingOrMore_92 : decode cX4_takeReadingOrMore 92 = .ok (.invokevirtual 119, 3) := by decide +kernel
theorem dX4_takeReadingOrMore_95 : decode cX4_takeReadingOrMore 95 = .ok (.ifCond .eq 11, 3) := by decide +kernel
theorem dX4_takeReadingOrMore_98 : decode cX4_takeReadingOrMore 98 = .ok (.aload_n 0, 1) := by decide +kernel
theorem dX4_takeReadingOrMore_99 : decode cX4_takeReadingOrMore 99 = .ok (.iconst 5, 1) := by decide +kernel
theorem dX4_takeReadingOrMore_100 : decode cX4_takeReadingOrMore 100 = .ok (.invokevirtual 70, 3) := by decide +kernel
theorem dX4_takeReadingOrMore_103 : decode cX4_takeReadingOrMore 103 = .ok (.goto 49, 3) := by decide +kernel
theorem dX4_takeReadingOrMore_106 : decode cX4_takeReadingOrMore 106 = .ok (.aload_n 0, 1) := by decide +kernel
theorem dX4_takeReadingOrMore_107 : decode cX4_takeReadingOrMore 107 = .ok (.getfield 41, 3) := by decide +kernel
theorem dX4_takeReadingOrMore_110 : decode cX4_takeReadingOrMore 110 = .ok (.bipush 6, 2) := by decide +kernel
theorem dX4_takeReadingOrMore_112 : decode cX4_takeReadingOrMore 112 = .ok (.if_icmp .ne 21, 3) := by decide +kernel
theorem dX4_takeReadingOrMore_115 : decode cX4_takeReadingOrMore 115 = .ok (.aload_n 0, 1) := by decide +kernel
theorem dX4_takeReadingOrMore_116 : decode cX4_takeReadingOrMore 116 = .ok (.getfield 12, 3) := by decide +kernel
theorem dX4_takeReadingOrMore_119 : decode cX4_takeReadingOrMore 119 = .ok (.ldc 123, 2) := by decide +kernel
theorem dX4_takeReadingOrMore_121 : decode cX4_takeReadingOrMore 121 = .ok (.invokevirtual 124, 3) := by decide +kernel
theorem dX4_takeReadingOrMore_124 : decode cX4_takeReadingOrMore 124 = .ok (.aload_n 0, 1) := by decide +kernel
theorem dX4_takeReadingOrMore_125 : decode cX4_takeReadingOrMore 125 = .ok (.bipush 10, 2) := by decide +kernel
theorem dX4_takeReadingOrMore_127 : decode cX4_takeReadingOrMore 127 = .ok (.putfield 18, 3) := by decide +kernel
theorem dX4_takeReadingOrMore_130 : decode cX4_takeReadingOrMore 130 = .ok (.goto 22, 3) := by decide +kernel
theorem dX4_takeReadingOrMore_133 : decode cX4_takeReadingOrMore 133 = .ok (.aload_n 0, 1) := by decide +kernel
theorem dX4_takeReadingOrMore_134 : decode cX4_takeReadingOrMore 134 = .ok (.iload_n 2, 1) := by decide +kernel
theorem dX4_takeReadingOrMore_135 : decode cX4_takeReadingOrMore 135 = .ok (.putfield 25, 3) := by decide +kernel
theorem dX4_takeReadingOrMore_138 : decode cX4_takeReadingOrMore 138 = .ok (.aload_n 0, 1) := by decide +kernel
theorem dX4_takeReadingOrMore_139 : decode cX4_takeReadingOrMore 139 = .ok (.bipush 7, 2) := by decide +kernel
theorem dX4_takeReadingOrMore_141 : decode cX4_takeReadingOrMore 141 = .ok (.putfield 18, 3) := by decide +kernel
theorem dX4_takeReadingOrMore_144 : decode cX4_takeReadingOrMore 144 = .ok (.iload_n 2, 1) := by decide +kernel
theorem dX4_takeReadingOrMore_145 : decode cX4_takeReadingOrMore 145 = .ok (.ifCond .ne 7, 3) := by decide +kernel
theorem dX4_takeReadingOrMore_148 : decode cX4_takeReadingOrMore 148 = .ok (.aload_n 0, 1) := by decide +kernel
theorem dX4_takeReadingOrMore_149 : decode cX4_takeReadingOrMore 149 = .ok (.invokevirtual 110, 3) := by decide +kernel
theorem dX4_takeReadingOrMore_152 : decode cX4_takeReadingOrMore 152 = .ok (.return_, 1) := by decide +kernel
theorem dX4_takeWhole_0 : decode cX4_takeWhole 0 = .ok (.aload_n 0, 1) := by decide +kernel
theorem dX4_takeWhole_1 : decode cX4_takeWhole 1 = .ok (.bipush 100, 2) := by decide +kernel
theorem dX4_takeWhole_3 : decode cX4_takeWhole 3 = .ok (.aload_n 0, 1) := by decide +kernel
theorem dX4_takeWhole_4 : decode cX4_takeWhole 4 = .ok (.iconst 0, 1) := by decide +kernel
theorem dX4_takeWhole_5 : decode cX4_takeWhole 5 = .ok (.sipush 9999, 3) := by decide +kernel
theorem dX4_takeWhole_8 : decode cX4_takeWhole 8 = .ok (.bipush 8, 2) := by decide +kernel
theorem dX4_takeWhole_10 : decode cX4_takeWhole 10 = .ok (.invokevirtual 76, 3) := by decide +kernel
theorem dX4_takeWhole_13 : decode cX4_takeWhole 13 = .ok (.imul, 1) := by decide +kernel
theorem dX4_takeWhole_14 : decode cX4_takeWhole 14 = .ok (.putfield 29, 3) := by decide +kernel
theorem dX4_takeWhole_17 : decode cX4_takeWhole 17 = .ok (.aload_n 0, 1) := by decide +kernel
theorem dX4_takeWhole_18 : decode cX4_takeWhole 18 = .ok (.getfield 12, 3) := by decide +kernel
theorem dX4_takeWhole_21 : decode cX4_takeWhole 21 = .ok (.aload_n 0, 1) := by decide +kernel
theorem dX4_takeWhole_22 : decode cX4_takeWhole 22 = .ok (.getfield 25, 3) := by decide +kernel
theorem dX4_takeWhole_25 : decode cX4_takeWhole 25 = .ok (.ifCond .eq 11, 3) := by decide +kernel
theorem dX4_takeWhole_28 : decode cX4_takeWhole 28 = .ok (.aload_n 0, 1) := by decide +kernel
theorem dX4_takeWhole_29 : decode cX4_takeWhole 29 = .ok (.getfield 29, 3) := by decide +kernel
theorem dX4_takeWhole_32 : decode cX4_takeWhole 32 = .ok (.ineg, 1) := by decide +kernel
theorem dX4_takeWhole_33 : decode cX4_takeWhole 33 = .ok (.goto 7, 3) := by decide +kernel
theorem dX4_takeWhole_36 : decode cX4_takeWhole 36 = .ok (.aload_n 0, 1) := by decide +kernel
theorem dX4_takeWhole_37 : decode cX4_takeWhole 37 = .ok (.getfield 29, 3) := by decide +kernel
theorem dX4_takeWhole_40 : decode cX4_takeWhole 40 = .ok (.invokevirtual 124, 3) := by decide +kernel
theorem dX4_takeWhole_43 : decode cX4_takeWhole 43 = .ok (.return_, 1) := by decide +kernel
theorem dX4_takeFraction_0 : decode cX4_takeFraction 0 = .ok (.aload_n 0, 1) := by decide +kernel
theorem dX4_takeFraction_1 : decode cX4_takeFraction 1 = .ok (.getfield 38, 3) := by decide +kernel
theorem dX4_takeFraction_4 : decode cX4_takeFraction 4 = .ok (.aload_n 0, 1) := by decide +kernel
theorem dX4_takeFraction_5 : decode cX4_takeFraction 5 = .ok (.getfield 35, 3) := by decide +kernel
theorem dX4_takeFraction_8 : decode cX4_takeFraction 8 = .ok (.isub, 1) := by decide +kernel
theorem dX4_takeFraction_9 : decode cX4_takeFraction 9 = .ok (.istore_n 1, 1) := by decide +kernel
theorem dX4_takeFraction_10 : decode cX4_takeFraction 10 = .ok (.aload_n 0, 1) := by decide +kernel
end
section
theorem dX4_takeFraction_11 : decode cX4_takeFraction 11 = .ok (.getfield 32, 3) := by decide +kernel
theorem dX4_takeFraction_14 : decode cX4_takeFraction 14 = .ok (.iconst 2, 1) := by decide +kernel
theorem dX4_takeFraction_15 : decode cX4_takeFraction 15 = .ok (.if_icmp .ne 14, 3) := by decide +kernel
theorem dX4_takeFraction_18 : decode cX4_takeFraction 18 = .ok (.iload_n 1, 1) := by decide +kernel
theorem dX4_takeFraction_19 : decode cX4_takeFraction 19 = .ok (.iconst 2, 1) := by decide +kernel
theorem dX4_takeFraction_20 : decode cX4_takeFraction 20 = .ok (.if_icmp .le 9, 3) := by decide +kernel
theorem dX4_takeFraction_23 : decode cX4_takeFraction 23 = .ok (.aload_n 0, 1) := by decide +kernel
theorem dX4_takeFraction_24 : decode cX4_takeFraction 24 = .ok (.iconst 3, 1) := by decide +kernel
theorem dX4_takeFraction_25 : decode cX4_takeFraction 25 = .ok (.invokevirtual 70, 3) := by decide +kernel
theorem dX4_takeFraction_28 : decode cX4_takeFraction 28 = .ok (.return_, 1) := by decide +kernel
theorem dX4_takeFraction_29 : decode cX4_takeFraction 29 = .ok (.aload_n 0, 1) := by decide +kernel
theorem dX4_takeFraction_30 : decode cX4_takeFraction 30 = .ok (.iconst 0, 1) := by decide +kernel
theorem dX4_takeFraction_31 : decode cX4_takeFraction 31 = .ok (.bipush 99, 2) := by decide +kernel
theorem dX4_takeFraction_33 : decode cX4_takeFraction 33 = .ok (.bipush 10, 2) := by decide +kernel
theorem dX4_takeFraction_35 : decode cX4_takeFraction 35 = .ok (.invokevirtual 76, 3) := by decide +kernel
theorem dX4_takeFraction_38 : decode cX4_takeFraction 38 = .ok (.istore_n 2, 1) := by decide +kernel
theorem dX4_takeFraction_39 : decode cX4_takeFraction 39 = .ok (.aload_n 0, 1) := by decide +kernel
theorem dX4_takeFraction_40 : decode cX4_takeFraction 40 = .ok (.dup, 1) := by decide +kernel
theorem dX4_takeFraction_41 : decode cX4_takeFraction 41 = .ok (.getfield 29, 3) := by decide +kernel
theorem dX4_takeFraction_44 : decode cX4_takeFraction 44 = .ok (.iload_n 1, 1) := by decide +kernel
theorem dX4_takeFraction_45 : decode cX4_takeFraction 45 = .ok (.iconst 1, 1) := by decide +kernel
theorem dX4_takeFraction_46 : decode cX4_takeFraction 46 = .ok (.if_icmp .ne 10, 3) := by decide +kernel
theorem dX4_takeFraction_49 : decode cX4_takeFraction 49 = .ok (.bipush 10, 2) := by decide +kernel
theorem dX4_takeFraction_51 : decode cX4_takeFraction 51 = .ok (.iload_n 2, 1) := by decide +kernel
theorem dX4_takeFraction_52 : decode cX4_takeFraction 52 = .ok (.imul, 1) := by decide +kernel
theorem dX4_takeFraction_53 : decode cX4_takeFraction 53 = .ok (.goto 4, 3) := by decide +kernel
theorem dX4_takeFraction_56 : decode cX4_takeFraction 56 = .ok (.iload_n 2, 1) := by decide +kernel
theorem dX4_takeFraction_57 : decode cX4_takeFraction 57 = .ok (.iadd, 1) := by decide +kernel
theorem dX4_takeFraction_58 : decode cX4_takeFraction 58 = .ok (.putfield 29, 3) := by decide +kernel
theorem dX4_takeFraction_61 : decode cX4_takeFraction 61 = .ok (.aload_n 0, 1) := by decide +kernel
theorem dX4_takeFraction_62 : decode cX4_takeFraction 62 = .ok (.getfield 12, 3) := by decide +kernel
theorem dX4_takeFraction_65 : decode cX4_takeFraction 65 = .ok (.aload_n 0, 1) := by decide +kernel
theorem dX4_takeFraction_66 : decode cX4_takeFraction 66 = .ok (.getfield 12, 3) := by decide +kernel
theorem dX4_takeFraction_69 : decode cX4_takeFraction 69 = .ok (.getfield 127, 3) := by decide +kernel
theorem dX4_takeFraction_72 : decode cX4_takeFraction 72 = .ok (.iconst 1, 1) := by decide +kernel
theorem dX4_takeFraction_73 : decode cX4_takeFraction 73 = .ok (.isub, 1) := by decide +kernel
theorem dX4_takeFraction_74 : decode cX4_takeFraction 74 = .ok (.aload_n 0, 1) := by decide +kernel
theorem dX4_takeFraction_75 : decode cX4_takeFraction 75 = .ok (.getfield 25, 3) := by decide +kernel
theorem dX4_takeFraction_78 : decode cX4_takeFraction 78 = .ok (.ifCond .eq 11, 3) := by decide +kernel
theorem dX4_takeFraction_81 : decode cX4_takeFraction 81 = .ok (.aload_n 0, 1) := by decide +kernel
theorem dX4_takeFraction_82 : decode cX4_takeFraction 82 = .ok (.getfield 29, 3) := by decide +kernel
theorem dX4_takeFraction_85 : decode cX4_takeFraction 85 = .ok (.ineg, 1) := by decide +kernel
theorem dX4_takeFraction_86 : decode cX4_takeFraction 86 = .ok (.goto 7, 3) := by decide +kernel
theorem dX4_takeFraction_89 : decode cX4_takeFraction 89 = .ok (.aload_n 0, 1) := by decide +kernel
theorem dX4_takeFraction_90 : decode cX4_takeFraction 90 = .ok (.getfield 29, 3) := by decide +kernel
theorem dX4_takeFraction_93 : decode cX4_takeFraction 93 = .ok (.invokevirtual 130, 3) := by decide +kernel
theorem dX4_takeFraction_96 : decode cX4_takeFraction 96 = .ok (.return_, 1) := by decide +kernel
theorem dX4_takeLineName_0 : decode cX4_takeLineName 0 = .ok (.aload_n 0, 1) := by decide +kernel
theorem dX4_takeLineName_1 : decode cX4_takeLineName 1 = .ok (.getfield 41, 3) := by decide +kernel
theorem dX4_takeLineName_4 : decode cX4_takeLineName 4 = .ok (.ifCond .lt 11, 3) := by decide +kernel
theorem dX4_takeLineName_7 : decode cX4_takeLineName 7 = .ok (.aload_n 0, 1) := by decide +kernel
theorem dX4_takeLineName_8 : decode cX4_takeLineName 8 = .ok (.getfield 41, 3) := by decide +kernel
theorem dX4_takeLineName_11 : decode cX4_takeLineName 11 = .ok (.iconst 5, 1) := by decide +kernel
theorem dX4_takeLineName_12 : decode cX4_takeLineName 12 = .ok (.if_icmp .le 11, 3) := by decide +kernel
theorem dX4_takeLineName_15 : decode cX4_takeLineName 15 = .ok (.aload_n 0, 1) := by decide +kernel
theorem dX4_takeLineName_16 : decode cX4_takeLineName 16 = .ok (.iconst 2, 1) := by decide +kernel
theorem dX4_takeLineName_17 : decode cX4_takeLineName 17 = .ok (.invokevirtual 70, 3) := by decide +kernel
theorem dX4_takeLineName_20 : decode cX4_takeLineName 20 = .ok (.goto 57, 3) := by decide +kernel
theorem dX4_takeLineName_23 : decode cX4_takeLineName 23 = .ok (.aload_n 0, 1) := by decide +kernel
theorem dX4_takeLineName_24 : decode cX4_takeLineName 24 = .ok (.getfield 41, 3) := by decide +kernel
theorem dX4_takeLineName_27 : decode cX4_takeLineName 27 = .ok (.iconst 5, 1) := by decide +kernel
theorem dX4_takeLineName_28 : decode cX4_takeLineName 28 = .ok (.if_icmp .eq 26, 3) := by decide +kernel
theorem dX4_takeLineName_31 : decode cX4_takeLineName 31 = .ok (.aload_n 0, 1) := by decide +kernel
theorem dX4_takeLineName_32 : decode cX4_takeLineName 32 = .ok (.getfield 22, 3) := by decide +kernel
theorem dX4_takeLineName_35 : decode cX4_takeLineName 35 = .ok (.aload_n 0, 1) := by decide +kernel
theorem dX4_takeLineName_36 : decode cX4_takeLineName 36 = .ok (.getfield 41, 3) := by decide +kernel
theorem dX4_takeLineName_39 : decode cX4_takeLineName 39 = .ok (.ishr, 1) := by decide +kernel
theorem dX4_takeLineName_40 : decode cX4_takeLineName 40 = .ok (.iconst 1, 1) := by decide +kernel
theorem dX4_takeLineName_41 : decode cX4_takeLineName 41 = .ok (.iand, 1) := by decide +kernel
theorem dX4_takeLineName_42 : decode cX4_takeLineName 42 = .ok (.iconst 1, 1) := by decide +kernel
theorem dX4_takeLineName_43 : decode cX4_takeLineName 43 = .ok (.if_icmp .ne 11, 3) := by decide +kernel
theorem dX4_takeLineName_46 : decode cX4_takeLineName 46 = .ok (.aload_n 0, 1) := by decide +kernel
theorem dX4_takeLineName_47 : decode cX4_takeLineName 47 = .ok (.iconst 4, 1) := by decide +kernel
theorem dX4_takeLineName_48 : decode cX4_takeLineName 48 = .ok (.invokevirtual 70, 3) := by decide +kernel
theorem dX4_takeLineName_51 : decode cX4_takeLineName 51 = .ok (.goto 26, 3) := by decide +kernel
theorem dX4_takeLineName_54 : decode cX4_takeLineName 54 = .ok (.aload_n 0, 1) := by decide +kernel
theorem dX4_takeLineName_55 : decode cX4_takeLineName 55 = .ok (.dup, 1) := by decide +kernel
theorem dX4_takeLineName_56 : decode cX4_takeLineName 56 = .ok (.getfield 22, 3) := by decide +kernel
theorem dX4_takeLineName_59 : decode cX4_takeLineName 59 = .ok (.iconst 1, 1) := by decide +kernel
theorem dX4_takeLineName_60 : decode cX4_takeLineName 60 = .ok (.aload_n 0, 1) := by decide +kernel
theorem dX4_takeLineName_61 : decode cX4_takeLineName 61 = .ok (.getfield 41, 3) := by decide +kernel
theorem dX4_takeLineName_64 : decode cX4_takeLineName 64 = .ok (.ishl, 1) := by decide +kernel
theorem dX4_takeLineName_65 : decode cX4_takeLineName 65 = .ok (.ior, 1) := by decide +kernel
theorem dX4_takeLineName_66 : decode cX4_takeLineName 66 = .ok (.putfield 22, 3) := by decide +kernel
theorem dX4_takeLineName_69 : decode cX4_takeLineName 69 = .ok (.aload_n 0, 1) := by decide +kernel
theorem dX4_takeLineName_70 : decode cX4_takeLineName 70 = .ok (.aload_n 0, 1) := by decide +kernel
theorem dX4_takeLineName_71 : decode cX4_takeLineName 71 = .ok (.getfield 41, 3) := by decide +kernel
theorem dX4_takeLineName_74 : decode cX4_takeLineName 74 = .ok (.putfield 18, 3) := by decide +kernel
theorem dX4_takeLineName_77 : decode cX4_takeLineName 77 = .ok (.return_, 1) := by decide +kernel
theorem dX4_takeNumber_0 : decode cX4_takeNumber 0 = .ok (.aload_n 0, 1) := by decide +kernel
theorem dX4_takeNumber_1 : decode cX4_takeNumber 1 = .ok (.getfield 32, 3) := by decide +kernel
theorem dX4_takeNumber_4 : decode cX4_takeNumber 4 = .ok (.iconst 2, 1) := by decide +kernel
theorem dX4_takeNumber_5 : decode cX4_takeNumber 5 = .ok (.if_icmp .eq 10, 3) := by decide +kernel
theorem dX4_takeNumber_8 : decode cX4_takeNumber 8 = .ok (.aload_n 0, 1) := by decide +kernel
theorem dX4_takeNumber_9 : decode cX4_takeNumber 9 = .ok (.iconst 2, 1) := by decide +kernel
theorem dX4_takeNumber_10 : decode cX4_takeNumber 10 = .ok (.invokevirtual 70, 3) := by decide +kernel
theorem dX4_takeNumber_13 : decode cX4_takeNumber 13 = .ok (.iload_n 1, 1) := by decide +kernel
theorem dX4_takeNumber_14 : decode cX4_takeNumber 14 = .ok (.ireturn, 1) := by decide +kernel
theorem dX4_takeNumber_15 : decode cX4_takeNumber 15 = .ok (.aload_n 0, 1) := by decide +kernel
theorem dX4_takeNumber_16 : decode cX4_takeNumber 16 = .ok (.getfield 44, 3) := by decide +kernel
theorem dX4_takeNumber_19 : decode cX4_takeNumber 19 = .ok (.iload_n 1, 1) := by decide +kernel
theorem dX4_takeNumber_20 : decode cX4_takeNumber 20 = .ok (.if_icmp .lt 11, 3) := by decide +kernel
theorem dX4_takeNumber_23 : decode cX4_takeNumber 23 = .ok (.aload_n 0, 1) := by decide +kernel
theorem dX4_takeNumber_24 : decode cX4_takeNumber 24 = .ok (.getfield 44, 3) := by decide +kernel
theorem dX4_takeNumber_27 : decode cX4_takeNumber 27 = .ok (.iload_n 2, 1) := by decide +kernel
theorem dX4_takeNumber_28 : decode cX4_takeNumber 28 = .ok (.if_icmp .le 10, 3) := by decide +kernel
theorem dX4_takeNumber_31 : decode cX4_takeNumber 31 = .ok (.aload_n 0, 1) := by decide +kernel
theorem dX4_takeNumber_32 : decode cX4_takeNumber 32 = .ok (.iconst 3, 1) := by decide +kernel
theorem dX4_takeNumber_33 : decode cX4_takeNumber 33 = .ok (.invokevirtual 70, 3) := by decide +kernel
theorem dX4_takeNumber_36 : decode cX4_takeNumber 36 = .ok (.iload_n 1, 1) := by decide +kernel
theorem dX4_takeNumber_37 : decode cX4_takeNumber 37 = .ok (.ireturn, 1) := by decide +kernel
theorem dX4_takeNumber_38 : decode cX4_takeNumber 38 = .ok (.aload_n 0, 1) := by decide +kernel
theorem dX4_takeNumber_39 : decode cX4_takeNumber 39 = .ok (.iload_n 3, 1) := by decide +kernel
theorem dX4_takeNumber_40 : decode cX4_takeNumber 40 = .ok (.putfield 18, 3) := by decide +kernel
theorem dX4_takeNumber_43 : decode cX4_takeNumber 43 = .ok (.aload_n 0, 1) := by decide +kernel
theorem dX4_takeNumber_44 : decode cX4_takeNumber 44 = .ok (.getfield 44, 3) := by decide +kernel
theorem dX4_takeNumber_47 : decode cX4_takeNumber 47 = .ok (.ireturn, 1) := by decide +kernel
theorem dX4_takeChoice_0 : decode cX4_takeChoice 0 = .ok (.aload_n 0, 1) := by decide +kernel
theorem dX4_takeChoice_1 : decode cX4_takeChoice 1 = .ok (.getfield 41, 3) := by decide +kernel
theorem dX4_takeChoice_4 : decode cX4_takeChoice 4 = .ok (.iload_n 1, 1) := by decide +kernel
theorem dX4_takeChoice_5 : decode cX4_takeChoice 5 = .ok (.if_icmp .lt 11, 3) := by decide +kernel
theorem dX4_takeChoice_8 : decode cX4_takeChoice 8 = .ok (.aload_n 0, 1) := by decide +kernel
theorem dX4_takeChoice_9 : decode cX4_takeChoice 9 = .ok (.getfield 41, 3) := by decide +kernel
theorem dX4_takeChoice_12 : decode cX4_takeChoice 12 = .ok (.iload_n 2, 1) := by decide +kernel
theorem dX4_takeChoice_13 : decode cX4_takeChoice 13 = .ok (.if_icmp .le 10, 3) := by decide +kernel
theorem dX4_takeChoice_16 : decode cX4_takeChoice 16 = .ok (.aload_n 0, 1) := by decide +kernel
theorem dX4_takeChoice_17 : decode cX4_takeChoice 17 = .ok (.iconst 2, 1) := by decide +kernel
theorem dX4_takeChoice_18 : decode cX4_takeChoice 18 = .ok (.invokevirtual 70, 3) := by decide +kernel
theorem dX4_takeChoice_21 : decode cX4_takeChoice 21 = .ok (.iconst 0, 1) := by decide +kernel
theorem dX4_takeChoice_22 : decode cX4_takeChoice 22 = .ok (.ireturn, 1) := by decide +kernel
theorem dX4_takeChoice_23 : decode cX4_takeChoice 23 = .ok (.aload_n 0, 1) := by decide +kernel
theorem dX4_takeChoice_24 : decode cX4_takeChoice 24 = .ok (.bipush 11, 2) := by decide +kernel
theorem dX4_takeChoice_26 : decode cX4_takeChoice 26 = .ok (.putfield 18, 3) := by decide +kernel
theorem dX4_takeChoice_29 : decode cX4_takeChoice 29 = .ok (.aload_n 0, 1) := by decide +kernel
theorem dX4_takeChoice_30 : decode cX4_takeChoice 30 = .ok (.getfield 41, 3) := by decide +kernel
theorem dX4_takeChoice_33 : decode cX4_takeChoice 33 = .ok (.iload_n 1, 1) := by decide +kernel
theorem dX4_takeChoice_34 : decode cX4_takeChoice 34 = .ok (.isub, 1) := by decide +kernel
theorem dX4_takeChoice_35 : decode cX4_takeChoice 35 = .ok (.ireturn, 1) := by decide +kernel
theorem dX4_takeLineEnd_0 : decode cX4_takeLineEnd 0 = .ok (.iload_n 1, 1) := by decide +kernel
theorem dX4_takeLineEnd_1 : decode cX4_takeLineEnd 1 = .ok (.bipush 59, 2) := by decide +kernel
theorem dX4_takeLineEnd_3 : decode cX4_takeLineEnd 3 = .ok (.if_icmp .ne 12, 3) := by decide +kernel
theorem dX4_takeLineEnd_6 : decode cX4_takeLineEnd 6 = .ok (.aload_n 0, 1) := by decide +kernel
theorem dX4_takeLineEnd_7 : decode cX4_takeLineEnd 7 = .ok (.bipush 12, 2) := by decide +kernel
theorem dX4_takeLineEnd_9 : decode cX4_takeLineEnd 9 = .ok (.putfield 18, 3) := by decide +kernel
theorem dX4_takeLineEnd_12 : decode cX4_takeLineEnd 12 = .ok (.goto 8, 3) := by decide +kernel
theorem dX4_takeLineEnd_15 : decode cX4_takeLineEnd 15 = .ok (.aload_n 0, 1) := by decide +kernel
theorem dX4_takeLineEnd_16 : decode cX4_takeLineEnd 16 = .ok (.iconst 2, 1) := by decide +kernel
theorem dX4_takeLineEnd_17 : decode cX4_takeLineEnd 17 = .ok (.invokevirtual 70, 3) := by decide +kernel
theorem dX4_takeLineEnd_20 : decode cX4_takeLineEnd 20 = .ok (.return_, 1) := by decide +kernel
theorem dX4_scan_0 : decode cX4_scan 0 = .ok (.aload_n 0, 1) := by decide +kernel
theorem dX4_scan_1 : decode cX4_scan 1 = .ok (.aload_n 0, 1) := by decide +kernel
theorem dX4_scan_2 : decode cX4_scan 2 = .ok (.getfield 38, 3) := by decide +kernel
theorem dX4_scan_5 : decode cX4_scan 5 = .ok (.putfield 35, 3) := by decide +kernel
theorem dX4_scan_8 : decode cX4_scan 8 = .ok (.aload_n 0, 1) := by decide +kernel
theorem dX4_scan_9 : decode cX4_scan 9 = .ok (.getfield 35, 3) := by decide +kernel
theorem dX4_scan_12 : decode cX4_scan 12 = .ok (.aload_n 1, 1) := by decide +kernel
theorem dX4_scan_13 : decode cX4_scan 13 = .ok (.getfield 134, 3) := by decide +kernel
theorem dX4_scan_16 : decode cX4_scan 16 = .ok (.if_icmp .ge 29, 3) := by decide +kernel
theorem dX4_scan_19 : decode cX4_scan 19 = .ok (.aload_n 1, 1) := by decide +kernel
theorem dX4_scan_20 : decode cX4_scan 20 = .ok (.aload_n 0, 1) := by decide +kernel
theorem dX4_scan_21 : decode cX4_scan 21 = .ok (.getfield 35, 3) := by decide +kernel
theorem dX4_scan_24 : decode cX4_scan 24 = .ok (.invokevirtual 60, 3) := by decide +kernel
theorem dX4_scan_27 : decode cX4_scan 27 = .ok (.bipush 32, 2) := by decide +kernel
theorem dX4_scan_29 : decode cX4_scan 29 = .ok (.if_icmp .ne 16, 3) := by decide +kernel
theorem dX4_scan_32 : decode cX4_scan 32 = .ok (.aload_n 0, 1) := by decide +kernel
theorem dX4_scan_33 : decode cX4_scan 33 = .ok (.dup, 1) := by decide +kernel
theorem dX4_scan_34 : decode cX4_scan 34 = .ok (.getfield 35, 3) := by decide +kernel
theorem dX4_scan_37 : decode cX4_scan 37 = .ok (.iconst 1, 1) := by decide +kernel
theorem dX4_scan_38 : decode cX4_scan 38 = .ok (.iadd, 1) := by decide +kernel
theorem dX4_scan_39 : decode cX4_scan 39 = .ok (.putfield 35, 3) := by decide +kernel
theorem dX4_scan_42 : decode cX4_scan 42 = .ok (.goto (-34), 3) := by decide +kernel
theorem dX4_scan_45 : decode cX4_scan 45 = .ok (.aload_n 0, 1) := by decide +kernel
theorem dX4_scan_46 : decode cX4_scan 46 = .ok (.aload_n 0, 1) := by decide +kernel
theorem dX4_scan_47 : decode cX4_scan 47 = .ok (.getfield 35, 3) := by decide +kernel
theorem dX4_scan_50 : decode cX4_scan 50 = .ok (.putfield 38, 3) := by decide +kernel
theorem dX4_scan_53 : decode cX4_scan 53 = .ok (.aload_n 0, 1) := by decide +kernel
theorem dX4_scan_54 : decode cX4_scan 54 = .ok (.bipush (-4), 2) := by decide +kernel
theorem dX4_scan_56 : decode cX4_scan 56 = .ok (.putfield 41, 3) := by decide +kernel
theorem dX4_scan_59 : decode cX4_scan 59 = .ok (.aload_n 1, 1) := by decide +kernel
theorem dX4_scan_60 : decode cX4_scan 60 = .ok (.aload_n 0, 1) := by decide +kernel
theorem dX4_scan_61 : decode cX4_scan 61 = .ok (.getfield 35, 3) := by decide +kernel
theorem dX4_scan_64 : decode cX4_scan 64 = .ok (.invokevirtual 60, 3) := by decide +kernel
theorem dX4_scan_67 : decode cX4_scan 67 = .ok (.istore_n 2, 1) := by decide +kernel
theorem dX4_scan_68 : decode cX4_scan 68 = .ok (.iload_n 2, 1) := by decide +kernel
theorem dX4_scan_69 : decode cX4_scan 69 = .ok (.ifCond .ge 11, 3) := by decide +kernel
theorem dX4_scan_72 : decode cX4_scan 72 = .ok (.aload_n 0, 1) := by decide +kernel
theorem dX4_scan_73 : decode cX4_scan 73 = .ok (.iconst 0, 1) := by decide +kernel
theorem dX4_scan_74 : decode cX4_scan 74 = .ok (.putfield 32, 3) := by decide +kernel
theorem dX4_scan_77 : decode cX4_scan 77 = .ok (.goto 74, 3) := by decide +kernel
theorem dX4_scan_80 : decode cX4_scan 80 = .ok (.iload_n 2, 1) := by decide +kernel
theorem dX4_scan_81 : decode cX4_scan 81 = .ok (.invokestatic 137, 3) := by decide +kernel
theorem dX4_scan_84 : decode cX4_scan 84 = .ok (.ifCond .eq 11, 3) := by decide +kernel
theorem dX4_scan_87 : decode cX4_scan 87 = .ok (.aload_n 0, 1) := by decide +kernel
theorem dX4_scan_88 : decode cX4_scan 88 = .ok (.aload_n 1, 1) := by decide +kernel
theorem dX4_scan_89 : decode cX4_scan 89 = .ok (.invokevirtual 141, 3) := by decide +kernel
theorem dX4_scan_92 : decode cX4_scan 92 = .ok (.goto 59, 3) := by decide +kernel
theorem dX4_scan_95 : decode cX4_scan 95 = .ok (.iload_n 2, 1) := by decide +kernel
theorem dX4_scan_96 : decode cX4_scan 96 = .ok (.invokestatic 144, 3) := by decide +kernel
theorem dX4_scan_99 : decode cX4_scan 99 = .ok (.ifCond .eq 11, 3) := by decide +kernel
theorem dX4_scan_102 : decode cX4_scan 102 = .ok (.aload_n 0, 1) := by decide +kernel
theorem dX4_scan_103 : decode cX4_scan 103 = .ok (.aload_n 1, 1) := by decide +kernel
theorem dX4_scan_104 : decode cX4_scan 104 = .ok (.invokevirtual 147, 3) := by decide +kernel
theorem dX4_scan_107 : decode cX4_scan 107 = .ok (.goto 44, 3) := by decide +kernel
theorem dX4_scan_110 : decode cX4_scan 110 = .ok (.iload_n 2, 1) := by decide +kernel
theorem dX4_scan_111 : decode cX4_scan 111 = .ok (.bipush 45, 2) := by decide +kernel
theorem dX4_scan_113 : decode cX4_scan 113 = .ok (.if_icmp .eq 15, 3) := by decide +kernel
theorem dX4_scan_116 : decode cX4_scan 116 = .ok (.iload_n 2, 1) := by decide +kernel
theorem dX4_scan_117 : decode cX4_scan 117 = .ok (.bipush 46, 2) := by decide +kernel
theorem dX4_scan_119 : decode cX4_scan 119 = .ok (.if_icmp .eq 9, 3) := by decide +kernel
theorem dX4_scan_122 : decode cX4_scan 122 = .ok (.iload_n 2, 1) := by decide +kernel
theorem dX4_scan_123 : decode cX4_scan 123 = .ok (.bipush 59, 2) := by decide +kernel
theorem dX4_scan_125 : decode cX4_scan 125 = .ok (.if_icmp .ne 21, 3) := by decide +kernel
theorem dX4_scan_128 : decode cX4_scan 128 = .ok (.aload_n 0, 1) := by decide +kernel
theorem dX4_scan_129 : decode cX4_scan 129 = .ok (.iconst 3, 1) := by decide +kernel
theorem dX4_scan_130 : decode cX4_scan 130 = .ok (.putfield 32, 3) := by decide +kernel
theorem dX4_scan_133 : decode cX4_scan 133 = .ok (.aload_n 0, 1) := by decide +kernel
theorem dX4_scan_134 : decode cX4_scan 134 = .ok (.aload_n 0, 1) := by decide +kernel
theorem dX4_scan_135 : decode cX4_scan 135 = .ok (.getfield 35, 3) := by decide +kernel
theorem dX4_scan_138 : decode cX4_scan 138 = .ok (.iconst 1, 1) := by decide +kernel
theorem dX4_scan_139 : decode cX4_scan 139 = .ok (.iadd, 1) := by decide +kernel
theorem dX4_scan_140 : decode cX4_scan 140 = .ok (.putfield 38, 3) := by decide +kernel
theorem dX4_scan_143 : decode cX4_scan 143 = .ok (.goto 8, 3) := by decide +kernel
theorem dX4_scan_146 : decode cX4_scan 146 = .ok (.aload_n 0, 1) := by decide +kernel
theorem dX4_scan_147 : decode cX4_scan 147 = .ok (.iconst 1, 1) := by decide +kernel
theorem dX4_scan_148 : decode cX4_scan 148 = .ok (.invokevirtual 70, 3) := by decide +kernel
theorem dX4_scan_151 : decode cX4_scan 151 = .ok (.return_, 1) := by decide +kernel
theorem dX4_scanName_0 : decode cX4_scanName 0 = .ok (.aload_n 0, 1) := by decide +kernel
theorem dX4_scanName_1 : decode cX4_scanName 1 = .ok (.iconst 1, 1) := by decide +kernel
theorem dX4_scanName_2 : decode cX4_scanName 2 = .ok (.putfield 32, 3) := by decide +kernel
theorem dX4_scanName_5 : decode cX4_scanName 5 = .ok (.aload_n 0, 1) := by decide +kernel
theorem dX4_scanName_6 : decode cX4_scanName 6 = .ok (.getfield 38, 3) := by decide +kernel
theorem dX4_scanName_9 : decode cX4_scanName 9 = .ok (.aload_n 1, 1) := by decide +kernel
theorem dX4_scanName_10 : decode cX4_scanName 10 = .ok (.getfield 134, 3) := by decide +kernel
theorem dX4_scanName_13 : decode cX4_scanName 13 = .ok (.if_icmp .ge 30, 3) := by decide +kernel
theorem dX4_scanName_16 : decode cX4_scanName 16 = .ok (.aload_n 1, 1) := by decide +kernel
theorem dX4_scanName_17 : decode cX4_scanName 17 = .ok (.aload_n 0, 1) := by decide +kernel
theorem dX4_scanName_18 : decode cX4_scanName 18 = .ok (.getfield 38, 3) := by decide +kernel
theorem dX4_scanName_21 : decode cX4_scanName 21 = .ok (.invokevirtual 60, 3) := by decide +kernel
theorem dX4_scanName_24 : decode cX4_scanName 24 = .ok (.invokestatic 137, 3) := by decide +kernel
theorem dX4_scanName_27 : decode cX4_scanName 27 = .ok (.ifCond .eq 16, 3) := by decide +kernel
theorem dX4_scanName_30 : decode cX4_scanName 30 = .ok (.aload_n 0, 1) := by decide +kernel
theorem dX4_scanName_31 : decode cX4_scanName 31 = .ok (.dup, 1) := by decide +kernel
theorem dX4_scanName_32 : decode cX4_scanName 32 = .ok (.getfield 38, 3) := by decide +kernel
theorem dX4_scanName_35 : decode cX4_scanName 35 = .ok (.iconst 1, 1) := by decide +kernel
theorem dX4_scanName_36 : decode cX4_scanName 36 = .ok (.iadd, 1) := by decide +kernel
theorem dX4_scanName_37 : decode cX4_scanName 37 = .ok (.putfield 38, 3) := by decide +kernel
theorem dX4_scanName_40 : decode cX4_scanName 40 = .ok (.goto (-35), 3) := by decide +kernel
theorem dX4_scanName_43 : decode cX4_scanName 43 = .ok (.aload_n 0, 1) := by decide +kernel
theorem dX4_scanName_44 : decode cX4_scanName 44 = .ok (.aload_n 0, 1) := by decide +kernel
theorem dX4_scanName_45 : decode cX4_scanName 45 = .ok (.aload_n 1, 1) := by decide +kernel
theorem dX4_scanName_46 : decode cX4_scanName 46 = .ok (.invokevirtual 150, 3) := by decide +kernel
theorem dX4_scanName_49 : decode cX4_scanName 49 = .ok (.putfield 41, 3) := by decide +kernel
theorem dX4_scanName_52 : decode cX4_scanName 52 = .ok (.return_, 1) := by decide +kernel
theorem dX4_numberOfName_0 : decode cX4_numberOfName 0 = .ok (.iconst 0, 1) := by decide +kernel
theorem dX4_numberOfName_1 : decode cX4_numberOfName 1 = .ok (.istore_n 2, 1) := by decide +kernel
theorem dX4_numberOfName_2 : decode cX4_numberOfName 2 = .ok (.aload_n 0, 1) := by decide +kernel
theorem dX4_numberOfName_3 : decode cX4_numberOfName 3 = .ok (.getfield 35, 3) := by decide +kernel
theorem dX4_numberOfName_6 : decode cX4_numberOfName 6 = .ok (.istore_n 3, 1) := by decide +kernel
theorem dX4_numberOfName_7 : decode cX4_numberOfName 7 = .ok (.iconst 1, 1) := by decide +kernel
theorem dX4_numberOfName_8 : decode cX4_numberOfName 8 = .ok (.istore 4, 2) := by decide +kernel
theorem dX4_numberOfName_10 : decode cX4_numberOfName 10 = .ok (.iconst 0, 1) := by decide +kernel
theorem dX4_numberOfName_11 : decode cX4_numberOfName 11 = .ok (.istore 5, 2) := by decide +kernel
theorem dX4_numberOfName_13 : decode cX4_numberOfName 13 = .ok (.iload 5, 2) := by decide +kernel
theorem dX4_numberOfName_15 : decode cX4_numberOfName 15 = .ok (.ldc 154, 2) := by decide +kernel
theorem dX4_numberOfName_17 : decode cX4_numberOfName 17 = .ok (.invokevirtual 156, 3) := by decide +kernel
theorem dX4_numberOfName_20 : decode cX4_numberOfName 20 = .ok (.if_icmp .ge 87, 3) := by decide +kernel
theorem dX4_numberOfName_23 : decode cX4_numberOfName 23 = .ok (.ldc 154, 2) := by decide +kernel
theorem dX4_numberOfName_25 : decode cX4_numberOfName 25 = .ok (.iload 5, 2) := by decide +kernel
theorem dX4_numberOfName_27 : decode cX4_numberOfName 27 = .ok (.invokevirtual 161, 3) := by decide +kernel
theorem dX4_numberOfName_30 : decode cX4_numberOfName 30 = .ok (.istore 6, 2) := by decide +kernel
theorem dX4_numberOfName_32 : decode cX4_numberOfName 32 = .ok (.iload 6, 2) := by decide +kernel
theorem dX4_numberOfName_34 : decode cX4_numberOfName 34 = .ok (.bipush 32, 2) := by decide +kernel
theorem dX4_numberOfName_36 : decode cX4_numberOfName 36 = .ok (.if_icmp .eq 39, 3) := by decide +kernel
theorem dX4_numberOfName_39 : decode cX4_numberOfName 39 = .ok (.iload 4, 2) := by decide +kernel
theorem dX4_numberOfName_41 : decode cX4_numberOfName 41 = .ok (.ifCond .eq 25, 3) := by decide +kernel
theorem dX4_numberOfName_44 : decode cX4_numberOfName 44 = .ok (.iload_n 3, 1) := by decide +kernel
theorem dX4_numberOfName_45 : decode cX4_numberOfName 45 = .ok (.aload_n 0, 1) := by decide +kernel
theorem dX4_numberOfName_46 : decode cX4_numberOfName 46 = .ok (.getfield 38, 3) := by decide +kernel
theorem dX4_numberOfName_49 : decode cX4_numberOfName 49 = .ok (.if_icmp .ge 17, 3) := by decide +kernel
theorem dX4_numberOfName_52 : decode cX4_numberOfName 52 = .ok (.aload_n 1, 1) := by decide +kernel
theorem dX4_numberOfName_53 : decode cX4_numberOfName 53 = .ok (.iload_n 3, 1) := by decide +kernel
theorem dX4_numberOfName_54 : decode cX4_numberOfName 54 = .ok (.invokevirtual 60, 3) := by decide +kernel
theorem dX4_numberOfName_57 : decode cX4_numberOfName 57 = .ok (.iload 6, 2) := by decide +kernel
theorem dX4_numberOfName_59 : decode cX4_numberOfName 59 = .ok (.if_icmp .ne 7, 3) := by decide +kernel
theorem dX4_numberOfName_62 : decode cX4_numberOfName 62 = .ok (.iconst 1, 1) := by decide +kernel
theorem dX4_numberOfName_63 : decode cX4_numberOfName 63 = .ok (.goto 4, 3) := by decide +kernel
theorem dX4_numberOfName_66 : decode cX4_numberOfName 66 = .ok (.iconst 0, 1) := by decide +kernel
theorem dX4_numberOfName_67 : decode cX4_numberOfName 67 = .ok (.istore 4, 2) := by decide +kernel
theorem dX4_numberOfName_69 : decode cX4_numberOfName 69 = .ok (.iinc 3 1, 3) := by decide +kernel
theorem dX4_numberOfName_72 : decode cX4_numberOfName 72 = .ok (.goto 29, 3) := by decide +kernel
theorem dX4_numberOfName_75 : decode cX4_numberOfName 75 = .ok (.iload 4, 2) := by decide +kernel
theorem dX4_numberOfName_77 : decode cX4_numberOfName 77 = .ok (.ifCond .eq 13, 3) := by decide +kernel
theorem dX4_numberOfName_80 : decode cX4_numberOfName 80 = .ok (.iload_n 3, 1) := by decide +kernel
theorem dX4_numberOfName_81 : decode cX4_numberOfName 81 = .ok (.aload_n 0, 1) := by decide +kernel
theorem dX4_numberOfName_82 : decode cX4_numberOfName 82 = .ok (.getfield 38, 3) := by decide +kernel
theorem dX4_numberOfName_85 : decode cX4_numberOfName 85 = .ok (.if_icmp .ne 5, 3) := by decide +kernel
theorem dX4_numberOfName_88 : decode cX4_numberOfName 88 = .ok (.iload_n 2, 1) := by decide +kernel
theorem dX4_numberOfName_89 : decode cX4_numberOfName 89 = .ok (.ireturn, 1) := by decide +kernel
theorem dX4_numberOfName_90 : decode cX4_numberOfName 90 = .ok (.iinc 2 1, 3) := by decide +kernel
theorem dX4_numberOfName_93 : decode cX4_numberOfName 93 = .ok (.aload_n 0, 1) := by decide +kernel
theorem dX4_numberOfName_94 : decode cX4_numberOfName 94 = .ok (.getfield 35, 3) := by decide +kernel
theorem dX4_numberOfName_97 : decode cX4_numberOfName 97 = .ok (.istore_n 3, 1) := by decide +kernel
theorem dX4_numberOfName_98 : decode cX4_numberOfName 98 = .ok (.iconst 1, 1) := by decide +kernel
theorem dX4_numberOfName_99 : decode cX4_numberOfName 99 = .ok (.istore 4, 2) := by decide +kernel
theorem dX4_numberOfName_101 : decode cX4_numberOfName 101 = .ok (.iinc 5 1, 3) := by decide +kernel
theorem dX4_numberOfName_104 : decode cX4_numberOfName 104 = .ok (.goto (-91), 3) := by decide +kernel
theorem dX4_numberOfName_107 : decode cX4_numberOfName 107 = .ok (.bipush (-4), 2) := by decide +kernel
theorem dX4_numberOfName_109 : decode cX4_numberOfName 109 = .ok (.ireturn, 1) := by decide +kernel
theorem dX4_scanNumber_0 : decode cX4_scanNumber 0 = .ok (.aload_n 0, 1) := by decide +kernel
theorem dX4_scanNumber_1 : decode cX4_scanNumber 1 = .ok (.iconst 2, 1) := by decide +kernel
theorem dX4_scanNumber_2 : decode cX4_scanNumber 2 = .ok (.putfield 32, 3) := by decide +kernel
theorem dX4_scanNumber_5 : decode cX4_scanNumber 5 = .ok (.aload_n 0, 1) := by decide +kernel
theorem dX4_scanNumber_6 : decode cX4_scanNumber 6 = .ok (.iconst 0, 1) := by decide +kernel
theorem dX4_scanNumber_7 : decode cX4_scanNumber 7 = .ok (.putfield 44, 3) := by decide +kernel
theorem dX4_scanNumber_10 : decode cX4_scanNumber 10 = .ok (.aload_n 0, 1) := by decide +kernel
theorem dX4_scanNumber_11 : decode cX4_scanNumber 11 = .ok (.getfield 38, 3) := by decide +kernel
theorem dX4_scanNumber_14 : decode cX4_scanNumber 14 = .ok (.aload_n 1, 1) := by decide +kernel
theorem dX4_scanNumber_15 : decode cX4_scanNumber 15 = .ok (.getfield 134, 3) := by decide +kernel
theorem dX4_scanNumber_18 : decode cX4_scanNumber 18 = .ok (.if_icmp .ge 66, 3) := by decide +kernel
theorem dX4_scanNumber_21 : decode cX4_scanNumber 21 = .ok (.aload_n 1, 1) := by decide +kernel
theorem dX4_scanNumber_22 : decode cX4_scanNumber 22 = .ok (.aload_n 0, 1) := by decide +kernel
theorem dX4_scanNumber_23 : decode cX4_scanNumber 23 = .ok (.getfield 38, 3) := by decide +kernel
theorem dX4_scanNumber_26 : decode cX4_scanNumber 26 = .ok (.invokevirtual 60, 3) := by decide +kernel
theorem dX4_scanNumber_29 : decode cX4_scanNumber 29 = .ok (.invokestatic 144, 3) := by decide +kernel
theorem dX4_scanNumber_32 : decode cX4_scanNumber 32 = .ok (.ifCond .eq 52, 3) := by decide +kernel
theorem dX4_scanNumber_35 : decode cX4_scanNumber 35 = .ok (.aload_n 0, 1) := by decide +kernel
theorem dX4_scanNumber_36 : decode cX4_scanNumber 36 = .ok (.getfield 38, 3) := by decide +kernel
theorem dX4_scanNumber_39 : decode cX4_scanNumber 39 = .ok (.aload_n 0, 1) := by decide +kernel
theorem dX4_scanNumber_40 : decode cX4_scanNumber 40 = .ok (.getfield 35, 3) := by decide +kernel
theorem dX4_scanNumber_43 : decode cX4_scanNumber 43 = .ok (.isub, 1) := by decide +kernel
theorem dX4_scanNumber_44 : decode cX4_scanNumber 44 = .ok (.iconst 4, 1) := by decide +kernel
theorem dX4_scanNumber_45 : decode cX4_scanNumber 45 = .ok (.if_icmp .ge 26, 3) := by decide +kernel
theorem dX4_scanNumber_48 : decode cX4_scanNumber 48 = .ok (.aload_n 0, 1) := by decide +kernel
theorem dX4_scanNumber_49 : decode cX4_scanNumber 49 = .ok (.bipush 10, 2) := by decide +kernel
theorem dX4_scanNumber_51 : decode cX4_scanNumber 51 = .ok (.aload_n 0, 1) := by decide +kernel
theorem dX4_scanNumber_52 : decode cX4_scanNumber 52 = .ok (.getfield 44, 3) := by decide +kernel
theorem dX4_scanNumber_55 : decode cX4_scanNumber 55 = .ok (.imul, 1) := by decide +kernel
theorem dX4_scanNumber_56 : decode cX4_scanNumber 56 = .ok (.aload_n 1, 1) := by decide +kernel
theorem dX4_scanNumber_57 : decode cX4_scanNumber 57 = .ok (.aload_n 0, 1) := by decide +kernel
theorem dX4_scanNumber_58 : decode cX4_scanNumber 58 = .ok (.getfield 38, 3) := by decide +kernel
theorem dX4_scanNumber_61 : decode cX4_scanNumber 61 = .ok (.invokevirtual 60, 3) := by decide +kernel
theorem dX4_scanNumber_64 : decode cX4_scanNumber 64 = .ok (.iadd, 1) := by decide +kernel
theorem dX4_scanNumber_65 : decode cX4_scanNumber 65 = .ok (.bipush 48, 2) := by decide +kernel
theorem dX4_scanNumber_67 : decode cX4_scanNumber 67 = .ok (.isub, 1) := by decide +kernel
theorem dX4_scanNumber_68 : decode cX4_scanNumber 68 = .ok (.putfield 44, 3) := by decide +kernel
theorem dX4_scanNumber_71 : decode cX4_scanNumber 71 = .ok (.aload_n 0, 1) := by decide +kernel
theorem dX4_scanNumber_72 : decode cX4_scanNumber 72 = .ok (.dup, 1) := by decide +kernel
theorem dX4_scanNumber_73 : decode cX4_scanNumber 73 = .ok (.getfield 38, 3) := by decide +kernel
theorem dX4_scanNumber_76 : decode cX4_scanNumber 76 = .ok (.iconst 1, 1) := by decide +kernel
theorem dX4_scanNumber_77 : decode cX4_scanNumber 77 = .ok (.iadd, 1) := by decide +kernel
theorem dX4_scanNumber_78 : decode cX4_scanNumber 78 = .ok (.putfield 38, 3) := by decide +kernel
theorem dX4_scanNumber_81 : decode cX4_scanNumber 81 = .ok (.goto (-71), 3) := by decide +kernel
theorem dX4_scanNumber_84 : decode cX4_scanNumber 84 = .ok (.aload_n 0, 1) := by decide +kernel
theorem dX4_scanNumber_85 : decode cX4_scanNumber 85 = .ok (.getfield 38, 3) := by decide +kernel
theorem dX4_scanNumber_88 : decode cX4_scanNumber 88 = .ok (.aload_n 0, 1) := by decide +kernel
theorem dX4_scanNumber_89 : decode cX4_scanNumber 89 = .ok (.getfield 35, 3) := by decide +kernel
theorem dX4_scanNumber_92 : decode cX4_scanNumber 92 = .ok (.isub, 1) := by decide +kernel
theorem dX4_scanNumber_93 : decode cX4_scanNumber 93 = .ok (.iconst 4, 1) := by decide +kernel
theorem dX4_scanNumber_94 : decode cX4_scanNumber 94 = .ok (.if_icmp .le 8, 3) := by decide +kernel
theorem dX4_scanNumber_97 : decode cX4_scanNumber 97 = .ok (.aload_n 0, 1) := by decide +kernel
theorem dX4_scanNumber_98 : decode cX4_scanNumber 98 = .ok (.iconst 1, 1) := by decide +kernel
theorem dX4_scanNumber_99 : decode cX4_scanNumber 99 = .ok (.invokevirtual 70, 3) := by decide +kernel
theorem dX4_scanNumber_102 : decode cX4_scanNumber 102 = .ok (.return_, 1) := by decide +kernel
theorem dX4_isLetter_0 : decode cX4_isLetter 0 = .ok (.iload_n 0, 1) := by decide +kernel
theorem dX4_isLetter_1 : decode cX4_isLetter 1 = .ok (.bipush 97, 2) := by decide +kernel
theorem dX4_isLetter_3 : decode cX4_isLetter 3 = .ok (.if_icmp .lt 13, 3) := by decide +kernel
theorem dX4_isLetter_6 : decode cX4_isLetter 6 = .ok (.iload_n 0, 1) := by decide +kernel
theorem dX4_isLetter_7 : decode cX4_isLetter 7 = .ok (.bipush 122, 2) := by decide +kernel
theorem dX4_isLetter_9 : decode cX4_isLetter 9 = .ok (.if_icmp .gt 7, 3) := by decide +kernel
theorem dX4_isLetter_12 : decode cX4_isLetter 12 = .ok (.iconst 1, 1) := by decide +kernel
theorem dX4_isLetter_13 : decode cX4_isLetter 13 = .ok (.goto 4, 3) := by decide +kernel
theorem dX4_isLetter_16 : decode cX4_isLetter 16 = .ok (.iconst 0, 1) := by decide +kernel
theorem dX4_isLetter_17 : decode cX4_isLetter 17 = .ok (.ireturn, 1) := by decide +kernel
theorem dX4_isFigure_0 : decode cX4_isFigure 0 = .ok (.iload_n 0, 1) := by decide +kernel
theorem dX4_isFigure_1 : decode cX4_isFigure 1 = .ok (.bipush 48, 2) := by decide +kernel
theorem dX4_isFigure_3 : decode cX4_isFigure 3 = .ok (.if_icmp .lt 13, 3) := by decide +kernel
theorem dX4_isFigure_6 : decode cX4_isFigure 6 = .ok (.iload_n 0, 1) := by decide +kernel
theorem dX4_isFigure_7 : decode cX4_isFigure 7 = .ok (.bipush 57, 2) := by decide +kernel
theorem dX4_isFigure_9 : decode cX4_isFigure 9 = .ok (.if_icmp .gt 7, 3) := by decide +kernel
theorem dX4_isFigure_12 : decode cX4_isFigure 12 = .ok (.iconst 1, 1) := by decide +kernel
theorem dX4_isFigure_13 : decode cX4_isFigure 13 = .ok (.goto 4, 3) := by decide +kernel
theorem dX4_isFigure_16 : decode cX4_isFigure 16 = .ok (.iconst 0, 1) := by decide +kernel
theorem dX4_isFigure_17 : decode cX4_isFigure 17 = .ok (.ireturn, 1) := by decide +kernel
theorem dX5_init_0 : decode cX5_init 0 = .ok (.aload_n 0, 1) := by decide +kernel
theorem dX5_init_1 : decode cX5_init 1 = .ok (.invokespecial 3, 3) := by decide +kernel
theorem dX5_init_4 : decode cX5_init 4 = .ok (.aload_n 0, 1) := by decide +kernel
theorem dX5_init_5 : decode cX5_init 5 = .ok (.bipush 8, 2) := by decide +kernel
theorem dX5_init_7 : decode cX5_init 7 = .ok (.newarray .byte, 2) := by decide +kernel
theorem dX5_init_9 : decode cX5_init 9 = .ok (.putfield 11, 3) := by decide +kernel
theorem dX5_init_12 : decode cX5_init 12 = .ok (.aload_n 0, 1) := by decide +kernel
theorem dX5_init_13 : decode cX5_init 13 = .ok (.iconst 0, 1) := by decide +kernel
theorem dX5_init_14 : decode cX5_init 14 = .ok (.putfield 15, 3) := by decide +kernel
theorem dX5_init_17 : decode cX5_init 17 = .ok (.return_, 1) := by decide +kernel
theorem dX5_byteAt_0 : decode cX5_byteAt 0 = .ok (.iload_n 1, 1) := by decide +kernel
theorem dX5_byteAt_1 : decode cX5_byteAt 1 = .ok (.ifCond .lt 20, 3) := by decide +kernel
theorem dX5_byteAt_4 : decode cX5_byteAt 4 = .ok (.iload_n 1, 1) := by decide +kernel
theorem dX5_byteAt_5 : decode cX5_byteAt 5 = .ok (.aload_n 0, 1) := by decide +kernel
theorem dX5_byteAt_6 : decode cX5_byteAt 6 = .ok (.getfield 15, 3) := by decide +kernel
theorem dX5_byteAt_9 : decode cX5_byteAt 9 = .ok (.if_icmp .ge 12, 3) := by decide +kernel
theorem dX5_byteAt_12 : decode cX5_byteAt 12 = .ok (.aload_n 0, 1) := by decide +kernel
theorem dX5_byteAt_13 : decode cX5_byteAt 13 = .ok (.getfield 11, 3) := by decide +kernel
theorem dX5_byteAt_16 : decode cX5_byteAt 16 = .ok (.iload_n 1, 1) := by decide +kernel
theorem dX5_byteAt_17 : decode cX5_byteAt 17 = .ok (.baload, 1) := by decide +kernel
theorem dX5_byteAt_18 : decode cX5_byteAt 18 = .ok (.goto 5, 3) := by decide +kernel
theorem dX5_byteAt_21 : decode cX5_byteAt 21 = .ok (.bipush (-4), 2) := by decide +kernel
theorem dX5_byteAt_23 : decode cX5_byteAt 23 = .ok (.ireturn, 1) := by decide +kernel
theorem dX5_writeNone_0 : decode cX5_writeNone 0 = .ok (.aload_n 0, 1) := by decide +kernel
theorem dX5_writeNone_1 : decode cX5_writeNone 1 = .ok (.iconst 0, 1) := by decide +kernel
theorem dX5_writeNone_2 : decode cX5_writeNone 2 = .ok (.putfield 15, 3) := by decide +kernel
theorem dX5_writeNone_5 : decode cX5_writeNone 5 = .ok (.aload_n 0, 1) := by decide +kernel
theorem dX5_writeNone_6 : decode cX5_writeNone 6 = .ok (.bipush 110, 2) := by decide +kernel
theorem dX5_writeNone_8 : decode cX5_writeNone 8 = .ok (.invokevirtual 19, 3) := by decide +kernel
theorem dX5_writeNone_11 : decode cX5_writeNone 11 = .ok (.aload_n 0, 1) := by decide +kernel
theorem dX5_writeNone_12 : decode cX5_writeNone 12 = .ok (.bipush 111, 2) := by decide +kernel
theorem dX5_writeNone_14 : decode cX5_writeNone 14 = .ok (.invokevirtual 19, 3) := by decide +kernel
theorem dX5_writeNone_17 : decode cX5_writeNone 17 = .ok (.aload_n 0, 1) := by decide +kernel
theorem dX5_writeNone_18 : decode cX5_writeNone 18 = .ok (.bipush 110, 2) := by decide +kernel
theorem dX5_writeNone_20 : decode cX5_writeNone 20 = .ok (.invokevirtual 19, 3) := by decide +kernel
theorem dX5_writeNone_23 : decode cX5_writeNone 23 = .ok (.aload_n 0, 1) := by decide +kernel
theorem dX5_writeNone_24 : decode cX5_writeNone 24 = .ok (.bipush 101, 2) := by decide +kernel
theorem dX5_writeNone_26 : decode cX5_writeNone 26 = .ok (.invokevirtual 19, 3) := by decide +kernel
theorem dX5_writeNone_29 : decode cX5_writeNone 29 = .ok (.return_, 1) := by decide +kernel
theorem dX5_writeNumber_0 : decode cX5_writeNumber 0 = .ok (.aload_n 0, 1) := by decide +kernel
theorem dX5_writeNumber_1 : decode cX5_writeNumber 1 = .ok (.iconst 0, 1) := by decide +kernel
theorem dX5_writeNumber_2 : decode cX5_writeNumber 2 = .ok (.putfield 15, 3) := by decide +kernel
theorem dX5_writeNumber_5 : decode cX5_writeNumber 5 = .ok (.iload_n 1, 1) := by decide +kernel
theorem dX5_writeNumber_6 : decode cX5_writeNumber 6 = .ok (.ifCond .ge 12, 3) := by decide +kernel
theorem dX5_writeNumber_9 : decode cX5_writeNumber 9 = .ok (.aload_n 0, 1) := by decide +kernel
theorem dX5_writeNumber_10 : decode cX5_writeNumber 10 = .ok (.bipush 45, 2) := by decide +kernel
theorem dX5_writeNumber_12 : decode cX5_writeNumber 12 = .ok (.invokevirtual 19, 3) := by decide +kernel
theorem dX5_writeNumber_15 : decode cX5_writeNumber 15 = .ok (.goto 18, 3) := by decide +kernel
theorem dX5_writeNumber_18 : decode cX5_writeNumber 18 = .ok (.iload_n 1, 1) := by decide +kernel
theorem dX5_writeNumber_19 : decode cX5_writeNumber 19 = .ok (.ifCond .le 14, 3) := by decide +kernel
theorem dX5_writeNumber_22 : decode cX5_writeNumber 22 = .ok (.iload_n 2, 1) := by decide +kernel
theorem dX5_writeNumber_23 : decode cX5_writeNumber 23 = .ok (.iconst 2, 1) := by decide +kernel
theorem dX5_writeNumber_24 : decode cX5_writeNumber 24 = .ok (.if_icmp .ne 9, 3) := by decide +kernel
theorem dX5_writeNumber_27 : decode cX5_writeNumber 27 = .ok (.aload_n 0, 1) := by decide +kernel
theorem dX5_writeNumber_28 : decode cX5_writeNumber 28 = .ok (.bipush 43, 2) := by decide +kernel
theorem dX5_writeNumber_30 : decode cX5_writeNumber 30 = .ok (.invokevirtual 19, 3) := by decide +kernel
theorem dX5_writeNumber_33 : decode cX5_writeNumber 33 = .ok (.iload_n 1, 1) := by decide +kernel
theorem dX5_writeNumber_34 : decode cX5_writeNumber 34 = .ok (.invokestatic 23, 3) := by decide +kernel
theorem dX5_writeNumber_37 : decode cX5_writeNumber 37 = .ok (.istore_n 3, 1) := by decide +kernel
theorem dX5_writeNumber_38 : decode cX5_writeNumber 38 = .ok (.aload_n 0, 1) := by decide +kernel
theorem dX5_writeNumber_39 : decode cX5_writeNumber 39 = .ok (.iload_n 3, 1) := by decide +kernel
theorem dX5_writeNumber_40 : decode cX5_writeNumber 40 = .ok (.bipush 100, 2) := by decide +kernel
theorem dX5_writeNumber_42 : decode cX5_writeNumber 42 = .ok (.idiv, 1) := by decide +kernel
theorem dX5_writeNumber_43 : decode cX5_writeNumber 43 = .ok (.invokevirtual 29, 3) := by decide +kernel
theorem dX5_writeNumber_46 : decode cX5_writeNumber 46 = .ok (.iload_n 3, 1) := by decide +kernel
theorem dX5_writeNumber_47 : decode cX5_writeNumber 47 = .ok (.bipush 10, 2) := by decide +kernel
theorem dX5_writeNumber_49 : decode cX5_writeNumber 49 = .ok (.idiv, 1) := by decide +kernel
theorem dX5_writeNumber_50 : decode cX5_writeNumber 50 = .ok (.bipush 10, 2) := by decide +kernel
theorem dX5_writeNumber_52 : decode cX5_writeNumber 52 = .ok (.irem, 1) := by decide +kernel
theorem dX5_writeNumber_53 : decode cX5_writeNumber 53 = .ok (.istore 4, 2) := by decide +kernel
theorem dX5_writeNumber_55 : decode cX5_writeNumber 55 = .ok (.iload_n 3, 1) := by decide +kernel
theorem dX5_writeNumber_56 : decode cX5_writeNumber 56 = .ok (.bipush 10, 2) := by decide +kernel
theorem dX5_writeNumber_58 : decode cX5_writeNumber 58 = .ok (.irem, 1) := by decide +kernel
theorem dX5_writeNumber_59 : decode cX5_writeNumber 59 = .ok (.istore 5, 2) := by decide +kernel
theorem dX5_writeNumber_61 : decode cX5_writeNumber 61 = .ok (.iload_n 2, 1) := by decide +kernel
theorem dX5_writeNumber_62 : decode cX5_writeNumber 62 = .ok (.iconst 1, 1) := by decide +kernel
theorem dX5_writeNumber_63 : decode cX5_writeNumber 63 = .ok (.if_icmp .eq 8, 3) := by decide +kernel
theorem dX5_writeNumber_66 : decode cX5_writeNumber 66 = .ok (.iload 5, 2) := by decide +kernel
theorem dX5_writeNumber_68 : decode cX5_writeNumber 68 = .ok (.ifCond .le 7, 3) := by decide +kernel
theorem dX5_writeNumber_71 : decode cX5_writeNumber 71 = .ok (.iconst 1, 1) := by decide +kernel
theorem dX5_writeNumber_72 : decode cX5_writeNumber 72 = .ok (.goto 4, 3) := by decide +kernel
theorem dX5_writeNumber_75 : decode cX5_writeNumber 75 = .ok (.iconst 0, 1) := by decide +kernel
theorem dX5_writeNumber_76 : decode cX5_writeNumber 76 = .ok (.istore 6, 2) := by decide +kernel
theorem dX5_writeNumber_78 : decode cX5_writeNumber 78 = .ok (.iload 6, 2) := by decide +kernel
theorem dX5_writeNumber_80 : decode cX5_writeNumber 80 = .ok (.ifCond .ne 8, 3) := by decide +kernel
theorem dX5_writeNumber_83 : decode cX5_writeNumber 83 = .ok (.iload 4, 2) := by decide +kernel
theorem dX5_writeNumber_85 : decode cX5_writeNumber 85 = .ok (.ifCond .le 18, 3) := by decide +kernel
theorem dX5_writeNumber_88 : decode cX5_writeNumber 88 = .ok (.aload_n 0, 1) := by decide +kernel
theorem dX5_writeNumber_89 : decode cX5_writeNumber 89 = .ok (.bipush 46, 2) := by decide +kernel
theorem dX5_writeNumber_91 : decode cX5_writeNumber 91 = .ok (.invokevirtual 19, 3) := by decide +kernel
theorem dX5_writeNumber_94 : decode cX5_writeNumber 94 = .ok (.aload_n 0, 1) := by decide +kernel
theorem dX5_writeNumber_95 : decode cX5_writeNumber 95 = .ok (.bipush 48, 2) := by decide +kernel
theorem dX5_writeNumber_97 : decode cX5_writeNumber 97 = .ok (.iload 4, 2) := by decide +kernel
theorem dX5_writeNumber_99 : decode cX5_writeNumber 99 = .ok (.iadd, 1) := by decide +kernel
theorem dX5_writeNumber_100 : decode cX5_writeNumber 100 = .ok (.invokevirtual 19, 3) := by decide +kernel
theorem dX5_writeNumber_103 : decode cX5_writeNumber 103 = .ok (.iload 6, 2) := by decide +kernel
theorem dX5_writeNumber_105 : decode cX5_writeNumber 105 = .ok (.ifCond .eq 12, 3) := by decide +kernel
theorem dX5_writeNumber_108 : decode cX5_writeNumber 108 = .ok (.aload_n 0, 1) := by decide +kernel
theorem dX5_writeNumber_109 : decode cX5_writeNumber 109 = .ok (.bipush 48, 2) := by decide +kernel
theorem dX5_writeNumber_111 : decode cX5_writeNumber 111 = .ok (.iload 5, 2) := by decide +kernel
theorem dX5_writeNumber_113 : decode cX5_writeNumber 113 = .ok (.iadd, 1) := by decide +kernel
theorem dX5_writeNumber_114 : decode cX5_writeNumber 114 = .ok (.invokevirtual 19, 3) := by decide +kernel
theorem dX5_writeNumber_117 : decode cX5_writeNumber 117 = .ok (.return_, 1) := by decide +kernel
theorem dX5_writeWhole_0 : decode cX5_writeWhole 0 = .ok (.sipush 1000, 3) := by decide +kernel
theorem dX5_writeWhole_3 : decode cX5_writeWhole 3 = .ok (.istore_n 2, 1) := by decide +kernel
theorem dX5_writeWhole_4 : decode cX5_writeWhole 4 = .ok (.iload_n 2, 1) := by decide +kernel
theorem dX5_writeWhole_5 : decode cX5_writeWhole 5 = .ok (.iconst 1, 1) := by decide +kernel
theorem dX5_writeWhole_6 : decode cX5_writeWhole 6 = .ok (.if_icmp .lt 34, 3) := by decide +kernel
theorem dX5_writeWhole_9 : decode cX5_writeWhole 9 = .ok (.iload_n 1, 1) := by decide +kernel
theorem dX5_writeWhole_10 : decode cX5_writeWhole 10 = .ok (.iload_n 2, 1) := by decide +kernel
theorem dX5_writeWhole_11 : decode cX5_writeWhole 11 = .ok (.if_icmp .ge 8, 3) := by decide +kernel
theorem dX5_writeWhole_14 : decode cX5_writeWhole 14 = .ok (.iload_n 2, 1) := by decide +kernel
theorem dX5_writeWhole_15 : decode cX5_writeWhole 15 = .ok (.iconst 1, 1) := by decide +kernel
theorem dX5_writeWhole_16 : decode cX5_writeWhole 16 = .ok (.if_icmp .ne 16, 3) := by decide +kernel
theorem dX5_writeWhole_19 : decode cX5_writeWhole 19 = .ok (.aload_n 0, 1) := by decide +kernel
theorem dX5_writeWhole_20 : decode cX5_writeWhole 20 = .ok (.bipush 48, 2) := by decide +kernel
theorem dX5_writeWhole_22 : decode cX5_writeWhole 22 = .ok (.iload_n 1, 1) := by decide +kernel
theorem dX5_writeWhole_23 : decode cX5_writeWhole 23 = .ok (.iload_n 2, 1) := by decide +kernel
theorem dX5_writeWhole_24 : decode cX5_writeWhole 24 = .ok (.idiv, 1) := by decide +kernel
theorem dX5_writeWhole_25 : decode cX5_writeWhole 25 = .ok (.bipush 10, 2) := by decide +kernel
theorem dX5_writeWhole_27 : decode cX5_writeWhole 27 = .ok (.irem, 1) := by decide +kernel
theorem dX5_writeWhole_28 : decode cX5_writeWhole 28 = .ok (.iadd, 1) := by decide +kernel
theorem dX5_writeWhole_29 : decode cX5_writeWhole 29 = .ok (.invokevirtual 19, 3) := by decide +kernel
theorem dX5_writeWhole_32 : decode cX5_writeWhole 32 = .ok (.iload_n 2, 1) := by decide +kernel
theorem dX5_writeWhole_33 : decode cX5_writeWhole 33 = .ok (.bipush 10, 2) := by decide +kernel
theorem dX5_writeWhole_35 : decode cX5_writeWhole 35 = .ok (.idiv, 1) := by decide +kernel
theorem dX5_writeWhole_36 : decode cX5_writeWhole 36 = .ok (.istore_n 2, 1) := by decide +kernel
theorem dX5_writeWhole_37 : decode cX5_writeWhole 37 = .ok (.goto (-33), 3) := by decide +kernel
theorem dX5_writeWhole_40 : decode cX5_writeWhole 40 = .ok (.return_, 1) := by decide +kernel
theorem dX5_push_0 : decode cX5_push 0 = .ok (.aload_n 0, 1) := by decide +kernel
theorem dX5_push_1 : decode cX5_push 1 = .ok (.getfield 15, 3) := by decide +kernel
theorem dX5_push_4 : decode cX5_push 4 = .ok (.aload_n 0, 1) := by decide +kernel
theorem dX5_push_5 : decode cX5_push 5 = .ok (.getfield 11, 3) := by decide +kernel
theorem dX5_push_8 : decode cX5_push 8 = .ok (.arraylength, 1) := by decide +kernel
theorem dX5_push_9 : decode cX5_push 9 = .ok (.if_icmp .ge 24, 3) := by decide +kernel
theorem dX5_push_12 : decode cX5_push 12 = .ok (.aload_n 0, 1) := by decide +kernel
theorem dX5_push_13 : decode cX5_push 13 = .ok (.getfield 11, 3) := by decide +kernel
theorem dX5_push_16 : decode cX5_push 16 = .ok (.aload_n 0, 1) := by decide +kernel
theorem dX5_push_17 : decode cX5_push 17 = .ok (.getfield 15, 3) := by decide +kernel
theorem dX5_push_20 : decode cX5_push 20 = .ok (.iload_n 1, 1) := by decide +kernel
theorem dX5_push_21 : decode cX5_push 21 = .ok (.i2b, 1) := by decide +kernel
theorem dX5_push_22 : decode cX5_push 22 = .ok (.bastore, 1) := by decide +kernel
theorem dX5_push_23 : decode cX5_push 23 = .ok (.aload_n 0, 1) := by decide +kernel
theorem dX5_push_24 : decode cX5_push 24 = .ok (.dup, 1) := by decide +kernel
theorem dX5_push_25 : decode cX5_push 25 = .ok (.getfield 15, 3) := by decide +kernel
theorem dX5_push_28 : decode cX5_push 28 = .ok (.iconst 1, 1) := by decide +kernel
theorem dX5_push_29 : decode cX5_push 29 = .ok (.iadd, 1) := by decide +kernel
theorem dX5_push_30 : decode cX5_push 30 = .ok (.putfield 15, 3) := by decide +kernel
theorem dX5_push_33 : decode cX5_push 33 = .ok (.return_, 1) := by decide +kernel
theorem dX6_init_0 : decode cX6_init 0 = .ok (.aload_n 0, 1) := by decide +kernel
theorem dX6_init_1 : decode cX6_init 1 = .ok (.invokespecial 1, 3) := by decide +kernel
theorem dX6_init_4 : decode cX6_init 4 = .ok (.aload_n 0, 1) := by decide +kernel
theorem dX6_init_5 : decode cX6_init 5 = .ok (.new 7, 3) := by decide +kernel
theorem dX6_init_8 : decode cX6_init 8 = .ok (.dup, 1) := by decide +kernel
theorem dX6_init_9 : decode cX6_init 9 = .ok (.invokespecial 9, 3) := by decide +kernel
theorem dX6_init_12 : decode cX6_init 12 = .ok (.putfield 10, 3) := by decide +kernel
theorem dX6_init_15 : decode cX6_init 15 = .ok (.aload_n 0, 1) := by decide +kernel
theorem dX6_init_16 : decode cX6_init 16 = .ok (.new 16, 3) := by decide +kernel
theorem dX6_init_19 : decode cX6_init 19 = .ok (.dup, 1) := by decide +kernel
theorem dX6_init_20 : decode cX6_init 20 = .ok (.invokespecial 18, 3) := by decide +kernel
theorem dX6_init_23 : decode cX6_init 23 = .ok (.putfield 19, 3) := by decide +kernel
theorem dX6_init_26 : decode cX6_init 26 = .ok (.aload_n 0, 1) := by decide +kernel
theorem dX6_init_27 : decode cX6_init 27 = .ok (.new 23, 3) := by decide +kernel
theorem dX6_init_30 : decode cX6_init 30 = .ok (.dup, 1) := by decide +kernel
theorem dX6_init_31 : decode cX6_init 31 = .ok (.invokespecial 25, 3) := by decide +kernel
theorem dX6_init_34 : decode cX6_init 34 = .ok (.putfield 26, 3) := by decide +kernel
theorem dX6_init_37 : decode cX6_init 37 = .ok (.aload_n 0, 1) := by decide +kernel
theorem dX6_init_38 : decode cX6_init 38 = .ok (.new 30, 3) := by decide +kernel
theorem dX6_init_41 : decode cX6_init 41 = .ok (.dup, 1) := by decide +kernel
theorem dX6_init_42 : decode cX6_init 42 = .ok (.aload_n 0, 1) := by decide +kernel
theorem dX6_init_43 : decode cX6_init 43 = .ok (.getfield 26, 3) := by decide +kernel
theorem dX6_init_46 : decode cX6_init 46 = .ok (.invokespecial 32, 3) := by decide +kernel
theorem dX6_init_49 : decode cX6_init 49 = .ok (.putfield 35, 3) := by decide +kernel
theorem dX6_init_52 : decode cX6_init 52 = .ok (.aload_n 0, 1) := by decide +kernel
theorem dX6_init_53 : decode cX6_init 53 = .ok (.new 39, 3) := by decide +kernel
theorem dX6_init_56 : decode cX6_init 56 = .ok (.dup, 1) := by decide +kernel
theorem dX6_init_57 : decode cX6_init 57 = .ok (.invokespecial 41, 3) := by decide +kernel
theorem dX6_init_60 : decode cX6_init 60 = .ok (.putfield 42, 3) := by decide +kernel
theorem dX6_init_63 : decode cX6_init 63 = .ok (.aload_n 0, 1) := by decide +kernel
theorem dX6_init_64 : decode cX6_init 64 = .ok (.iconst 2, 1) := by decide +kernel
theorem dX6_init_65 : decode cX6_init 65 = .ok (.anewarray 23, 3) := by decide +kernel
theorem dX6_init_68 : decode cX6_init 68 = .ok (.dup, 1) := by decide +kernel
theorem dX6_init_69 : decode cX6_init 69 = .ok (.iconst 0, 1) := by decide +kernel
theorem dX6_init_70 : decode cX6_init 70 = .ok (.new 23, 3) := by decide +kernel
theorem dX6_init_73 : decode cX6_init 73 = .ok (.dup, 1) := by decide +kernel
theorem dX6_init_74 : decode cX6_init 74 = .ok (.invokespecial 25, 3) := by decide +kernel
theorem dX6_init_77 : decode cX6_init 77 = .ok (.aastore, 1) := by decide +kernel
theorem dX6_init_78 : decode cX6_init 78 = .ok (.dup, 1) := by decide +kernel
theorem dX6_init_79 : decode cX6_init 79 = .ok (.iconst 1, 1) := by decide +kernel
theorem dX6_init_80 : decode cX6_init 80 = .ok (.new 23, 3) := by decide +kernel
theorem dX6_init_83 : decode cX6_init 83 = .ok (.dup, 1) := by decide +kernel
theorem dX6_init_84 : decode cX6_init 84 = .ok (.invokespecial 25, 3) := by decide +kernel
theorem dX6_init_87 : decode cX6_init 87 = .ok (.aastore, 1) := by decide +kernel
theorem dX6_init_88 : decode cX6_init 88 = .ok (.putfield 46, 3) := by decide +kernel
theorem dX6_init_91 : decode cX6_init 91 = .ok (.aload_n 0, 1) := by decide +kernel
theorem dX6_init_92 : decode cX6_init 92 = .ok (.iconst 2, 1) := by decide +kernel
theorem dX6_init_93 : decode cX6_init 93 = .ok (.newarray .boolean, 2) := by decide +kernel
theorem dX6_init_95 : decode cX6_init 95 = .ok (.dup, 1) := by decide +kernel
theorem dX6_init_96 : decode cX6_init 96 = .ok (.iconst 0, 1) := by decide +kernel
theorem dX6_init_97 : decode cX6_init 97 = .ok (.iconst 0, 1) := by decide +kernel
theorem dX6_init_98 : decode cX6_init 98 = .ok (.bastore, 1) := by decide +kernel
theorem dX6_init_99 : decode cX6_init 99 = .ok (.dup, 1) := by decide +kernel
theorem dX6_init_100 : decode cX6_init 100 = .ok (.iconst 1, 1) := by decide +kernel
theorem dX6_init_101 : decode cX6_init 101 = .ok (.iconst 0, 1) := by decide +kernel
theorem dX6_init_102 : decode cX6_init 102 = .ok (.bastore, 1) := by decide +kernel
theorem dX6_init_103 : decode cX6_init 103 = .ok (.putfield 50, 3) := by decide +kernel
theorem dX6_init_106 : decode cX6_init 106 = .ok (.aload_n 0, 1) := by decide +kernel
theorem dX6_init_107 : decode cX6_init 107 = .ok (.iconst 4, 1) := by decide +kernel
theorem dX6_init_108 : decode cX6_init 108 = .ok (.anewarray 54, 3) := by decide +kernel
theorem dX6_init_111 : decode cX6_init 111 = .ok (.dup, 1) := by decide +kernel
theorem dX6_init_112 : decode cX6_init 112 = .ok (.iconst 0, 1) := by decide +kernel
theorem dX6_init_113 : decode cX6_init 113 = .ok (.new 54, 3) := by decide +kernel
theorem dX6_init_116 : decode cX6_init 116 = .ok (.dup, 1) := by decide +kernel
theorem dX6_init_117 : decode cX6_init 117 = .ok (.invokespecial 56, 3) := by decide +kernel
theorem dX6_init_120 : decode cX6_init 120 = .ok (.aastore, 1) := by decide +kernel
theorem dX6_init_121 : decode cX6_init 121 = .ok (.dup, 1) := by decide +kernel
theorem dX6_init_122 : decode cX6_init 122 = .ok (.iconst 1, 1) := by decide +kernel
theorem dX6_init_123 : decode cX6_init 123 = .ok (.new 54, 3) := by decide +kernel
theorem dX6_init_126 : decode cX6_init 126 = .ok (.dup, 1) := by decide +kernel
theorem dX6_init_127 : decode cX6_init 127 = .ok (.invokespecial 56, 3) := by decide +kernel
theorem dX6_init_130 : decode cX6_init 130 = .ok (.aastore, 1) := by decide +kernel
theorem dX6_init_131 : decode cX6_init 131 = .ok (.dup, 1) := by decide +kernel
theorem dX6_init_132 : decode cX6_init 132 = .ok (.iconst 2, 1) := by decide +kernel
theorem dX6_init_133 : decode cX6_init 133 = .ok (.new 54, 3) := by decide +kernel
theorem dX6_init_136 : decode cX6_init 136 = .ok (.dup, 1) := by decide +kernel
theorem dX6_init_137 : decode cX6_init 137 = .ok (.invokespecial 56, 3) := by decide +kernel
theorem dX6_init_140 : decode cX6_init 140 = .ok (.aastore, 1) := by decide +kernel
theorem dX6_init_141 : decode cX6_init 141 = .ok (.dup, 1) := by decide +kernel
theorem dX6_init_142 : decode cX6_init 142 = .ok (.iconst 3, 1) := by decide +kernel
theorem dX6_init_143 : decode cX6_init 143 = .ok (.new 54, 3) := by decide +kernel
theorem dX6_init_146 : decode cX6_init 146 = .ok (.dup, 1) := by decide +kernel
theorem dX6_init_147 : decode cX6_init 147 = .ok (.invokespecial 56, 3) := by decide +kernel
theorem dX6_init_150 : decode cX6_init 150 = .ok (.aastore, 1) := by decide +kernel
theorem dX6_init_151 : decode cX6_init 151 = .ok (.putfield 57, 3) := by decide +kernel
theorem dX6_init_154 : decode cX6_init 154 = .ok (.aload_n 0, 1) := by decide +kernel
theorem dX6_init_155 : decode cX6_init 155 = .ok (.iconst 0, 1) := by decide +kernel
theorem dX6_init_156 : decode cX6_init 156 = .ok (.putfield 61, 3) := by decide +kernel
theorem dX6_init_159 : decode cX6_init 159 = .ok (.return_, 1) := by decide +kernel
theorem dX6_feed_0 : decode cX6_feed 0 = .ok (.iload_n 1, 1) := by decide +kernel
theorem dX6_feed_1 : decode cX6_feed 1 = .ok (.ifCond .lt 9, 3) := by decide +kernel
theorem dX6_feed_4 : decode cX6_feed 4 = .ok (.iload_n 1, 1) := by decide +kernel
theorem dX6_feed_5 : decode cX6_feed 5 = .ok (.bipush 127, 2) := by decide +kernel
theorem dX6_feed_7 : decode cX6_feed 7 = .ok (.if_icmp .le 5, 3) := by decide +kernel
theorem dX6_feed_10 : decode cX6_feed 10 = .ok (.iconst (-1), 1) := by decide +kernel
theorem dX6_feed_11 : decode cX6_feed 11 = .ok (.ireturn, 1) := by decide +kernel
theorem dX6_feed_12 : decode cX6_feed 12 = .ok (.aload_n 0, 1) := by decide +kernel
theorem dX6_feed_13 : decode cX6_feed 13 = .ok (.getfield 10, 3) := by decide +kernel
theorem dX6_feed_16 : decode cX6_feed 16 = .ok (.invokevirtual 65, 3) := by decide +kernel
theorem dX6_feed_19 : decode cX6_feed 19 = .ok (.ifCond .eq 6, 3) := by decide +kernel
theorem dX6_feed_22 : decode cX6_feed 22 = .ok (.bipush (-3), 2) := by decide +kernel
theorem dX6_feed_24 : decode cX6_feed 24 = .ok (.ireturn, 1) := by decide +kernel
theorem dX6_feed_25 : decode cX6_feed 25 = .ok (.aload_n 0, 1) := by decide +kernel
theorem dX6_feed_26 : decode cX6_feed 26 = .ok (.getfield 10, 3) := by decide +kernel
theorem dX6_feed_29 : decode cX6_feed 29 = .ok (.iload_n 1, 1) := by decide +kernel
theorem dX6_feed_30 : decode cX6_feed 30 = .ok (.invokevirtual 69, 3) := by decide +kernel
theorem dX6_feed_33 : decode cX6_feed 33 = .ok (.aload_n 0, 1) := by decide +kernel
theorem dX6_feed_34 : decode cX6_feed 34 = .ok (.getfield 10, 3) := by decide +kernel
theorem dX6_feed_37 : decode cX6_feed 37 = .ok (.getfield 73, 3) := by decide +kernel
theorem dX6_feed_40 : decode cX6_feed 40 = .ok (.ireturn, 1) := by decide +kernel
theorem dX6_end_0 : decode cX6_end 0 = .ok (.aload_n 0, 1) := by decide +kernel
theorem dX6_end_1 : decode cX6_end 1 = .ok (.getfield 10, 3) := by decide +kernel
theorem dX6_end_4 : decode cX6_end 4 = .ok (.getfield 73, 3) := by decide +kernel
theorem dX6_end_7 : decode cX6_end 7 = .ok (.istore_n 2, 1) := by decide +kernel
theorem dX6_end_8 : decode cX6_end 8 = .ok (.iload_n 1, 1) := by decide +kernel
theorem dX6_end_9 : decode cX6_end 9 = .ok (.ifCond .lt 8, 3) := by decide +kernel
theorem dX6_end_12 : decode cX6_end 12 = .ok (.iload_n 1, 1) := by decide +kernel
theorem dX6_end_13 : decode cX6_end 13 = .ok (.iload_n 2, 1) := by decide +kernel
theorem dX6_end_14 : decode cX6_end 14 = .ok (.if_icmp .le 5, 3) := by decide +kernel
theorem dX6_end_17 : decode cX6_end 17 = .ok (.iconst (-1), 1) := by decide +kernel
theorem dX6_end_18 : decode cX6_end 18 = .ok (.ireturn, 1) := by decide +kernel
theorem dX6_end_19 : decode cX6_end 19 = .ok (.aload_n 0, 1) := by decide +kernel
theorem dX6_end_20 : decode cX6_end 20 = .ok (.getfield 10, 3) := by decide +kernel
theorem dX6_end_23 : decode cX6_end 23 = .ok (.iload_n 1, 1) := by decide +kernel
theorem dX6_end_24 : decode cX6_end 24 = .ok (.putfield 73, 3) := by decide +kernel
theorem dX6_end_27 : decode cX6_end 27 = .ok (.iload_n 2, 1) := by decide +kernel
theorem dX6_end_28 : decode cX6_end 28 = .ok (.ireturn, 1) := by decide +kernel
theorem dX6_text_0 : decode cX6_text 0 = .ok (.aload_n 0, 1) := by decide +kernel
theorem dX6_text_1 : decode cX6_text 1 = .ok (.getfield 19, 3) := by decide +kernel
theorem dX6_text_4 : decode cX6_text 4 = .ok (.aload_n 0, 1) := by decide +kernel
theorem dX6_text_5 : decode cX6_text 5 = .ok (.getfield 10, 3) := by decide +kernel
theorem dX6_text_8 : decode cX6_text 8 = .ok (.invokevirtual 76, 3) := by decide +kernel
theorem dX6_text_11 : decode cX6_text 11 = .ok (.istore_n 1, 1) := by decide +kernel
theorem dX6_text_12 : decode cX6_text 12 = .ok (.aload_n 0, 1) := by decide +kernel
theorem dX6_text_13 : decode cX6_text 13 = .ok (.getfield 10, 3) := by decide +kernel
theorem dX6_text_16 : decode cX6_text 16 = .ok (.iconst 0, 1) := by decide +kernel
theorem dX6_text_17 : decode cX6_text 17 = .ok (.putfield 73, 3) := by decide +kernel
theorem dX6_text_20 : decode cX6_text 20 = .ok (.iload_n 1, 1) := by decide +kernel
theorem dX6_text_21 : decode cX6_text 21 = .ok (.ifCond .ne 14, 3) := by decide +kernel
theorem dX6_text_24 : decode cX6_text 24 = .ok (.bipush (-10), 2) := by decide +kernel
theorem dX6_text_26 : decode cX6_text 26 = .ok (.aload_n 0, 1) := by decide +kernel
theorem dX6_text_27 : decode cX6_text 27 = .ok (.getfield 19, 3) := by decide +kernel
theorem dX6_text_30 : decode cX6_text 30 = .ok (.getfield 80, 3) := by decide +kernel
theorem dX6_text_33 : decode cX6_text 33 = .ok (.isub, 1) := by decide +kernel
theorem dX6_text_34 : decode cX6_text 34 = .ok (.ireturn, 1) := by decide +kernel
theorem dX6_text_35 : decode cX6_text 35 = .ok (.aload_n 0, 1) := by decide +kernel
theorem dX6_text_36 : decode cX6_text 36 = .ok (.getfield 26, 3) := by decide +kernel
theorem dX6_text_39 : decode cX6_text 39 = .ok (.aload_n 0, 1) := by decide +kernel
theorem dX6_text_40 : decode cX6_text 40 = .ok (.getfield 19, 3) := by decide +kernel
theorem dX6_text_43 : decode cX6_text 43 = .ok (.getfield 83, 3) := by decide +kernel
theorem dX6_text_46 : decode cX6_text 46 = .ok (.invokevirtual 86, 3) := by decide +kernel
theorem dX6_text_49 : decode cX6_text 49 = .ok (.iconst 0, 1) := by decide +kernel
theorem dX6_text_50 : decode cX6_text 50 = .ok (.istore_n 2, 1) := by decide +kernel
theorem dX6_text_51 : decode cX6_text 51 = .ok (.iload_n 2, 1) := by decide +kernel
theorem dX6_text_52 : decode cX6_text 52 = .ok (.aload_n 0, 1) := by decide +kernel
theorem dX6_text_53 : decode cX6_text 53 = .ok (.getfield 50, 3) := by decide +kernel
theorem dX6_text_56 : decode cX6_text 56 = .ok (.arraylength, 1) := by decide +kernel
theorem dX6_text_57 : decode cX6_text 57 = .ok (.if_icmp .ge 16, 3) := by decide +kernel
theorem dX6_text_60 : decode cX6_text 60 = .ok (.aload_n 0, 1) := by decide +kernel
theorem dX6_text_61 : decode cX6_text 61 = .ok (.getfield 50, 3) := by decide +kernel
theorem dX6_text_64 : decode cX6_text 64 = .ok (.iload_n 2, 1) := by decide +kernel
theorem dX6_text_65 : decode cX6_text 65 = .ok (.iconst 0, 1) := by decide +kernel
theorem dX6_text_66 : decode cX6_text 66 = .ok (.bastore, 1) := by decide +kernel
theorem dX6_text_67 : decode cX6_text 67 = .ok (.iinc 2 1, 3) := by decide +kernel
theorem dX6_text_70 : decode cX6_text 70 = .ok (.goto (-19), 3) := by decide +kernel
theorem dX6_text_73 : decode cX6_text 73 = .ok (.aload_n 0, 1) := by decide +kernel
theorem dX6_text_74 : decode cX6_text 74 = .ok (.getfield 26, 3) := by decide +kernel
theorem dX6_text_77 : decode cX6_text 77 = .ok (.getfield 89, 3) := by decide +kernel
theorem dX6_text_80 : decode cX6_text 80 = .ok (.ireturn, 1) := by decide +kernel
theorem dX6_fault_0 : decode cX6_fault 0 = .ok (.aload_n 0, 1) := by decide +kernel
theorem dX6_fault_1 : decode cX6_fault 1 = .ok (.getfield 19, 3) := by decide +kernel
theorem dX6_fault_4 : decode cX6_fault 4 = .ok (.getfield 92, 3) := by decide +kernel
theorem dX6_fault_7 : decode cX6_fault 7 = .ok (.ireturn, 1) := by decide +kernel
theorem dX6_rule_0 : decode cX6_rule 0 = .ok (.iload_n 1, 1) := by decide +kernel
theorem dX6_rule_1 : decode cX6_rule 1 = .ok (.tableswitch 120 0 8 #[51, 59, 67, 75, 83, 91, 99, 107, 115], 51) := by decide +kernel
theorem dX6_rule_52 : decode cX6_rule 52 = .ok (.aload_n 0, 1) := by decide +kernel
theorem dX6_rule_53 : decode cX6_rule 53 = .ok (.getfield 26, 3) := by decide +kernel
theorem dX6_rule_56 : decode cX6_rule 56 = .ok (.getfield 89, 3) := by decide +kernel
theorem dX6_rule_59 : decode cX6_rule 59 = .ok (.ireturn, 1) := by decide +kernel
theorem dX6_rule_60 : decode cX6_rule 60 = .ok (.aload_n 0, 1) := by decide +kernel
theorem dX6_rule_61 : decode cX6_rule 61 = .ok (.getfield 26, 3) := by decide +kernel
theorem dX6_rule_64 : decode cX6_rule 64 = .ok (.invokevirtual 95, 3) := by decide +kernel
theorem dX6_rule_67 : decode cX6_rule 67 = .ok (.ireturn, 1) := by decide +kernel
theorem dX6_rule_68 : decode cX6_rule 68 = .ok (.aload_n 0, 1) := by decide +kernel
theorem dX6_rule_69 : decode cX6_rule 69 = .ok (.getfield 26, 3) := by decide +kernel
theorem dX6_rule_72 : decode cX6_rule 72 = .ok (.getfield 99, 3) := by decide +kernel
theorem dX6_rule_75 : decode cX6_rule 75 = .ok (.ireturn, 1) := by decide +kernel
theorem dX6_rule_76 : decode cX6_rule 76 = .ok (.aload_n 0, 1) := by decide +kernel
theorem dX6_rule_77 : decode cX6_rule 77 = .ok (.getfield 26, 3) := by decide +kernel
theorem dX6_rule_80 : decode cX6_rule 80 = .ok (.getfield 102, 3) := by decide +kernel
theorem dX6_rule_83 : decode cX6_rule 83 = .ok (.ireturn, 1) := by decide +kernel
theorem dX6_rule_84 : decode cX6_rule 84 = .ok (.aload_n 0, 1) := by decide +kernel
theorem dX6_rule_85 : decode cX6_rule 85 = .ok (.getfield 26, 3) := by decide +kernel
theorem dX6_rule_88 : decode cX6_rule 88 = .ok (.getfield 105, 3) := by decide +kernel
theorem dX6_rule_91 : decode cX6_rule 91 = .ok (.ireturn, 1) := by decide +kernel
theorem dX6_rule_92 : decode cX6_rule 92 = .ok (.aload_n 0, 1) := by decide +kernel
theorem dX6_rule_93 : decode cX6_rule 93 = .ok (.getfield 26, 3) := by decide +kernel
theorem dX6_rule_96 : decode cX6_rule 96 = .ok (.getfield 108, 3) := by decide +kernel
theorem dX6_rule_99 : decode cX6_rule 99 = .ok (.ireturn, 1) := by decide +kernel
theorem dX6_rule_100 : decode cX6_rule 100 = .ok (.aload_n 0, 1) := by decide +kernel
theorem dX6_rule_101 : decode cX6_rule 101 = .ok (.getfield 26, 3) := by decide +kernel
theorem dX6_rule_104 : decode cX6_rule 104 = .ok (.getfield 111, 3) := by decide +kernel
theorem dX6_rule_107 : decode cX6_rule 107 = .ok (.ireturn, 1) := by decide +kernel
theorem dX6_rule_108 : decode cX6_rule 108 = .ok (.aload_n 0, 1) := by decide +kernel
theorem dX6_rule_109 : decode cX6_rule 109 = .ok (.getfield 26, 3) := by decide +kernel
theorem dX6_rule_112 : decode cX6_rule 112 = .ok (.getfield 114, 3) := by decide +kernel
theorem dX6_rule_115 : decode cX6_rule 115 = .ok (.ireturn, 1) := by decide +kernel
theorem dX6_rule_116 : decode cX6_rule 116 = .ok (.aload_n 0, 1) := by decide +kernel
theorem dX6_rule_117 : decode cX6_rule 117 = .ok (.invokevirtual 117, 3) := by decide +kernel
theorem dX6_rule_120 : decode cX6_rule 120 = .ok (.ireturn, 1) := by decide +kernel
theorem dX6_rule_121 : decode cX6_rule 121 = .ok (.iconst (-1), 1) := by decide +kernel
theorem dX6_rule_122 : decode cX6_rule 122 = .ok (.ireturn, 1) := by decide +kernel
theorem dX6_reading_0 : decode cX6_reading 0 = .ok (.aload_n 0, 1) := by decide +kernel
theorem dX6_reading_1 : decode cX6_reading 1 = .ok (.getfield 26, 3) := by decide +kernel
theorem dX6_reading_4 : decode cX6_reading 4 = .ok (.iload_n 1, 1) := by decide +kernel
theorem dX6_reading_5 : decode cX6_reading 5 = .ok (.invokevirtual 120, 3) := by decide +kernel
theorem dX6_reading_8 : decode cX6_reading 8 = .ok (.ireturn, 1) := by decide +kernel
theorem dX6_row_0 : decode cX6_row 0 = .ok (.aload_n 0, 1) := by decide +kernel
theorem dX6_row_1 : decode cX6_row 1 = .ok (.getfield 26, 3) := by decide +kernel
theorem dX6_row_4 : decode cX6_row 4 = .ok (.iload_n 1, 1) := by decide +kernel
theorem dX6_row_5 : decode cX6_row 5 = .ok (.invokevirtual 124, 3) := by decide +kernel
theorem dX6_row_8 : decode cX6_row 8 = .ok (.ifCond .eq 12, 3) := by decide +kernel
theorem dX6_row_11 : decode cX6_row 11 = .ok (.iload_n 2, 1) := by decide +kernel
theorem dX6_row_12 : decode cX6_row 12 = .ok (.ifCond .lt 8, 3) := by decide +kernel
theorem dX6_row_15 : decode cX6_row 15 = .ok (.iload_n 2, 1) := by decide +kernel
theorem dX6_row_16 : decode cX6_row 16 = .ok (.iconst 2, 1) := by decide +kernel
theorem dX6_row_17 : decode cX6_row 17 = .ok (.if_icmp .le 5, 3) := by decide +kernel
theorem dX6_row_20 : decode cX6_row 20 = .ok (.iconst (-1), 1) := by decide +kernel
theorem dX6_row_21 : decode cX6_row 21 = .ok (.ireturn, 1) := by decide +kernel
theorem dX6_row_22 : decode cX6_row 22 = .ok (.aload_n 0, 1) := by decide +kernel
theorem dX6_row_23 : decode cX6_row 23 = .ok (.getfield 35, 3) := by decide +kernel
theorem dX6_row_26 : decode cX6_row 26 = .ok (.iload_n 1, 1) := by decide +kernel
theorem dX6_row_27 : decode cX6_row 27 = .ok (.invokevirtual 128, 3) := by decide +kernel
theorem dX6_row_30 : decode cX6_row 30 = .ok (.iload_n 2, 1) := by decide +kernel
theorem dX6_row_31 : decode cX6_row 31 = .ok (.ifCond .ne 11, 3) := by decide +kernel
theorem dX6_row_34 : decode cX6_row 34 = .ok (.aload_n 0, 1) := by decide +kernel
theorem dX6_row_35 : decode cX6_row 35 = .ok (.getfield 35, 3) := by decide +kernel
theorem dX6_row_38 : decode cX6_row 38 = .ok (.getfield 131, 3) := by decide +kernel
theorem dX6_row_41 : decode cX6_row 41 = .ok (.ireturn, 1) := by decide +kernel
theorem dX6_row_42 : decode cX6_row 42 = .ok (.aload_n 0, 1) := by decide +kernel
theorem dX6_row_43 : decode cX6_row 43 = .ok (.getfield 35, 3) := by decide +kernel
theorem dX6_row_46 : decode cX6_row 46 = .ok (.invokevirtual 134, 3) := by decide +kernel
theorem dX6_row_49 : decode cX6_row 49 = .ok (.ifCond .ne 6, 3) := by decide +kernel
theorem dX6_row_52 : decode cX6_row 52 = .ok (.bipush (-4), 2) := by decide +kernel
theorem dX6_row_54 : decode cX6_row 54 = .ok (.ireturn, 1) := by decide +kernel
theorem dX6_row_55 : decode cX6_row 55 = .ok (.iload_n 2, 1) := by decide +kernel
theorem dX6_row_56 : decode cX6_row 56 = .ok (.iconst 1, 1) := by decide +kernel
theorem dX6_row_57 : decode cX6_row 57 = .ok (.if_icmp .ne 13, 3) := by decide +kernel
theorem dX6_row_60 : decode cX6_row 60 = .ok (.aload_n 0, 1) := by decide +kernel
theorem dX6_row_61 : decode cX6_row 61 = .ok (.getfield 35, 3) := by decide +kernel
theorem dX6_row_64 : decode cX6_row 64 = .ok (.invokevirtual 137, 3) := by decide +kernel
theorem dX6_row_67 : decode cX6_row 67 = .ok (.goto 10, 3) := by decide +kernel
theorem dX6_row_70 : decode cX6_row 70 = .ok (.aload_n 0, 1) := by decide +kernel
theorem dX6_row_71 : decode cX6_row 71 = .ok (.getfield 35, 3) := by decide +kernel
theorem dX6_row_74 : decode cX6_row 74 = .ok (.invokevirtual 140, 3) := by decide +kernel
theorem dX6_row_77 : decode cX6_row 77 = .ok (.ireturn, 1) := by decide +kernel
theorem dX6_item_0 : decode cX6_item 0 = .ok (.aload_n 0, 1) := by decide +kernel
theorem dX6_item_1 : decode cX6_item 1 = .ok (.getfield 26, 3) := by decide +kernel
theorem dX6_item_4 : decode cX6_item 4 = .ok (.iload_n 1, 1) := by decide +kernel
theorem dX6_item_5 : decode cX6_item 5 = .ok (.invokevirtual 124, 3) := by decide +kernel
theorem dX6_item_8 : decode cX6_item 8 = .ok (.ifCond .ne 6, 3) := by decide +kernel
theorem dX6_item_11 : decode cX6_item 11 = .ok (.ldc 143, 2) := by decide +kernel
theorem dX6_item_13 : decode cX6_item 13 = .ok (.ireturn, 1) := by decide +kernel
theorem dX6_item_14 : decode cX6_item 14 = .ok (.aload_n 0, 1) := by decide +kernel
theorem dX6_item_15 : decode cX6_item 15 = .ok (.getfield 35, 3) := by decide +kernel
theorem dX6_item_18 : decode cX6_item 18 = .ok (.iload_n 1, 1) := by decide +kernel
theorem dX6_item_19 : decode cX6_item 19 = .ok (.invokevirtual 128, 3) := by decide +kernel
theorem dX6_item_22 : decode cX6_item 22 = .ok (.aload_n 0, 1) := by decide +kernel
theorem dX6_item_23 : decode cX6_item 23 = .ok (.getfield 35, 3) := by decide +kernel
theorem dX6_item_26 : decode cX6_item 26 = .ok (.iload_n 2, 1) := by decide +kernel
theorem dX6_item_27 : decode cX6_item 27 = .ok (.invokevirtual 144, 3) := by decide +kernel
theorem dX6_item_30 : decode cX6_item 30 = .ok (.ireturn, 1) := by decide +kernel
theorem dX6_result_0 : decode cX6_result 0 = .ok (.aload_n 0, 1) := by decide +kernel
theorem dX6_result_1 : decode cX6_result 1 = .ok (.getfield 26, 3) := by decide +kernel
theorem dX6_result_4 : decode cX6_result 4 = .ok (.iload_n 1, 1) := by decide +kernel
theorem dX6_result_5 : decode cX6_result 5 = .ok (.invokevirtual 124, 3) := by decide +kernel
theorem dX6_result_8 : decode cX6_result 8 = .ok (.ifCond .eq 12, 3) := by decide +kernel
theorem dX6_result_11 : decode cX6_result 11 = .ok (.iload_n 2, 1) := by decide +kernel
theorem dX6_result_12 : decode cX6_result 12 = .ok (.ifCond .lt 8, 3) := by decide +kernel
theorem dX6_result_15 : decode cX6_result 15 = .ok (.iload_n 2, 1) := by decide +kernel
theorem dX6_result_16 : decode cX6_result 16 = .ok (.iconst 2, 1) := by decide +kernel
theorem dX6_result_17 : decode cX6_result 17 = .ok (.if_icmp .le 6, 3) := by decide +kernel
theorem dX6_result_20 : decode cX6_result 20 = .ok (.ldc 143, 2) := by decide +kernel
theorem dX6_result_22 : decode cX6_result 22 = .ok (.ireturn, 1) := by decide +kernel
theorem dX6_result_23 : decode cX6_result 23 = .ok (.aload_n 0, 1) := by decide +kernel
theorem dX6_result_24 : decode cX6_result 24 = .ok (.getfield 35, 3) := by decide +kernel
theorem dX6_result_27 : decode cX6_result 27 = .ok (.iload_n 1, 1) := by decide +kernel
theorem dX6_result_28 : decode cX6_result 28 = .ok (.invokevirtual 128, 3) := by decide +kernel
theorem dX6_result_31 : decode cX6_result 31 = .ok (.aload_n 0, 1) := by decide +kernel
theorem dX6_result_32 : decode cX6_result 32 = .ok (.getfield 35, 3) := by decide +kernel
theorem dX6_result_35 : decode cX6_result 35 = .ok (.invokevirtual 134, 3) := by decide +kernel
theorem dX6_result_38 : decode cX6_result 38 = .ok (.ifCond .ne 6, 3) := by decide +kernel
theorem dX6_result_41 : decode cX6_result 41 = .ok (.ldc 143, 2) := by decide +kernel
theorem dX6_result_43 : decode cX6_result 43 = .ok (.ireturn, 1) := by decide +kernel
theorem dX6_result_44 : decode cX6_result 44 = .ok (.iload_n 2, 1) := by decide +kernel
theorem dX6_result_45 : decode cX6_result 45 = .ok (.ifCond .ne 11, 3) := by decide +kernel
theorem dX6_result_48 : decode cX6_result 48 = .ok (.aload_n 0, 1) := by decide +kernel
theorem dX6_result_49 : decode cX6_result 49 = .ok (.getfield 35, 3) := by decide +kernel
theorem dX6_result_52 : decode cX6_result 52 = .ok (.invokevirtual 147, 3) := by decide +kernel
theorem dX6_result_55 : decode cX6_result 55 = .ok (.ireturn, 1) := by decide +kernel
theorem dX6_result_56 : decode cX6_result 56 = .ok (.iload_n 2, 1) := by decide +kernel
theorem dX6_result_57 : decode cX6_result 57 = .ok (.iconst 1, 1) := by decide +kernel
theorem dX6_result_58 : decode cX6_result 58 = .ok (.if_icmp .ne 13, 3) := by decide +kernel
theorem dX6_result_61 : decode cX6_result 61 = .ok (.aload_n 0, 1) := by decide +kernel
theorem dX6_result_62 : decode cX6_result 62 = .ok (.getfield 35, 3) := by decide +kernel
theorem dX6_result_65 : decode cX6_result 65 = .ok (.invokevirtual 150, 3) := by decide +kernel
theorem dX6_result_68 : decode cX6_result 68 = .ok (.goto 10, 3) := by decide +kernel
theorem dX6_result_71 : decode cX6_result 71 = .ok (.aload_n 0, 1) := by decide +kernel
theorem dX6_result_72 : decode cX6_result 72 = .ok (.getfield 35, 3) := by decide +kernel
theorem dX6_result_75 : decode cX6_result 75 = .ok (.invokevirtual 153, 3) := by decide +kernel
theorem dX6_result_78 : decode cX6_result 78 = .ok (.ireturn, 1) := by decide +kernel
theorem dX6_rank_0 : decode cX6_rank 0 = .ok (.aload_n 0, 1) := by decide +kernel
theorem dX6_rank_1 : decode cX6_rank 1 = .ok (.getfield 26, 3) := by decide +kernel
theorem dX6_rank_4 : decode cX6_rank 4 = .ok (.iload_n 1, 1) := by decide +kernel
theorem dX6_rank_5 : decode cX6_rank 5 = .ok (.invokevirtual 124, 3) := by decide +kernel
theorem dX6_rank_8 : decode cX6_rank 8 = .ok (.ifCond .eq 12, 3) := by decide +kernel
theorem dX6_rank_11 : decode cX6_rank 11 = .ok (.iload_n 3, 1) := by decide +kernel
theorem dX6_rank_12 : decode cX6_rank 12 = .ok (.ifCond .lt 8, 3) := by decide +kernel
theorem dX6_rank_15 : decode cX6_rank 15 = .ok (.iload_n 3, 1) := by decide +kernel
theorem dX6_rank_16 : decode cX6_rank 16 = .ok (.iconst 1, 1) := by decide +kernel
theorem dX6_rank_17 : decode cX6_rank 17 = .ok (.if_icmp .le 5, 3) := by decide +kernel
theorem dX6_rank_20 : decode cX6_rank 20 = .ok (.iconst (-1), 1) := by decide +kernel
theorem dX6_rank_21 : decode cX6_rank 21 = .ok (.ireturn, 1) := by decide +kernel
theorem dX6_rank_22 : decode cX6_rank 22 = .ok (.aload_n 0, 1) := by decide +kernel
theorem dX6_rank_23 : decode cX6_rank 23 = .ok (.getfield 35, 3) := by decide +kernel
theorem dX6_rank_26 : decode cX6_rank 26 = .ok (.iload_n 1, 1) := by decide +kernel
theorem dX6_rank_27 : decode cX6_rank 27 = .ok (.invokevirtual 128, 3) := by decide +kernel
theorem dX6_rank_30 : decode cX6_rank 30 = .ok (.iload_n 3, 1) := by decide +kernel
theorem dX6_rank_31 : decode cX6_rank 31 = .ok (.ifCond .ne 14, 3) := by decide +kernel
theorem dX6_rank_34 : decode cX6_rank 34 = .ok (.aload_n 0, 1) := by decide +kernel
theorem dX6_rank_35 : decode cX6_rank 35 = .ok (.getfield 35, 3) := by decide +kernel
theorem dX6_rank_38 : decode cX6_rank 38 = .ok (.iload_n 2, 1) := by decide +kernel
theorem dX6_rank_39 : decode cX6_rank 39 = .ok (.invokevirtual 156, 3) := by decide +kernel
theorem dX6_rank_42 : decode cX6_rank 42 = .ok (.goto 11, 3) := by decide +kernel
theorem dX6_rank_45 : decode cX6_rank 45 = .ok (.aload_n 0, 1) := by decide +kernel
theorem dX6_rank_46 : decode cX6_rank 46 = .ok (.getfield 35, 3) := by decide +kernel
theorem dX6_rank_49 : decode cX6_rank 49 = .ok (.iload_n 2, 1) := by decide +kernel
theorem dX6_rank_50 : decode cX6_rank 50 = .ok (.invokevirtual 159, 3) := by decide +kernel
theorem dX6_rank_53 : decode cX6_rank 53 = .ok (.ireturn, 1) := by decide +kernel
theorem dX6_shown_0 : decode cX6_shown 0 = .ok (.aload_n 0, 1) := by decide +kernel
theorem dX6_shown_1 : decode cX6_shown 1 = .ok (.getfield 26, 3) := by decide +kernel
theorem dX6_shown_4 : decode cX6_shown 4 = .ok (.iload_n 1, 1) := by decide +kernel
theorem dX6_shown_5 : decode cX6_shown 5 = .ok (.invokevirtual 124, 3) := by decide +kernel
theorem dX6_shown_8 : decode cX6_shown 8 = .ok (.ifCond .eq 7, 3) := by decide +kernel
theorem dX6_shown_11 : decode cX6_shown 11 = .ok (.iload_n 2, 1) := by decide +kernel
theorem dX6_shown_12 : decode cX6_shown 12 = .ok (.ifCond .ge 5, 3) := by decide +kernel
theorem dX6_shown_15 : decode cX6_shown 15 = .ok (.iconst (-1), 1) := by decide +kernel
theorem dX6_shown_16 : decode cX6_shown 16 = .ok (.ireturn, 1) := by decide +kernel
theorem dX6_shown_17 : decode cX6_shown 17 = .ok (.aload_n 0, 1) := by decide +kernel
theorem dX6_shown_18 : decode cX6_shown 18 = .ok (.getfield 35, 3) := by decide +kernel
theorem dX6_shown_21 : decode cX6_shown 21 = .ok (.iload_n 1, 1) := by decide +kernel
theorem dX6_shown_22 : decode cX6_shown 22 = .ok (.invokevirtual 128, 3) := by decide +kernel
theorem dX6_shown_25 : decode cX6_shown 25 = .ok (.aload_n 0, 1) := by decide +kernel
theorem dX6_shown_26 : decode cX6_shown 26 = .ok (.invokevirtual 162, 3) := by decide +kernel
theorem dX6_shown_29 : decode cX6_shown 29 = .ok (.iload_n 2, 1) := by decide +kernel
theorem dX6_shown_30 : decode cX6_shown 30 = .ok (.aload_n 0, 1) := by decide +kernel
theorem dX6_shown_31 : decode cX6_shown 31 = .ok (.getfield 42, 3) := by decide +kernel
theorem dX6_shown_34 : decode cX6_shown 34 = .ok (.getfield 165, 3) := by decide +kernel
theorem dX6_shown_37 : decode cX6_shown 37 = .ok (.if_icmp .ge 14, 3) := by decide +kernel
theorem dX6_shown_40 : decode cX6_shown 40 = .ok (.aload_n 0, 1) := by decide +kernel
theorem dX6_shown_41 : decode cX6_shown 41 = .ok (.getfield 42, 3) := by decide +kernel
theorem dX6_shown_44 : decode cX6_shown 44 = .ok (.iload_n 2, 1) := by decide +kernel
theorem dX6_shown_45 : decode cX6_shown 45 = .ok (.invokevirtual 166, 3) := by decide +kernel
theorem dX6_shown_48 : decode cX6_shown 48 = .ok (.goto 5, 3) := by decide +kernel
theorem dX6_shown_51 : decode cX6_shown 51 = .ok (.bipush (-4), 2) := by decide +kernel
theorem dX6_shown_53 : decode cX6_shown 53 = .ok (.ireturn, 1) := by decide +kernel
theorem dX6_middle_0 : decode cX6_middle 0 = .ok (.aload_n 0, 1) := by decide +kernel
theorem dX6_middle_1 : decode cX6_middle 1 = .ok (.getfield 26, 3) := by decide +kernel
theorem dX6_middle_4 : decode cX6_middle 4 = .ok (.iload_n 1, 1) := by decide +kernel
theorem dX6_middle_5 : decode cX6_middle 5 = .ok (.invokevirtual 124, 3) := by decide +kernel
theorem dX6_middle_8 : decode cX6_middle 8 = .ok (.ifCond .eq 12, 3) := by decide +kernel
theorem dX6_middle_11 : decode cX6_middle 11 = .ok (.iload_n 2, 1) := by decide +kernel
theorem dX6_middle_12 : decode cX6_middle 12 = .ok (.ifCond .lt 8, 3) := by decide +kernel
theorem dX6_middle_15 : decode cX6_middle 15 = .ok (.iload_n 2, 1) := by decide +kernel
theorem dX6_middle_16 : decode cX6_middle 16 = .ok (.iconst 1, 1) := by decide +kernel
theorem dX6_middle_17 : decode cX6_middle 17 = .ok (.if_icmp .le 6, 3) := by decide +kernel
theorem dX6_middle_20 : decode cX6_middle 20 = .ok (.ldc 143, 2) := by decide +kernel
theorem dX6_middle_22 : decode cX6_middle 22 = .ok (.ireturn, 1) := by decide +kernel
theorem dX6_middle_23 : decode cX6_middle 23 = .ok (.aload_n 0, 1) := by decide +kernel
theorem dX6_middle_24 : decode cX6_middle 24 = .ok (.getfield 35, 3) := by decide +kernel
theorem dX6_middle_27 : decode cX6_middle 27 = .ok (.iload_n 1, 1) := by decide +kernel
theorem dX6_middle_28 : decode cX6_middle 28 = .ok (.invokevirtual 128, 3) := by decide +kernel
theorem dX6_middle_31 : decode cX6_middle 31 = .ok (.aload_n 0, 1) := by decide +kernel
theorem dX6_middle_32 : decode cX6_middle 32 = .ok (.getfield 35, 3) := by decide +kernel
theorem dX6_middle_35 : decode cX6_middle 35 = .ok (.getfield 131, 3) := by decide +kernel
theorem dX6_middle_38 : decode cX6_middle 38 = .ok (.ifCond .ne 6, 3) := by decide +kernel
theorem dX6_middle_41 : decode cX6_middle 41 = .ok (.ldc 143, 2) := by decide +kernel
theorem dX6_middle_43 : decode cX6_middle 43 = .ok (.ireturn, 1) := by decide +kernel
theorem dX6_middle_44 : decode cX6_middle 44 = .ok (.iload_n 2, 1) := by decide +kernel
theorem dX6_middle_45 : decode cX6_middle 45 = .ok (.ifCond .ne 13, 3) := by decide +kernel
theorem dX6_middle_48 : decode cX6_middle 48 = .ok (.aload_n 0, 1) := by decide +kernel
theorem dX6_middle_49 : decode cX6_middle 49 = .ok (.getfield 35, 3) := by decide +kernel
theorem dX6_middle_52 : decode cX6_middle 52 = .ok (.invokevirtual 169, 3) := by decide +kernel
theorem dX6_middle_55 : decode cX6_middle 55 = .ok (.goto 10, 3) := by decide +kernel
theorem dX6_middle_58 : decode cX6_middle 58 = .ok (.aload_n 0, 1) := by decide +kernel
theorem dX6_middle_59 : decode cX6_middle 59 = .ok (.getfield 35, 3) := by decide +kernel
theorem dX6_middle_62 : decode cX6_middle 62 = .ok (.invokevirtual 172, 3) := by decide +kernel
theorem dX6_middle_65 : decode cX6_middle 65 = .ok (.ireturn, 1) := by decide +kernel
theorem dX6_far_0 : decode cX6_far 0 = .ok (.aload_n 0, 1) := by decide +kernel
theorem dX6_far_1 : decode cX6_far 1 = .ok (.getfield 26, 3) := by decide +kernel
theorem dX6_far_4 : decode cX6_far 4 = .ok (.iload_n 1, 1) := by decide +kernel
theorem dX6_far_5 : decode cX6_far 5 = .ok (.invokevirtual 124, 3) := by decide +kernel
theorem dX6_far_8 : decode cX6_far 8 = .ok (.ifCond .eq 10, 3) := by decide +kernel
theorem dX6_far_11 : decode cX6_far 11 = .ok (.iload_n 2, 1) := by decide +kernel
theorem dX6_far_12 : decode cX6_far 12 = .ok (.invokestatic 175, 3) := by decide +kernel
theorem dX6_far_15 : decode cX6_far 15 = .ok (.ifCond .ne 5, 3) := by decide +kernel
theorem dX6_far_18 : decode cX6_far 18 = .ok (.iconst (-1), 1) := by decide +kernel
theorem dX6_far_19 : decode cX6_far 19 = .ok (.ireturn, 1) := by decide +kernel
theorem dX6_far_20 : decode cX6_far 20 = .ok (.aload_n 0, 1) := by decide +kernel
theorem dX6_far_21 : decode cX6_far 21 = .ok (.getfield 35, 3) := by decide +kernel
theorem dX6_far_24 : decode cX6_far 24 = .ok (.iload_n 1, 1) := by decide +kernel
theorem dX6_far_25 : decode cX6_far 25 = .ok (.invokevirtual 128, 3) := by decide +kernel
theorem dX6_far_28 : decode cX6_far 28 = .ok (.aload_n 0, 1) := by decide +kernel
theorem dX6_far_29 : decode cX6_far 29 = .ok (.getfield 35, 3) := by decide +kernel
theorem dX6_far_32 : decode cX6_far 32 = .ok (.aload_n 0, 1) := by decide +kernel
theorem dX6_far_33 : decode cX6_far 33 = .ok (.getfield 26, 3) := by decide +kernel
theorem dX6_far_36 : decode cX6_far 36 = .ok (.iload_n 1, 1) := by decide +kernel
theorem dX6_far_37 : decode cX6_far 37 = .ok (.invokevirtual 120, 3) := by decide +kernel
theorem dX6_far_40 : decode cX6_far 40 = .ok (.iload_n 2, 1) := by decide +kernel
theorem dX6_far_41 : decode cX6_far 41 = .ok (.invokevirtual 178, 3) := by decide +kernel
theorem dX6_far_44 : decode cX6_far 44 = .ok (.ifCond .eq 7, 3) := by decide +kernel
theorem dX6_far_47 : decode cX6_far 47 = .ok (.iconst 1, 1) := by decide +kernel
theorem dX6_far_48 : decode cX6_far 48 = .ok (.goto 4, 3) := by decide +kernel
theorem dX6_far_51 : decode cX6_far 51 = .ok (.iconst 0, 1) := by decide +kernel
theorem dX6_far_52 : decode cX6_far 52 = .ok (.ireturn, 1) := by decide +kernel
theorem dX6_fars_0 : decode cX6_fars 0 = .ok (.iload_n 1, 1) := by decide +kernel
theorem dX6_fars_1 : decode cX6_fars 1 = .ok (.invokestatic 175, 3) := by decide +kernel
theorem dX6_fars_4 : decode cX6_fars 4 = .ok (.ifCond .ne 5, 3) := by decide +kernel
theorem dX6_fars_7 : decode cX6_fars 7 = .ok (.iconst (-1), 1) := by decide +kernel
theorem dX6_fars_8 : decode cX6_fars 8 = .ok (.ireturn, 1) := by decide +kernel
theorem dX6_fars_9 : decode cX6_fars 9 = .ok (.iconst 0, 1) := by decide +kernel
theorem dX6_fars_10 : decode cX6_fars 10 = .ok (.istore_n 2, 1) := by decide +kernel
theorem dX6_fars_11 : decode cX6_fars 11 = .ok (.aload_n 0, 1) := by decide +kernel
theorem dX6_fars_12 : decode cX6_fars 12 = .ok (.getfield 35, 3) := by decide +kernel
theorem dX6_fars_15 : decode cX6_fars 15 = .ok (.invokevirtual 182, 3) := by decide +kernel
theorem dX6_fars_18 : decode cX6_fars 18 = .ok (.iconst 0, 1) := by decide +kernel
theorem dX6_fars_19 : decode cX6_fars 19 = .ok (.istore_n 3, 1) := by decide +kernel
theorem dX6_fars_20 : decode cX6_fars 20 = .ok (.iload_n 3, 1) := by decide +kernel
theorem dX6_fars_21 : decode cX6_fars 21 = .ok (.aload_n 0, 1) := by decide +kernel
theorem dX6_fars_22 : decode cX6_fars 22 = .ok (.getfield 26, 3) := by decide +kernel
theorem dX6_fars_25 : decode cX6_fars 25 = .ok (.getfield 89, 3) := by decide +kernel
theorem dX6_fars_28 : decode cX6_fars 28 = .ok (.if_icmp .ge 39, 3) := by decide +kernel
theorem dX6_fars_31 : decode cX6_fars 31 = .ok (.aload_n 0, 1) := by decide +kernel
theorem dX6_fars_32 : decode cX6_fars 32 = .ok (.getfield 35, 3) := by decide +kernel
theorem dX6_fars_35 : decode cX6_fars 35 = .ok (.iload_n 3, 1) := by decide +kernel
theorem dX6_fars_36 : decode cX6_fars 36 = .ok (.invokevirtual 185, 3) := by decide +kernel
theorem dX6_fars_39 : decode cX6_fars 39 = .ok (.aload_n 0, 1) := by decide +kernel
theorem dX6_fars_40 : decode cX6_fars 40 = .ok (.getfield 35, 3) := by decide +kernel
theorem dX6_fars_43 : decode cX6_fars 43 = .ok (.aload_n 0, 1) := by decide +kernel
theorem dX6_fars_44 : decode cX6_fars 44 = .ok (.getfield 26, 3) := by decide +kernel
theorem dX6_fars_47 : decode cX6_fars 47 = .ok (.iload_n 3, 1) := by decide +kernel
theorem dX6_fars_48 : decode cX6_fars 48 = .ok (.invokevirtual 120, 3) := by decide +kernel
theorem dX6_fars_51 : decode cX6_fars 51 = .ok (.iload_n 1, 1) := by decide +kernel
theorem dX6_fars_52 : decode cX6_fars 52 = .ok (.invokevirtual 178, 3) := by decide +kernel
theorem dX6_fars_55 : decode cX6_fars 55 = .ok (.ifCond .eq 6, 3) := by decide +kernel
theorem dX6_fars_58 : decode cX6_fars 58 = .ok (.iinc 2 1, 3) := by decide +kernel
theorem dX6_fars_61 : decode cX6_fars 61 = .ok (.iinc 3 1, 3) := by decide +kernel
theorem dX6_fars_64 : decode cX6_fars 64 = .ok (.goto (-44), 3) := by decide +kernel
theorem dX6_fars_67 : decode cX6_fars 67 = .ok (.iload_n 2, 1) := by decide +kernel
theorem dX6_fars_68 : decode cX6_fars 68 = .ok (.ireturn, 1) := by decide +kernel
theorem dX6_above_0 : decode cX6_above 0 = .ok (.iload_n 2, 1) := by decide +kernel
theorem dX6_above_1 : decode cX6_above 1 = .ok (.ifCond .lt 8, 3) := by decide +kernel
theorem dX6_above_4 : decode cX6_above 4 = .ok (.iload_n 2, 1) := by decide +kernel
theorem dX6_above_5 : decode cX6_above 5 = .ok (.iconst 3, 1) := by decide +kernel
theorem dX6_above_6 : decode cX6_above 6 = .ok (.if_icmp .le 5, 3) := by decide +kernel
theorem dX6_above_9 : decode cX6_above 9 = .ok (.iconst (-1), 1) := by decide +kernel
theorem dX6_above_10 : decode cX6_above 10 = .ok (.ireturn, 1) := by decide +kernel
theorem dX6_above_11 : decode cX6_above 11 = .ok (.iconst 0, 1) := by decide +kernel
theorem dX6_above_12 : decode cX6_above 12 = .ok (.istore_n 3, 1) := by decide +kernel
theorem dX6_above_13 : decode cX6_above 13 = .ok (.bipush (-4), 2) := by decide +kernel
theorem dX6_above_15 : decode cX6_above 15 = .ok (.istore 4, 2) := by decide +kernel
theorem dX6_above_17 : decode cX6_above 17 = .ok (.bipush (-4), 2) := by decide +kernel
theorem dX6_above_19 : decode cX6_above 19 = .ok (.istore 5, 2) := by decide +kernel
theorem dX6_above_21 : decode cX6_above 21 = .ok (.iconst 0, 1) := by decide +kernel
theorem dX6_above_22 : decode cX6_above 22 = .ok (.istore 6, 2) := by decide +kernel
theorem dX6_above_24 : decode cX6_above 24 = .ok (.iconst 0, 1) := by decide +kernel
theorem dX6_above_25 : decode cX6_above 25 = .ok (.istore 7, 2) := by decide +kernel
theorem dX6_above_27 : decode cX6_above 27 = .ok (.aload_n 0, 1) := by decide +kernel
theorem dX6_above_28 : decode cX6_above 28 = .ok (.getfield 35, 3) := by decide +kernel
theorem dX6_above_31 : decode cX6_above 31 = .ok (.invokevirtual 182, 3) := by decide +kernel
theorem dX6_above_34 : decode cX6_above 34 = .ok (.iconst 0, 1) := by decide +kernel
theorem dX6_above_35 : decode cX6_above 35 = .ok (.istore 8, 2) := by decide +kernel
theorem dX6_above_37 : decode cX6_above 37 = .ok (.iload 8, 2) := by decide +kernel
theorem dX6_above_39 : decode cX6_above 39 = .ok (.aload_n 0, 1) := by decide +kernel
theorem dX6_above_40 : decode cX6_above 40 = .ok (.getfield 26, 3) := by decide +kernel
theorem dX6_above_43 : decode cX6_above 43 = .ok (.getfield 89, 3) := by decide +kernel
theorem dX6_above_46 : decode cX6_above 46 = .ok (.if_icmp .ge 67, 3) := by decide +kernel
theorem dX6_above_49 : decode cX6_above 49 = .ok (.aload_n 0, 1) := by decide +kernel
theorem dX6_above_50 : decode cX6_above 50 = .ok (.getfield 35, 3) := by decide +kernel
theorem dX6_above_53 : decode cX6_above 53 = .ok (.iload 8, 2) := by decide +kernel
theorem dX6_above_55 : decode cX6_above 55 = .ok (.invokevirtual 185, 3) := by decide +kernel
theorem dX6_above_58 : decode cX6_above 58 = .ok (.aload_n 0, 1) := by decide +kernel
theorem dX6_above_59 : decode cX6_above 59 = .ok (.getfield 35, 3) := by decide +kernel
theorem dX6_above_62 : decode cX6_above 62 = .ok (.iload_n 1, 1) := by decide +kernel
theorem dX6_above_63 : decode cX6_above 63 = .ok (.invokevirtual 188, 3) := by decide +kernel
theorem dX6_above_66 : decode cX6_above 66 = .ok (.ifCond .eq 38, 3) := by decide +kernel
theorem dX6_above_69 : decode cX6_above 69 = .ok (.iload_n 3, 1) := by decide +kernel
theorem dX6_above_70 : decode cX6_above 70 = .ok (.ifCond .ne 8, 3) := by decide +kernel
theorem dX6_above_73 : decode cX6_above 73 = .ok (.iload 8, 2) := by decide +kernel
theorem dX6_above_75 : decode cX6_above 75 = .ok (.goto 5, 3) := by decide +kernel
theorem dX6_above_78 : decode cX6_above 78 = .ok (.iload 4, 2) := by decide +kernel
theorem dX6_above_80 : decode cX6_above 80 = .ok (.istore 4, 2) := by decide +kernel
theorem dX6_above_82 : decode cX6_above 82 = .ok (.iload 8, 2) := by decide +kernel
theorem dX6_above_84 : decode cX6_above 84 = .ok (.istore 5, 2) := by decide +kernel
theorem dX6_above_86 : decode cX6_above 86 = .ok (.iinc 3 1, 3) := by decide +kernel
theorem dX6_above_89 : decode cX6_above 89 = .ok (.iinc 6 1, 3) := by decide +kernel
theorem dX6_above_92 : decode cX6_above 92 = .ok (.iload 7, 2) := by decide +kernel
theorem dX6_above_94 : decode cX6_above 94 = .ok (.iload 6, 2) := by decide +kernel
theorem dX6_above_96 : decode cX6_above 96 = .ok (.invokestatic 191, 3) := by decide +kernel
theorem dX6_above_99 : decode cX6_above 99 = .ok (.istore 7, 2) := by decide +kernel
theorem dX6_above_101 : decode cX6_above 101 = .ok (.goto 6, 3) := by decide +kernel
theorem dX6_above_104 : decode cX6_above 104 = .ok (.iconst 0, 1) := by decide +kernel
theorem dX6_above_105 : decode cX6_above 105 = .ok (.istore 6, 2) := by decide +kernel
theorem dX6_above_107 : decode cX6_above 107 = .ok (.iinc 8 1, 3) := by decide +kernel
theorem dX6_above_110 : decode cX6_above 110 = .ok (.goto (-73), 3) := by decide +kernel
theorem dX6_above_113 : decode cX6_above 113 = .ok (.iload_n 2, 1) := by decide +kernel
theorem dX6_above_114 : decode cX6_above 114 = .ok (.tableswitch 34 0 2 #[26, 28, 31], 26) := by decide +kernel
theorem dX6_above_140 : decode cX6_above 140 = .ok (.iload_n 3, 1) := by decide +kernel
theorem dX6_above_141 : decode cX6_above 141 = .ok (.ireturn, 1) := by decide +kernel
theorem dX6_above_142 : decode cX6_above 142 = .ok (.iload 4, 2) := by decide +kernel
theorem dX6_above_144 : decode cX6_above 144 = .ok (.ireturn, 1) := by decide +kernel
theorem dX6_above_145 : decode cX6_above 145 = .ok (.iload 5, 2) := by decide +kernel
theorem dX6_above_147 : decode cX6_above 147 = .ok (.ireturn, 1) := by decide +kernel
theorem dX6_above_148 : decode cX6_above 148 = .ok (.iload 7, 2) := by decide +kernel
theorem dX6_above_150 : decode cX6_above 150 = .ok (.ireturn, 1) := by decide +kernel
theorem dX6_most_0 : decode cX6_most 0 = .ok (.iload_n 1, 1) := by decide +kernel
theorem dX6_most_1 : decode cX6_most 1 = .ok (.ifCond .lt 8, 3) := by decide +kernel
theorem dX6_most_4 : decode cX6_most 4 = .ok (.iload_n 1, 1) := by decide +kernel
theorem dX6_most_5 : decode cX6_most 5 = .ok (.iconst 1, 1) := by decide +kernel
theorem dX6_most_6 : decode cX6_most 6 = .ok (.if_icmp .le 5, 3) := by decide +kernel
theorem dX6_most_9 : decode cX6_most 9 = .ok (.iconst (-1), 1) := by decide +kernel
theorem dX6_most_10 : decode cX6_most 10 = .ok (.ireturn, 1) := by decide +kernel
theorem dX6_most_11 : decode cX6_most 11 = .ok (.bipush (-4), 2) := by decide +kernel
theorem dX6_most_13 : decode cX6_most 13 = .ok (.istore_n 2, 1) := by decide +kernel
theorem dX6_most_14 : decode cX6_most 14 = .ok (.iconst 0, 1) := by decide +kernel
theorem dX6_most_15 : decode cX6_most 15 = .ok (.istore_n 3, 1) := by decide +kernel
theorem dX6_most_16 : decode cX6_most 16 = .ok (.aload_n 0, 1) := by decide +kernel
theorem dX6_most_17 : decode cX6_most 17 = .ok (.getfield 35, 3) := by decide +kernel
theorem dX6_most_20 : decode cX6_most 20 = .ok (.invokevirtual 182, 3) := by decide +kernel
theorem dX6_most_23 : decode cX6_most 23 = .ok (.iconst 0, 1) := by decide +kernel
theorem dX6_most_24 : decode cX6_most 24 = .ok (.istore 4, 2) := by decide +kernel
theorem dX6_most_26 : decode cX6_most 26 = .ok (.iload 4, 2) := by decide +kernel
theorem dX6_most_28 : decode cX6_most 28 = .ok (.aload_n 0, 1) := by decide +kernel
theorem dX6_most_29 : decode cX6_most 29 = .ok (.getfield 26, 3) := by decide +kernel
theorem dX6_most_32 : decode cX6_most 32 = .ok (.getfield 89, 3) := by decide +kernel
theorem dX6_most_35 : decode cX6_most 35 = .ok (.if_icmp .ge 85, 3) := by decide +kernel
theorem dX6_most_38 : decode cX6_most 38 = .ok (.aload_n 0, 1) := by decide +kernel
theorem dX6_most_39 : decode cX6_most 39 = .ok (.getfield 35, 3) := by decide +kernel
theorem dX6_most_42 : decode cX6_most 42 = .ok (.iload 4, 2) := by decide +kernel
theorem dX6_most_44 : decode cX6_most 44 = .ok (.invokevirtual 185, 3) := by decide +kernel
theorem dX6_most_47 : decode cX6_most 47 = .ok (.aload_n 0, 1) := by decide +kernel
theorem dX6_most_48 : decode cX6_most 48 = .ok (.getfield 35, 3) := by decide +kernel
theorem dX6_most_51 : decode cX6_most 51 = .ok (.invokevirtual 134, 3) := by decide +kernel
theorem dX6_most_54 : decode cX6_most 54 = .ok (.ifCond .eq 60, 3) := by decide +kernel
theorem dX6_most_57 : decode cX6_most 57 = .ok (.aload_n 0, 1) := by decide +kernel
theorem dX6_most_58 : decode cX6_most 58 = .ok (.getfield 35, 3) := by decide +kernel
theorem dX6_most_61 : decode cX6_most 61 = .ok (.invokevirtual 147, 3) := by decide +kernel
theorem dX6_most_64 : decode cX6_most 64 = .ok (.istore 5, 2) := by decide +kernel
theorem dX6_most_66 : decode cX6_most 66 = .ok (.iload_n 1, 1) := by decide +kernel
theorem dX6_most_67 : decode cX6_most 67 = .ok (.ifCond .ne 17, 3) := by decide +kernel
theorem dX6_most_70 : decode cX6_most 70 = .ok (.iload 5, 2) := by decide +kernel
end
section
theorem dX6_most_72 : decode cX6_most 72 = .ok (.iload_n 3, 1) := by decide +kernel
theorem dX6_most_73 : decode cX6_most 73 = .ok (.if_icmp .ge 7, 3) := by decide +kernel
theorem dX6_most_76 : decode cX6_most 76 = .ok (.iconst 1, 1) := by decide +kernel
theorem dX6_most_77 : decode cX6_most 77 = .ok (.goto 18, 3) := by decide +kernel
theorem dX6_most_80 : decode cX6_most 80 = .ok (.iconst 0, 1) := by decide +kernel
theorem dX6_most_81 : decode cX6_most 81 = .ok (.goto 14, 3) := by decide +kernel
theorem dX6_most_84 : decode cX6_most 84 = .ok (.iload 5, 2) := by decide +kernel
theorem dX6_most_86 : decode cX6_most 86 = .ok (.iload_n 3, 1) := by decide +kernel
theorem dX6_most_87 : decode cX6_most 87 = .ok (.if_icmp .le 7, 3) := by decide +kernel
theorem dX6_most_90 : decode cX6_most 90 = .ok (.iconst 1, 1) := by decide +kernel
theorem dX6_most_91 : decode cX6_most 91 = .ok (.goto 4, 3) := by decide +kernel
theorem dX6_most_94 : decode cX6_most 94 = .ok (.iconst 0, 1) := by decide +kernel
theorem dX6_most_95 : decode cX6_most 95 = .ok (.istore 6, 2) := by decide +kernel
theorem dX6_most_97 : decode cX6_most 97 = .ok (.iload_n 2, 1) := by decide +kernel
theorem dX6_most_98 : decode cX6_most 98 = .ok (.bipush (-4), 2) := by decide +kernel
theorem dX6_most_100 : decode cX6_most 100 = .ok (.if_icmp .eq 8, 3) := by decide +kernel
theorem dX6_most_103 : decode cX6_most 103 = .ok (.iload 6, 2) := by decide +kernel
theorem dX6_most_105 : decode cX6_most 105 = .ok (.ifCond .eq 9, 3) := by decide +kernel
theorem dX6_most_108 : decode cX6_most 108 = .ok (.iload 4, 2) := by decide +kernel
theorem dX6_most_110 : decode cX6_most 110 = .ok (.istore_n 2, 1) := by decide +kernel
theorem dX6_most_111 : decode cX6_most 111 = .ok (.iload 5, 2) := by decide +kernel
theorem dX6_most_113 : decode cX6_most 113 = .ok (.istore_n 3, 1) := by decide +kernel
theorem dX6_most_114 : decode cX6_most 114 = .ok (.iinc 4 1, 3) := by decide +kernel
theorem dX6_most_117 : decode cX6_most 117 = .ok (.goto (-91), 3) := by decide +kernel
theorem dX6_most_120 : decode cX6_most 120 = .ok (.iload_n 2, 1) := by decide +kernel
theorem dX6_most_121 : decode cX6_most 121 = .ok (.ireturn, 1) := by decide +kernel
theorem dX6_add_0 : decode cX6_add 0 = .ok (.iload_n 1, 1) := by decide +kernel
theorem dX6_add_1 : decode cX6_add 1 = .ok (.invokestatic 197, 3) := by decide +kernel
theorem dX6_add_4 : decode cX6_add 4 = .ok (.ifCond .ne 5, 3) := by decide +kernel
theorem dX6_add_7 : decode cX6_add 7 = .ok (.iconst (-1), 1) := by decide +kernel
theorem dX6_add_8 : decode cX6_add 8 = .ok (.ireturn, 1) := by decide +kernel
theorem dX6_add_9 : decode cX6_add 9 = .ok (.aload_n 0, 1) := by decide +kernel
theorem dX6_add_10 : decode cX6_add 10 = .ok (.iload_n 1, 1) := by decide +kernel
theorem dX6_add_11 : decode cX6_add 11 = .ok (.invokevirtual 200, 3) := by decide +kernel
theorem dX6_add_14 : decode cX6_add 14 = .ok (.ireturn, 1) := by decide +kernel
theorem dX6_miss_0 : decode cX6_miss 0 = .ok (.aload_n 0, 1) := by decide +kernel
theorem dX6_miss_1 : decode cX6_miss 1 = .ok (.ldc 143, 2) := by decide +kernel
theorem dX6_miss_3 : decode cX6_miss 3 = .ok (.invokevirtual 200, 3) := by decide +kernel
theorem dX6_miss_6 : decode cX6_miss 6 = .ok (.ireturn, 1) := by decide +kernel
theorem dX6_set_0 : decode cX6_set 0 = .ok (.aload_n 0, 1) := by decide +kernel
theorem dX6_set_1 : decode cX6_set 1 = .ok (.getfield 26, 3) := by decide +kernel
theorem dX6_set_4 : decode cX6_set 4 = .ok (.iload_n 1, 1) := by decide +kernel
theorem dX6_set_5 : decode cX6_set 5 = .ok (.invokevirtual 124, 3) := by decide +kernel
theorem dX6_set_8 : decode cX6_set 8 = .ok (.ifCond .eq 10, 3) := by decide +kernel
theorem dX6_set_11 : decode cX6_set 11 = .ok (.iload_n 2, 1) := by decide +kernel
theorem dX6_set_12 : decode cX6_set 12 = .ok (.invokestatic 197, 3) := by decide +kernel
theorem dX6_set_15 : decode cX6_set 15 = .ok (.ifCond .ne 5, 3) := by decide +kernel
theorem dX6_set_18 : decode cX6_set 18 = .ok (.iconst (-1), 1) := by decide +kernel
theorem dX6_set_19 : decode cX6_set 19 = .ok (.ireturn, 1) := by decide +kernel
theorem dX6_set_20 : decode cX6_set 20 = .ok (.aload_n 0, 1) := by decide +kernel
theorem dX6_set_21 : decode cX6_set 21 = .ok (.iload_n 1, 1) := by decide +kernel
theorem dX6_set_22 : decode cX6_set 22 = .ok (.iload_n 2, 1) := by decide +kernel
theorem dX6_set_23 : decode cX6_set 23 = .ok (.invokevirtual 203, 3) := by decide +kernel
theorem dX6_set_26 : decode cX6_set 26 = .ok (.ireturn, 1) := by decide +kernel
theorem dX6_lose_0 : decode cX6_lose 0 = .ok (.aload_n 0, 1) := by decide +kernel
theorem dX6_lose_1 : decode cX6_lose 1 = .ok (.getfield 26, 3) := by decide +kernel
theorem dX6_lose_4 : decode cX6_lose 4 = .ok (.iload_n 1, 1) := by decide +kernel
theorem dX6_lose_5 : decode cX6_lose 5 = .ok (.invokevirtual 124, 3) := by decide +kernel
theorem dX6_lose_8 : decode cX6_lose 8 = .ok (.ifCond .ne 5, 3) := by decide +kernel
theorem dX6_lose_11 : decode cX6_lose 11 = .ok (.iconst (-1), 1) := by decide +kernel
theorem dX6_lose_12 : decode cX6_lose 12 = .ok (.ireturn, 1) := by decide +kernel
theorem dX6_lose_13 : decode cX6_lose 13 = .ok (.aload_n 0, 1) := by decide +kernel
theorem dX6_lose_14 : decode cX6_lose 14 = .ok (.iload_n 1, 1) := by decide +kernel
theorem dX6_lose_15 : decode cX6_lose 15 = .ok (.ldc 143, 2) := by decide +kernel
theorem dX6_lose_17 : decode cX6_lose 17 = .ok (.invokevirtual 203, 3) := by decide +kernel
theorem dX6_lose_20 : decode cX6_lose 20 = .ok (.ireturn, 1) := by decide +kernel
theorem dX6_drop_0 : decode cX6_drop 0 = .ok (.iload_n 1, 1) := by decide +kernel
theorem dX6_drop_1 : decode cX6_drop 1 = .ok (.ifCond .lt 14, 3) := by decide +kernel
theorem dX6_drop_4 : decode cX6_drop 4 = .ok (.iload_n 1, 1) := by decide +kernel
theorem dX6_drop_5 : decode cX6_drop 5 = .ok (.aload_n 0, 1) := by decide +kernel
theorem dX6_drop_6 : decode cX6_drop 6 = .ok (.getfield 26, 3) := by decide +kernel
theorem dX6_drop_9 : decode cX6_drop 9 = .ok (.getfield 89, 3) := by decide +kernel
theorem dX6_drop_12 : decode cX6_drop 12 = .ok (.if_icmp .le 5, 3) := by decide +kernel
theorem dX6_drop_15 : decode cX6_drop 15 = .ok (.iconst (-1), 1) := by decide +kernel
theorem dX6_drop_16 : decode cX6_drop 16 = .ok (.ireturn, 1) := by decide +kernel
theorem dX6_drop_17 : decode cX6_drop 17 = .ok (.aload_n 0, 1) := by decide +kernel
theorem dX6_drop_18 : decode cX6_drop 18 = .ok (.getfield 26, 3) := by decide +kernel
theorem dX6_drop_21 : decode cX6_drop 21 = .ok (.iload_n 1, 1) := by decide +kernel
theorem dX6_drop_22 : decode cX6_drop 22 = .ok (.invokevirtual 206, 3) := by decide +kernel
theorem dX6_drop_25 : decode cX6_drop 25 = .ok (.aload_n 0, 1) := by decide +kernel
theorem dX6_drop_26 : decode cX6_drop 26 = .ok (.getfield 26, 3) := by decide +kernel
theorem dX6_drop_29 : decode cX6_drop 29 = .ok (.getfield 89, 3) := by decide +kernel
theorem dX6_drop_32 : decode cX6_drop 32 = .ok (.ireturn, 1) := by decide +kernel
theorem dX6_width_0 : decode cX6_width 0 = .ok (.iload_n 1, 1) := by decide +kernel
theorem dX6_width_1 : decode cX6_width 1 = .ok (.iconst 1, 1) := by decide +kernel
theorem dX6_width_2 : decode cX6_width 2 = .ok (.if_icmp .lt 9, 3) := by decide +kernel
theorem dX6_width_5 : decode cX6_width 5 = .ok (.iload_n 1, 1) := by decide +kernel
theorem dX6_width_6 : decode cX6_width 6 = .ok (.bipush 24, 2) := by decide +kernel
theorem dX6_width_8 : decode cX6_width 8 = .ok (.if_icmp .le 5, 3) := by decide +kernel
theorem dX6_width_11 : decode cX6_width 11 = .ok (.iconst (-1), 1) := by decide +kernel
theorem dX6_width_12 : decode cX6_width 12 = .ok (.ireturn, 1) := by decide +kernel
theorem dX6_width_13 : decode cX6_width 13 = .ok (.aload_n 0, 1) := by decide +kernel
theorem dX6_width_14 : decode cX6_width 14 = .ok (.getfield 26, 3) := by decide +kernel
theorem dX6_width_17 : decode cX6_width 17 = .ok (.getfield 99, 3) := by decide +kernel
theorem dX6_width_20 : decode cX6_width 20 = .ok (.istore_n 2, 1) := by decide +kernel
theorem dX6_width_21 : decode cX6_width 21 = .ok (.aload_n 0, 1) := by decide +kernel
theorem dX6_width_22 : decode cX6_width 22 = .ok (.getfield 26, 3) := by decide +kernel
theorem dX6_width_25 : decode cX6_width 25 = .ok (.iload_n 1, 1) := by decide +kernel
theorem dX6_width_26 : decode cX6_width 26 = .ok (.putfield 99, 3) := by decide +kernel
theorem dX6_width_29 : decode cX6_width 29 = .ok (.iload_n 2, 1) := by decide +kernel
theorem dX6_width_30 : decode cX6_width 30 = .ok (.ireturn, 1) := by decide +kernel
theorem dX6_need_0 : decode cX6_need 0 = .ok (.iload_n 1, 1) := by decide +kernel
theorem dX6_need_1 : decode cX6_need 1 = .ok (.iconst 1, 1) := by decide +kernel
theorem dX6_need_2 : decode cX6_need 2 = .ok (.if_icmp .lt 9, 3) := by decide +kernel
theorem dX6_need_5 : decode cX6_need 5 = .ok (.iload_n 1, 1) := by decide +kernel
theorem dX6_need_6 : decode cX6_need 6 = .ok (.bipush 24, 2) := by decide +kernel
theorem dX6_need_8 : decode cX6_need 8 = .ok (.if_icmp .le 5, 3) := by decide +kernel
theorem dX6_need_11 : decode cX6_need 11 = .ok (.iconst (-1), 1) := by decide +kernel
theorem dX6_need_12 : decode cX6_need 12 = .ok (.ireturn, 1) := by decide +kernel
theorem dX6_need_13 : decode cX6_need 13 = .ok (.aload_n 0, 1) := by decide +kernel
theorem dX6_need_14 : decode cX6_need 14 = .ok (.getfield 26, 3) := by decide +kernel
theorem dX6_need_17 : decode cX6_need 17 = .ok (.getfield 102, 3) := by decide +kernel
theorem dX6_need_20 : decode cX6_need 20 = .ok (.istore_n 2, 1) := by decide +kernel
theorem dX6_need_21 : decode cX6_need 21 = .ok (.aload_n 0, 1) := by decide +kernel
theorem dX6_need_22 : decode cX6_need 22 = .ok (.getfield 26, 3) := by decide +kernel
theorem dX6_need_25 : decode cX6_need 25 = .ok (.iload_n 1, 1) := by decide +kernel
theorem dX6_need_26 : decode cX6_need 26 = .ok (.putfield 102, 3) := by decide +kernel
theorem dX6_need_29 : decode cX6_need 29 = .ok (.iload_n 2, 1) := by decide +kernel
theorem dX6_need_30 : decode cX6_need 30 = .ok (.ireturn, 1) := by decide +kernel
theorem dX6_part_0 : decode cX6_part 0 = .ok (.iload_n 2, 1) := by decide +kernel
theorem dX6_part_1 : decode cX6_part 1 = .ok (.iconst 1, 1) := by decide +kernel
theorem dX6_part_2 : decode cX6_part 2 = .ok (.if_icmp .lt 18, 3) := by decide +kernel
theorem dX6_part_5 : decode cX6_part 5 = .ok (.iload_n 2, 1) := by decide +kernel
theorem dX6_part_6 : decode cX6_part 6 = .ok (.bipush 100, 2) := by decide +kernel
theorem dX6_part_8 : decode cX6_part 8 = .ok (.if_icmp .gt 12, 3) := by decide +kernel
theorem dX6_part_11 : decode cX6_part 11 = .ok (.iload_n 1, 1) := by decide +kernel
theorem dX6_part_12 : decode cX6_part 12 = .ok (.ifCond .lt 8, 3) := by decide +kernel
theorem dX6_part_15 : decode cX6_part 15 = .ok (.iload_n 1, 1) := by decide +kernel
theorem dX6_part_16 : decode cX6_part 16 = .ok (.iload_n 2, 1) := by decide +kernel
theorem dX6_part_17 : decode cX6_part 17 = .ok (.if_icmp .le 5, 3) := by decide +kernel
theorem dX6_part_20 : decode cX6_part 20 = .ok (.iconst (-1), 1) := by decide +kernel
theorem dX6_part_21 : decode cX6_part 21 = .ok (.ireturn, 1) := by decide +kernel
theorem dX6_part_22 : decode cX6_part 22 = .ok (.sipush 1000, 3) := by decide +kernel
theorem dX6_part_25 : decode cX6_part 25 = .ok (.aload_n 0, 1) := by decide +kernel
theorem dX6_part_26 : decode cX6_part 26 = .ok (.getfield 26, 3) := by decide +kernel
theorem dX6_part_29 : decode cX6_part 29 = .ok (.getfield 105, 3) := by decide +kernel
theorem dX6_part_32 : decode cX6_part 32 = .ok (.imul, 1) := by decide +kernel
theorem dX6_part_33 : decode cX6_part 33 = .ok (.aload_n 0, 1) := by decide +kernel
theorem dX6_part_34 : decode cX6_part 34 = .ok (.getfield 26, 3) := by decide +kernel
theorem dX6_part_37 : decode cX6_part 37 = .ok (.getfield 108, 3) := by decide +kernel
theorem dX6_part_40 : decode cX6_part 40 = .ok (.iadd, 1) := by decide +kernel
theorem dX6_part_41 : decode cX6_part 41 = .ok (.istore_n 3, 1) := by decide +kernel
theorem dX6_part_42 : decode cX6_part 42 = .ok (.aload_n 0, 1) := by decide +kernel
theorem dX6_part_43 : decode cX6_part 43 = .ok (.getfield 26, 3) := by decide +kernel
theorem dX6_part_46 : decode cX6_part 46 = .ok (.iload_n 1, 1) := by decide +kernel
theorem dX6_part_47 : decode cX6_part 47 = .ok (.putfield 105, 3) := by decide +kernel
theorem dX6_part_50 : decode cX6_part 50 = .ok (.aload_n 0, 1) := by decide +kernel
theorem dX6_part_51 : decode cX6_part 51 = .ok (.getfield 26, 3) := by decide +kernel
theorem dX6_part_54 : decode cX6_part 54 = .ok (.iload_n 2, 1) := by decide +kernel
theorem dX6_part_55 : decode cX6_part 55 = .ok (.putfield 108, 3) := by decide +kernel
theorem dX6_part_58 : decode cX6_part 58 = .ok (.iload_n 3, 1) := by decide +kernel
theorem dX6_part_59 : decode cX6_part 59 = .ok (.ireturn, 1) := by decide +kernel
theorem dX6_choose_0 : decode cX6_choose 0 = .ok (.iload_n 1, 1) := by decide +kernel
theorem dX6_choose_1 : decode cX6_choose 1 = .ok (.ifCond .lt 8, 3) := by decide +kernel
theorem dX6_choose_4 : decode cX6_choose 4 = .ok (.iload_n 1, 1) := by decide +kernel
theorem dX6_choose_5 : decode cX6_choose 5 = .ok (.iconst 4, 1) := by decide +kernel
theorem dX6_choose_6 : decode cX6_choose 6 = .ok (.if_icmp .le 5, 3) := by decide +kernel
theorem dX6_choose_9 : decode cX6_choose 9 = .ok (.iconst (-1), 1) := by decide +kernel
theorem dX6_choose_10 : decode cX6_choose 10 = .ok (.ireturn, 1) := by decide +kernel
theorem dX6_choose_11 : decode cX6_choose 11 = .ok (.aload_n 0, 1) := by decide +kernel
theorem dX6_choose_12 : decode cX6_choose 12 = .ok (.getfield 26, 3) := by decide +kernel
theorem dX6_choose_15 : decode cX6_choose 15 = .ok (.getfield 111, 3) := by decide +kernel
theorem dX6_choose_18 : decode cX6_choose 18 = .ok (.istore_n 2, 1) := by decide +kernel
theorem dX6_choose_19 : decode cX6_choose 19 = .ok (.aload_n 0, 1) := by decide +kernel
theorem dX6_choose_20 : decode cX6_choose 20 = .ok (.getfield 26, 3) := by decide +kernel
theorem dX6_choose_23 : decode cX6_choose 23 = .ok (.iload_n 1, 1) := by decide +kernel
theorem dX6_choose_24 : decode cX6_choose 24 = .ok (.putfield 111, 3) := by decide +kernel
theorem dX6_choose_27 : decode cX6_choose 27 = .ok (.iload_n 2, 1) := by decide +kernel
theorem dX6_choose_28 : decode cX6_choose 28 = .ok (.ireturn, 1) := by decide +kernel
theorem dX6_form_0 : decode cX6_form 0 = .ok (.iload_n 1, 1) := by decide +kernel
theorem dX6_form_1 : decode cX6_form 1 = .ok (.ifCond .lt 8, 3) := by decide +kernel
theorem dX6_form_4 : decode cX6_form 4 = .ok (.iload_n 1, 1) := by decide +kernel
theorem dX6_form_5 : decode cX6_form 5 = .ok (.iconst 2, 1) := by decide +kernel
theorem dX6_form_6 : decode cX6_form 6 = .ok (.if_icmp .le 5, 3) := by decide +kernel
theorem dX6_form_9 : decode cX6_form 9 = .ok (.iconst (-1), 1) := by decide +kernel
theorem dX6_form_10 : decode cX6_form 10 = .ok (.ireturn, 1) := by decide +kernel
theorem dX6_form_11 : decode cX6_form 11 = .ok (.aload_n 0, 1) := by decide +kernel
theorem dX6_form_12 : decode cX6_form 12 = .ok (.getfield 26, 3) := by decide +kernel
theorem dX6_form_15 : decode cX6_form 15 = .ok (.getfield 114, 3) := by decide +kernel
theorem dX6_form_18 : decode cX6_form 18 = .ok (.istore_n 2, 1) := by decide +kernel
theorem dX6_form_19 : decode cX6_form 19 = .ok (.aload_n 0, 1) := by decide +kernel
theorem dX6_form_20 : decode cX6_form 20 = .ok (.getfield 26, 3) := by decide +kernel
theorem dX6_form_23 : decode cX6_form 23 = .ok (.iload_n 1, 1) := by decide +kernel
theorem dX6_form_24 : decode cX6_form 24 = .ok (.putfield 114, 3) := by decide +kernel
theorem dX6_form_27 : decode cX6_form 27 = .ok (.iload_n 2, 1) := by decide +kernel
theorem dX6_form_28 : decode cX6_form 28 = .ok (.ireturn, 1) := by decide +kernel
theorem dX6_drift_0 : decode cX6_drift 0 = .ok (.iload_n 2, 1) := by decide +kernel
theorem dX6_drift_1 : decode cX6_drift 1 = .ok (.iconst 1, 1) := by decide +kernel
theorem dX6_drift_2 : decode cX6_drift 2 = .ok (.if_icmp .lt 9, 3) := by decide +kernel
theorem dX6_drift_5 : decode cX6_drift 5 = .ok (.iload_n 2, 1) := by decide +kernel
theorem dX6_drift_6 : decode cX6_drift 6 = .ok (.bipush 48, 2) := by decide +kernel
theorem dX6_drift_8 : decode cX6_drift 8 = .ok (.if_icmp .le 5, 3) := by decide +kernel
theorem dX6_drift_11 : decode cX6_drift 11 = .ok (.iconst (-1), 1) := by decide +kernel
theorem dX6_drift_12 : decode cX6_drift 12 = .ok (.ireturn, 1) := by decide +kernel
theorem dX6_drift_13 : decode cX6_drift 13 = .ok (.aload_n 0, 1) := by decide +kernel
theorem dX6_drift_14 : decode cX6_drift 14 = .ok (.getfield 26, 3) := by decide +kernel
theorem dX6_drift_17 : decode cX6_drift 17 = .ok (.invokevirtual 209, 3) := by decide +kernel
theorem dX6_drift_20 : decode cX6_drift 20 = .ok (.istore_n 3, 1) := by decide +kernel
theorem dX6_drift_21 : decode cX6_drift 21 = .ok (.iconst 0, 1) := by decide +kernel
theorem dX6_drift_22 : decode cX6_drift 22 = .ok (.istore 4, 2) := by decide +kernel
theorem dX6_drift_24 : decode cX6_drift 24 = .ok (.iconst 0, 1) := by decide +kernel
theorem dX6_drift_25 : decode cX6_drift 25 = .ok (.istore 5, 2) := by decide +kernel
theorem dX6_drift_27 : decode cX6_drift 27 = .ok (.iload 5, 2) := by decide +kernel
theorem dX6_drift_29 : decode cX6_drift 29 = .ok (.iload_n 2, 1) := by decide +kernel
theorem dX6_drift_30 : decode cX6_drift 30 = .ok (.if_icmp .ge 99, 3) := by decide +kernel
theorem dX6_drift_33 : decode cX6_drift 33 = .ok (.aload_n 0, 1) := by decide +kernel
theorem dX6_drift_34 : decode cX6_drift 34 = .ok (.getfield 26, 3) := by decide +kernel
theorem dX6_drift_37 : decode cX6_drift 37 = .ok (.invokevirtual 212, 3) := by decide +kernel
theorem dX6_drift_40 : decode cX6_drift 40 = .ok (.ifCond .ne 89, 3) := by decide +kernel
theorem dX6_drift_43 : decode cX6_drift 43 = .ok (.iload_n 1, 1) := by decide +kernel
theorem dX6_drift_44 : decode cX6_drift 44 = .ok (.ldc 213, 2) := by decide +kernel
theorem dX6_drift_46 : decode cX6_drift 46 = .ok (.imul, 1) := by decide +kernel
theorem dX6_drift_47 : decode cX6_drift 47 = .ok (.sipush 12345, 3) := by decide +kernel
theorem dX6_drift_50 : decode cX6_drift 50 = .ok (.iadd, 1) := by decide +kernel
theorem dX6_drift_51 : decode cX6_drift 51 = .ok (.istore_n 1, 1) := by decide +kernel
theorem dX6_drift_52 : decode cX6_drift 52 = .ok (.iload_n 1, 1) := by decide +kernel
theorem dX6_drift_53 : decode cX6_drift 53 = .ok (.bipush 16, 2) := by decide +kernel
theorem dX6_drift_55 : decode cX6_drift 55 = .ok (.iushr, 1) := by decide +kernel
theorem dX6_drift_56 : decode cX6_drift 56 = .ok (.sipush 32767, 3) := by decide +kernel
theorem dX6_drift_59 : decode cX6_drift 59 = .ok (.iand, 1) := by decide +kernel
theorem dX6_drift_60 : decode cX6_drift 60 = .ok (.istore 6, 2) := by decide +kernel
theorem dX6_drift_62 : decode cX6_drift 62 = .ok (.iload 6, 2) := by decide +kernel
theorem dX6_drift_64 : decode cX6_drift 64 = .ok (.bipush 9, 2) := by decide +kernel
theorem dX6_drift_66 : decode cX6_drift 66 = .ok (.irem, 1) := by decide +kernel
theorem dX6_drift_67 : decode cX6_drift 67 = .ok (.ifCond .ne 15, 3) := by decide +kernel
theorem dX6_drift_70 : decode cX6_drift 70 = .ok (.aload_n 0, 1) := by decide +kernel
theorem dX6_drift_71 : decode cX6_drift 71 = .ok (.getfield 26, 3) := by decide +kernel
theorem dX6_drift_74 : decode cX6_drift 74 = .ok (.ldc 143, 2) := by decide +kernel
theorem dX6_drift_76 : decode cX6_drift 76 = .ok (.invokevirtual 214, 3) := by decide +kernel
theorem dX6_drift_79 : decode cX6_drift 79 = .ok (.goto 41, 3) := by decide +kernel
theorem dX6_drift_82 : decode cX6_drift 82 = .ok (.iload_n 3, 1) := by decide +kernel
theorem dX6_drift_83 : decode cX6_drift 83 = .ok (.iload 6, 2) := by decide +kernel
theorem dX6_drift_85 : decode cX6_drift 85 = .ok (.bipush 16, 2) := by decide +kernel
theorem dX6_drift_87 : decode cX6_drift 87 = .ok (.idiv, 1) := by decide +kernel
theorem dX6_drift_88 : decode cX6_drift 88 = .ok (.sipush 401, 3) := by decide +kernel
theorem dX6_drift_91 : decode cX6_drift 91 = .ok (.irem, 1) := by decide +kernel
theorem dX6_drift_92 : decode cX6_drift 92 = .ok (.iadd, 1) := by decide +kernel
theorem dX6_drift_93 : decode cX6_drift 93 = .ok (.sipush 200, 3) := by decide +kernel
theorem dX6_drift_96 : decode cX6_drift 96 = .ok (.isub, 1) := by decide +kernel
theorem dX6_drift_97 : decode cX6_drift 97 = .ok (.istore 7, 2) := by decide +kernel
theorem dX6_drift_99 : decode cX6_drift 99 = .ok (.ldc 215, 2) := by decide +kernel
theorem dX6_drift_101 : decode cX6_drift 101 = .ok (.ldc 216, 2) := by decide +kernel
theorem dX6_drift_103 : decode cX6_drift 103 = .ok (.iload 7, 2) := by decide +kernel
theorem dX6_drift_105 : decode cX6_drift 105 = .ok (.invokestatic 217, 3) := by decide +kernel
theorem dX6_drift_108 : decode cX6_drift 108 = .ok (.invokestatic 191, 3) := by decide +kernel
theorem dX6_drift_111 : decode cX6_drift 111 = .ok (.istore_n 3, 1) := by decide +kernel
theorem dX6_drift_112 : decode cX6_drift 112 = .ok (.aload_n 0, 1) := by decide +kernel
theorem dX6_drift_113 : decode cX6_drift 113 = .ok (.getfield 26, 3) := by decide +kernel
theorem dX6_drift_116 : decode cX6_drift 116 = .ok (.iload_n 3, 1) := by decide +kernel
theorem dX6_drift_117 : decode cX6_drift 117 = .ok (.invokevirtual 214, 3) := by decide +kernel
theorem dX6_drift_120 : decode cX6_drift 120 = .ok (.iinc 4 1, 3) := by decide +kernel
theorem dX6_drift_123 : decode cX6_drift 123 = .ok (.iinc 5 1, 3) := by decide +kernel
theorem dX6_drift_126 : decode cX6_drift 126 = .ok (.goto (-99), 3) := by decide +kernel
theorem dX6_drift_129 : decode cX6_drift 129 = .ok (.iload 4, 2) := by decide +kernel
theorem dX6_drift_131 : decode cX6_drift 131 = .ok (.ireturn, 1) := by decide +kernel
theorem dX6_keep_0 : decode cX6_keep 0 = .ok (.aload_n 0, 1) := by decide +kernel
theorem dX6_keep_1 : decode cX6_keep 1 = .ok (.iload_n 1, 1) := by decide +kernel
theorem dX6_keep_2 : decode cX6_keep 2 = .ok (.invokevirtual 220, 3) := by decide +kernel
theorem dX6_keep_5 : decode cX6_keep 5 = .ok (.ifCond .ne 5, 3) := by decide +kernel
theorem dX6_keep_8 : decode cX6_keep 8 = .ok (.iconst (-1), 1) := by decide +kernel
theorem dX6_keep_9 : decode cX6_keep 9 = .ok (.ireturn, 1) := by decide +kernel
theorem dX6_keep_10 : decode cX6_keep 10 = .ok (.aload_n 0, 1) := by decide +kernel
theorem dX6_keep_11 : decode cX6_keep 11 = .ok (.getfield 50, 3) := by decide +kernel
theorem dX6_keep_14 : decode cX6_keep 14 = .ok (.iload_n 1, 1) := by decide +kernel
theorem dX6_keep_15 : decode cX6_keep 15 = .ok (.baload, 1) := by decide +kernel
theorem dX6_keep_16 : decode cX6_keep 16 = .ok (.ifCond .eq 7, 3) := by decide +kernel
theorem dX6_keep_19 : decode cX6_keep 19 = .ok (.iconst 1, 1) := by decide +kernel
theorem dX6_keep_20 : decode cX6_keep 20 = .ok (.goto 4, 3) := by decide +kernel
theorem dX6_keep_23 : decode cX6_keep 23 = .ok (.iconst 0, 1) := by decide +kernel
theorem dX6_keep_24 : decode cX6_keep 24 = .ok (.istore_n 2, 1) := by decide +kernel
theorem dX6_keep_25 : decode cX6_keep 25 = .ok (.aload_n 0, 1) := by decide +kernel
theorem dX6_keep_26 : decode cX6_keep 26 = .ok (.getfield 46, 3) := by decide +kernel
theorem dX6_keep_29 : decode cX6_keep 29 = .ok (.iload_n 1, 1) := by decide +kernel
theorem dX6_keep_30 : decode cX6_keep 30 = .ok (.aaload, 1) := by decide +kernel
theorem dX6_keep_31 : decode cX6_keep 31 = .ok (.aload_n 0, 1) := by decide +kernel
theorem dX6_keep_32 : decode cX6_keep 32 = .ok (.getfield 26, 3) := by decide +kernel
theorem dX6_keep_35 : decode cX6_keep 35 = .ok (.invokevirtual 86, 3) := by decide +kernel
theorem dX6_keep_38 : decode cX6_keep 38 = .ok (.aload_n 0, 1) := by decide +kernel
theorem dX6_keep_39 : decode cX6_keep 39 = .ok (.getfield 50, 3) := by decide +kernel
theorem dX6_keep_42 : decode cX6_keep 42 = .ok (.iload_n 1, 1) := by decide +kernel
theorem dX6_keep_43 : decode cX6_keep 43 = .ok (.iconst 1, 1) := by decide +kernel
theorem dX6_keep_44 : decode cX6_keep 44 = .ok (.bastore, 1) := by decide +kernel
theorem dX6_keep_45 : decode cX6_keep 45 = .ok (.iload_n 2, 1) := by decide +kernel
theorem dX6_keep_46 : decode cX6_keep 46 = .ok (.ireturn, 1) := by decide +kernel
theorem dX6_back_0 : decode cX6_back 0 = .ok (.aload_n 0, 1) := by decide +kernel
theorem dX6_back_1 : decode cX6_back 1 = .ok (.iload_n 1, 1) := by decide +kernel
theorem dX6_back_2 : decode cX6_back 2 = .ok (.invokevirtual 220, 3) := by decide +kernel
theorem dX6_back_5 : decode cX6_back 5 = .ok (.ifCond .ne 5, 3) := by decide +kernel
theorem dX6_back_8 : decode cX6_back 8 = .ok (.iconst (-1), 1) := by decide +kernel
theorem dX6_back_9 : decode cX6_back 9 = .ok (.ireturn, 1) := by decide +kernel
theorem dX6_back_10 : decode cX6_back 10 = .ok (.aload_n 0, 1) := by decide +kernel
theorem dX6_back_11 : decode cX6_back 11 = .ok (.getfield 50, 3) := by decide +kernel
theorem dX6_back_14 : decode cX6_back 14 = .ok (.iload_n 1, 1) := by decide +kernel
theorem dX6_back_15 : decode cX6_back 15 = .ok (.baload, 1) := by decide +kernel
theorem dX6_back_16 : decode cX6_back 16 = .ok (.ifCond .ne 6, 3) := by decide +kernel
theorem dX6_back_19 : decode cX6_back 19 = .ok (.bipush (-2), 2) := by decide +kernel
theorem dX6_back_21 : decode cX6_back 21 = .ok (.ireturn, 1) := by decide +kernel
theorem dX6_back_22 : decode cX6_back 22 = .ok (.aload_n 0, 1) := by decide +kernel
theorem dX6_back_23 : decode cX6_back 23 = .ok (.getfield 26, 3) := by decide +kernel
theorem dX6_back_26 : decode cX6_back 26 = .ok (.aload_n 0, 1) := by decide +kernel
theorem dX6_back_27 : decode cX6_back 27 = .ok (.getfield 46, 3) := by decide +kernel
theorem dX6_back_30 : decode cX6_back 30 = .ok (.iload_n 1, 1) := by decide +kernel
theorem dX6_back_31 : decode cX6_back 31 = .ok (.aaload, 1) := by decide +kernel
theorem dX6_back_32 : decode cX6_back 32 = .ok (.invokevirtual 86, 3) := by decide +kernel
theorem dX6_back_35 : decode cX6_back 35 = .ok (.aload_n 0, 1) := by decide +kernel
theorem dX6_back_36 : decode cX6_back 36 = .ok (.getfield 26, 3) := by decide +kernel
theorem dX6_back_39 : decode cX6_back 39 = .ok (.getfield 89, 3) := by decide +kernel
theorem dX6_back_42 : decode cX6_back 42 = .ok (.ireturn, 1) := by decide +kernel
theorem dX6_sheet_0 : decode cX6_sheet 0 = .ok (.aload_n 0, 1) := by decide +kernel
theorem dX6_sheet_1 : decode cX6_sheet 1 = .ok (.iload_n 1, 1) := by decide +kernel
theorem dX6_sheet_2 : decode cX6_sheet 2 = .ok (.invokevirtual 223, 3) := by decide +kernel
theorem dX6_sheet_5 : decode cX6_sheet 5 = .ok (.ifCond .eq 16, 3) := by decide +kernel
theorem dX6_sheet_8 : decode cX6_sheet 8 = .ok (.iload_n 2, 1) := by decide +kernel
theorem dX6_sheet_9 : decode cX6_sheet 9 = .ok (.invokestatic 226, 3) := by decide +kernel
theorem dX6_sheet_12 : decode cX6_sheet 12 = .ok (.ifCond .eq 9, 3) := by decide +kernel
theorem dX6_sheet_15 : decode cX6_sheet 15 = .ok (.iload_n 3, 1) := by decide +kernel
theorem dX6_sheet_16 : decode cX6_sheet 16 = .ok (.bipush 40, 2) := by decide +kernel
theorem dX6_sheet_18 : decode cX6_sheet 18 = .ok (.if_icmp .le 5, 3) := by decide +kernel
theorem dX6_sheet_21 : decode cX6_sheet 21 = .ok (.iconst (-1), 1) := by decide +kernel
theorem dX6_sheet_22 : decode cX6_sheet 22 = .ok (.ireturn, 1) := by decide +kernel
theorem dX6_sheet_23 : decode cX6_sheet 23 = .ok (.iload_n 3, 1) := by decide +kernel
theorem dX6_sheet_24 : decode cX6_sheet 24 = .ok (.ifCond .ge 6, 3) := by decide +kernel
theorem dX6_sheet_27 : decode cX6_sheet 27 = .ok (.bipush (-14), 2) := by decide +kernel
theorem dX6_sheet_29 : decode cX6_sheet 29 = .ok (.ireturn, 1) := by decide +kernel
theorem dX6_sheet_30 : decode cX6_sheet 30 = .ok (.aload_n 0, 1) := by decide +kernel
theorem dX6_sheet_31 : decode cX6_sheet 31 = .ok (.getfield 57, 3) := by decide +kernel
theorem dX6_sheet_34 : decode cX6_sheet 34 = .ok (.iload_n 1, 1) := by decide +kernel
theorem dX6_sheet_35 : decode cX6_sheet 35 = .ok (.aaload, 1) := by decide +kernel
theorem dX6_sheet_36 : decode cX6_sheet 36 = .ok (.iload_n 2, 1) := by decide +kernel
theorem dX6_sheet_37 : decode cX6_sheet 37 = .ok (.iload_n 3, 1) := by decide +kernel
theorem dX6_sheet_38 : decode cX6_sheet 38 = .ok (.invokevirtual 229, 3) := by decide +kernel
theorem dX6_sheet_41 : decode cX6_sheet 41 = .ok (.iconst 1, 1) := by decide +kernel
theorem dX6_sheet_42 : decode cX6_sheet 42 = .ok (.ireturn, 1) := by decide +kernel
theorem dX6_lay_0 : decode cX6_lay 0 = .ok (.aload_n 0, 1) := by decide +kernel
theorem dX6_lay_1 : decode cX6_lay 1 = .ok (.iload_n 1, 1) := by decide +kernel
theorem dX6_lay_2 : decode cX6_lay 2 = .ok (.invokevirtual 223, 3) := by decide +kernel
theorem dX6_lay_5 : decode cX6_lay 5 = .ok (.ifCond .ne 5, 3) := by decide +kernel
theorem dX6_lay_8 : decode cX6_lay 8 = .ok (.iconst (-1), 1) := by decide +kernel
theorem dX6_lay_9 : decode cX6_lay 9 = .ok (.ireturn, 1) := by decide +kernel
theorem dX6_lay_10 : decode cX6_lay 10 = .ok (.aload_n 0, 1) := by decide +kernel
theorem dX6_lay_11 : decode cX6_lay 11 = .ok (.getfield 57, 3) := by decide +kernel
theorem dX6_lay_14 : decode cX6_lay 14 = .ok (.iload_n 1, 1) := by decide +kernel
theorem dX6_lay_15 : decode cX6_lay 15 = .ok (.aaload, 1) := by decide +kernel
theorem dX6_lay_16 : decode cX6_lay 16 = .ok (.astore 4, 2) := by decide +kernel
theorem dX6_lay_18 : decode cX6_lay 18 = .ok (.aload 4, 2) := by decide +kernel
theorem dX6_lay_20 : decode cX6_lay 20 = .ok (.invokevirtual 233, 3) := by decide +kernel
theorem dX6_lay_23 : decode cX6_lay 23 = .ok (.ifCond .eq 6, 3) := by decide +kernel
theorem dX6_lay_26 : decode cX6_lay 26 = .ok (.bipush (-11), 2) := by decide +kernel
theorem dX6_lay_28 : decode cX6_lay 28 = .ok (.ireturn, 1) := by decide +kernel
theorem dX6_lay_29 : decode cX6_lay 29 = .ok (.aload 4, 2) := by decide +kernel
theorem dX6_lay_31 : decode cX6_lay 31 = .ok (.iload_n 2, 1) := by decide +kernel
theorem dX6_lay_32 : decode cX6_lay 32 = .ok (.invokevirtual 236, 3) := by decide +kernel
theorem dX6_lay_35 : decode cX6_lay 35 = .ok (.ifCond .ne 6, 3) := by decide +kernel
theorem dX6_lay_38 : decode cX6_lay 38 = .ok (.bipush (-12), 2) := by decide +kernel
theorem dX6_lay_40 : decode cX6_lay 40 = .ok (.ireturn, 1) := by decide +kernel
theorem dX6_lay_41 : decode cX6_lay 41 = .ok (.aload 4, 2) := by decide +kernel
theorem dX6_lay_43 : decode cX6_lay 43 = .ok (.iload_n 2, 1) := by decide +kernel
theorem dX6_lay_44 : decode cX6_lay 44 = .ok (.iload_n 3, 1) := by decide +kernel
theorem dX6_lay_45 : decode cX6_lay 45 = .ok (.invokevirtual 239, 3) := by decide +kernel
theorem dX6_lay_48 : decode cX6_lay 48 = .ok (.iconst 1, 1) := by decide +kernel
theorem dX6_lay_49 : decode cX6_lay 49 = .ok (.ireturn, 1) := by decide +kernel
theorem dX6_read_0 : decode cX6_read 0 = .ok (.aload_n 0, 1) := by decide +kernel
theorem dX6_read_1 : decode cX6_read 1 = .ok (.iload_n 1, 1) := by decide +kernel
theorem dX6_read_2 : decode cX6_read 2 = .ok (.invokevirtual 223, 3) := by decide +kernel
theorem dX6_read_5 : decode cX6_read 5 = .ok (.ifCond .eq 22, 3) := by decide +kernel
theorem dX6_read_8 : decode cX6_read 8 = .ok (.iload_n 2, 1) := by decide +kernel
theorem dX6_read_9 : decode cX6_read 9 = .ok (.invokestatic 226, 3) := by decide +kernel
theorem dX6_read_12 : decode cX6_read 12 = .ok (.ifCond .eq 15, 3) := by decide +kernel
theorem dX6_read_15 : decode cX6_read 15 = .ok (.iload 4, 2) := by decide +kernel
theorem dX6_read_17 : decode cX6_read 17 = .ok (.ifCond .lt 10, 3) := by decide +kernel
theorem dX6_read_20 : decode cX6_read 20 = .ok (.iload 4, 2) := by decide +kernel
theorem dX6_read_22 : decode cX6_read 22 = .ok (.bipush 40, 2) := by decide +kernel
theorem dX6_read_24 : decode cX6_read 24 = .ok (.if_icmp .le 5, 3) := by decide +kernel
theorem dX6_read_27 : decode cX6_read 27 = .ok (.iconst (-1), 1) := by decide +kernel
theorem dX6_read_28 : decode cX6_read 28 = .ok (.ireturn, 1) := by decide +kernel
theorem dX6_read_29 : decode cX6_read 29 = .ok (.aload_n 0, 1) := by decide +kernel
theorem dX6_read_30 : decode cX6_read 30 = .ok (.getfield 26, 3) := by decide +kernel
theorem dX6_read_33 : decode cX6_read 33 = .ok (.getfield 89, 3) := by decide +kernel
theorem dX6_read_36 : decode cX6_read 36 = .ok (.istore 5, 2) := by decide +kernel
theorem dX6_read_38 : decode cX6_read 38 = .ok (.iconst 0, 1) := by decide +kernel
theorem dX6_read_39 : decode cX6_read 39 = .ok (.istore 6, 2) := by decide +kernel
theorem dX6_read_41 : decode cX6_read 41 = .ok (.iconst 0, 1) := by decide +kernel
theorem dX6_read_42 : decode cX6_read 42 = .ok (.istore 7, 2) := by decide +kernel
theorem dX6_read_44 : decode cX6_read 44 = .ok (.iload 7, 2) := by decide +kernel
theorem dX6_read_46 : decode cX6_read 46 = .ok (.iload 4, 2) := by decide +kernel
theorem dX6_read_48 : decode cX6_read 48 = .ok (.if_icmp .ge 68, 3) := by decide +kernel
theorem dX6_read_51 : decode cX6_read 51 = .ok (.aload_n 0, 1) := by decide +kernel
theorem dX6_read_52 : decode cX6_read 52 = .ok (.getfield 57, 3) := by decide +kernel
theorem dX6_read_55 : decode cX6_read 55 = .ok (.iload_n 1, 1) := by decide +kernel
theorem dX6_read_56 : decode cX6_read 56 = .ok (.aaload, 1) := by decide +kernel
theorem dX6_read_57 : decode cX6_read 57 = .ok (.iload_n 2, 1) := by decide +kernel
theorem dX6_read_58 : decode cX6_read 58 = .ok (.iload_n 3, 1) := by decide +kernel
theorem dX6_read_59 : decode cX6_read 59 = .ok (.iload 7, 2) := by decide +kernel
theorem dX6_read_61 : decode cX6_read 61 = .ok (.iadd, 1) := by decide +kernel
theorem dX6_read_62 : decode cX6_read 62 = .ok (.invokestatic 242, 3) := by decide +kernel
theorem dX6_read_65 : decode cX6_read 65 = .ok (.istore 6, 2) := by decide +kernel
theorem dX6_read_67 : decode cX6_read 67 = .ok (.iload 6, 2) := by decide +kernel
theorem dX6_read_69 : decode cX6_read 69 = .ok (.ifCond .eq 6, 3) := by decide +kernel
theorem dX6_read_72 : decode cX6_read 72 = .ok (.goto 44, 3) := by decide +kernel
theorem dX6_read_75 : decode cX6_read 75 = .ok (.aload_n 0, 1) := by decide +kernel
theorem dX6_read_76 : decode cX6_read 76 = .ok (.aload_n 0, 1) := by decide +kernel
theorem dX6_read_77 : decode cX6_read 77 = .ok (.getfield 57, 3) := by decide +kernel
theorem dX6_read_80 : decode cX6_read 80 = .ok (.iload_n 1, 1) := by decide +kernel
theorem dX6_read_81 : decode cX6_read 81 = .ok (.aaload, 1) := by decide +kernel
theorem dX6_read_82 : decode cX6_read 82 = .ok (.iload_n 3, 1) := by decide +kernel
theorem dX6_read_83 : decode cX6_read 83 = .ok (.iload 7, 2) := by decide +kernel
theorem dX6_read_85 : decode cX6_read 85 = .ok (.iadd, 1) := by decide +kernel
theorem dX6_read_86 : decode cX6_read 86 = .ok (.invokevirtual 246, 3) := by decide +kernel
theorem dX6_read_89 : decode cX6_read 89 = .ok (.invokevirtual 247, 3) := by decide +kernel
theorem dX6_read_92 : decode cX6_read 92 = .ok (.ifCond .ge 18, 3) := by decide +kernel
theorem dX6_read_95 : decode cX6_read 95 = .ok (.aload_n 0, 1) := by decide +kernel
theorem dX6_read_96 : decode cX6_read 96 = .ok (.getfield 26, 3) := by decide +kernel
theorem dX6_read_99 : decode cX6_read 99 = .ok (.iload 5, 2) := by decide +kernel
theorem dX6_read_101 : decode cX6_read 101 = .ok (.putfield 89, 3) := by decide +kernel
theorem dX6_read_104 : decode cX6_read 104 = .ok (.bipush (-20), 2) := by decide +kernel
theorem dX6_read_106 : decode cX6_read 106 = .ok (.iload 7, 2) := by decide +kernel
theorem dX6_read_108 : decode cX6_read 108 = .ok (.isub, 1) := by decide +kernel
theorem dX6_read_109 : decode cX6_read 109 = .ok (.ireturn, 1) := by decide +kernel
theorem dX6_read_110 : decode cX6_read 110 = .ok (.iinc 7 1, 3) := by decide +kernel
theorem dX6_read_113 : decode cX6_read 113 = .ok (.goto (-69), 3) := by decide +kernel
theorem dX6_read_116 : decode cX6_read 116 = .ok (.aload_n 0, 1) := by decide +kernel
theorem dX6_read_117 : decode cX6_read 117 = .ok (.iload 6, 2) := by decide +kernel
theorem dX6_read_119 : decode cX6_read 119 = .ok (.putfield 61, 3) := by decide +kernel
theorem dX6_read_122 : decode cX6_read 122 = .ok (.iload 7, 2) := by decide +kernel
theorem dX6_read_124 : decode cX6_read 124 = .ok (.ireturn, 1) := by decide +kernel
theorem dX6_torn_0 : decode cX6_torn 0 = .ok (.aload_n 0, 1) := by decide +kernel
theorem dX6_torn_1 : decode cX6_torn 1 = .ok (.getfield 61, 3) := by decide +kernel
theorem dX6_torn_4 : decode cX6_torn 4 = .ok (.ireturn, 1) := by decide +kernel
theorem dX6_count_0 : decode cX6_count 0 = .ok (.iload_n 1, 1) := by decide +kernel
theorem dX6_count_1 : decode cX6_count 1 = .ok (.tableswitch 76 0 3 #[31, 36, 44, 71], 31) := by decide +kernel
theorem dX6_count_32 : decode cX6_count 32 = .ok (.aload_n 0, 1) := by decide +kernel
theorem dX6_count_33 : decode cX6_count 33 = .ok (.invokevirtual 250, 3) := by decide +kernel
theorem dX6_count_36 : decode cX6_count 36 = .ok (.ireturn, 1) := by decide +kernel
theorem dX6_count_37 : decode cX6_count 37 = .ok (.aload_n 0, 1) := by decide +kernel
theorem dX6_count_38 : decode cX6_count 38 = .ok (.getfield 10, 3) := by decide +kernel
theorem dX6_count_41 : decode cX6_count 41 = .ok (.getfield 73, 3) := by decide +kernel
theorem dX6_count_44 : decode cX6_count 44 = .ok (.ireturn, 1) := by decide +kernel
theorem dX6_count_45 : decode cX6_count 45 = .ok (.aload_n 0, 1) := by decide +kernel
theorem dX6_count_46 : decode cX6_count 46 = .ok (.getfield 57, 3) := by decide +kernel
theorem dX6_count_49 : decode cX6_count 49 = .ok (.iconst 0, 1) := by decide +kernel
theorem dX6_count_50 : decode cX6_count 50 = .ok (.aaload, 1) := by decide +kernel
theorem dX6_count_51 : decode cX6_count 51 = .ok (.invokevirtual 233, 3) := by decide +kernel
theorem dX6_count_54 : decode cX6_count 54 = .ok (.ifCond .eq 8, 3) := by decide +kernel
theorem dX6_count_57 : decode cX6_count 57 = .ok (.bipush (-4), 2) := by decide +kernel
theorem dX6_count_59 : decode cX6_count 59 = .ok (.goto 12, 3) := by decide +kernel
theorem dX6_count_62 : decode cX6_count 62 = .ok (.aload_n 0, 1) := by decide +kernel
theorem dX6_count_63 : decode cX6_count 63 = .ok (.getfield 57, 3) := by decide +kernel
theorem dX6_count_66 : decode cX6_count 66 = .ok (.iconst 0, 1) := by decide +kernel
theorem dX6_count_67 : decode cX6_count 67 = .ok (.aaload, 1) := by decide +kernel
theorem dX6_count_68 : decode cX6_count 68 = .ok (.getfield 253, 3) := by decide +kernel
theorem dX6_count_71 : decode cX6_count 71 = .ok (.ireturn, 1) := by decide +kernel
theorem dX6_count_72 : decode cX6_count 72 = .ok (.aload_n 0, 1) := by decide +kernel
theorem dX6_count_73 : decode cX6_count 73 = .ok (.invokevirtual 254, 3) := by decide +kernel
theorem dX6_count_76 : decode cX6_count 76 = .ok (.ireturn, 1) := by decide +kernel
theorem dX6_count_77 : decode cX6_count 77 = .ok (.iconst (-1), 1) := by decide +kernel
theorem dX6_count_78 : decode cX6_count 78 = .ok (.ireturn, 1) := by decide +kernel
theorem dX6_isHundredths_0 : decode cX6_isHundredths 0 = .ok (.iload_n 0, 1) := by decide +kernel
theorem dX6_isHundredths_1 : decode cX6_isHundredths 1 = .ok (.ldc 215, 2) := by decide +kernel
theorem dX6_isHundredths_3 : decode cX6_isHundredths 3 = .ok (.if_icmp .lt 13, 3) := by decide +kernel
theorem dX6_isHundredths_6 : decode cX6_isHundredths 6 = .ok (.iload_n 0, 1) := by decide +kernel
theorem dX6_isHundredths_7 : decode cX6_isHundredths 7 = .ok (.ldc 216, 2) := by decide +kernel
theorem dX6_isHundredths_9 : decode cX6_isHundredths 9 = .ok (.if_icmp .gt 7, 3) := by decide +kernel
theorem dX6_isHundredths_12 : decode cX6_isHundredths 12 = .ok (.iconst 1, 1) := by decide +kernel
theorem dX6_isHundredths_13 : decode cX6_isHundredths 13 = .ok (.goto 4, 3) := by decide +kernel
theorem dX6_isHundredths_16 : decode cX6_isHundredths 16 = .ok (.iconst 0, 1) := by decide +kernel
theorem dX6_isHundredths_17 : decode cX6_isHundredths 17 = .ok (.ireturn, 1) := by decide +kernel
theorem dX6_isFactor_0 : decode cX6_isFactor 0 = .ok (.iload_n 0, 1) := by decide +kernel
theorem dX6_isFactor_1 : decode cX6_isFactor 1 = .ok (.iconst 1, 1) := by decide +kernel
theorem dX6_isFactor_2 : decode cX6_isFactor 2 = .ok (.if_icmp .lt 13, 3) := by decide +kernel
theorem dX6_isFactor_5 : decode cX6_isFactor 5 = .ok (.iload_n 0, 1) := by decide +kernel
theorem dX6_isFactor_6 : decode cX6_isFactor 6 = .ok (.bipush 20, 2) := by decide +kernel
theorem dX6_isFactor_8 : decode cX6_isFactor 8 = .ok (.if_icmp .gt 7, 3) := by decide +kernel
theorem dX6_isFactor_11 : decode cX6_isFactor 11 = .ok (.iconst 1, 1) := by decide +kernel
theorem dX6_isFactor_12 : decode cX6_isFactor 12 = .ok (.goto 4, 3) := by decide +kernel
theorem dX6_isFactor_15 : decode cX6_isFactor 15 = .ok (.iconst 0, 1) := by decide +kernel
theorem dX6_isFactor_16 : decode cX6_isFactor 16 = .ok (.ireturn, 1) := by decide +kernel
theorem dX6_isImage_0 : decode cX6_isImage 0 = .ok (.iload_n 1, 1) := by decide +kernel
theorem dX6_isImage_1 : decode cX6_isImage 1 = .ok (.ifCond .lt 25, 3) := by decide +kernel
theorem dX6_isImage_4 : decode cX6_isImage 4 = .ok (.iload_n 1, 1) := by decide +kernel
theorem dX6_isImage_5 : decode cX6_isImage 5 = .ok (.aload_n 0, 1) := by decide +kernel
theorem dX6_isImage_6 : decode cX6_isImage 6 = .ok (.getfield 50, 3) := by decide +kernel
theorem dX6_isImage_9 : decode cX6_isImage 9 = .ok (.arraylength, 1) := by decide +kernel
theorem dX6_isImage_10 : decode cX6_isImage 10 = .ok (.if_icmp .ge 16, 3) := by decide +kernel
theorem dX6_isImage_13 : decode cX6_isImage 13 = .ok (.iload_n 1, 1) := by decide +kernel
theorem dX6_isImage_14 : decode cX6_isImage 14 = .ok (.aload_n 0, 1) := by decide +kernel
theorem dX6_isImage_15 : decode cX6_isImage 15 = .ok (.getfield 46, 3) := by decide +kernel
theorem dX6_isImage_18 : decode cX6_isImage 18 = .ok (.arraylength, 1) := by decide +kernel
theorem dX6_isImage_19 : decode cX6_isImage 19 = .ok (.if_icmp .ge 7, 3) := by decide +kernel
theorem dX6_isImage_22 : decode cX6_isImage 22 = .ok (.iconst 1, 1) := by decide +kernel
theorem dX6_isImage_23 : decode cX6_isImage 23 = .ok (.goto 4, 3) := by decide +kernel
theorem dX6_isImage_26 : decode cX6_isImage 26 = .ok (.iconst 0, 1) := by decide +kernel
theorem dX6_isImage_27 : decode cX6_isImage 27 = .ok (.ireturn, 1) := by decide +kernel
theorem dX6_isSheet_0 : decode cX6_isSheet 0 = .ok (.iload_n 1, 1) := by decide +kernel
theorem dX6_isSheet_1 : decode cX6_isSheet 1 = .ok (.ifCond .lt 16, 3) := by decide +kernel
theorem dX6_isSheet_4 : decode cX6_isSheet 4 = .ok (.iload_n 1, 1) := by decide +kernel
theorem dX6_isSheet_5 : decode cX6_isSheet 5 = .ok (.aload_n 0, 1) := by decide +kernel
theorem dX6_isSheet_6 : decode cX6_isSheet 6 = .ok (.getfield 57, 3) := by decide +kernel
theorem dX6_isSheet_9 : decode cX6_isSheet 9 = .ok (.arraylength, 1) := by decide +kernel
theorem dX6_isSheet_10 : decode cX6_isSheet 10 = .ok (.if_icmp .ge 7, 3) := by decide +kernel
theorem dX6_isSheet_13 : decode cX6_isSheet 13 = .ok (.iconst 1, 1) := by decide +kernel
theorem dX6_isSheet_14 : decode cX6_isSheet 14 = .ok (.goto 4, 3) := by decide +kernel
theorem dX6_isSheet_17 : decode cX6_isSheet 17 = .ok (.iconst 0, 1) := by decide +kernel
theorem dX6_isSheet_18 : decode cX6_isSheet 18 = .ok (.ireturn, 1) := by decide +kernel
theorem dX6_isLane_0 : decode cX6_isLane 0 = .ok (.iload_n 0, 1) := by decide +kernel
theorem dX6_isLane_1 : decode cX6_isLane 1 = .ok (.ifCond .lt 12, 3) := by decide +kernel
theorem dX6_isLane_4 : decode cX6_isLane 4 = .ok (.iload_n 0, 1) := by decide +kernel
theorem dX6_isLane_5 : decode cX6_isLane 5 = .ok (.iconst 2, 1) := by decide +kernel
theorem dX6_isLane_6 : decode cX6_isLane 6 = .ok (.if_icmp .gt 7, 3) := by decide +kernel
theorem dX6_isLane_9 : decode cX6_isLane 9 = .ok (.iconst 1, 1) := by decide +kernel
theorem dX6_isLane_10 : decode cX6_isLane 10 = .ok (.goto 4, 3) := by decide +kernel
theorem dX6_isLane_13 : decode cX6_isLane 13 = .ok (.iconst 0, 1) := by decide +kernel
theorem dX6_isLane_14 : decode cX6_isLane 14 = .ok (.ireturn, 1) := by decide +kernel
theorem dX6_putBehind_0 : decode cX6_putBehind 0 = .ok (.aload_n 0, 1) := by decide +kernel
theorem dX6_putBehind_1 : decode cX6_putBehind 1 = .ok (.getfield 26, 3) := by decide +kernel
theorem dX6_putBehind_4 : decode cX6_putBehind 4 = .ok (.invokevirtual 212, 3) := by decide +kernel
theorem dX6_putBehind_7 : decode cX6_putBehind 7 = .ok (.ifCond .eq 6, 3) := by decide +kernel
theorem dX6_putBehind_10 : decode cX6_putBehind 10 = .ok (.bipush (-3), 2) := by decide +kernel
theorem dX6_putBehind_12 : decode cX6_putBehind 12 = .ok (.ireturn, 1) := by decide +kernel
theorem dX6_putBehind_13 : decode cX6_putBehind 13 = .ok (.aload_n 0, 1) := by decide +kernel
theorem dX6_putBehind_14 : decode cX6_putBehind 14 = .ok (.getfield 26, 3) := by decide +kernel
theorem dX6_putBehind_17 : decode cX6_putBehind 17 = .ok (.iload_n 1, 1) := by decide +kernel
theorem dX6_putBehind_18 : decode cX6_putBehind 18 = .ok (.invokevirtual 214, 3) := by decide +kernel
theorem dX6_putBehind_21 : decode cX6_putBehind 21 = .ok (.aload_n 0, 1) := by decide +kernel
theorem dX6_putBehind_22 : decode cX6_putBehind 22 = .ok (.getfield 26, 3) := by decide +kernel
theorem dX6_putBehind_25 : decode cX6_putBehind 25 = .ok (.getfield 89, 3) := by decide +kernel
theorem dX6_putBehind_28 : decode cX6_putBehind 28 = .ok (.ireturn, 1) := by decide +kernel
theorem dX6_replace_0 : decode cX6_replace 0 = .ok (.aload_n 0, 1) := by decide +kernel
theorem dX6_replace_1 : decode cX6_replace 1 = .ok (.getfield 26, 3) := by decide +kernel
theorem dX6_replace_4 : decode cX6_replace 4 = .ok (.iload_n 1, 1) := by decide +kernel
theorem dX6_replace_5 : decode cX6_replace 5 = .ok (.invokevirtual 120, 3) := by decide +kernel
theorem dX6_replace_8 : decode cX6_replace 8 = .ok (.ldc 143, 2) := by decide +kernel
theorem dX6_replace_10 : decode cX6_replace 10 = .ok (.if_icmp .ne 7, 3) := by decide +kernel
theorem dX6_replace_13 : decode cX6_replace 13 = .ok (.iconst 1, 1) := by decide +kernel
theorem dX6_replace_14 : decode cX6_replace 14 = .ok (.goto 4, 3) := by decide +kernel
theorem dX6_replace_17 : decode cX6_replace 17 = .ok (.iconst 0, 1) := by decide +kernel
theorem dX6_replace_18 : decode cX6_replace 18 = .ok (.istore_n 3, 1) := by decide +kernel
theorem dX6_replace_19 : decode cX6_replace 19 = .ok (.aload_n 0, 1) := by decide +kernel
theorem dX6_replace_20 : decode cX6_replace 20 = .ok (.getfield 26, 3) := by decide +kernel
theorem dX6_replace_23 : decode cX6_replace 23 = .ok (.iload_n 1, 1) := by decide +kernel
theorem dX6_replace_24 : decode cX6_replace 24 = .ok (.iload_n 2, 1) := by decide +kernel
theorem dX6_replace_25 : decode cX6_replace 25 = .ok (.invokevirtual 257, 3) := by decide +kernel
theorem dX6_replace_28 : decode cX6_replace 28 = .ok (.iload_n 3, 1) := by decide +kernel
theorem dX6_replace_29 : decode cX6_replace 29 = .ok (.ireturn, 1) := by decide +kernel
theorem dX6_countResults_0 : decode cX6_countResults 0 = .ok (.iconst 0, 1) := by decide +kernel
theorem dX6_countResults_1 : decode cX6_countResults 1 = .ok (.istore_n 1, 1) := by decide +kernel
theorem dX6_countResults_2 : decode cX6_countResults 2 = .ok (.aload_n 0, 1) := by decide +kernel
theorem dX6_countResults_3 : decode cX6_countResults 3 = .ok (.getfield 35, 3) := by decide +kernel
theorem dX6_countResults_6 : decode cX6_countResults 6 = .ok (.invokevirtual 182, 3) := by decide +kernel
theorem dX6_countResults_9 : decode cX6_countResults 9 = .ok (.iconst 0, 1) := by decide +kernel
theorem dX6_countResults_10 : decode cX6_countResults 10 = .ok (.istore_n 2, 1) := by decide +kernel
theorem dX6_countResults_11 : decode cX6_countResults 11 = .ok (.iload_n 2, 1) := by decide +kernel
theorem dX6_countResults_12 : decode cX6_countResults 12 = .ok (.aload_n 0, 1) := by decide +kernel
theorem dX6_countResults_13 : decode cX6_countResults 13 = .ok (.getfield 26, 3) := by decide +kernel
theorem dX6_countResults_16 : decode cX6_countResults 16 = .ok (.getfield 89, 3) := by decide +kernel
theorem dX6_countResults_19 : decode cX6_countResults 19 = .ok (.if_icmp .ge 30, 3) := by decide +kernel
theorem dX6_countResults_22 : decode cX6_countResults 22 = .ok (.aload_n 0, 1) := by decide +kernel
theorem dX6_countResults_23 : decode cX6_countResults 23 = .ok (.getfield 35, 3) := by decide +kernel
theorem dX6_countResults_26 : decode cX6_countResults 26 = .ok (.iload_n 2, 1) := by decide +kernel
theorem dX6_countResults_27 : decode cX6_countResults 27 = .ok (.invokevirtual 185, 3) := by decide +kernel
theorem dX6_countResults_30 : decode cX6_countResults 30 = .ok (.aload_n 0, 1) := by decide +kernel
theorem dX6_countResults_31 : decode cX6_countResults 31 = .ok (.getfield 35, 3) := by decide +kernel
theorem dX6_countResults_34 : decode cX6_countResults 34 = .ok (.invokevirtual 134, 3) := by decide +kernel
theorem dX6_countResults_37 : decode cX6_countResults 37 = .ok (.ifCond .eq 6, 3) := by decide +kernel
theorem dX6_countResults_40 : decode cX6_countResults 40 = .ok (.iinc 1 1, 3) := by decide +kernel
theorem dX6_countResults_43 : decode cX6_countResults 43 = .ok (.iinc 2 1, 3) := by decide +kernel
theorem dX6_countResults_46 : decode cX6_countResults 46 = .ok (.goto (-35), 3) := by decide +kernel
theorem dX6_countResults_49 : decode cX6_countResults 49 = .ok (.iload_n 1, 1) := by decide +kernel
theorem dX6_countResults_50 : decode cX6_countResults 50 = .ok (.ireturn, 1) := by decide +kernel
theorem dX6_countImages_0 : decode cX6_countImages 0 = .ok (.iconst 0, 1) := by decide +kernel
theorem dX6_countImages_1 : decode cX6_countImages 1 = .ok (.istore_n 1, 1) := by decide +kernel
theorem dX6_countImages_2 : decode cX6_countImages 2 = .ok (.iconst 0, 1) := by decide +kernel
theorem dX6_countImages_3 : decode cX6_countImages 3 = .ok (.istore_n 2, 1) := by decide +kernel
theorem dX6_countImages_4 : decode cX6_countImages 4 = .ok (.iload_n 2, 1) := by decide +kernel
theorem dX6_countImages_5 : decode cX6_countImages 5 = .ok (.aload_n 0, 1) := by decide +kernel
theorem dX6_countImages_6 : decode cX6_countImages 6 = .ok (.getfield 50, 3) := by decide +kernel
theorem dX6_countImages_9 : decode cX6_countImages 9 = .ok (.arraylength, 1) := by decide +kernel
theorem dX6_countImages_10 : decode cX6_countImages 10 = .ok (.if_icmp .ge 21, 3) := by decide +kernel
theorem dX6_countImages_13 : decode cX6_countImages 13 = .ok (.aload_n 0, 1) := by decide +kernel
theorem dX6_countImages_14 : decode cX6_countImages 14 = .ok (.getfield 50, 3) := by decide +kernel
theorem dX6_countImages_17 : decode cX6_countImages 17 = .ok (.iload_n 2, 1) := by decide +kernel
theorem dX6_countImages_18 : decode cX6_countImages 18 = .ok (.baload, 1) := by decide +kernel
theorem dX6_countImages_19 : decode cX6_countImages 19 = .ok (.ifCond .eq 6, 3) := by decide +kernel
theorem dX6_countImages_22 : decode cX6_countImages 22 = .ok (.iinc 1 1, 3) := by decide +kernel
theorem dX6_countImages_25 : decode cX6_countImages 25 = .ok (.iinc 2 1, 3) := by decide +kernel
theorem dX6_countImages_28 : decode cX6_countImages 28 = .ok (.goto (-24), 3) := by decide +kernel
theorem dX6_countImages_31 : decode cX6_countImages 31 = .ok (.iload_n 1, 1) := by decide +kernel
theorem dX6_countImages_32 : decode cX6_countImages 32 = .ok (.ireturn, 1) := by decide +kernel
theorem dX6_countShownBytes_0 : decode cX6_countShownBytes 0 = .ok (.iconst 0, 1) := by decide +kernel
theorem dX6_countShownBytes_1 : decode cX6_countShownBytes 1 = .ok (.istore_n 1, 1) := by decide +kernel
theorem dX6_countShownBytes_2 : decode cX6_countShownBytes 2 = .ok (.aload_n 0, 1) := by decide +kernel
theorem dX6_countShownBytes_3 : decode cX6_countShownBytes 3 = .ok (.getfield 35, 3) := by decide +kernel
theorem dX6_countShownBytes_6 : decode cX6_countShownBytes 6 = .ok (.invokevirtual 182, 3) := by decide +kernel
theorem dX6_countShownBytes_9 : decode cX6_countShownBytes 9 = .ok (.iconst 0, 1) := by decide +kernel
theorem dX6_countShownBytes_10 : decode cX6_countShownBytes 10 = .ok (.istore_n 2, 1) := by decide +kernel
theorem dX6_countShownBytes_11 : decode cX6_countShownBytes 11 = .ok (.iload_n 2, 1) := by decide +kernel
theorem dX6_countShownBytes_12 : decode cX6_countShownBytes 12 = .ok (.aload_n 0, 1) := by decide +kernel
theorem dX6_countShownBytes_13 : decode cX6_countShownBytes 13 = .ok (.getfield 26, 3) := by decide +kernel
theorem dX6_countShownBytes_16 : decode cX6_countShownBytes 16 = .ok (.getfield 89, 3) := by decide +kernel
theorem dX6_countShownBytes_19 : decode cX6_countShownBytes 19 = .ok (.if_icmp .ge 31, 3) := by decide +kernel
theorem dX6_countShownBytes_22 : decode cX6_countShownBytes 22 = .ok (.aload_n 0, 1) := by decide +kernel
theorem dX6_countShownBytes_23 : decode cX6_countShownBytes 23 = .ok (.getfield 35, 3) := by decide +kernel
theorem dX6_countShownBytes_26 : decode cX6_countShownBytes 26 = .ok (.iload_n 2, 1) := by decide +kernel
theorem dX6_countShownBytes_27 : decode cX6_countShownBytes 27 = .ok (.invokevirtual 185, 3) := by decide +kernel
theorem dX6_countShownBytes_30 : decode cX6_countShownBytes 30 = .ok (.aload_n 0, 1) := by decide +kernel
theorem dX6_countShownBytes_31 : decode cX6_countShownBytes 31 = .ok (.invokevirtual 162, 3) := by decide +kernel
theorem dX6_countShownBytes_34 : decode cX6_countShownBytes 34 = .ok (.iload_n 1, 1) := by decide +kernel
theorem dX6_countShownBytes_35 : decode cX6_countShownBytes 35 = .ok (.aload_n 0, 1) := by decide +kernel
theorem dX6_countShownBytes_36 : decode cX6_countShownBytes 36 = .ok (.getfield 42, 3) := by decide +kernel
theorem dX6_countShownBytes_39 : decode cX6_countShownBytes 39 = .ok (.getfield 165, 3) := by decide +kernel
theorem dX6_countShownBytes_42 : decode cX6_countShownBytes 42 = .ok (.iadd, 1) := by decide +kernel
theorem dX6_countShownBytes_43 : decode cX6_countShownBytes 43 = .ok (.istore_n 1, 1) := by decide +kernel
theorem dX6_countShownBytes_44 : decode cX6_countShownBytes 44 = .ok (.iinc 2 1, 3) := by decide +kernel
theorem dX6_countShownBytes_47 : decode cX6_countShownBytes 47 = .ok (.goto (-36), 3) := by decide +kernel
theorem dX6_countShownBytes_50 : decode cX6_countShownBytes 50 = .ok (.iload_n 1, 1) := by decide +kernel
theorem dX6_countShownBytes_51 : decode cX6_countShownBytes 51 = .ok (.ireturn, 1) := by decide +kernel
theorem dX6_writeWords_0 : decode cX6_writeWords 0 = .ok (.aload_n 0, 1) := by decide +kernel
theorem dX6_writeWords_1 : decode cX6_writeWords 1 = .ok (.getfield 35, 3) := by decide +kernel
theorem dX6_writeWords_4 : decode cX6_writeWords 4 = .ok (.invokevirtual 134, 3) := by decide +kernel
theorem dX6_writeWords_7 : decode cX6_writeWords 7 = .ok (.ifCond .eq 27, 3) := by decide +kernel
theorem dX6_writeWords_10 : decode cX6_writeWords 10 = .ok (.aload_n 0, 1) := by decide +kernel
theorem dX6_writeWords_11 : decode cX6_writeWords 11 = .ok (.getfield 42, 3) := by decide +kernel
theorem dX6_writeWords_14 : decode cX6_writeWords 14 = .ok (.aload_n 0, 1) := by decide +kernel
theorem dX6_writeWords_15 : decode cX6_writeWords 15 = .ok (.getfield 35, 3) := by decide +kernel
theorem dX6_writeWords_18 : decode cX6_writeWords 18 = .ok (.invokevirtual 153, 3) := by decide +kernel
theorem dX6_writeWords_21 : decode cX6_writeWords 21 = .ok (.aload_n 0, 1) := by decide +kernel
theorem dX6_writeWords_22 : decode cX6_writeWords 22 = .ok (.getfield 26, 3) := by decide +kernel
theorem dX6_writeWords_25 : decode cX6_writeWords 25 = .ok (.getfield 114, 3) := by decide +kernel
theorem dX6_writeWords_28 : decode cX6_writeWords 28 = .ok (.invokevirtual 260, 3) := by decide +kernel
theorem dX6_writeWords_31 : decode cX6_writeWords 31 = .ok (.goto 10, 3) := by decide +kernel
theorem dX6_writeWords_34 : decode cX6_writeWords 34 = .ok (.aload_n 0, 1) := by decide +kernel
theorem dX6_writeWords_35 : decode cX6_writeWords 35 = .ok (.getfield 42, 3) := by decide +kernel
theorem dX6_writeWords_38 : decode cX6_writeWords 38 = .ok (.invokevirtual 263, 3) := by decide +kernel
theorem dX6_writeWords_41 : decode cX6_writeWords 41 = .ok (.return_, 1) := by decide +kernel
theorem dX6_tearAt_0 : decode cX6_tearAt 0 = .ok (.aload_n 0, 1) := by decide +kernel
theorem dX6_tearAt_1 : decode cX6_tearAt 1 = .ok (.invokevirtual 233, 3) := by decide +kernel
theorem dX6_tearAt_4 : decode cX6_tearAt 4 = .ok (.ifCond .eq 5, 3) := by decide +kernel
theorem dX6_tearAt_7 : decode cX6_tearAt 7 = .ok (.iconst 1, 1) := by decide +kernel
theorem dX6_tearAt_8 : decode cX6_tearAt 8 = .ok (.ireturn, 1) := by decide +kernel
theorem dX6_tearAt_9 : decode cX6_tearAt 9 = .ok (.aload_n 0, 1) := by decide +kernel
theorem dX6_tearAt_10 : decode cX6_tearAt 10 = .ok (.getfield 266, 3) := by decide +kernel
theorem dX6_tearAt_13 : decode cX6_tearAt 13 = .ok (.iload_n 1, 1) := by decide +kernel
theorem dX6_tearAt_14 : decode cX6_tearAt 14 = .ok (.if_icmp .eq 5, 3) := by decide +kernel
theorem dX6_tearAt_17 : decode cX6_tearAt 17 = .ok (.iconst 3, 1) := by decide +kernel
theorem dX6_tearAt_18 : decode cX6_tearAt 18 = .ok (.ireturn, 1) := by decide +kernel
theorem dX6_tearAt_19 : decode cX6_tearAt 19 = .ok (.aload_n 0, 1) := by decide +kernel
theorem dX6_tearAt_20 : decode cX6_tearAt 20 = .ok (.iload_n 2, 1) := by decide +kernel
theorem dX6_tearAt_21 : decode cX6_tearAt 21 = .ok (.invokevirtual 236, 3) := by decide +kernel
theorem dX6_tearAt_24 : decode cX6_tearAt 24 = .ok (.ifCond .eq 7, 3) := by decide +kernel
theorem dX6_tearAt_27 : decode cX6_tearAt 27 = .ok (.iconst 0, 1) := by decide +kernel
theorem dX6_tearAt_28 : decode cX6_tearAt 28 = .ok (.goto 4, 3) := by decide +kernel
theorem dX6_tearAt_31 : decode cX6_tearAt 31 = .ok (.iconst 2, 1) := by decide +kernel
theorem dX6_tearAt_32 : decode cX6_tearAt 32 = .ok (.ireturn, 1) := by decide +kernel
theorem dX7_init_0 : decode cX7_init 0 = .ok (.aload_n 0, 1) := by decide +kernel
theorem dX7_init_1 : decode cX7_init 1 = .ok (.invokespecial 1, 3) := by decide +kernel
theorem dX7_init_4 : decode cX7_init 4 = .ok (.aload_n 0, 1) := by decide +kernel
theorem dX7_init_5 : decode cX7_init 5 = .ok (.sipush 515, 3) := by decide +kernel
theorem dX7_init_8 : decode cX7_init 8 = .ok (.newarray .int, 2) := by decide +kernel
theorem dX7_init_10 : decode cX7_init 10 = .ok (.putfield 7, 3) := by decide +kernel
theorem dX7_init_13 : decode cX7_init 13 = .ok (.aload_n 0, 1) := by decide +kernel
theorem dX7_init_14 : decode cX7_init 14 = .ok (.sipush 320, 3) := by decide +kernel
theorem dX7_init_17 : decode cX7_init 17 = .ok (.newarray .int, 2) := by decide +kernel
theorem dX7_init_19 : decode cX7_init 19 = .ok (.putfield 13, 3) := by decide +kernel
theorem dX7_init_22 : decode cX7_init 22 = .ok (.aload_n 0, 1) := by decide +kernel
theorem dX7_init_23 : decode cX7_init 23 = .ok (.bipush 16, 2) := by decide +kernel
theorem dX7_init_25 : decode cX7_init 25 = .ok (.newarray .int, 2) := by decide +kernel
theorem dX7_init_27 : decode cX7_init 27 = .ok (.dup, 1) := by decide +kernel
theorem dX7_init_28 : decode cX7_init 28 = .ok (.iconst 0, 1) := by decide +kernel
theorem dX7_init_29 : decode cX7_init 29 = .ok (.iconst 0, 1) := by decide +kernel
theorem dX7_init_30 : decode cX7_init 30 = .ok (.iastore, 1) := by decide +kernel
theorem dX7_init_31 : decode cX7_init 31 = .ok (.dup, 1) := by decide +kernel
theorem dX7_init_32 : decode cX7_init 32 = .ok (.iconst 1, 1) := by decide +kernel
theorem dX7_init_33 : decode cX7_init 33 = .ok (.iconst 5, 1) := by decide +kernel
theorem dX7_init_34 : decode cX7_init 34 = .ok (.iastore, 1) := by decide +kernel
theorem dX7_init_35 : decode cX7_init 35 = .ok (.dup, 1) := by decide +kernel
theorem dX7_init_36 : decode cX7_init 36 = .ok (.iconst 2, 1) := by decide +kernel
theorem dX7_init_37 : decode cX7_init 37 = .ok (.bipush 9, 2) := by decide +kernel
theorem dX7_init_39 : decode cX7_init 39 = .ok (.iastore, 1) := by decide +kernel
theorem dX7_init_40 : decode cX7_init 40 = .ok (.dup, 1) := by decide +kernel
theorem dX7_init_41 : decode cX7_init 41 = .ok (.iconst 3, 1) := by decide +kernel
theorem dX7_init_42 : decode cX7_init 42 = .ok (.bipush 13, 2) := by decide +kernel
theorem dX7_init_44 : decode cX7_init 44 = .ok (.iastore, 1) := by decide +kernel
theorem dX7_init_45 : decode cX7_init 45 = .ok (.dup, 1) := by decide +kernel
theorem dX7_init_46 : decode cX7_init 46 = .ok (.iconst 4, 1) := by decide +kernel
theorem dX7_init_47 : decode cX7_init 47 = .ok (.bipush 17, 2) := by decide +kernel
theorem dX7_init_49 : decode cX7_init 49 = .ok (.iastore, 1) := by decide +kernel
theorem dX7_init_50 : decode cX7_init 50 = .ok (.dup, 1) := by decide +kernel
theorem dX7_init_51 : decode cX7_init 51 = .ok (.iconst 5, 1) := by decide +kernel
theorem dX7_init_52 : decode cX7_init 52 = .ok (.bipush 21, 2) := by decide +kernel
theorem dX7_init_54 : decode cX7_init 54 = .ok (.iastore, 1) := by decide +kernel
theorem dX7_init_55 : decode cX7_init 55 = .ok (.dup, 1) := by decide +kernel
theorem dX7_init_56 : decode cX7_init 56 = .ok (.bipush 6, 2) := by decide +kernel
theorem dX7_init_58 : decode cX7_init 58 = .ok (.bipush 24, 2) := by decide +kernel
theorem dX7_init_60 : decode cX7_init 60 = .ok (.iastore, 1) := by decide +kernel
theorem dX7_init_61 : decode cX7_init 61 = .ok (.dup, 1) := by decide +kernel
theorem dX7_init_62 : decode cX7_init 62 = .ok (.bipush 7, 2) := by decide +kernel
theorem dX7_init_64 : decode cX7_init 64 = .ok (.bipush 27, 2) := by decide +kernel
theorem dX7_init_66 : decode cX7_init 66 = .ok (.iastore, 1) := by decide +kernel
theorem dX7_init_67 : decode cX7_init 67 = .ok (.dup, 1) := by decide +kernel
theorem dX7_init_68 : decode cX7_init 68 = .ok (.bipush 8, 2) := by decide +kernel
theorem dX7_init_70 : decode cX7_init 70 = .ok (.bipush 31, 2) := by decide +kernel
theorem dX7_init_72 : decode cX7_init 72 = .ok (.iastore, 1) := by decide +kernel
theorem dX7_init_73 : decode cX7_init 73 = .ok (.dup, 1) := by decide +kernel
theorem dX7_init_74 : decode cX7_init 74 = .ok (.bipush 9, 2) := by decide +kernel
theorem dX7_init_76 : decode cX7_init 76 = .ok (.bipush 35, 2) := by decide +kernel
theorem dX7_init_78 : decode cX7_init 78 = .ok (.iastore, 1) := by decide +kernel
theorem dX7_init_79 : decode cX7_init 79 = .ok (.dup, 1) := by decide +kernel
theorem dX7_init_80 : decode cX7_init 80 = .ok (.bipush 10, 2) := by decide +kernel
theorem dX7_init_82 : decode cX7_init 82 = .ok (.bipush 39, 2) := by decide +kernel
theorem dX7_init_84 : decode cX7_init 84 = .ok (.iastore, 1) := by decide +kernel
theorem dX7_init_85 : decode cX7_init 85 = .ok (.dup, 1) := by decide +kernel
theorem dX7_init_86 : decode cX7_init 86 = .ok (.bipush 11, 2) := by decide +kernel
theorem dX7_init_88 : decode cX7_init 88 = .ok (.bipush 43, 2) := by decide +kernel
theorem dX7_init_90 : decode cX7_init 90 = .ok (.iastore, 1) := by decide +kernel
theorem dX7_init_91 : decode cX7_init 91 = .ok (.dup, 1) := by decide +kernel
theorem dX7_init_92 : decode cX7_init 92 = .ok (.bipush 12, 2) := by decide +kernel
theorem dX7_init_94 : decode cX7_init 94 = .ok (.bipush 48, 2) := by decide +kernel
theorem dX7_init_96 : decode cX7_init 96 = .ok (.iastore, 1) := by decide +kernel
theorem dX7_init_97 : decode cX7_init 97 = .ok (.dup, 1) := by decide +kernel
theorem dX7_init_98 : decode cX7_init 98 = .ok (.bipush 13, 2) := by decide +kernel
theorem dX7_init_100 : decode cX7_init 100 = .ok (.bipush 53, 2) := by decide +kernel
theorem dX7_init_102 : decode cX7_init 102 = .ok (.iastore, 1) := by decide +kernel
theorem dX7_init_103 : decode cX7_init 103 = .ok (.dup, 1) := by decide +kernel
theorem dX7_init_104 : decode cX7_init 104 = .ok (.bipush 14, 2) := by decide +kernel
theorem dX7_init_106 : decode cX7_init 106 = .ok (.bipush 57, 2) := by decide +kernel
theorem dX7_init_108 : decode cX7_init 108 = .ok (.iastore, 1) := by decide +kernel
theorem dX7_init_109 : decode cX7_init 109 = .ok (.dup, 1) := by decide +kernel
theorem dX7_init_110 : decode cX7_init 110 = .ok (.bipush 15, 2) := by decide +kernel
theorem dX7_init_112 : decode cX7_init 112 = .ok (.bipush 61, 2) := by decide +kernel
theorem dX7_init_114 : decode cX7_init 114 = .ok (.iastore, 1) := by decide +kernel
theorem dX7_init_115 : decode cX7_init 115 = .ok (.putfield 16, 3) := by decide +kernel
theorem dX7_init_118 : decode cX7_init 118 = .ok (.aload_n 0, 1) := by decide +kernel
theorem dX7_init_119 : decode cX7_init 119 = .ok (.bipush 61, 2) := by decide +kernel
theorem dX7_init_121 : decode cX7_init 121 = .ok (.newarray .int, 2) := by decide +kernel
theorem dX7_init_123 : decode cX7_init 123 = .ok (.dup, 1) := by decide +kernel
theorem dX7_init_124 : decode cX7_init 124 = .ok (.iconst 0, 1) := by decide +kernel
theorem dX7_init_125 : decode cX7_init 125 = .ok (.bipush 119, 2) := by decide +kernel
theorem dX7_init_127 : decode cX7_init 127 = .ok (.iastore, 1) := by decide +kernel
theorem dX7_init_128 : decode cX7_init 128 = .ok (.dup, 1) := by decide +kernel
theorem dX7_init_129 : decode cX7_init 129 = .ok (.iconst 1, 1) := by decide +kernel
theorem dX7_init_130 : decode cX7_init 130 = .ok (.bipush 105, 2) := by decide +kernel
theorem dX7_init_132 : decode cX7_init 132 = .ok (.iastore, 1) := by decide +kernel
theorem dX7_init_133 : decode cX7_init 133 = .ok (.dup, 1) := by decide +kernel
theorem dX7_init_134 : decode cX7_init 134 = .ok (.iconst 2, 1) := by decide +kernel
theorem dX7_init_135 : decode cX7_init 135 = .ok (.bipush 100, 2) := by decide +kernel
theorem dX7_init_137 : decode cX7_init 137 = .ok (.iastore, 1) := by decide +kernel
theorem dX7_init_138 : decode cX7_init 138 = .ok (.dup, 1) := by decide +kernel
theorem dX7_init_139 : decode cX7_init 139 = .ok (.iconst 3, 1) := by decide +kernel
theorem dX7_init_140 : decode cX7_init 140 = .ok (.bipush 116, 2) := by decide +kernel
theorem dX7_init_142 : decode cX7_init 142 = .ok (.iastore, 1) := by decide +kernel
theorem dX7_init_143 : decode cX7_init 143 = .ok (.dup, 1) := by decide +kernel
theorem dX7_init_144 : decode cX7_init 144 = .ok (.iconst 4, 1) := by decide +kernel
theorem dX7_init_145 : decode cX7_init 145 = .ok (.bipush 104, 2) := by decide +kernel
theorem dX7_init_147 : decode cX7_init 147 = .ok (.iastore, 1) := by decide +kernel
theorem dX7_init_148 : decode cX7_init 148 = .ok (.dup, 1) := by decide +kernel
theorem dX7_init_149 : decode cX7_init 149 = .ok (.iconst 5, 1) := by decide +kernel
theorem dX7_init_150 : decode cX7_init 150 = .ok (.bipush 110, 2) := by decide +kernel
theorem dX7_init_152 : decode cX7_init 152 = .ok (.iastore, 1) := by decide +kernel
theorem dX7_init_153 : decode cX7_init 153 = .ok (.dup, 1) := by decide +kernel
theorem dX7_init_154 : decode cX7_init 154 = .ok (.bipush 6, 2) := by decide +kernel
theorem dX7_init_156 : decode cX7_init 156 = .ok (.bipush 101, 2) := by decide +kernel
theorem dX7_init_158 : decode cX7_init 158 = .ok (.iastore, 1) := by decide +kernel
theorem dX7_init_159 : decode cX7_init 159 = .ok (.dup, 1) := by decide +kernel
theorem dX7_init_160 : decode cX7_init 160 = .ok (.bipush 7, 2) := by decide +kernel
theorem dX7_init_162 : decode cX7_init 162 = .ok (.bipush 101, 2) := by decide +kernel
theorem dX7_init_164 : decode cX7_init 164 = .ok (.iastore, 1) := by decide +kernel
theorem dX7_init_165 : decode cX7_init 165 = .ok (.dup, 1) := by decide +kernel
theorem dX7_init_166 : decode cX7_init 166 = .ok (.bipush 8, 2) := by decide +kernel
theorem dX7_init_168 : decode cX7_init 168 = .ok (.bipush 100, 2) := by decide +kernel
theorem dX7_init_170 : decode cX7_init 170 = .ok (.iastore, 1) := by decide +kernel
theorem dX7_init_171 : decode cX7_init 171 = .ok (.dup, 1) := by decide +kernel
theorem dX7_init_172 : decode cX7_init 172 = .ok (.bipush 9, 2) := by decide +kernel
theorem dX7_init_174 : decode cX7_init 174 = .ok (.bipush 112, 2) := by decide +kernel
theorem dX7_init_176 : decode cX7_init 176 = .ok (.iastore, 1) := by decide +kernel
theorem dX7_init_177 : decode cX7_init 177 = .ok (.dup, 1) := by decide +kernel
theorem dX7_init_178 : decode cX7_init 178 = .ok (.bipush 10, 2) := by decide +kernel
theorem dX7_init_180 : decode cX7_init 180 = .ok (.bipush 97, 2) := by decide +kernel
theorem dX7_init_182 : decode cX7_init 182 = .ok (.iastore, 1) := by decide +kernel
theorem dX7_init_183 : decode cX7_init 183 = .ok (.dup, 1) := by decide +kernel
theorem dX7_init_184 : decode cX7_init 184 = .ok (.bipush 11, 2) := by decide +kernel
theorem dX7_init_186 : decode cX7_init 186 = .ok (.bipush 114, 2) := by decide +kernel
theorem dX7_init_188 : decode cX7_init 188 = .ok (.iastore, 1) := by decide +kernel
theorem dX7_init_189 : decode cX7_init 189 = .ok (.dup, 1) := by decide +kernel
theorem dX7_init_190 : decode cX7_init 190 = .ok (.bipush 12, 2) := by decide +kernel
theorem dX7_init_192 : decode cX7_init 192 = .ok (.bipush 116, 2) := by decide +kernel
theorem dX7_init_194 : decode cX7_init 194 = .ok (.iastore, 1) := by decide +kernel
theorem dX7_init_195 : decode cX7_init 195 = .ok (.dup, 1) := by decide +kernel
theorem dX7_init_196 : decode cX7_init 196 = .ok (.bipush 13, 2) := by decide +kernel
theorem dX7_init_198 : decode cX7_init 198 = .ok (.bipush 114, 2) := by decide +kernel
theorem dX7_init_200 : decode cX7_init 200 = .ok (.iastore, 1) := by decide +kernel
theorem dX7_init_201 : decode cX7_init 201 = .ok (.dup, 1) := by decide +kernel
theorem dX7_init_202 : decode cX7_init 202 = .ok (.bipush 14, 2) := by decide +kernel
theorem dX7_init_204 : decode cX7_init 204 = .ok (.bipush 117, 2) := by decide +kernel
theorem dX7_init_206 : decode cX7_init 206 = .ok (.iastore, 1) := by decide +kernel
theorem dX7_init_207 : decode cX7_init 207 = .ok (.dup, 1) := by decide +kernel
theorem dX7_init_208 : decode cX7_init 208 = .ok (.bipush 15, 2) := by decide +kernel
theorem dX7_init_210 : decode cX7_init 210 = .ok (.bipush 108, 2) := by decide +kernel
theorem dX7_init_212 : decode cX7_init 212 = .ok (.iastore, 1) := by decide +kernel
theorem dX7_init_213 : decode cX7_init 213 = .ok (.dup, 1) := by decide +kernel
theorem dX7_init_214 : decode cX7_init 214 = .ok (.bipush 16, 2) := by decide +kernel
theorem dX7_init_216 : decode cX7_init 216 = .ok (.bipush 101, 2) := by decide +kernel
theorem dX7_init_218 : decode cX7_init 218 = .ok (.iastore, 1) := by decide +kernel
theorem dX7_init_219 : decode cX7_init 219 = .ok (.dup, 1) := by decide +kernel
theorem dX7_init_220 : decode cX7_init 220 = .ok (.bipush 17, 2) := by decide +kernel
theorem dX7_init_222 : decode cX7_init 222 = .ok (.bipush 102, 2) := by decide +kernel
theorem dX7_init_224 : decode cX7_init 224 = .ok (.iastore, 1) := by decide +kernel
theorem dX7_init_225 : decode cX7_init 225 = .ok (.dup, 1) := by decide +kernel
theorem dX7_init_226 : decode cX7_init 226 = .ok (.bipush 18, 2) := by decide +kernel
theorem dX7_init_228 : decode cX7_init 228 = .ok (.bipush 111, 2) := by decide +kernel
theorem dX7_init_230 : decode cX7_init 230 = .ok (.iastore, 1) := by decide +kernel
theorem dX7_init_231 : decode cX7_init 231 = .ok (.dup, 1) := by decide +kernel
theorem dX7_init_232 : decode cX7_init 232 = .ok (.bipush 19, 2) := by decide +kernel
theorem dX7_init_234 : decode cX7_init 234 = .ok (.bipush 114, 2) := by decide +kernel
theorem dX7_init_236 : decode cX7_init 236 = .ok (.iastore, 1) := by decide +kernel
theorem dX7_init_237 : decode cX7_init 237 = .ok (.dup, 1) := by decide +kernel
theorem dX7_init_238 : decode cX7_init 238 = .ok (.bipush 20, 2) := by decide +kernel
theorem dX7_init_240 : decode cX7_init 240 = .ok (.bipush 109, 2) := by decide +kernel
theorem dX7_init_242 : decode cX7_init 242 = .ok (.iastore, 1) := by decide +kernel
theorem dX7_init_243 : decode cX7_init 243 = .ok (.dup, 1) := by decide +kernel
theorem dX7_init_244 : decode cX7_init 244 = .ok (.bipush 21, 2) := by decide +kernel
theorem dX7_init_246 : decode cX7_init 246 = .ok (.bipush 112, 2) := by decide +kernel
theorem dX7_init_248 : decode cX7_init 248 = .ok (.iastore, 1) := by decide +kernel
theorem dX7_init_249 : decode cX7_init 249 = .ok (.dup, 1) := by decide +kernel
theorem dX7_init_250 : decode cX7_init 250 = .ok (.bipush 22, 2) := by decide +kernel
theorem dX7_init_252 : decode cX7_init 252 = .ok (.bipush 117, 2) := by decide +kernel
theorem dX7_init_254 : decode cX7_init 254 = .ok (.iastore, 1) := by decide +kernel
theorem dX7_init_255 : decode cX7_init 255 = .ok (.dup, 1) := by decide +kernel
theorem dX7_init_256 : decode cX7_init 256 = .ok (.bipush 23, 2) := by decide +kernel
theorem dX7_init_258 : decode cX7_init 258 = .ok (.bipush 116, 2) := by decide +kernel
theorem dX7_init_260 : decode cX7_init 260 = .ok (.iastore, 1) := by decide +kernel
theorem dX7_init_261 : decode cX7_init 261 = .ok (.dup, 1) := by decide +kernel
theorem dX7_init_262 : decode cX7_init 262 = .ok (.bipush 24, 2) := by decide +kernel
theorem dX7_init_264 : decode cX7_init 264 = .ok (.bipush 108, 2) := by decide +kernel
theorem dX7_init_266 : decode cX7_init 266 = .ok (.iastore, 1) := by decide +kernel
theorem dX7_init_267 : decode cX7_init 267 = .ok (.dup, 1) := by decide +kernel
theorem dX7_init_268 : decode cX7_init 268 = .ok (.bipush 25, 2) := by decide +kernel
theorem dX7_init_270 : decode cX7_init 270 = .ok (.bipush 111, 2) := by decide +kernel
theorem dX7_init_272 : decode cX7_init 272 = .ok (.iastore, 1) := by decide +kernel
theorem dX7_init_273 : decode cX7_init 273 = .ok (.dup, 1) := by decide +kernel
theorem dX7_init_274 : decode cX7_init 274 = .ok (.bipush 26, 2) := by decide +kernel
theorem dX7_init_276 : decode cX7_init 276 = .ok (.bipush 119, 2) := by decide +kernel
theorem dX7_init_278 : decode cX7_init 278 = .ok (.iastore, 1) := by decide +kernel
theorem dX7_init_279 : decode cX7_init 279 = .ok (.dup, 1) := by decide +kernel
theorem dX7_init_280 : decode cX7_init 280 = .ok (.bipush 27, 2) := by decide +kernel
theorem dX7_init_282 : decode cX7_init 282 = .ok (.bipush 104, 2) := by decide +kernel
theorem dX7_init_284 : decode cX7_init 284 = .ok (.iastore, 1) := by decide +kernel
theorem dX7_init_285 : decode cX7_init 285 = .ok (.dup, 1) := by decide +kernel
theorem dX7_init_286 : decode cX7_init 286 = .ok (.bipush 28, 2) := by decide +kernel
theorem dX7_init_288 : decode cX7_init 288 = .ok (.bipush 105, 2) := by decide +kernel
theorem dX7_init_290 : decode cX7_init 290 = .ok (.iastore, 1) := by decide +kernel
theorem dX7_init_291 : decode cX7_init 291 = .ok (.dup, 1) := by decide +kernel
theorem dX7_init_292 : decode cX7_init 292 = .ok (.bipush 29, 2) := by decide +kernel
theorem dX7_init_294 : decode cX7_init 294 = .ok (.bipush 103, 2) := by decide +kernel
theorem dX7_init_296 : decode cX7_init 296 = .ok (.iastore, 1) := by decide +kernel
theorem dX7_init_297 : decode cX7_init 297 = .ok (.dup, 1) := by decide +kernel
theorem dX7_init_298 : decode cX7_init 298 = .ok (.bipush 30, 2) := by decide +kernel
theorem dX7_init_300 : decode cX7_init 300 = .ok (.bipush 104, 2) := by decide +kernel
theorem dX7_init_302 : decode cX7_init 302 = .ok (.iastore, 1) := by decide +kernel
theorem dX7_init_303 : decode cX7_init 303 = .ok (.dup, 1) := by decide +kernel
theorem dX7_init_304 : decode cX7_init 304 = .ok (.bipush 31, 2) := by decide +kernel
theorem dX7_init_306 : decode cX7_init 306 = .ok (.bipush 110, 2) := by decide +kernel
theorem dX7_init_308 : decode cX7_init 308 = .ok (.iastore, 1) := by decide +kernel
theorem dX7_init_309 : decode cX7_init 309 = .ok (.dup, 1) := by decide +kernel
theorem dX7_init_310 : decode cX7_init 310 = .ok (.bipush 32, 2) := by decide +kernel
theorem dX7_init_312 : decode cX7_init 312 = .ok (.bipush 101, 2) := by decide +kernel
theorem dX7_init_314 : decode cX7_init 314 = .ok (.iastore, 1) := by decide +kernel
theorem dX7_init_315 : decode cX7_init 315 = .ok (.dup, 1) := by decide +kernel
theorem dX7_init_316 : decode cX7_init 316 = .ok (.bipush 33, 2) := by decide +kernel
theorem dX7_init_318 : decode cX7_init 318 = .ok (.bipush 97, 2) := by decide +kernel
theorem dX7_init_320 : decode cX7_init 320 = .ok (.iastore, 1) := by decide +kernel
theorem dX7_init_321 : decode cX7_init 321 = .ok (.dup, 1) := by decide +kernel
theorem dX7_init_322 : decode cX7_init 322 = .ok (.bipush 34, 2) := by decide +kernel
theorem dX7_init_324 : decode cX7_init 324 = .ok (.bipush 114, 2) := by decide +kernel
theorem dX7_init_326 : decode cX7_init 326 = .ok (.iastore, 1) := by decide +kernel
theorem dX7_init_327 : decode cX7_init 327 = .ok (.dup, 1) := by decide +kernel
theorem dX7_init_328 : decode cX7_init 328 = .ok (.bipush 35, 2) := by decide +kernel
theorem dX7_init_330 : decode cX7_init 330 = .ok (.bipush 109, 2) := by decide +kernel
theorem dX7_init_332 : decode cX7_init 332 = .ok (.iastore, 1) := by decide +kernel
theorem dX7_init_333 : decode cX7_init 333 = .ok (.dup, 1) := by decide +kernel
theorem dX7_init_334 : decode cX7_init 334 = .ok (.bipush 36, 2) := by decide +kernel
theorem dX7_init_336 : decode cX7_init 336 = .ok (.bipush 101, 2) := by decide +kernel
theorem dX7_init_338 : decode cX7_init 338 = .ok (.iastore, 1) := by decide +kernel
theorem dX7_init_339 : decode cX7_init 339 = .ok (.dup, 1) := by decide +kernel
theorem dX7_init_340 : decode cX7_init 340 = .ok (.bipush 37, 2) := by decide +kernel
theorem dX7_init_342 : decode cX7_init 342 = .ok (.bipush 97, 2) := by decide +kernel
theorem dX7_init_344 : decode cX7_init 344 = .ok (.iastore, 1) := by decide +kernel
theorem dX7_init_345 : decode cX7_init 345 = .ok (.dup, 1) := by decide +kernel
theorem dX7_init_346 : decode cX7_init 346 = .ok (.bipush 38, 2) := by decide +kernel
theorem dX7_init_348 : decode cX7_init 348 = .ok (.bipush 110, 2) := by decide +kernel
theorem dX7_init_350 : decode cX7_init 350 = .ok (.iastore, 1) := by decide +kernel
theorem dX7_init_351 : decode cX7_init 351 = .ok (.dup, 1) := by decide +kernel
theorem dX7_init_352 : decode cX7_init 352 = .ok (.bipush 39, 2) := by decide +kernel
theorem dX7_init_354 : decode cX7_init 354 = .ok (.bipush 108, 2) := by decide +kernel
theorem dX7_init_356 : decode cX7_init 356 = .ok (.iastore, 1) := by decide +kernel
theorem dX7_init_357 : decode cX7_init 357 = .ok (.dup, 1) := by decide +kernel
theorem dX7_init_358 : decode cX7_init 358 = .ok (.bipush 40, 2) := by decide +kernel
theorem dX7_init_360 : decode cX7_init 360 = .ok (.bipush 105, 2) := by decide +kernel
theorem dX7_init_362 : decode cX7_init 362 = .ok (.iastore, 1) := by decide +kernel
theorem dX7_init_363 : decode cX7_init 363 = .ok (.dup, 1) := by decide +kernel
theorem dX7_init_364 : decode cX7_init 364 = .ok (.bipush 41, 2) := by decide +kernel
theorem dX7_init_366 : decode cX7_init 366 = .ok (.bipush 110, 2) := by decide +kernel
theorem dX7_init_368 : decode cX7_init 368 = .ok (.iastore, 1) := by decide +kernel
theorem dX7_init_369 : decode cX7_init 369 = .ok (.dup, 1) := by decide +kernel
theorem dX7_init_370 : decode cX7_init 370 = .ok (.bipush 42, 2) := by decide +kernel
theorem dX7_init_372 : decode cX7_init 372 = .ok (.bipush 101, 2) := by decide +kernel
theorem dX7_init_374 : decode cX7_init 374 = .ok (.iastore, 1) := by decide +kernel
theorem dX7_init_375 : decode cX7_init 375 = .ok (.dup, 1) := by decide +kernel
theorem dX7_init_376 : decode cX7_init 376 = .ok (.bipush 43, 2) := by decide +kernel
theorem dX7_init_378 : decode cX7_init 378 = .ok (.bipush 112, 2) := by decide +kernel
theorem dX7_init_380 : decode cX7_init 380 = .ok (.iastore, 1) := by decide +kernel
theorem dX7_init_381 : decode cX7_init 381 = .ok (.dup, 1) := by decide +kernel
theorem dX7_init_382 : decode cX7_init 382 = .ok (.bipush 44, 2) := by decide +kernel
theorem dX7_init_384 : decode cX7_init 384 = .ok (.bipush 108, 2) := by decide +kernel
theorem dX7_init_386 : decode cX7_init 386 = .ok (.iastore, 1) := by decide +kernel
theorem dX7_init_387 : decode cX7_init 387 = .ok (.dup, 1) := by decide +kernel
theorem dX7_init_388 : decode cX7_init 388 = .ok (.bipush 45, 2) := by decide +kernel
theorem dX7_init_390 : decode cX7_init 390 = .ok (.bipush 97, 2) := by decide +kernel
theorem dX7_init_392 : decode cX7_init 392 = .ok (.iastore, 1) := by decide +kernel
theorem dX7_init_393 : decode cX7_init 393 = .ok (.dup, 1) := by decide +kernel
theorem dX7_init_394 : decode cX7_init 394 = .ok (.bipush 46, 2) := by decide +kernel
theorem dX7_init_396 : decode cX7_init 396 = .ok (.bipush 105, 2) := by decide +kernel
theorem dX7_init_398 : decode cX7_init 398 = .ok (.iastore, 1) := by decide +kernel
theorem dX7_init_399 : decode cX7_init 399 = .ok (.dup, 1) := by decide +kernel
theorem dX7_init_400 : decode cX7_init 400 = .ok (.bipush 47, 2) := by decide +kernel
theorem dX7_init_402 : decode cX7_init 402 = .ok (.bipush 110, 2) := by decide +kernel
theorem dX7_init_404 : decode cX7_init 404 = .ok (.iastore, 1) := by decide +kernel
theorem dX7_init_405 : decode cX7_init 405 = .ok (.dup, 1) := by decide +kernel
theorem dX7_init_406 : decode cX7_init 406 = .ok (.bipush 48, 2) := by decide +kernel
theorem dX7_init_408 : decode cX7_init 408 = .ok (.bipush 99, 2) := by decide +kernel
theorem dX7_init_410 : decode cX7_init 410 = .ok (.iastore, 1) := by decide +kernel
theorem dX7_init_411 : decode cX7_init 411 = .ok (.dup, 1) := by decide +kernel
theorem dX7_init_412 : decode cX7_init 412 = .ok (.bipush 49, 2) := by decide +kernel
theorem dX7_init_414 : decode cX7_init 414 = .ok (.bipush 101, 2) := by decide +kernel
theorem dX7_init_416 : decode cX7_init 416 = .ok (.iastore, 1) := by decide +kernel
theorem dX7_init_417 : decode cX7_init 417 = .ok (.dup, 1) := by decide +kernel
theorem dX7_init_418 : decode cX7_init 418 = .ok (.bipush 50, 2) := by decide +kernel
theorem dX7_init_420 : decode cX7_init 420 = .ok (.bipush 110, 2) := by decide +kernel
theorem dX7_init_422 : decode cX7_init 422 = .ok (.iastore, 1) := by decide +kernel
theorem dX7_init_423 : decode cX7_init 423 = .ok (.dup, 1) := by decide +kernel
theorem dX7_init_424 : decode cX7_init 424 = .ok (.bipush 51, 2) := by decide +kernel
theorem dX7_init_426 : decode cX7_init 426 = .ok (.bipush 116, 2) := by decide +kernel
theorem dX7_init_428 : decode cX7_init 428 = .ok (.iastore, 1) := by decide +kernel
theorem dX7_init_429 : decode cX7_init 429 = .ok (.dup, 1) := by decide +kernel
theorem dX7_init_430 : decode cX7_init 430 = .ok (.bipush 52, 2) := by decide +kernel
theorem dX7_init_432 : decode cX7_init 432 = .ok (.bipush 115, 2) := by decide +kernel
theorem dX7_init_434 : decode cX7_init 434 = .ok (.iastore, 1) := by decide +kernel
theorem dX7_init_435 : decode cX7_init 435 = .ok (.dup, 1) := by decide +kernel
theorem dX7_init_436 : decode cX7_init 436 = .ok (.bipush 53, 2) := by decide +kernel
theorem dX7_init_438 : decode cX7_init 438 = .ok (.bipush 115, 2) := by decide +kernel
theorem dX7_init_440 : decode cX7_init 440 = .ok (.iastore, 1) := by decide +kernel
theorem dX7_init_441 : decode cX7_init 441 = .ok (.dup, 1) := by decide +kernel
theorem dX7_init_442 : decode cX7_init 442 = .ok (.bipush 54, 2) := by decide +kernel
theorem dX7_init_444 : decode cX7_init 444 = .ok (.bipush 105, 2) := by decide +kernel
theorem dX7_init_446 : decode cX7_init 446 = .ok (.iastore, 1) := by decide +kernel
theorem dX7_init_447 : decode cX7_init 447 = .ok (.dup, 1) := by decide +kernel
theorem dX7_init_448 : decode cX7_init 448 = .ok (.bipush 55, 2) := by decide +kernel
theorem dX7_init_450 : decode cX7_init 450 = .ok (.bipush 103, 2) := by decide +kernel
theorem dX7_init_452 : decode cX7_init 452 = .ok (.iastore, 1) := by decide +kernel
theorem dX7_init_453 : decode cX7_init 453 = .ok (.dup, 1) := by decide +kernel
theorem dX7_init_454 : decode cX7_init 454 = .ok (.bipush 56, 2) := by decide +kernel
theorem dX7_init_456 : decode cX7_init 456 = .ok (.bipush 110, 2) := by decide +kernel
theorem dX7_init_458 : decode cX7_init 458 = .ok (.iastore, 1) := by decide +kernel
theorem dX7_init_459 : decode cX7_init 459 = .ok (.dup, 1) := by decide +kernel
theorem dX7_init_460 : decode cX7_init 460 = .ok (.bipush 57, 2) := by decide +kernel
theorem dX7_init_462 : decode cX7_init 462 = .ok (.bipush 109, 2) := by decide +kernel
theorem dX7_init_464 : decode cX7_init 464 = .ok (.iastore, 1) := by decide +kernel
theorem dX7_init_465 : decode cX7_init 465 = .ok (.dup, 1) := by decide +kernel
theorem dX7_init_466 : decode cX7_init 466 = .ok (.bipush 58, 2) := by decide +kernel
theorem dX7_init_468 : decode cX7_init 468 = .ok (.bipush 105, 2) := by decide +kernel
theorem dX7_init_470 : decode cX7_init 470 = .ok (.iastore, 1) := by decide +kernel
theorem dX7_init_471 : decode cX7_init 471 = .ok (.dup, 1) := by decide +kernel
theorem dX7_init_472 : decode cX7_init 472 = .ok (.bipush 59, 2) := by decide +kernel
theorem dX7_init_474 : decode cX7_init 474 = .ok (.bipush 115, 2) := by decide +kernel
theorem dX7_init_476 : decode cX7_init 476 = .ok (.iastore, 1) := by decide +kernel
theorem dX7_init_477 : decode cX7_init 477 = .ok (.dup, 1) := by decide +kernel
theorem dX7_init_478 : decode cX7_init 478 = .ok (.bipush 60, 2) := by decide +kernel
theorem dX7_init_480 : decode cX7_init 480 = .ok (.bipush 115, 2) := by decide +kernel
theorem dX7_init_482 : decode cX7_init 482 = .ok (.iastore, 1) := by decide +kernel
theorem dX7_init_483 : decode cX7_init 483 = .ok (.putfield 19, 3) := by decide +kernel
theorem dX7_init_486 : decode cX7_init 486 = .ok (.aload_n 0, 1) := by decide +kernel
theorem dX7_init_487 : decode cX7_init 487 = .ok (.bipush 24, 2) := by decide +kernel
theorem dX7_init_489 : decode cX7_init 489 = .ok (.newarray .int, 2) := by decide +kernel
theorem dX7_init_491 : decode cX7_init 491 = .ok (.putfield 22, 3) := by decide +kernel
theorem dX7_init_494 : decode cX7_init 494 = .ok (.aload_n 0, 1) := by decide +kernel
theorem dX7_init_495 : decode cX7_init 495 = .ok (.bipush 24, 2) := by decide +kernel
theorem dX7_init_497 : decode cX7_init 497 = .ok (.newarray .int, 2) := by decide +kernel
theorem dX7_init_499 : decode cX7_init 499 = .ok (.putfield 25, 3) := by decide +kernel
theorem dX7_init_502 : decode cX7_init 502 = .ok (.aload_n 0, 1) := by decide +kernel
theorem dX7_init_503 : decode cX7_init 503 = .ok (.bipush 16, 2) := by decide +kernel
theorem dX7_init_505 : decode cX7_init 505 = .ok (.newarray .int, 2) := by decide +kernel
theorem dX7_init_507 : decode cX7_init 507 = .ok (.putfield 28, 3) := by decide +kernel
theorem dX7_init_510 : decode cX7_init 510 = .ok (.aload_n 0, 1) := by decide +kernel
theorem dX7_init_511 : decode cX7_init 511 = .ok (.iconst 2, 1) := by decide +kernel
theorem dX7_init_512 : decode cX7_init 512 = .ok (.newarray .boolean, 2) := by decide +kernel
theorem dX7_init_514 : decode cX7_init 514 = .ok (.dup, 1) := by decide +kernel
theorem dX7_init_515 : decode cX7_init 515 = .ok (.iconst 0, 1) := by decide +kernel
theorem dX7_init_516 : decode cX7_init 516 = .ok (.iconst 0, 1) := by decide +kernel
theorem dX7_init_517 : decode cX7_init 517 = .ok (.bastore, 1) := by decide +kernel
theorem dX7_init_518 : decode cX7_init 518 = .ok (.dup, 1) := by decide +kernel
theorem dX7_init_519 : decode cX7_init 519 = .ok (.iconst 1, 1) := by decide +kernel
theorem dX7_init_520 : decode cX7_init 520 = .ok (.iconst 0, 1) := by decide +kernel
theorem dX7_init_521 : decode cX7_init 521 = .ok (.bastore, 1) := by decide +kernel
theorem dX7_init_522 : decode cX7_init 522 = .ok (.putfield 31, 3) := by decide +kernel
theorem dX7_init_525 : decode cX7_init 525 = .ok (.aload_n 0, 1) := by decide +kernel
theorem dX7_init_526 : decode cX7_init 526 = .ok (.iconst 4, 1) := by decide +kernel
theorem dX7_init_527 : decode cX7_init 527 = .ok (.newarray .int, 2) := by decide +kernel
theorem dX7_init_529 : decode cX7_init 529 = .ok (.dup, 1) := by decide +kernel
theorem dX7_init_530 : decode cX7_init 530 = .ok (.iconst 0, 1) := by decide +kernel
theorem dX7_init_531 : decode cX7_init 531 = .ok (.bipush (-4), 2) := by decide +kernel
theorem dX7_init_533 : decode cX7_init 533 = .ok (.iastore, 1) := by decide +kernel
theorem dX7_init_534 : decode cX7_init 534 = .ok (.dup, 1) := by decide +kernel
theorem dX7_init_535 : decode cX7_init 535 = .ok (.iconst 1, 1) := by decide +kernel
theorem dX7_init_536 : decode cX7_init 536 = .ok (.bipush (-4), 2) := by decide +kernel
theorem dX7_init_538 : decode cX7_init 538 = .ok (.iastore, 1) := by decide +kernel
theorem dX7_init_539 : decode cX7_init 539 = .ok (.dup, 1) := by decide +kernel
theorem dX7_init_540 : decode cX7_init 540 = .ok (.iconst 2, 1) := by decide +kernel
theorem dX7_init_541 : decode cX7_init 541 = .ok (.bipush (-4), 2) := by decide +kernel
theorem dX7_init_543 : decode cX7_init 543 = .ok (.iastore, 1) := by decide +kernel
theorem dX7_init_544 : decode cX7_init 544 = .ok (.dup, 1) := by decide +kernel
theorem dX7_init_545 : decode cX7_init 545 = .ok (.iconst 3, 1) := by decide +kernel
theorem dX7_init_546 : decode cX7_init 546 = .ok (.bipush (-4), 2) := by decide +kernel
theorem dX7_init_548 : decode cX7_init 548 = .ok (.iastore, 1) := by decide +kernel
theorem dX7_init_549 : decode cX7_init 549 = .ok (.putfield 35, 3) := by decide +kernel
theorem dX7_init_552 : decode cX7_init 552 = .ok (.aload_n 0, 1) := by decide +kernel
theorem dX7_init_553 : decode cX7_init 553 = .ok (.iconst 4, 1) := by decide +kernel
theorem dX7_init_554 : decode cX7_init 554 = .ok (.newarray .int, 2) := by decide +kernel
theorem dX7_init_556 : decode cX7_init 556 = .ok (.dup, 1) := by decide +kernel
theorem dX7_init_557 : decode cX7_init 557 = .ok (.iconst 0, 1) := by decide +kernel
theorem dX7_init_558 : decode cX7_init 558 = .ok (.iconst 0, 1) := by decide +kernel
theorem dX7_init_559 : decode cX7_init 559 = .ok (.iastore, 1) := by decide +kernel
theorem dX7_init_560 : decode cX7_init 560 = .ok (.dup, 1) := by decide +kernel
theorem dX7_init_561 : decode cX7_init 561 = .ok (.iconst 1, 1) := by decide +kernel
theorem dX7_init_562 : decode cX7_init 562 = .ok (.iconst 0, 1) := by decide +kernel
theorem dX7_init_563 : decode cX7_init 563 = .ok (.iastore, 1) := by decide +kernel
theorem dX7_init_564 : decode cX7_init 564 = .ok (.dup, 1) := by decide +kernel
theorem dX7_init_565 : decode cX7_init 565 = .ok (.iconst 2, 1) := by decide +kernel
theorem dX7_init_566 : decode cX7_init 566 = .ok (.iconst 0, 1) := by decide +kernel
theorem dX7_init_567 : decode cX7_init 567 = .ok (.iastore, 1) := by decide +kernel
theorem dX7_init_568 : decode cX7_init 568 = .ok (.dup, 1) := by decide +kernel
theorem dX7_init_569 : decode cX7_init 569 = .ok (.iconst 3, 1) := by decide +kernel
theorem dX7_init_570 : decode cX7_init 570 = .ok (.iconst 0, 1) := by decide +kernel
theorem dX7_init_571 : decode cX7_init 571 = .ok (.iastore, 1) := by decide +kernel
theorem dX7_init_572 : decode cX7_init 572 = .ok (.putfield 38, 3) := by decide +kernel
theorem dX7_init_575 : decode cX7_init 575 = .ok (.aload_n 0, 1) := by decide +kernel
theorem dX7_init_576 : decode cX7_init 576 = .ok (.sipush 160, 3) := by decide +kernel
theorem dX7_init_579 : decode cX7_init 579 = .ok (.newarray .int, 2) := by decide +kernel
theorem dX7_init_581 : decode cX7_init 581 = .ok (.putfield 41, 3) := by decide +kernel
theorem dX7_init_584 : decode cX7_init 584 = .ok (.return_, 1) := by decide +kernel
theorem dX7_in_0 : decode cX7_in 0 = .ok (.lload_n 0, 1) := by decide +kernel
theorem dX7_in_1 : decode cX7_in 1 = .ok (.lload_n 2, 1) := by decide +kernel
theorem dX7_in_2 : decode cX7_in 2 = .ok (.lcmp, 1) := by decide +kernel
theorem dX7_in_3 : decode cX7_in 3 = .ok (.ifCond .lt 14, 3) := by decide +kernel
theorem dX7_in_6 : decode cX7_in 6 = .ok (.lload_n 0, 1) := by decide +kernel
theorem dX7_in_7 : decode cX7_in 7 = .ok (.lload 4, 2) := by decide +kernel
theorem dX7_in_9 : decode cX7_in 9 = .ok (.lcmp, 1) := by decide +kernel
theorem dX7_in_10 : decode cX7_in 10 = .ok (.ifCond .gt 7, 3) := by decide +kernel
theorem dX7_in_13 : decode cX7_in 13 = .ok (.iconst 1, 1) := by decide +kernel
theorem dX7_in_14 : decode cX7_in 14 = .ok (.goto 4, 3) := by decide +kernel
theorem dX7_in_17 : decode cX7_in 17 = .ok (.iconst 0, 1) := by decide +kernel
theorem dX7_in_18 : decode cX7_in 18 = .ok (.ireturn, 1) := by decide +kernel
theorem dX7_begins_0 : decode cX7_begins 0 = .ok (.aload_n 0, 1) := by decide +kernel
theorem dX7_begins_1 : decode cX7_begins 1 = .ok (.getfield 7, 3) := by decide +kernel
theorem dX7_begins_4 : decode cX7_begins 4 = .ok (.iload_n 1, 1) := by decide +kernel
theorem dX7_begins_5 : decode cX7_begins 5 = .ok (.bipush 96, 2) := by decide +kernel
theorem dX7_begins_7 : decode cX7_begins 7 = .ok (.iadd, 1) := by decide +kernel
theorem dX7_begins_8 : decode cX7_begins 8 = .ok (.iconst 5, 1) := by decide +kernel
theorem dX7_begins_9 : decode cX7_begins 9 = .ok (.iastore, 1) := by decide +kernel
theorem dX7_begins_10 : decode cX7_begins 10 = .ok (.aload_n 0, 1) := by decide +kernel
theorem dX7_begins_11 : decode cX7_begins 11 = .ok (.getfield 7, 3) := by decide +kernel
theorem dX7_begins_14 : decode cX7_begins 14 = .ok (.iload_n 1, 1) := by decide +kernel
theorem dX7_begins_15 : decode cX7_begins 15 = .ok (.bipush 97, 2) := by decide +kernel
theorem dX7_begins_17 : decode cX7_begins 17 = .ok (.iadd, 1) := by decide +kernel
theorem dX7_begins_18 : decode cX7_begins 18 = .ok (.iconst 1, 1) := by decide +kernel
theorem dX7_begins_19 : decode cX7_begins 19 = .ok (.iastore, 1) := by decide +kernel
theorem dX7_begins_20 : decode cX7_begins 20 = .ok (.aload_n 0, 1) := by decide +kernel
theorem dX7_begins_21 : decode cX7_begins 21 = .ok (.getfield 7, 3) := by decide +kernel
theorem dX7_begins_24 : decode cX7_begins 24 = .ok (.iload_n 1, 1) := by decide +kernel
theorem dX7_begins_25 : decode cX7_begins 25 = .ok (.bipush 98, 2) := by decide +kernel
theorem dX7_begins_27 : decode cX7_begins 27 = .ok (.iadd, 1) := by decide +kernel
theorem dX7_begins_28 : decode cX7_begins 28 = .ok (.iconst 1, 1) := by decide +kernel
theorem dX7_begins_29 : decode cX7_begins 29 = .ok (.iastore, 1) := by decide +kernel
theorem dX7_begins_30 : decode cX7_begins 30 = .ok (.aload_n 0, 1) := by decide +kernel
theorem dX7_begins_31 : decode cX7_begins 31 = .ok (.getfield 7, 3) := by decide +kernel
theorem dX7_begins_34 : decode cX7_begins 34 = .ok (.iload_n 1, 1) := by decide +kernel
theorem dX7_begins_35 : decode cX7_begins 35 = .ok (.bipush 99, 2) := by decide +kernel
theorem dX7_begins_37 : decode cX7_begins 37 = .ok (.iadd, 1) := by decide +kernel
theorem dX7_begins_38 : decode cX7_begins 38 = .ok (.iconst 2, 1) := by decide +kernel
theorem dX7_begins_39 : decode cX7_begins 39 = .ok (.iastore, 1) := by decide +kernel
theorem dX7_begins_40 : decode cX7_begins 40 = .ok (.aload_n 0, 1) := by decide +kernel
theorem dX7_begins_41 : decode cX7_begins 41 = .ok (.getfield 7, 3) := by decide +kernel
theorem dX7_begins_44 : decode cX7_begins 44 = .ok (.iload_n 1, 1) := by decide +kernel
theorem dX7_begins_45 : decode cX7_begins 45 = .ok (.bipush 100, 2) := by decide +kernel
theorem dX7_begins_47 : decode cX7_begins 47 = .ok (.iadd, 1) := by decide +kernel
theorem dX7_begins_48 : decode cX7_begins 48 = .ok (.iconst 0, 1) := by decide +kernel
end
section
theorem dX7_begins_49 : decode cX7_begins 49 = .ok (.iastore, 1) := by decide +kernel
theorem dX7_begins_50 : decode cX7_begins 50 = .ok (.aload_n 0, 1) := by decide +kernel
theorem dX7_begins_51 : decode cX7_begins 51 = .ok (.getfield 7, 3) := by decide +kernel
theorem dX7_begins_54 : decode cX7_begins 54 = .ok (.iload_n 1, 1) := by decide +kernel
theorem dX7_begins_55 : decode cX7_begins 55 = .ok (.bipush 101, 2) := by decide +kernel
theorem dX7_begins_57 : decode cX7_begins 57 = .ok (.iadd, 1) := by decide +kernel
theorem dX7_begins_58 : decode cX7_begins 58 = .ok (.iconst 0, 1) := by decide +kernel
theorem dX7_begins_59 : decode cX7_begins 59 = .ok (.iastore, 1) := by decide +kernel
theorem dX7_begins_60 : decode cX7_begins 60 = .ok (.aload_n 0, 1) := by decide +kernel
theorem dX7_begins_61 : decode cX7_begins 61 = .ok (.getfield 7, 3) := by decide +kernel
theorem dX7_begins_64 : decode cX7_begins 64 = .ok (.iload_n 1, 1) := by decide +kernel
theorem dX7_begins_65 : decode cX7_begins 65 = .ok (.bipush 102, 2) := by decide +kernel
theorem dX7_begins_67 : decode cX7_begins 67 = .ok (.iadd, 1) := by decide +kernel
theorem dX7_begins_68 : decode cX7_begins 68 = .ok (.iconst 0, 1) := by decide +kernel
theorem dX7_begins_69 : decode cX7_begins 69 = .ok (.iastore, 1) := by decide +kernel
theorem dX7_begins_70 : decode cX7_begins 70 = .ok (.return_, 1) := by decide +kernel
theorem dX7_starts_0 : decode cX7_starts 0 = .ok (.aload_n 0, 1) := by decide +kernel
theorem dX7_starts_1 : decode cX7_starts 1 = .ok (.getfield 44, 3) := by decide +kernel
theorem dX7_starts_4 : decode cX7_starts 4 = .ok (.ifCond .ne 13, 3) := by decide +kernel
theorem dX7_starts_7 : decode cX7_starts 7 = .ok (.aload_n 0, 1) := by decide +kernel
theorem dX7_starts_8 : decode cX7_starts 8 = .ok (.iconst 1, 1) := by decide +kernel
theorem dX7_starts_9 : decode cX7_starts 9 = .ok (.putfield 44, 3) := by decide +kernel
theorem dX7_starts_12 : decode cX7_starts 12 = .ok (.aload_n 0, 1) := by decide +kernel
theorem dX7_starts_13 : decode cX7_starts 13 = .ok (.iconst 0, 1) := by decide +kernel
theorem dX7_starts_14 : decode cX7_starts 14 = .ok (.invokevirtual 48, 3) := by decide +kernel
theorem dX7_starts_17 : decode cX7_starts 17 = .ok (.return_, 1) := by decide +kernel
theorem dX7_feed_0 : decode cX7_feed 0 = .ok (.iload_n 1, 1) := by decide +kernel
theorem dX7_feed_1 : decode cX7_feed 1 = .ok (.i2l, 1) := by decide +kernel
theorem dX7_feed_2 : decode cX7_feed 2 = .ok (.lconst 0, 1) := by decide +kernel
theorem dX7_feed_3 : decode cX7_feed 3 = .ok (.ldc2_w 52, 3) := by decide +kernel
theorem dX7_feed_6 : decode cX7_feed 6 = .ok (.invokestatic 54, 3) := by decide +kernel
theorem dX7_feed_9 : decode cX7_feed 9 = .ok (.ifCond .ne 5, 3) := by decide +kernel
theorem dX7_feed_12 : decode cX7_feed 12 = .ok (.iconst (-1), 1) := by decide +kernel
theorem dX7_feed_13 : decode cX7_feed 13 = .ok (.ireturn, 1) := by decide +kernel
theorem dX7_feed_14 : decode cX7_feed 14 = .ok (.aload_n 0, 1) := by decide +kernel
theorem dX7_feed_15 : decode cX7_feed 15 = .ok (.getfield 58, 3) := by decide +kernel
theorem dX7_feed_18 : decode cX7_feed 18 = .ok (.sipush 320, 3) := by decide +kernel
theorem dX7_feed_21 : decode cX7_feed 21 = .ok (.if_icmp .ne 6, 3) := by decide +kernel
theorem dX7_feed_24 : decode cX7_feed 24 = .ok (.bipush (-3), 2) := by decide +kernel
theorem dX7_feed_26 : decode cX7_feed 26 = .ok (.ireturn, 1) := by decide +kernel
theorem dX7_feed_27 : decode cX7_feed 27 = .ok (.aload_n 0, 1) := by decide +kernel
theorem dX7_feed_28 : decode cX7_feed 28 = .ok (.getfield 13, 3) := by decide +kernel
theorem dX7_feed_31 : decode cX7_feed 31 = .ok (.aload_n 0, 1) := by decide +kernel
theorem dX7_feed_32 : decode cX7_feed 32 = .ok (.getfield 58, 3) := by decide +kernel
theorem dX7_feed_35 : decode cX7_feed 35 = .ok (.iload_n 1, 1) := by decide +kernel
theorem dX7_feed_36 : decode cX7_feed 36 = .ok (.iastore, 1) := by decide +kernel
theorem dX7_feed_37 : decode cX7_feed 37 = .ok (.aload_n 0, 1) := by decide +kernel
theorem dX7_feed_38 : decode cX7_feed 38 = .ok (.dup, 1) := by decide +kernel
theorem dX7_feed_39 : decode cX7_feed 39 = .ok (.getfield 58, 3) := by decide +kernel
theorem dX7_feed_42 : decode cX7_feed 42 = .ok (.iconst 1, 1) := by decide +kernel
theorem dX7_feed_43 : decode cX7_feed 43 = .ok (.iadd, 1) := by decide +kernel
theorem dX7_feed_44 : decode cX7_feed 44 = .ok (.putfield 58, 3) := by decide +kernel
theorem dX7_feed_47 : decode cX7_feed 47 = .ok (.aload_n 0, 1) := by decide +kernel
theorem dX7_feed_48 : decode cX7_feed 48 = .ok (.getfield 58, 3) := by decide +kernel
theorem dX7_feed_51 : decode cX7_feed 51 = .ok (.ireturn, 1) := by decide +kernel
theorem dX7_end_0 : decode cX7_end 0 = .ok (.iload_n 1, 1) := by decide +kernel
theorem dX7_end_1 : decode cX7_end 1 = .ok (.i2l, 1) := by decide +kernel
theorem dX7_end_2 : decode cX7_end 2 = .ok (.lconst 0, 1) := by decide +kernel
theorem dX7_end_3 : decode cX7_end 3 = .ok (.aload_n 0, 1) := by decide +kernel
theorem dX7_end_4 : decode cX7_end 4 = .ok (.getfield 58, 3) := by decide +kernel
theorem dX7_end_7 : decode cX7_end 7 = .ok (.i2l, 1) := by decide +kernel
theorem dX7_end_8 : decode cX7_end 8 = .ok (.invokestatic 54, 3) := by decide +kernel
theorem dX7_end_11 : decode cX7_end 11 = .ok (.ifCond .ne 5, 3) := by decide +kernel
theorem dX7_end_14 : decode cX7_end 14 = .ok (.iconst (-1), 1) := by decide +kernel
theorem dX7_end_15 : decode cX7_end 15 = .ok (.ireturn, 1) := by decide +kernel
theorem dX7_end_16 : decode cX7_end 16 = .ok (.aload_n 0, 1) := by decide +kernel
theorem dX7_end_17 : decode cX7_end 17 = .ok (.getfield 58, 3) := by decide +kernel
theorem dX7_end_20 : decode cX7_end 20 = .ok (.istore_n 2, 1) := by decide +kernel
theorem dX7_end_21 : decode cX7_end 21 = .ok (.aload_n 0, 1) := by decide +kernel
theorem dX7_end_22 : decode cX7_end 22 = .ok (.iload_n 1, 1) := by decide +kernel
theorem dX7_end_23 : decode cX7_end 23 = .ok (.putfield 58, 3) := by decide +kernel
theorem dX7_end_26 : decode cX7_end 26 = .ok (.iload_n 2, 1) := by decide +kernel
theorem dX7_end_27 : decode cX7_end 27 = .ok (.ireturn, 1) := by decide +kernel
theorem dX7_byteAt_0 : decode cX7_byteAt 0 = .ok (.iload_n 1, 1) := by decide +kernel
theorem dX7_byteAt_1 : decode cX7_byteAt 1 = .ok (.aload_n 0, 1) := by decide +kernel
theorem dX7_byteAt_2 : decode cX7_byteAt 2 = .ok (.getfield 58, 3) := by decide +kernel
theorem dX7_byteAt_5 : decode cX7_byteAt 5 = .ok (.if_icmp .ge 12, 3) := by decide +kernel
theorem dX7_byteAt_8 : decode cX7_byteAt 8 = .ok (.aload_n 0, 1) := by decide +kernel
theorem dX7_byteAt_9 : decode cX7_byteAt 9 = .ok (.getfield 13, 3) := by decide +kernel
theorem dX7_byteAt_12 : decode cX7_byteAt 12 = .ok (.iload_n 1, 1) := by decide +kernel
theorem dX7_byteAt_13 : decode cX7_byteAt 13 = .ok (.iaload, 1) := by decide +kernel
theorem dX7_byteAt_14 : decode cX7_byteAt 14 = .ok (.goto 5, 3) := by decide +kernel
theorem dX7_byteAt_17 : decode cX7_byteAt 17 = .ok (.bipush (-4), 2) := by decide +kernel
theorem dX7_byteAt_19 : decode cX7_byteAt 19 = .ok (.ireturn, 1) := by decide +kernel
theorem dX7_fails_0 : decode cX7_fails 0 = .ok (.aload_n 0, 1) := by decide +kernel
theorem dX7_fails_1 : decode cX7_fails 1 = .ok (.getfield 62, 3) := by decide +kernel
theorem dX7_fails_4 : decode cX7_fails 4 = .ok (.ifCond .ne 16, 3) := by decide +kernel
theorem dX7_fails_7 : decode cX7_fails 7 = .ok (.aload_n 0, 1) := by decide +kernel
theorem dX7_fails_8 : decode cX7_fails 8 = .ok (.iload_n 1, 1) := by decide +kernel
theorem dX7_fails_9 : decode cX7_fails 9 = .ok (.putfield 62, 3) := by decide +kernel
theorem dX7_fails_12 : decode cX7_fails 12 = .ok (.aload_n 0, 1) := by decide +kernel
theorem dX7_fails_13 : decode cX7_fails 13 = .ok (.aload_n 0, 1) := by decide +kernel
theorem dX7_fails_14 : decode cX7_fails 14 = .ok (.getfield 65, 3) := by decide +kernel
theorem dX7_fails_17 : decode cX7_fails 17 = .ok (.putfield 68, 3) := by decide +kernel
theorem dX7_fails_20 : decode cX7_fails 20 = .ok (.return_, 1) := by decide +kernel
theorem dX7_nameHere_0 : decode cX7_nameHere 0 = .ok (.iconst 0, 1) := by decide +kernel
theorem dX7_nameHere_1 : decode cX7_nameHere 1 = .ok (.istore_n 1, 1) := by decide +kernel
theorem dX7_nameHere_2 : decode cX7_nameHere 2 = .ok (.iload_n 1, 1) := by decide +kernel
theorem dX7_nameHere_3 : decode cX7_nameHere 3 = .ok (.bipush 15, 2) := by decide +kernel
theorem dX7_nameHere_5 : decode cX7_nameHere 5 = .ok (.if_icmp .ge 113, 3) := by decide +kernel
theorem dX7_nameHere_8 : decode cX7_nameHere 8 = .ok (.aload_n 0, 1) := by decide +kernel
theorem dX7_nameHere_9 : decode cX7_nameHere 9 = .ok (.getfield 71, 3) := by decide +kernel
theorem dX7_nameHere_12 : decode cX7_nameHere 12 = .ok (.iconst 1, 1) := by decide +kernel
theorem dX7_nameHere_13 : decode cX7_nameHere 13 = .ok (.if_icmp .ne 105, 3) := by decide +kernel
theorem dX7_nameHere_16 : decode cX7_nameHere 16 = .ok (.aload_n 0, 1) := by decide +kernel
theorem dX7_nameHere_17 : decode cX7_nameHere 17 = .ok (.getfield 74, 3) := by decide +kernel
theorem dX7_nameHere_20 : decode cX7_nameHere 20 = .ok (.aload_n 0, 1) := by decide +kernel
theorem dX7_nameHere_21 : decode cX7_nameHere 21 = .ok (.getfield 65, 3) := by decide +kernel
theorem dX7_nameHere_24 : decode cX7_nameHere 24 = .ok (.isub, 1) := by decide +kernel
theorem dX7_nameHere_25 : decode cX7_nameHere 25 = .ok (.aload_n 0, 1) := by decide +kernel
theorem dX7_nameHere_26 : decode cX7_nameHere 26 = .ok (.getfield 16, 3) := by decide +kernel
theorem dX7_nameHere_29 : decode cX7_nameHere 29 = .ok (.iload_n 1, 1) := by decide +kernel
theorem dX7_nameHere_30 : decode cX7_nameHere 30 = .ok (.iconst 1, 1) := by decide +kernel
theorem dX7_nameHere_31 : decode cX7_nameHere 31 = .ok (.iadd, 1) := by decide +kernel
theorem dX7_nameHere_32 : decode cX7_nameHere 32 = .ok (.iaload, 1) := by decide +kernel
theorem dX7_nameHere_33 : decode cX7_nameHere 33 = .ok (.aload_n 0, 1) := by decide +kernel
theorem dX7_nameHere_34 : decode cX7_nameHere 34 = .ok (.getfield 16, 3) := by decide +kernel
theorem dX7_nameHere_37 : decode cX7_nameHere 37 = .ok (.iload_n 1, 1) := by decide +kernel
theorem dX7_nameHere_38 : decode cX7_nameHere 38 = .ok (.iaload, 1) := by decide +kernel
theorem dX7_nameHere_39 : decode cX7_nameHere 39 = .ok (.isub, 1) := by decide +kernel
theorem dX7_nameHere_40 : decode cX7_nameHere 40 = .ok (.if_icmp .ne 7, 3) := by decide +kernel
theorem dX7_nameHere_43 : decode cX7_nameHere 43 = .ok (.iconst 1, 1) := by decide +kernel
theorem dX7_nameHere_44 : decode cX7_nameHere 44 = .ok (.goto 4, 3) := by decide +kernel
theorem dX7_nameHere_47 : decode cX7_nameHere 47 = .ok (.iconst 0, 1) := by decide +kernel
theorem dX7_nameHere_48 : decode cX7_nameHere 48 = .ok (.istore_n 2, 1) := by decide +kernel
theorem dX7_nameHere_49 : decode cX7_nameHere 49 = .ok (.iconst 0, 1) := by decide +kernel
theorem dX7_nameHere_50 : decode cX7_nameHere 50 = .ok (.istore_n 3, 1) := by decide +kernel
theorem dX7_nameHere_51 : decode cX7_nameHere 51 = .ok (.iload_n 2, 1) := by decide +kernel
theorem dX7_nameHere_52 : decode cX7_nameHere 52 = .ok (.ifCond .eq 54, 3) := by decide +kernel
theorem dX7_nameHere_55 : decode cX7_nameHere 55 = .ok (.iload_n 3, 1) := by decide +kernel
theorem dX7_nameHere_56 : decode cX7_nameHere 56 = .ok (.aload_n 0, 1) := by decide +kernel
theorem dX7_nameHere_57 : decode cX7_nameHere 57 = .ok (.getfield 74, 3) := by decide +kernel
theorem dX7_nameHere_60 : decode cX7_nameHere 60 = .ok (.aload_n 0, 1) := by decide +kernel
theorem dX7_nameHere_61 : decode cX7_nameHere 61 = .ok (.getfield 65, 3) := by decide +kernel
theorem dX7_nameHere_64 : decode cX7_nameHere 64 = .ok (.isub, 1) := by decide +kernel
theorem dX7_nameHere_65 : decode cX7_nameHere 65 = .ok (.if_icmp .ge 41, 3) := by decide +kernel
theorem dX7_nameHere_68 : decode cX7_nameHere 68 = .ok (.aload_n 0, 1) := by decide +kernel
theorem dX7_nameHere_69 : decode cX7_nameHere 69 = .ok (.aload_n 0, 1) := by decide +kernel
theorem dX7_nameHere_70 : decode cX7_nameHere 70 = .ok (.getfield 65, 3) := by decide +kernel
theorem dX7_nameHere_73 : decode cX7_nameHere 73 = .ok (.iload_n 3, 1) := by decide +kernel
theorem dX7_nameHere_74 : decode cX7_nameHere 74 = .ok (.iadd, 1) := by decide +kernel
theorem dX7_nameHere_75 : decode cX7_nameHere 75 = .ok (.invokevirtual 77, 3) := by decide +kernel
theorem dX7_nameHere_78 : decode cX7_nameHere 78 = .ok (.aload_n 0, 1) := by decide +kernel
theorem dX7_nameHere_79 : decode cX7_nameHere 79 = .ok (.getfield 19, 3) := by decide +kernel
theorem dX7_nameHere_82 : decode cX7_nameHere 82 = .ok (.aload_n 0, 1) := by decide +kernel
theorem dX7_nameHere_83 : decode cX7_nameHere 83 = .ok (.getfield 16, 3) := by decide +kernel
theorem dX7_nameHere_86 : decode cX7_nameHere 86 = .ok (.iload_n 1, 1) := by decide +kernel
theorem dX7_nameHere_87 : decode cX7_nameHere 87 = .ok (.iaload, 1) := by decide +kernel
theorem dX7_nameHere_88 : decode cX7_nameHere 88 = .ok (.iload_n 3, 1) := by decide +kernel
theorem dX7_nameHere_89 : decode cX7_nameHere 89 = .ok (.iadd, 1) := by decide +kernel
theorem dX7_nameHere_90 : decode cX7_nameHere 90 = .ok (.iaload, 1) := by decide +kernel
theorem dX7_nameHere_91 : decode cX7_nameHere 91 = .ok (.if_icmp .ne 7, 3) := by decide +kernel
theorem dX7_nameHere_94 : decode cX7_nameHere 94 = .ok (.iconst 1, 1) := by decide +kernel
theorem dX7_nameHere_95 : decode cX7_nameHere 95 = .ok (.goto 4, 3) := by decide +kernel
theorem dX7_nameHere_98 : decode cX7_nameHere 98 = .ok (.iconst 0, 1) := by decide +kernel
theorem dX7_nameHere_99 : decode cX7_nameHere 99 = .ok (.istore_n 2, 1) := by decide +kernel
theorem dX7_nameHere_100 : decode cX7_nameHere 100 = .ok (.iinc 3 1, 3) := by decide +kernel
theorem dX7_nameHere_103 : decode cX7_nameHere 103 = .ok (.goto (-52), 3) := by decide +kernel
theorem dX7_nameHere_106 : decode cX7_nameHere 106 = .ok (.iload_n 2, 1) := by decide +kernel
theorem dX7_nameHere_107 : decode cX7_nameHere 107 = .ok (.ifCond .eq 5, 3) := by decide +kernel
theorem dX7_nameHere_110 : decode cX7_nameHere 110 = .ok (.iload_n 1, 1) := by decide +kernel
theorem dX7_nameHere_111 : decode cX7_nameHere 111 = .ok (.ireturn, 1) := by decide +kernel
theorem dX7_nameHere_112 : decode cX7_nameHere 112 = .ok (.iinc 1 1, 3) := by decide +kernel
theorem dX7_nameHere_115 : decode cX7_nameHere 115 = .ok (.goto (-113), 3) := by decide +kernel
theorem dX7_nameHere_118 : decode cX7_nameHere 118 = .ok (.bipush (-4), 2) := by decide +kernel
theorem dX7_nameHere_120 : decode cX7_nameHere 120 = .ok (.ireturn, 1) := by decide +kernel
theorem dX7_readsOn_0 : decode cX7_readsOn 0 = .ok (.aload_n 0, 1) := by decide +kernel
theorem dX7_readsOn_1 : decode cX7_readsOn 1 = .ok (.getfield 62, 3) := by decide +kernel
theorem dX7_readsOn_4 : decode cX7_readsOn 4 = .ok (.ifCond .le 4, 3) := by decide +kernel
theorem dX7_readsOn_7 : decode cX7_readsOn 7 = .ok (.return_, 1) := by decide +kernel
theorem dX7_readsOn_8 : decode cX7_readsOn 8 = .ok (.aload_n 0, 1) := by decide +kernel
theorem dX7_readsOn_9 : decode cX7_readsOn 9 = .ok (.aload_n 0, 1) := by decide +kernel
theorem dX7_readsOn_10 : decode cX7_readsOn 10 = .ok (.getfield 74, 3) := by decide +kernel
theorem dX7_readsOn_13 : decode cX7_readsOn 13 = .ok (.invokevirtual 77, 3) := by decide +kernel
theorem dX7_readsOn_16 : decode cX7_readsOn 16 = .ok (.bipush 32, 2) := by decide +kernel
theorem dX7_readsOn_18 : decode cX7_readsOn 18 = .ok (.if_icmp .ne 16, 3) := by decide +kernel
theorem dX7_readsOn_21 : decode cX7_readsOn 21 = .ok (.aload_n 0, 1) := by decide +kernel
theorem dX7_readsOn_22 : decode cX7_readsOn 22 = .ok (.dup, 1) := by decide +kernel
theorem dX7_readsOn_23 : decode cX7_readsOn 23 = .ok (.getfield 74, 3) := by decide +kernel
theorem dX7_readsOn_26 : decode cX7_readsOn 26 = .ok (.iconst 1, 1) := by decide +kernel
theorem dX7_readsOn_27 : decode cX7_readsOn 27 = .ok (.iadd, 1) := by decide +kernel
theorem dX7_readsOn_28 : decode cX7_readsOn 28 = .ok (.putfield 74, 3) := by decide +kernel
theorem dX7_readsOn_31 : decode cX7_readsOn 31 = .ok (.goto (-23), 3) := by decide +kernel
theorem dX7_readsOn_34 : decode cX7_readsOn 34 = .ok (.aload_n 0, 1) := by decide +kernel
theorem dX7_readsOn_35 : decode cX7_readsOn 35 = .ok (.aload_n 0, 1) := by decide +kernel
theorem dX7_readsOn_36 : decode cX7_readsOn 36 = .ok (.getfield 74, 3) := by decide +kernel
theorem dX7_readsOn_39 : decode cX7_readsOn 39 = .ok (.putfield 65, 3) := by decide +kernel
theorem dX7_readsOn_42 : decode cX7_readsOn 42 = .ok (.aload_n 0, 1) := by decide +kernel
theorem dX7_readsOn_43 : decode cX7_readsOn 43 = .ok (.aload_n 0, 1) := by decide +kernel
theorem dX7_readsOn_44 : decode cX7_readsOn 44 = .ok (.getfield 74, 3) := by decide +kernel
theorem dX7_readsOn_47 : decode cX7_readsOn 47 = .ok (.invokevirtual 77, 3) := by decide +kernel
theorem dX7_readsOn_50 : decode cX7_readsOn 50 = .ok (.istore_n 1, 1) := by decide +kernel
theorem dX7_readsOn_51 : decode cX7_readsOn 51 = .ok (.aload_n 0, 1) := by decide +kernel
theorem dX7_readsOn_52 : decode cX7_readsOn 52 = .ok (.iconst 0, 1) := by decide +kernel
theorem dX7_readsOn_53 : decode cX7_readsOn 53 = .ok (.putfield 81, 3) := by decide +kernel
theorem dX7_readsOn_56 : decode cX7_readsOn 56 = .ok (.iload_n 1, 1) := by decide +kernel
theorem dX7_readsOn_57 : decode cX7_readsOn 57 = .ok (.bipush (-4), 2) := by decide +kernel
theorem dX7_readsOn_59 : decode cX7_readsOn 59 = .ok (.if_icmp .ne 11, 3) := by decide +kernel
theorem dX7_readsOn_62 : decode cX7_readsOn 62 = .ok (.aload_n 0, 1) := by decide +kernel
theorem dX7_readsOn_63 : decode cX7_readsOn 63 = .ok (.iconst 0, 1) := by decide +kernel
theorem dX7_readsOn_64 : decode cX7_readsOn 64 = .ok (.putfield 71, 3) := by decide +kernel
theorem dX7_readsOn_67 : decode cX7_readsOn 67 = .ok (.goto 234, 3) := by decide +kernel
theorem dX7_readsOn_70 : decode cX7_readsOn 70 = .ok (.iload_n 1, 1) := by decide +kernel
theorem dX7_readsOn_71 : decode cX7_readsOn 71 = .ok (.i2l, 1) := by decide +kernel
theorem dX7_readsOn_72 : decode cX7_readsOn 72 = .ok (.ldc2_w 84, 3) := by decide +kernel
theorem dX7_readsOn_75 : decode cX7_readsOn 75 = .ok (.ldc2_w 86, 3) := by decide +kernel
theorem dX7_readsOn_78 : decode cX7_readsOn 78 = .ok (.invokestatic 54, 3) := by decide +kernel
theorem dX7_readsOn_81 : decode cX7_readsOn 81 = .ok (.ifCond .eq 45, 3) := by decide +kernel
theorem dX7_readsOn_84 : decode cX7_readsOn 84 = .ok (.aload_n 0, 1) := by decide +kernel
theorem dX7_readsOn_85 : decode cX7_readsOn 85 = .ok (.aload_n 0, 1) := by decide +kernel
theorem dX7_readsOn_86 : decode cX7_readsOn 86 = .ok (.getfield 74, 3) := by decide +kernel
theorem dX7_readsOn_89 : decode cX7_readsOn 89 = .ok (.invokevirtual 77, 3) := by decide +kernel
theorem dX7_readsOn_92 : decode cX7_readsOn 92 = .ok (.i2l, 1) := by decide +kernel
theorem dX7_readsOn_93 : decode cX7_readsOn 93 = .ok (.ldc2_w 84, 3) := by decide +kernel
theorem dX7_readsOn_96 : decode cX7_readsOn 96 = .ok (.ldc2_w 86, 3) := by decide +kernel
theorem dX7_readsOn_99 : decode cX7_readsOn 99 = .ok (.invokestatic 54, 3) := by decide +kernel
theorem dX7_readsOn_102 : decode cX7_readsOn 102 = .ok (.ifCond .eq 16, 3) := by decide +kernel
theorem dX7_readsOn_105 : decode cX7_readsOn 105 = .ok (.aload_n 0, 1) := by decide +kernel
theorem dX7_readsOn_106 : decode cX7_readsOn 106 = .ok (.dup, 1) := by decide +kernel
theorem dX7_readsOn_107 : decode cX7_readsOn 107 = .ok (.getfield 74, 3) := by decide +kernel
theorem dX7_readsOn_110 : decode cX7_readsOn 110 = .ok (.iconst 1, 1) := by decide +kernel
theorem dX7_readsOn_111 : decode cX7_readsOn 111 = .ok (.iadd, 1) := by decide +kernel
theorem dX7_readsOn_112 : decode cX7_readsOn 112 = .ok (.putfield 74, 3) := by decide +kernel
theorem dX7_readsOn_115 : decode cX7_readsOn 115 = .ok (.goto (-31), 3) := by decide +kernel
theorem dX7_readsOn_118 : decode cX7_readsOn 118 = .ok (.aload_n 0, 1) := by decide +kernel
theorem dX7_readsOn_119 : decode cX7_readsOn 119 = .ok (.iconst 1, 1) := by decide +kernel
theorem dX7_readsOn_120 : decode cX7_readsOn 120 = .ok (.putfield 71, 3) := by decide +kernel
theorem dX7_readsOn_123 : decode cX7_readsOn 123 = .ok (.goto 178, 3) := by decide +kernel
theorem dX7_readsOn_126 : decode cX7_readsOn 126 = .ok (.iload_n 1, 1) := by decide +kernel
theorem dX7_readsOn_127 : decode cX7_readsOn 127 = .ok (.i2l, 1) := by decide +kernel
theorem dX7_readsOn_128 : decode cX7_readsOn 128 = .ok (.ldc2_w 88, 3) := by decide +kernel
theorem dX7_readsOn_131 : decode cX7_readsOn 131 = .ok (.ldc2_w 90, 3) := by decide +kernel
theorem dX7_readsOn_134 : decode cX7_readsOn 134 = .ok (.invokestatic 54, 3) := by decide +kernel
theorem dX7_readsOn_137 : decode cX7_readsOn 137 = .ok (.ifCond .eq 106, 3) := by decide +kernel
theorem dX7_readsOn_140 : decode cX7_readsOn 140 = .ok (.aload_n 0, 1) := by decide +kernel
theorem dX7_readsOn_141 : decode cX7_readsOn 141 = .ok (.aload_n 0, 1) := by decide +kernel
theorem dX7_readsOn_142 : decode cX7_readsOn 142 = .ok (.getfield 74, 3) := by decide +kernel
theorem dX7_readsOn_145 : decode cX7_readsOn 145 = .ok (.invokevirtual 77, 3) := by decide +kernel
theorem dX7_readsOn_148 : decode cX7_readsOn 148 = .ok (.i2l, 1) := by decide +kernel
theorem dX7_readsOn_149 : decode cX7_readsOn 149 = .ok (.ldc2_w 88, 3) := by decide +kernel
theorem dX7_readsOn_152 : decode cX7_readsOn 152 = .ok (.ldc2_w 90, 3) := by decide +kernel
theorem dX7_readsOn_155 : decode cX7_readsOn 155 = .ok (.invokestatic 54, 3) := by decide +kernel
theorem dX7_readsOn_158 : decode cX7_readsOn 158 = .ok (.ifCond .eq 59, 3) := by decide +kernel
theorem dX7_readsOn_161 : decode cX7_readsOn 161 = .ok (.aload_n 0, 1) := by decide +kernel
theorem dX7_readsOn_162 : decode cX7_readsOn 162 = .ok (.aload_n 0, 1) := by decide +kernel
theorem dX7_readsOn_163 : decode cX7_readsOn 163 = .ok (.getfield 74, 3) := by decide +kernel
theorem dX7_readsOn_166 : decode cX7_readsOn 166 = .ok (.aload_n 0, 1) := by decide +kernel
theorem dX7_readsOn_167 : decode cX7_readsOn 167 = .ok (.getfield 65, 3) := by decide +kernel
theorem dX7_readsOn_170 : decode cX7_readsOn 170 = .ok (.isub, 1) := by decide +kernel
theorem dX7_readsOn_171 : decode cX7_readsOn 171 = .ok (.iconst 4, 1) := by decide +kernel
theorem dX7_readsOn_172 : decode cX7_readsOn 172 = .ok (.if_icmp .ge 25, 3) := by decide +kernel
theorem dX7_readsOn_175 : decode cX7_readsOn 175 = .ok (.bipush 10, 2) := by decide +kernel
theorem dX7_readsOn_177 : decode cX7_readsOn 177 = .ok (.aload_n 0, 1) := by decide +kernel
theorem dX7_readsOn_178 : decode cX7_readsOn 178 = .ok (.getfield 81, 3) := by decide +kernel
theorem dX7_readsOn_181 : decode cX7_readsOn 181 = .ok (.imul, 1) := by decide +kernel
theorem dX7_readsOn_182 : decode cX7_readsOn 182 = .ok (.aload_n 0, 1) := by decide +kernel
theorem dX7_readsOn_183 : decode cX7_readsOn 183 = .ok (.aload_n 0, 1) := by decide +kernel
theorem dX7_readsOn_184 : decode cX7_readsOn 184 = .ok (.getfield 74, 3) := by decide +kernel
theorem dX7_readsOn_187 : decode cX7_readsOn 187 = .ok (.invokevirtual 77, 3) := by decide +kernel
theorem dX7_readsOn_190 : decode cX7_readsOn 190 = .ok (.iadd, 1) := by decide +kernel
theorem dX7_readsOn_191 : decode cX7_readsOn 191 = .ok (.bipush 48, 2) := by decide +kernel
theorem dX7_readsOn_193 : decode cX7_readsOn 193 = .ok (.isub, 1) := by decide +kernel
theorem dX7_readsOn_194 : decode cX7_readsOn 194 = .ok (.goto 7, 3) := by decide +kernel
theorem dX7_readsOn_197 : decode cX7_readsOn 197 = .ok (.aload_n 0, 1) := by decide +kernel
theorem dX7_readsOn_198 : decode cX7_readsOn 198 = .ok (.getfield 81, 3) := by decide +kernel
theorem dX7_readsOn_201 : decode cX7_readsOn 201 = .ok (.putfield 81, 3) := by decide +kernel
theorem dX7_readsOn_204 : decode cX7_readsOn 204 = .ok (.aload_n 0, 1) := by decide +kernel
theorem dX7_readsOn_205 : decode cX7_readsOn 205 = .ok (.dup, 1) := by decide +kernel
theorem dX7_readsOn_206 : decode cX7_readsOn 206 = .ok (.getfield 74, 3) := by decide +kernel
theorem dX7_readsOn_209 : decode cX7_readsOn 209 = .ok (.iconst 1, 1) := by decide +kernel
theorem dX7_readsOn_210 : decode cX7_readsOn 210 = .ok (.iadd, 1) := by decide +kernel
theorem dX7_readsOn_211 : decode cX7_readsOn 211 = .ok (.putfield 74, 3) := by decide +kernel
theorem dX7_readsOn_214 : decode cX7_readsOn 214 = .ok (.goto (-74), 3) := by decide +kernel
theorem dX7_readsOn_217 : decode cX7_readsOn 217 = .ok (.aload_n 0, 1) := by decide +kernel
theorem dX7_readsOn_218 : decode cX7_readsOn 218 = .ok (.iconst 2, 1) := by decide +kernel
theorem dX7_readsOn_219 : decode cX7_readsOn 219 = .ok (.putfield 71, 3) := by decide +kernel
theorem dX7_readsOn_222 : decode cX7_readsOn 222 = .ok (.aload_n 0, 1) := by decide +kernel
theorem dX7_readsOn_223 : decode cX7_readsOn 223 = .ok (.getfield 74, 3) := by decide +kernel
theorem dX7_readsOn_226 : decode cX7_readsOn 226 = .ok (.aload_n 0, 1) := by decide +kernel
theorem dX7_readsOn_227 : decode cX7_readsOn 227 = .ok (.getfield 65, 3) := by decide +kernel
theorem dX7_readsOn_230 : decode cX7_readsOn 230 = .ok (.isub, 1) := by decide +kernel
theorem dX7_readsOn_231 : decode cX7_readsOn 231 = .ok (.iconst 4, 1) := by decide +kernel
theorem dX7_readsOn_232 : decode cX7_readsOn 232 = .ok (.if_icmp .le 69, 3) := by decide +kernel
theorem dX7_readsOn_235 : decode cX7_readsOn 235 = .ok (.aload_n 0, 1) := by decide +kernel
theorem dX7_readsOn_236 : decode cX7_readsOn 236 = .ok (.iconst 1, 1) := by decide +kernel
theorem dX7_readsOn_237 : decode cX7_readsOn 237 = .ok (.invokevirtual 92, 3) := by decide +kernel
theorem dX7_readsOn_240 : decode cX7_readsOn 240 = .ok (.goto 61, 3) := by decide +kernel
theorem dX7_readsOn_243 : decode cX7_readsOn 243 = .ok (.aload_n 0, 1) := by decide +kernel
theorem dX7_readsOn_244 : decode cX7_readsOn 244 = .ok (.iload_n 1, 1) := by decide +kernel
theorem dX7_readsOn_245 : decode cX7_readsOn 245 = .ok (.bipush 45, 2) := by decide +kernel
theorem dX7_readsOn_247 : decode cX7_readsOn 247 = .ok (.if_icmp .ne 7, 3) := by decide +kernel
theorem dX7_readsOn_250 : decode cX7_readsOn 250 = .ok (.iconst 4, 1) := by decide +kernel
theorem dX7_readsOn_251 : decode cX7_readsOn 251 = .ok (.goto 14, 3) := by decide +kernel
theorem dX7_readsOn_254 : decode cX7_readsOn 254 = .ok (.iload_n 1, 1) := by decide +kernel
theorem dX7_readsOn_255 : decode cX7_readsOn 255 = .ok (.bipush 46, 2) := by decide +kernel
theorem dX7_readsOn_257 : decode cX7_readsOn 257 = .ok (.if_icmp .ne 7, 3) := by decide +kernel
theorem dX7_readsOn_260 : decode cX7_readsOn 260 = .ok (.iconst 5, 1) := by decide +kernel
theorem dX7_readsOn_261 : decode cX7_readsOn 261 = .ok (.goto 4, 3) := by decide +kernel
theorem dX7_readsOn_264 : decode cX7_readsOn 264 = .ok (.iconst 3, 1) := by decide +kernel
theorem dX7_readsOn_265 : decode cX7_readsOn 265 = .ok (.putfield 71, 3) := by decide +kernel
theorem dX7_readsOn_268 : decode cX7_readsOn 268 = .ok (.aload_n 0, 1) := by decide +kernel
theorem dX7_readsOn_269 : decode cX7_readsOn 269 = .ok (.dup, 1) := by decide +kernel
theorem dX7_readsOn_270 : decode cX7_readsOn 270 = .ok (.getfield 74, 3) := by decide +kernel
theorem dX7_readsOn_273 : decode cX7_readsOn 273 = .ok (.iconst 1, 1) := by decide +kernel
theorem dX7_readsOn_274 : decode cX7_readsOn 274 = .ok (.iadd, 1) := by decide +kernel
theorem dX7_readsOn_275 : decode cX7_readsOn 275 = .ok (.putfield 74, 3) := by decide +kernel
theorem dX7_readsOn_278 : decode cX7_readsOn 278 = .ok (.iload_n 1, 1) := by decide +kernel
theorem dX7_readsOn_279 : decode cX7_readsOn 279 = .ok (.bipush 59, 2) := by decide +kernel
theorem dX7_readsOn_281 : decode cX7_readsOn 281 = .ok (.if_icmp .eq 20, 3) := by decide +kernel
theorem dX7_readsOn_284 : decode cX7_readsOn 284 = .ok (.iload_n 1, 1) := by decide +kernel
theorem dX7_readsOn_285 : decode cX7_readsOn 285 = .ok (.bipush 45, 2) := by decide +kernel
theorem dX7_readsOn_287 : decode cX7_readsOn 287 = .ok (.if_icmp .eq 14, 3) := by decide +kernel
theorem dX7_readsOn_290 : decode cX7_readsOn 290 = .ok (.iload_n 1, 1) := by decide +kernel
theorem dX7_readsOn_291 : decode cX7_readsOn 291 = .ok (.bipush 46, 2) := by decide +kernel
theorem dX7_readsOn_293 : decode cX7_readsOn 293 = .ok (.if_icmp .eq 8, 3) := by decide +kernel
theorem dX7_readsOn_296 : decode cX7_readsOn 296 = .ok (.aload_n 0, 1) := by decide +kernel
theorem dX7_readsOn_297 : decode cX7_readsOn 297 = .ok (.iconst 1, 1) := by decide +kernel
theorem dX7_readsOn_298 : decode cX7_readsOn 298 = .ok (.invokevirtual 92, 3) := by decide +kernel
theorem dX7_readsOn_301 : decode cX7_readsOn 301 = .ok (.return_, 1) := by decide +kernel
theorem dX7_numberRead_0 : decode cX7_numberRead 0 = .ok (.aload_n 0, 1) := by decide +kernel
theorem dX7_numberRead_1 : decode cX7_numberRead 1 = .ok (.getfield 62, 3) := by decide +kernel
theorem dX7_numberRead_4 : decode cX7_numberRead 4 = .ok (.ifCond .ne 16, 3) := by decide +kernel
theorem dX7_numberRead_7 : decode cX7_numberRead 7 = .ok (.aload_n 0, 1) := by decide +kernel
theorem dX7_numberRead_8 : decode cX7_numberRead 8 = .ok (.getfield 71, 3) := by decide +kernel
theorem dX7_numberRead_11 : decode cX7_numberRead 11 = .ok (.iconst 2, 1) := by decide +kernel
theorem dX7_numberRead_12 : decode cX7_numberRead 12 = .ok (.if_icmp .eq 8, 3) := by decide +kernel
theorem dX7_numberRead_15 : decode cX7_numberRead 15 = .ok (.aload_n 0, 1) := by decide +kernel
theorem dX7_numberRead_16 : decode cX7_numberRead 16 = .ok (.iconst 2, 1) := by decide +kernel
theorem dX7_numberRead_17 : decode cX7_numberRead 17 = .ok (.invokevirtual 92, 3) := by decide +kernel
theorem dX7_numberRead_20 : decode cX7_numberRead 20 = .ok (.aload_n 0, 1) := by decide +kernel
theorem dX7_numberRead_21 : decode cX7_numberRead 21 = .ok (.getfield 62, 3) := by decide +kernel
theorem dX7_numberRead_24 : decode cX7_numberRead 24 = .ok (.ifCond .ne 23, 3) := by decide +kernel
theorem dX7_numberRead_27 : decode cX7_numberRead 27 = .ok (.aload_n 0, 1) := by decide +kernel
theorem dX7_numberRead_28 : decode cX7_numberRead 28 = .ok (.getfield 81, 3) := by decide +kernel
theorem dX7_numberRead_31 : decode cX7_numberRead 31 = .ok (.i2l, 1) := by decide +kernel
theorem dX7_numberRead_32 : decode cX7_numberRead 32 = .ok (.iload_n 1, 1) := by decide +kernel
theorem dX7_numberRead_33 : decode cX7_numberRead 33 = .ok (.i2l, 1) := by decide +kernel
theorem dX7_numberRead_34 : decode cX7_numberRead 34 = .ok (.iload_n 2, 1) := by decide +kernel
theorem dX7_numberRead_35 : decode cX7_numberRead 35 = .ok (.i2l, 1) := by decide +kernel
theorem dX7_numberRead_36 : decode cX7_numberRead 36 = .ok (.invokestatic 54, 3) := by decide +kernel
theorem dX7_numberRead_39 : decode cX7_numberRead 39 = .ok (.ifCond .ne 8, 3) := by decide +kernel
theorem dX7_numberRead_42 : decode cX7_numberRead 42 = .ok (.aload_n 0, 1) := by decide +kernel
theorem dX7_numberRead_43 : decode cX7_numberRead 43 = .ok (.iconst 3, 1) := by decide +kernel
theorem dX7_numberRead_44 : decode cX7_numberRead 44 = .ok (.invokevirtual 92, 3) := by decide +kernel
theorem dX7_numberRead_47 : decode cX7_numberRead 47 = .ok (.aload_n 0, 1) := by decide +kernel
theorem dX7_numberRead_48 : decode cX7_numberRead 48 = .ok (.getfield 62, 3) := by decide +kernel
theorem dX7_numberRead_51 : decode cX7_numberRead 51 = .ok (.ifCond .ne 10, 3) := by decide +kernel
theorem dX7_numberRead_54 : decode cX7_numberRead 54 = .ok (.aload_n 0, 1) := by decide +kernel
theorem dX7_numberRead_55 : decode cX7_numberRead 55 = .ok (.getfield 81, 3) := by decide +kernel
theorem dX7_numberRead_58 : decode cX7_numberRead 58 = .ok (.goto 4, 3) := by decide +kernel
theorem dX7_numberRead_61 : decode cX7_numberRead 61 = .ok (.iload_n 1, 1) := by decide +kernel
theorem dX7_numberRead_62 : decode cX7_numberRead 62 = .ok (.istore_n 3, 1) := by decide +kernel
theorem dX7_numberRead_63 : decode cX7_numberRead 63 = .ok (.aload_n 0, 1) := by decide +kernel
theorem dX7_numberRead_64 : decode cX7_numberRead 64 = .ok (.invokevirtual 95, 3) := by decide +kernel
theorem dX7_numberRead_67 : decode cX7_numberRead 67 = .ok (.iload_n 3, 1) := by decide +kernel
theorem dX7_numberRead_68 : decode cX7_numberRead 68 = .ok (.ireturn, 1) := by decide +kernel
theorem dX7_wordRead_0 : decode cX7_wordRead 0 = .ok (.aload_n 0, 1) := by decide +kernel
theorem dX7_wordRead_1 : decode cX7_wordRead 1 = .ok (.invokevirtual 98, 3) := by decide +kernel
theorem dX7_wordRead_4 : decode cX7_wordRead 4 = .ok (.istore_n 3, 1) := by decide +kernel
theorem dX7_wordRead_5 : decode cX7_wordRead 5 = .ok (.aload_n 0, 1) := by decide +kernel
theorem dX7_wordRead_6 : decode cX7_wordRead 6 = .ok (.getfield 62, 3) := by decide +kernel
theorem dX7_wordRead_9 : decode cX7_wordRead 9 = .ok (.ifCond .ne 24, 3) := by decide +kernel
theorem dX7_wordRead_12 : decode cX7_wordRead 12 = .ok (.iload_n 3, 1) := by decide +kernel
theorem dX7_wordRead_13 : decode cX7_wordRead 13 = .ok (.i2l, 1) := by decide +kernel
theorem dX7_wordRead_14 : decode cX7_wordRead 14 = .ok (.iload_n 1, 1) := by decide +kernel
theorem dX7_wordRead_15 : decode cX7_wordRead 15 = .ok (.i2l, 1) := by decide +kernel
theorem dX7_wordRead_16 : decode cX7_wordRead 16 = .ok (.iload_n 1, 1) := by decide +kernel
theorem dX7_wordRead_17 : decode cX7_wordRead 17 = .ok (.iload_n 2, 1) := by decide +kernel
theorem dX7_wordRead_18 : decode cX7_wordRead 18 = .ok (.iadd, 1) := by decide +kernel
theorem dX7_wordRead_19 : decode cX7_wordRead 19 = .ok (.iconst 1, 1) := by decide +kernel
theorem dX7_wordRead_20 : decode cX7_wordRead 20 = .ok (.isub, 1) := by decide +kernel
theorem dX7_wordRead_21 : decode cX7_wordRead 21 = .ok (.i2l, 1) := by decide +kernel
theorem dX7_wordRead_22 : decode cX7_wordRead 22 = .ok (.invokestatic 54, 3) := by decide +kernel
theorem dX7_wordRead_25 : decode cX7_wordRead 25 = .ok (.ifCond .ne 8, 3) := by decide +kernel
theorem dX7_wordRead_28 : decode cX7_wordRead 28 = .ok (.aload_n 0, 1) := by decide +kernel
theorem dX7_wordRead_29 : decode cX7_wordRead 29 = .ok (.iconst 2, 1) := by decide +kernel
theorem dX7_wordRead_30 : decode cX7_wordRead 30 = .ok (.invokevirtual 92, 3) := by decide +kernel
theorem dX7_wordRead_33 : decode cX7_wordRead 33 = .ok (.aload_n 0, 1) := by decide +kernel
theorem dX7_wordRead_34 : decode cX7_wordRead 34 = .ok (.invokevirtual 95, 3) := by decide +kernel
theorem dX7_wordRead_37 : decode cX7_wordRead 37 = .ok (.aload_n 0, 1) := by decide +kernel
theorem dX7_wordRead_38 : decode cX7_wordRead 38 = .ok (.getfield 62, 3) := by decide +kernel
theorem dX7_wordRead_41 : decode cX7_wordRead 41 = .ok (.ifCond .ne 9, 3) := by decide +kernel
theorem dX7_wordRead_44 : decode cX7_wordRead 44 = .ok (.iload_n 3, 1) := by decide +kernel
theorem dX7_wordRead_45 : decode cX7_wordRead 45 = .ok (.iload_n 1, 1) := by decide +kernel
theorem dX7_wordRead_46 : decode cX7_wordRead 46 = .ok (.isub, 1) := by decide +kernel
theorem dX7_wordRead_47 : decode cX7_wordRead 47 = .ok (.goto 4, 3) := by decide +kernel
theorem dX7_wordRead_50 : decode cX7_wordRead 50 = .ok (.iconst 0, 1) := by decide +kernel
theorem dX7_wordRead_51 : decode cX7_wordRead 51 = .ok (.ireturn, 1) := by decide +kernel
theorem dX7_hundredthsRead_0 : decode cX7_hundredthsRead 0 = .ok (.aload_n 0, 1) := by decide +kernel
theorem dX7_hundredthsRead_1 : decode cX7_hundredthsRead 1 = .ok (.getfield 62, 3) := by decide +kernel
theorem dX7_hundredthsRead_4 : decode cX7_hundredthsRead 4 = .ok (.ifCond .gt 11, 3) := by decide +kernel
theorem dX7_hundredthsRead_7 : decode cX7_hundredthsRead 7 = .ok (.aload_n 0, 1) := by decide +kernel
theorem dX7_hundredthsRead_8 : decode cX7_hundredthsRead 8 = .ok (.getfield 71, 3) := by decide +kernel
theorem dX7_hundredthsRead_11 : decode cX7_hundredthsRead 11 = .ok (.iconst 5, 1) := by decide +kernel
theorem dX7_hundredthsRead_12 : decode cX7_hundredthsRead 12 = .ok (.if_icmp .eq 5, 3) := by decide +kernel
theorem dX7_hundredthsRead_15 : decode cX7_hundredthsRead 15 = .ok (.iconst 0, 1) := by decide +kernel
theorem dX7_hundredthsRead_16 : decode cX7_hundredthsRead 16 = .ok (.ireturn, 1) := by decide +kernel
theorem dX7_hundredthsRead_17 : decode cX7_hundredthsRead 17 = .ok (.aload_n 0, 1) := by decide +kernel
theorem dX7_hundredthsRead_18 : decode cX7_hundredthsRead 18 = .ok (.invokevirtual 95, 3) := by decide +kernel
theorem dX7_hundredthsRead_21 : decode cX7_hundredthsRead 21 = .ok (.aload_n 0, 1) := by decide +kernel
theorem dX7_hundredthsRead_22 : decode cX7_hundredthsRead 22 = .ok (.getfield 62, 3) := by decide +kernel
theorem dX7_hundredthsRead_25 : decode cX7_hundredthsRead 25 = .ok (.ifCond .ne 16, 3) := by decide +kernel
theorem dX7_hundredthsRead_28 : decode cX7_hundredthsRead 28 = .ok (.aload_n 0, 1) := by decide +kernel
theorem dX7_hundredthsRead_29 : decode cX7_hundredthsRead 29 = .ok (.getfield 71, 3) := by decide +kernel
theorem dX7_hundredthsRead_32 : decode cX7_hundredthsRead 32 = .ok (.iconst 2, 1) := by decide +kernel
theorem dX7_hundredthsRead_33 : decode cX7_hundredthsRead 33 = .ok (.if_icmp .eq 8, 3) := by decide +kernel
theorem dX7_hundredthsRead_36 : decode cX7_hundredthsRead 36 = .ok (.aload_n 0, 1) := by decide +kernel
theorem dX7_hundredthsRead_37 : decode cX7_hundredthsRead 37 = .ok (.iconst 2, 1) := by decide +kernel
theorem dX7_hundredthsRead_38 : decode cX7_hundredthsRead 38 = .ok (.invokevirtual 92, 3) := by decide +kernel
theorem dX7_hundredthsRead_41 : decode cX7_hundredthsRead 41 = .ok (.aload_n 0, 1) := by decide +kernel
theorem dX7_hundredthsRead_42 : decode cX7_hundredthsRead 42 = .ok (.getfield 74, 3) := by decide +kernel
theorem dX7_hundredthsRead_45 : decode cX7_hundredthsRead 45 = .ok (.aload_n 0, 1) := by decide +kernel
theorem dX7_hundredthsRead_46 : decode cX7_hundredthsRead 46 = .ok (.getfield 65, 3) := by decide +kernel
theorem dX7_hundredthsRead_49 : decode cX7_hundredthsRead 49 = .ok (.isub, 1) := by decide +kernel
theorem dX7_hundredthsRead_50 : decode cX7_hundredthsRead 50 = .ok (.istore_n 1, 1) := by decide +kernel
theorem dX7_hundredthsRead_51 : decode cX7_hundredthsRead 51 = .ok (.aload_n 0, 1) := by decide +kernel
theorem dX7_hundredthsRead_52 : decode cX7_hundredthsRead 52 = .ok (.getfield 62, 3) := by decide +kernel
theorem dX7_hundredthsRead_55 : decode cX7_hundredthsRead 55 = .ok (.ifCond .ne 13, 3) := by decide +kernel
theorem dX7_hundredthsRead_58 : decode cX7_hundredthsRead 58 = .ok (.iload_n 1, 1) := by decide +kernel
theorem dX7_hundredthsRead_59 : decode cX7_hundredthsRead 59 = .ok (.iconst 2, 1) := by decide +kernel
theorem dX7_hundredthsRead_60 : decode cX7_hundredthsRead 60 = .ok (.if_icmp .le 8, 3) := by decide +kernel
theorem dX7_hundredthsRead_63 : decode cX7_hundredthsRead 63 = .ok (.aload_n 0, 1) := by decide +kernel
theorem dX7_hundredthsRead_64 : decode cX7_hundredthsRead 64 = .ok (.iconst 3, 1) := by decide +kernel
theorem dX7_hundredthsRead_65 : decode cX7_hundredthsRead 65 = .ok (.invokevirtual 92, 3) := by decide +kernel
theorem dX7_hundredthsRead_68 : decode cX7_hundredthsRead 68 = .ok (.iload_n 1, 1) := by decide +kernel
theorem dX7_hundredthsRead_69 : decode cX7_hundredthsRead 69 = .ok (.iconst 1, 1) := by decide +kernel
theorem dX7_hundredthsRead_70 : decode cX7_hundredthsRead 70 = .ok (.if_icmp .ne 13, 3) := by decide +kernel
theorem dX7_hundredthsRead_73 : decode cX7_hundredthsRead 73 = .ok (.bipush 10, 2) := by decide +kernel
theorem dX7_hundredthsRead_75 : decode cX7_hundredthsRead 75 = .ok (.aload_n 0, 1) := by decide +kernel
theorem dX7_hundredthsRead_76 : decode cX7_hundredthsRead 76 = .ok (.getfield 81, 3) := by decide +kernel
theorem dX7_hundredthsRead_79 : decode cX7_hundredthsRead 79 = .ok (.imul, 1) := by decide +kernel
theorem dX7_hundredthsRead_80 : decode cX7_hundredthsRead 80 = .ok (.goto 7, 3) := by decide +kernel
theorem dX7_hundredthsRead_83 : decode cX7_hundredthsRead 83 = .ok (.aload_n 0, 1) := by decide +kernel
theorem dX7_hundredthsRead_84 : decode cX7_hundredthsRead 84 = .ok (.getfield 81, 3) := by decide +kernel
theorem dX7_hundredthsRead_87 : decode cX7_hundredthsRead 87 = .ok (.istore_n 2, 1) := by decide +kernel
theorem dX7_hundredthsRead_88 : decode cX7_hundredthsRead 88 = .ok (.aload_n 0, 1) := by decide +kernel
theorem dX7_hundredthsRead_89 : decode cX7_hundredthsRead 89 = .ok (.invokevirtual 95, 3) := by decide +kernel
theorem dX7_hundredthsRead_92 : decode cX7_hundredthsRead 92 = .ok (.aload_n 0, 1) := by decide +kernel
theorem dX7_hundredthsRead_93 : decode cX7_hundredthsRead 93 = .ok (.getfield 62, 3) := by decide +kernel
theorem dX7_hundredthsRead_96 : decode cX7_hundredthsRead 96 = .ok (.ifCond .ne 7, 3) := by decide +kernel
theorem dX7_hundredthsRead_99 : decode cX7_hundredthsRead 99 = .ok (.iload_n 2, 1) := by decide +kernel
theorem dX7_hundredthsRead_100 : decode cX7_hundredthsRead 100 = .ok (.goto 4, 3) := by decide +kernel
theorem dX7_hundredthsRead_103 : decode cX7_hundredthsRead 103 = .ok (.iconst 0, 1) := by decide +kernel
theorem dX7_hundredthsRead_104 : decode cX7_hundredthsRead 104 = .ok (.ireturn, 1) := by decide +kernel
theorem dX7_isReadingHere_0 : decode cX7_isReadingHere 0 = .ok (.aload_n 0, 1) := by decide +kernel
theorem dX7_isReadingHere_1 : decode cX7_isReadingHere 1 = .ok (.getfield 71, 3) := by decide +kernel
theorem dX7_isReadingHere_4 : decode cX7_isReadingHere 4 = .ok (.iconst 2, 1) := by decide +kernel
theorem dX7_isReadingHere_5 : decode cX7_isReadingHere 5 = .ok (.if_icmp .eq 20, 3) := by decide +kernel
theorem dX7_isReadingHere_8 : decode cX7_isReadingHere 8 = .ok (.aload_n 0, 1) := by decide +kernel
theorem dX7_isReadingHere_9 : decode cX7_isReadingHere 9 = .ok (.getfield 71, 3) := by decide +kernel
theorem dX7_isReadingHere_12 : decode cX7_isReadingHere 12 = .ok (.iconst 4, 1) := by decide +kernel
theorem dX7_isReadingHere_13 : decode cX7_isReadingHere 13 = .ok (.if_icmp .eq 12, 3) := by decide +kernel
theorem dX7_isReadingHere_16 : decode cX7_isReadingHere 16 = .ok (.aload_n 0, 1) := by decide +kernel
theorem dX7_isReadingHere_17 : decode cX7_isReadingHere 17 = .ok (.invokevirtual 98, 3) := by decide +kernel
theorem dX7_isReadingHere_20 : decode cX7_isReadingHere 20 = .ok (.bipush 14, 2) := by decide +kernel
theorem dX7_isReadingHere_22 : decode cX7_isReadingHere 22 = .ok (.if_icmp .ne 7, 3) := by decide +kernel
theorem dX7_isReadingHere_25 : decode cX7_isReadingHere 25 = .ok (.iconst 1, 1) := by decide +kernel
theorem dX7_isReadingHere_26 : decode cX7_isReadingHere 26 = .ok (.goto 4, 3) := by decide +kernel
theorem dX7_isReadingHere_29 : decode cX7_isReadingHere 29 = .ok (.iconst 0, 1) := by decide +kernel
theorem dX7_isReadingHere_30 : decode cX7_isReadingHere 30 = .ok (.ireturn, 1) := by decide +kernel
theorem dX7_readReading_0 : decode cX7_readReading 0 = .ok (.aload_n 0, 1) := by decide +kernel
theorem dX7_readReading_1 : decode cX7_readReading 1 = .ok (.getfield 62, 3) := by decide +kernel
theorem dX7_readReading_4 : decode cX7_readReading 4 = .ok (.ifCond .ne 15, 3) := by decide +kernel
theorem dX7_readReading_7 : decode cX7_readReading 7 = .ok (.aload_n 0, 1) := by decide +kernel
theorem dX7_readReading_8 : decode cX7_readReading 8 = .ok (.invokevirtual 102, 3) := by decide +kernel
theorem dX7_readReading_11 : decode cX7_readReading 11 = .ok (.ifCond .ne 8, 3) := by decide +kernel
theorem dX7_readReading_14 : decode cX7_readReading 14 = .ok (.aload_n 0, 1) := by decide +kernel
theorem dX7_readReading_15 : decode cX7_readReading 15 = .ok (.iconst 2, 1) := by decide +kernel
theorem dX7_readReading_16 : decode cX7_readReading 16 = .ok (.invokevirtual 92, 3) := by decide +kernel
theorem dX7_readReading_19 : decode cX7_readReading 19 = .ok (.aload_n 0, 1) := by decide +kernel
theorem dX7_readReading_20 : decode cX7_readReading 20 = .ok (.getfield 7, 3) := by decide +kernel
theorem dX7_readReading_23 : decode cX7_readReading 23 = .ok (.sipush 411, 3) := by decide +kernel
theorem dX7_readReading_26 : decode cX7_readReading 26 = .ok (.iaload, 1) := by decide +kernel
theorem dX7_readReading_27 : decode cX7_readReading 27 = .ok (.istore_n 1, 1) := by decide +kernel
theorem dX7_readReading_28 : decode cX7_readReading 28 = .ok (.aload_n 0, 1) := by decide +kernel
theorem dX7_readReading_29 : decode cX7_readReading 29 = .ok (.getfield 62, 3) := by decide +kernel
theorem dX7_readReading_32 : decode cX7_readReading 32 = .ok (.ifCond .ne 14, 3) := by decide +kernel
theorem dX7_readReading_35 : decode cX7_readReading 35 = .ok (.iload_n 1, 1) := by decide +kernel
theorem dX7_readReading_36 : decode cX7_readReading 36 = .ok (.bipush 96, 2) := by decide +kernel
theorem dX7_readReading_38 : decode cX7_readReading 38 = .ok (.if_icmp .ne 8, 3) := by decide +kernel
theorem dX7_readReading_41 : decode cX7_readReading 41 = .ok (.aload_n 0, 1) := by decide +kernel
theorem dX7_readReading_42 : decode cX7_readReading 42 = .ok (.iconst 5, 1) := by decide +kernel
theorem dX7_readReading_43 : decode cX7_readReading 43 = .ok (.invokevirtual 92, 3) := by decide +kernel
theorem dX7_readReading_46 : decode cX7_readReading 46 = .ok (.aload_n 0, 1) := by decide +kernel
theorem dX7_readReading_47 : decode cX7_readReading 47 = .ok (.getfield 62, 3) := by decide +kernel
theorem dX7_readReading_50 : decode cX7_readReading 50 = .ok (.ifCond .le 4, 3) := by decide +kernel
theorem dX7_readReading_53 : decode cX7_readReading 53 = .ok (.return_, 1) := by decide +kernel
theorem dX7_readReading_54 : decode cX7_readReading 54 = .ok (.ldc 106, 2) := by decide +kernel
theorem dX7_readReading_56 : decode cX7_readReading 56 = .ok (.istore_n 2, 1) := by decide +kernel
theorem dX7_readReading_57 : decode cX7_readReading 57 = .ok (.aload_n 0, 1) := by decide +kernel
theorem dX7_readReading_58 : decode cX7_readReading 58 = .ok (.getfield 71, 3) := by decide +kernel
theorem dX7_readReading_61 : decode cX7_readReading 61 = .ok (.iconst 1, 1) := by decide +kernel
theorem dX7_readReading_62 : decode cX7_readReading 62 = .ok (.if_icmp .ne 10, 3) := by decide +kernel
theorem dX7_readReading_65 : decode cX7_readReading 65 = .ok (.aload_n 0, 1) := by decide +kernel
theorem dX7_readReading_66 : decode cX7_readReading 66 = .ok (.invokevirtual 95, 3) := by decide +kernel
theorem dX7_readReading_69 : decode cX7_readReading 69 = .ok (.goto 55, 3) := by decide +kernel
theorem dX7_readReading_72 : decode cX7_readReading 72 = .ok (.aload_n 0, 1) := by decide +kernel
theorem dX7_readReading_73 : decode cX7_readReading 73 = .ok (.getfield 71, 3) := by decide +kernel
theorem dX7_readReading_76 : decode cX7_readReading 76 = .ok (.iconst 4, 1) := by decide +kernel
theorem dX7_readReading_77 : decode cX7_readReading 77 = .ok (.if_icmp .ne 7, 3) := by decide +kernel
theorem dX7_readReading_80 : decode cX7_readReading 80 = .ok (.iconst 1, 1) := by decide +kernel
theorem dX7_readReading_81 : decode cX7_readReading 81 = .ok (.goto 4, 3) := by decide +kernel
theorem dX7_readReading_84 : decode cX7_readReading 84 = .ok (.iconst 0, 1) := by decide +kernel
theorem dX7_readReading_85 : decode cX7_readReading 85 = .ok (.istore_n 3, 1) := by decide +kernel
theorem dX7_readReading_86 : decode cX7_readReading 86 = .ok (.iload_n 3, 1) := by decide +kernel
theorem dX7_readReading_87 : decode cX7_readReading 87 = .ok (.ifCond .eq 7, 3) := by decide +kernel
theorem dX7_readReading_90 : decode cX7_readReading 90 = .ok (.aload_n 0, 1) := by decide +kernel
theorem dX7_readReading_91 : decode cX7_readReading 91 = .ok (.invokevirtual 95, 3) := by decide +kernel
theorem dX7_readReading_94 : decode cX7_readReading 94 = .ok (.bipush 100, 2) := by decide +kernel
theorem dX7_readReading_96 : decode cX7_readReading 96 = .ok (.aload_n 0, 1) := by decide +kernel
theorem dX7_readReading_97 : decode cX7_readReading 97 = .ok (.iconst 0, 1) := by decide +kernel
theorem dX7_readReading_98 : decode cX7_readReading 98 = .ok (.sipush 9999, 3) := by decide +kernel
theorem dX7_readReading_101 : decode cX7_readReading 101 = .ok (.invokevirtual 107, 3) := by decide +kernel
theorem dX7_readReading_104 : decode cX7_readReading 104 = .ok (.imul, 1) := by decide +kernel
theorem dX7_readReading_105 : decode cX7_readReading 105 = .ok (.istore_n 2, 1) := by decide +kernel
theorem dX7_readReading_106 : decode cX7_readReading 106 = .ok (.iload_n 2, 1) := by decide +kernel
theorem dX7_readReading_107 : decode cX7_readReading 107 = .ok (.aload_n 0, 1) := by decide +kernel
theorem dX7_readReading_108 : decode cX7_readReading 108 = .ok (.invokevirtual 111, 3) := by decide +kernel
theorem dX7_readReading_111 : decode cX7_readReading 111 = .ok (.iadd, 1) := by decide +kernel
theorem dX7_readReading_112 : decode cX7_readReading 112 = .ok (.istore_n 2, 1) := by decide +kernel
theorem dX7_readReading_113 : decode cX7_readReading 113 = .ok (.iload_n 3, 1) := by decide +kernel
theorem dX7_readReading_114 : decode cX7_readReading 114 = .ok (.ifCond .eq 8, 3) := by decide +kernel
theorem dX7_readReading_117 : decode cX7_readReading 117 = .ok (.iload_n 2, 1) := by decide +kernel
theorem dX7_readReading_118 : decode cX7_readReading 118 = .ok (.ineg, 1) := by decide +kernel
theorem dX7_readReading_119 : decode cX7_readReading 119 = .ok (.goto 4, 3) := by decide +kernel
theorem dX7_readReading_122 : decode cX7_readReading 122 = .ok (.iload_n 2, 1) := by decide +kernel
theorem dX7_readReading_123 : decode cX7_readReading 123 = .ok (.istore_n 2, 1) := by decide +kernel
theorem dX7_readReading_124 : decode cX7_readReading 124 = .ok (.aload_n 0, 1) := by decide +kernel
theorem dX7_readReading_125 : decode cX7_readReading 125 = .ok (.getfield 7, 3) := by decide +kernel
theorem dX7_readReading_128 : decode cX7_readReading 128 = .ok (.sipush 309, 3) := by decide +kernel
theorem dX7_readReading_131 : decode cX7_readReading 131 = .ok (.iload_n 1, 1) := by decide +kernel
theorem dX7_readReading_132 : decode cX7_readReading 132 = .ok (.iadd, 1) := by decide +kernel
theorem dX7_readReading_133 : decode cX7_readReading 133 = .ok (.iload_n 2, 1) := by decide +kernel
theorem dX7_readReading_134 : decode cX7_readReading 134 = .ok (.iastore, 1) := by decide +kernel
theorem dX7_readReading_135 : decode cX7_readReading 135 = .ok (.aload_n 0, 1) := by decide +kernel
theorem dX7_readReading_136 : decode cX7_readReading 136 = .ok (.getfield 7, 3) := by decide +kernel
theorem dX7_readReading_139 : decode cX7_readReading 139 = .ok (.sipush 411, 3) := by decide +kernel
theorem dX7_readReading_142 : decode cX7_readReading 142 = .ok (.dup2, 1) := by decide +kernel
theorem dX7_readReading_143 : decode cX7_readReading 143 = .ok (.iaload, 1) := by decide +kernel
theorem dX7_readReading_144 : decode cX7_readReading 144 = .ok (.iconst 1, 1) := by decide +kernel
theorem dX7_readReading_145 : decode cX7_readReading 145 = .ok (.iadd, 1) := by decide +kernel
theorem dX7_readReading_146 : decode cX7_readReading 146 = .ok (.iastore, 1) := by decide +kernel
theorem dX7_readReading_147 : decode cX7_readReading 147 = .ok (.return_, 1) := by decide +kernel
theorem dX7_readPut_0 : decode cX7_readPut 0 = .ok (.aload_n 0, 1) := by decide +kernel
theorem dX7_readPut_1 : decode cX7_readPut 1 = .ok (.invokevirtual 114, 3) := by decide +kernel
theorem dX7_readPut_4 : decode cX7_readPut 4 = .ok (.aload_n 0, 1) := by decide +kernel
theorem dX7_readPut_5 : decode cX7_readPut 5 = .ok (.getfield 62, 3) := by decide +kernel
theorem dX7_readPut_8 : decode cX7_readPut 8 = .ok (.ifCond .ne 17, 3) := by decide +kernel
theorem dX7_readPut_11 : decode cX7_readPut 11 = .ok (.aload_n 0, 1) := by decide +kernel
theorem dX7_readPut_12 : decode cX7_readPut 12 = .ok (.invokevirtual 102, 3) := by decide +kernel
theorem dX7_readPut_15 : decode cX7_readPut 15 = .ok (.ifCond .eq 10, 3) := by decide +kernel
theorem dX7_readPut_18 : decode cX7_readPut 18 = .ok (.aload_n 0, 1) := by decide +kernel
theorem dX7_readPut_19 : decode cX7_readPut 19 = .ok (.invokevirtual 114, 3) := by decide +kernel
theorem dX7_readPut_22 : decode cX7_readPut 22 = .ok (.goto (-18), 3) := by decide +kernel
theorem dX7_readPut_25 : decode cX7_readPut 25 = .ok (.return_, 1) := by decide +kernel
theorem dX7_readLine_0 : decode cX7_readLine 0 = .ok (.aload_n 0, 1) := by decide +kernel
theorem dX7_readLine_1 : decode cX7_readLine 1 = .ok (.invokevirtual 98, 3) := by decide +kernel
theorem dX7_readLine_4 : decode cX7_readLine 4 = .ok (.istore_n 1, 1) := by decide +kernel
theorem dX7_readLine_5 : decode cX7_readLine 5 = .ok (.iload_n 1, 1) := by decide +kernel
theorem dX7_readLine_6 : decode cX7_readLine 6 = .ok (.i2l, 1) := by decide +kernel
theorem dX7_readLine_7 : decode cX7_readLine 7 = .ok (.lconst 0, 1) := by decide +kernel
theorem dX7_readLine_8 : decode cX7_readLine 8 = .ok (.ldc2_w 117, 3) := by decide +kernel
theorem dX7_readLine_11 : decode cX7_readLine 11 = .ok (.invokestatic 54, 3) := by decide +kernel
theorem dX7_readLine_14 : decode cX7_readLine 14 = .ok (.ifCond .ne 9, 3) := by decide +kernel
theorem dX7_readLine_17 : decode cX7_readLine 17 = .ok (.aload_n 0, 1) := by decide +kernel
theorem dX7_readLine_18 : decode cX7_readLine 18 = .ok (.iconst 2, 1) := by decide +kernel
theorem dX7_readLine_19 : decode cX7_readLine 19 = .ok (.invokevirtual 92, 3) := by decide +kernel
theorem dX7_readLine_22 : decode cX7_readLine 22 = .ok (.return_, 1) := by decide +kernel
theorem dX7_readLine_23 : decode cX7_readLine 23 = .ok (.iload_n 1, 1) := by decide +kernel
theorem dX7_readLine_24 : decode cX7_readLine 24 = .ok (.iconst 5, 1) := by decide +kernel
theorem dX7_readLine_25 : decode cX7_readLine 25 = .ok (.if_icmp .ge 20, 3) := by decide +kernel
theorem dX7_readLine_28 : decode cX7_readLine 28 = .ok (.aload_n 0, 1) := by decide +kernel
theorem dX7_readLine_29 : decode cX7_readLine 29 = .ok (.getfield 119, 3) := by decide +kernel
theorem dX7_readLine_32 : decode cX7_readLine 32 = .ok (.iload_n 1, 1) := by decide +kernel
theorem dX7_readLine_33 : decode cX7_readLine 33 = .ok (.ishr, 1) := by decide +kernel
theorem dX7_readLine_34 : decode cX7_readLine 34 = .ok (.iconst 1, 1) := by decide +kernel
theorem dX7_readLine_35 : decode cX7_readLine 35 = .ok (.iand, 1) := by decide +kernel
theorem dX7_readLine_36 : decode cX7_readLine 36 = .ok (.iconst 1, 1) := by decide +kernel
theorem dX7_readLine_37 : decode cX7_readLine 37 = .ok (.if_icmp .ne 8, 3) := by decide +kernel
theorem dX7_readLine_40 : decode cX7_readLine 40 = .ok (.aload_n 0, 1) := by decide +kernel
theorem dX7_readLine_41 : decode cX7_readLine 41 = .ok (.iconst 4, 1) := by decide +kernel
theorem dX7_readLine_42 : decode cX7_readLine 42 = .ok (.invokevirtual 92, 3) := by decide +kernel
theorem dX7_readLine_45 : decode cX7_readLine 45 = .ok (.aload_n 0, 1) := by decide +kernel
theorem dX7_readLine_46 : decode cX7_readLine 46 = .ok (.dup, 1) := by decide +kernel
theorem dX7_readLine_47 : decode cX7_readLine 47 = .ok (.getfield 119, 3) := by decide +kernel
theorem dX7_readLine_50 : decode cX7_readLine 50 = .ok (.iconst 1, 1) := by decide +kernel
theorem dX7_readLine_51 : decode cX7_readLine 51 = .ok (.iload_n 1, 1) := by decide +kernel
theorem dX7_readLine_52 : decode cX7_readLine 52 = .ok (.ishl, 1) := by decide +kernel
theorem dX7_readLine_53 : decode cX7_readLine 53 = .ok (.ior, 1) := by decide +kernel
theorem dX7_readLine_54 : decode cX7_readLine 54 = .ok (.putfield 119, 3) := by decide +kernel
theorem dX7_readLine_57 : decode cX7_readLine 57 = .ok (.aload_n 0, 1) := by decide +kernel
theorem dX7_readLine_58 : decode cX7_readLine 58 = .ok (.invokevirtual 95, 3) := by decide +kernel
theorem dX7_readLine_61 : decode cX7_readLine 61 = .ok (.iload_n 1, 1) := by decide +kernel
theorem dX7_readLine_62 : decode cX7_readLine 62 = .ok (.tableswitch 162 0 4 #[34, 52, 70, 126, 144], 34) := by decide +kernel
theorem dX7_readLine_96 : decode cX7_readLine 96 = .ok (.aload_n 0, 1) := by decide +kernel
theorem dX7_readLine_97 : decode cX7_readLine 97 = .ok (.getfield 7, 3) := by decide +kernel
theorem dX7_readLine_100 : decode cX7_readLine 100 = .ok (.sipush 405, 3) := by decide +kernel
theorem dX7_readLine_103 : decode cX7_readLine 103 = .ok (.aload_n 0, 1) := by decide +kernel
theorem dX7_readLine_104 : decode cX7_readLine 104 = .ok (.iconst 1, 1) := by decide +kernel
theorem dX7_readLine_105 : decode cX7_readLine 105 = .ok (.bipush 24, 2) := by decide +kernel
theorem dX7_readLine_107 : decode cX7_readLine 107 = .ok (.invokevirtual 107, 3) := by decide +kernel
theorem dX7_readLine_110 : decode cX7_readLine 110 = .ok (.iastore, 1) := by decide +kernel
theorem dX7_readLine_111 : decode cX7_readLine 111 = .ok (.goto 117, 3) := by decide +kernel
theorem dX7_readLine_114 : decode cX7_readLine 114 = .ok (.aload_n 0, 1) := by decide +kernel
theorem dX7_readLine_115 : decode cX7_readLine 115 = .ok (.getfield 7, 3) := by decide +kernel
theorem dX7_readLine_118 : decode cX7_readLine 118 = .ok (.sipush 406, 3) := by decide +kernel
theorem dX7_readLine_121 : decode cX7_readLine 121 = .ok (.aload_n 0, 1) := by decide +kernel
theorem dX7_readLine_122 : decode cX7_readLine 122 = .ok (.iconst 1, 1) := by decide +kernel
theorem dX7_readLine_123 : decode cX7_readLine 123 = .ok (.bipush 24, 2) := by decide +kernel
theorem dX7_readLine_125 : decode cX7_readLine 125 = .ok (.invokevirtual 107, 3) := by decide +kernel
theorem dX7_readLine_128 : decode cX7_readLine 128 = .ok (.iastore, 1) := by decide +kernel
theorem dX7_readLine_129 : decode cX7_readLine 129 = .ok (.goto 99, 3) := by decide +kernel
theorem dX7_readLine_132 : decode cX7_readLine 132 = .ok (.aload_n 0, 1) := by decide +kernel
theorem dX7_readLine_133 : decode cX7_readLine 133 = .ok (.getfield 7, 3) := by decide +kernel
theorem dX7_readLine_136 : decode cX7_readLine 136 = .ok (.sipush 407, 3) := by decide +kernel
theorem dX7_readLine_139 : decode cX7_readLine 139 = .ok (.aload_n 0, 1) := by decide +kernel
theorem dX7_readLine_140 : decode cX7_readLine 140 = .ok (.iconst 0, 1) := by decide +kernel
theorem dX7_readLine_141 : decode cX7_readLine 141 = .ok (.bipush 100, 2) := by decide +kernel
theorem dX7_readLine_143 : decode cX7_readLine 143 = .ok (.invokevirtual 107, 3) := by decide +kernel
theorem dX7_readLine_146 : decode cX7_readLine 146 = .ok (.iastore, 1) := by decide +kernel
theorem dX7_readLine_147 : decode cX7_readLine 147 = .ok (.aload_n 0, 1) := by decide +kernel
theorem dX7_readLine_148 : decode cX7_readLine 148 = .ok (.getfield 7, 3) := by decide +kernel
theorem dX7_readLine_151 : decode cX7_readLine 151 = .ok (.sipush 408, 3) := by decide +kernel
theorem dX7_readLine_154 : decode cX7_readLine 154 = .ok (.aload_n 0, 1) := by decide +kernel
theorem dX7_readLine_155 : decode cX7_readLine 155 = .ok (.aload_n 0, 1) := by decide +kernel
theorem dX7_readLine_156 : decode cX7_readLine 156 = .ok (.getfield 7, 3) := by decide +kernel
theorem dX7_readLine_159 : decode cX7_readLine 159 = .ok (.sipush 407, 3) := by decide +kernel
theorem dX7_readLine_162 : decode cX7_readLine 162 = .ok (.iaload, 1) := by decide +kernel
theorem dX7_readLine_163 : decode cX7_readLine 163 = .ok (.iconst 1, 1) := by decide +kernel
theorem dX7_readLine_164 : decode cX7_readLine 164 = .ok (.if_icmp .le 14, 3) := by decide +kernel
theorem dX7_readLine_167 : decode cX7_readLine 167 = .ok (.aload_n 0, 1) := by decide +kernel
theorem dX7_readLine_168 : decode cX7_readLine 168 = .ok (.getfield 7, 3) := by decide +kernel
theorem dX7_readLine_171 : decode cX7_readLine 171 = .ok (.sipush 407, 3) := by decide +kernel
theorem dX7_readLine_174 : decode cX7_readLine 174 = .ok (.iaload, 1) := by decide +kernel
theorem dX7_readLine_175 : decode cX7_readLine 175 = .ok (.goto 4, 3) := by decide +kernel
theorem dX7_readLine_178 : decode cX7_readLine 178 = .ok (.iconst 1, 1) := by decide +kernel
theorem dX7_readLine_179 : decode cX7_readLine 179 = .ok (.bipush 100, 2) := by decide +kernel
theorem dX7_readLine_181 : decode cX7_readLine 181 = .ok (.invokevirtual 107, 3) := by decide +kernel
theorem dX7_readLine_184 : decode cX7_readLine 184 = .ok (.iastore, 1) := by decide +kernel
theorem dX7_readLine_185 : decode cX7_readLine 185 = .ok (.goto 43, 3) := by decide +kernel
theorem dX7_readLine_188 : decode cX7_readLine 188 = .ok (.aload_n 0, 1) := by decide +kernel
theorem dX7_readLine_189 : decode cX7_readLine 189 = .ok (.getfield 7, 3) := by decide +kernel
theorem dX7_readLine_192 : decode cX7_readLine 192 = .ok (.sipush 409, 3) := by decide +kernel
theorem dX7_readLine_195 : decode cX7_readLine 195 = .ok (.aload_n 0, 1) := by decide +kernel
theorem dX7_readLine_196 : decode cX7_readLine 196 = .ok (.bipush 6, 2) := by decide +kernel
theorem dX7_readLine_198 : decode cX7_readLine 198 = .ok (.iconst 5, 1) := by decide +kernel
theorem dX7_readLine_199 : decode cX7_readLine 199 = .ok (.invokevirtual 122, 3) := by decide +kernel
theorem dX7_readLine_202 : decode cX7_readLine 202 = .ok (.iastore, 1) := by decide +kernel
theorem dX7_readLine_203 : decode cX7_readLine 203 = .ok (.goto 25, 3) := by decide +kernel
theorem dX7_readLine_206 : decode cX7_readLine 206 = .ok (.aload_n 0, 1) := by decide +kernel
theorem dX7_readLine_207 : decode cX7_readLine 207 = .ok (.getfield 7, 3) := by decide +kernel
theorem dX7_readLine_210 : decode cX7_readLine 210 = .ok (.sipush 410, 3) := by decide +kernel
theorem dX7_readLine_213 : decode cX7_readLine 213 = .ok (.aload_n 0, 1) := by decide +kernel
theorem dX7_readLine_214 : decode cX7_readLine 214 = .ok (.bipush 11, 2) := by decide +kernel
theorem dX7_readLine_216 : decode cX7_readLine 216 = .ok (.iconst 3, 1) := by decide +kernel
theorem dX7_readLine_217 : decode cX7_readLine 217 = .ok (.invokevirtual 122, 3) := by decide +kernel
theorem dX7_readLine_220 : decode cX7_readLine 220 = .ok (.iastore, 1) := by decide +kernel
theorem dX7_readLine_221 : decode cX7_readLine 221 = .ok (.goto 7, 3) := by decide +kernel
theorem dX7_readLine_224 : decode cX7_readLine 224 = .ok (.aload_n 0, 1) := by decide +kernel
theorem dX7_readLine_225 : decode cX7_readLine 225 = .ok (.invokevirtual 125, 3) := by decide +kernel
theorem dX7_readLine_228 : decode cX7_readLine 228 = .ok (.aload_n 0, 1) := by decide +kernel
theorem dX7_readLine_229 : decode cX7_readLine 229 = .ok (.getfield 62, 3) := by decide +kernel
theorem dX7_readLine_232 : decode cX7_readLine 232 = .ok (.ifCond .ne 16, 3) := by decide +kernel
theorem dX7_readLine_235 : decode cX7_readLine 235 = .ok (.aload_n 0, 1) := by decide +kernel
theorem dX7_readLine_236 : decode cX7_readLine 236 = .ok (.getfield 71, 3) := by decide +kernel
theorem dX7_readLine_239 : decode cX7_readLine 239 = .ok (.iconst 3, 1) := by decide +kernel
theorem dX7_readLine_240 : decode cX7_readLine 240 = .ok (.if_icmp .eq 8, 3) := by decide +kernel
theorem dX7_readLine_243 : decode cX7_readLine 243 = .ok (.aload_n 0, 1) := by decide +kernel
theorem dX7_readLine_244 : decode cX7_readLine 244 = .ok (.iconst 2, 1) := by decide +kernel
theorem dX7_readLine_245 : decode cX7_readLine 245 = .ok (.invokevirtual 92, 3) := by decide +kernel
theorem dX7_readLine_248 : decode cX7_readLine 248 = .ok (.aload_n 0, 1) := by decide +kernel
theorem dX7_readLine_249 : decode cX7_readLine 249 = .ok (.invokevirtual 95, 3) := by decide +kernel
theorem dX7_readLine_252 : decode cX7_readLine 252 = .ok (.return_, 1) := by decide +kernel
theorem dX7_text_0 : decode cX7_text 0 = .ok (.aload_n 0, 1) := by decide +kernel
theorem dX7_text_1 : decode cX7_text 1 = .ok (.invokevirtual 128, 3) := by decide +kernel
theorem dX7_text_4 : decode cX7_text 4 = .ok (.aload_n 0, 1) := by decide +kernel
theorem dX7_text_5 : decode cX7_text 5 = .ok (.iconst 0, 1) := by decide +kernel
theorem dX7_text_6 : decode cX7_text 6 = .ok (.putfield 62, 3) := by decide +kernel
theorem dX7_text_9 : decode cX7_text 9 = .ok (.aload_n 0, 1) := by decide +kernel
theorem dX7_text_10 : decode cX7_text 10 = .ok (.iconst 0, 1) := by decide +kernel
theorem dX7_text_11 : decode cX7_text 11 = .ok (.putfield 74, 3) := by decide +kernel
theorem dX7_text_14 : decode cX7_text 14 = .ok (.aload_n 0, 1) := by decide +kernel
theorem dX7_text_15 : decode cX7_text 15 = .ok (.iconst 0, 1) := by decide +kernel
theorem dX7_text_16 : decode cX7_text 16 = .ok (.putfield 119, 3) := by decide +kernel
theorem dX7_text_19 : decode cX7_text 19 = .ok (.aload_n 0, 1) := by decide +kernel
theorem dX7_text_20 : decode cX7_text 20 = .ok (.sipush 309, 3) := by decide +kernel
theorem dX7_text_23 : decode cX7_text 23 = .ok (.invokevirtual 48, 3) := by decide +kernel
theorem dX7_text_26 : decode cX7_text 26 = .ok (.aload_n 0, 1) := by decide +kernel
theorem dX7_text_27 : decode cX7_text 27 = .ok (.invokevirtual 95, 3) := by decide +kernel
theorem dX7_text_30 : decode cX7_text 30 = .ok (.aload_n 0, 1) := by decide +kernel
theorem dX7_text_31 : decode cX7_text 31 = .ok (.getfield 62, 3) := by decide +kernel
theorem dX7_text_34 : decode cX7_text 34 = .ok (.ifCond .ne 17, 3) := by decide +kernel
theorem dX7_text_37 : decode cX7_text 37 = .ok (.aload_n 0, 1) := by decide +kernel
theorem dX7_text_38 : decode cX7_text 38 = .ok (.getfield 71, 3) := by decide +kernel
theorem dX7_text_41 : decode cX7_text 41 = .ok (.ifCond .eq 10, 3) := by decide +kernel
theorem dX7_text_44 : decode cX7_text 44 = .ok (.aload_n 0, 1) := by decide +kernel
theorem dX7_text_45 : decode cX7_text 45 = .ok (.invokevirtual 131, 3) := by decide +kernel
theorem dX7_text_48 : decode cX7_text 48 = .ok (.goto (-18), 3) := by decide +kernel
theorem dX7_text_51 : decode cX7_text 51 = .ok (.aload_n 0, 1) := by decide +kernel
theorem dX7_text_52 : decode cX7_text 52 = .ok (.iconst 0, 1) := by decide +kernel
theorem dX7_text_53 : decode cX7_text 53 = .ok (.putfield 58, 3) := by decide +kernel
theorem dX7_text_56 : decode cX7_text 56 = .ok (.aload_n 0, 1) := by decide +kernel
theorem dX7_text_57 : decode cX7_text 57 = .ok (.aload_n 0, 1) := by decide +kernel
theorem dX7_text_58 : decode cX7_text 58 = .ok (.getfield 62, 3) := by decide +kernel
theorem dX7_text_61 : decode cX7_text 61 = .ok (.putfield 134, 3) := by decide +kernel
theorem dX7_text_64 : decode cX7_text 64 = .ok (.aload_n 0, 1) := by decide +kernel
theorem dX7_text_65 : decode cX7_text 65 = .ok (.getfield 62, 3) := by decide +kernel
theorem dX7_text_68 : decode cX7_text 68 = .ok (.ifCond .le 11, 3) := by decide +kernel
theorem dX7_text_71 : decode cX7_text 71 = .ok (.bipush (-10), 2) := by decide +kernel
theorem dX7_text_73 : decode cX7_text 73 = .ok (.aload_n 0, 1) := by decide +kernel
theorem dX7_text_74 : decode cX7_text 74 = .ok (.getfield 68, 3) := by decide +kernel
theorem dX7_text_77 : decode cX7_text 77 = .ok (.isub, 1) := by decide +kernel
theorem dX7_text_78 : decode cX7_text 78 = .ok (.ireturn, 1) := by decide +kernel
theorem dX7_text_79 : decode cX7_text 79 = .ok (.aload_n 0, 1) := by decide +kernel
theorem dX7_text_80 : decode cX7_text 80 = .ok (.sipush 309, 3) := by decide +kernel
theorem dX7_text_83 : decode cX7_text 83 = .ok (.iconst 0, 1) := by decide +kernel
theorem dX7_text_84 : decode cX7_text 84 = .ok (.invokevirtual 137, 3) := by decide +kernel
theorem dX7_text_87 : decode cX7_text 87 = .ok (.aload_n 0, 1) := by decide +kernel
theorem dX7_text_88 : decode cX7_text 88 = .ok (.getfield 31, 3) := by decide +kernel
theorem dX7_text_91 : decode cX7_text 91 = .ok (.iconst 0, 1) := by decide +kernel
theorem dX7_text_92 : decode cX7_text 92 = .ok (.iconst 0, 1) := by decide +kernel
theorem dX7_text_93 : decode cX7_text 93 = .ok (.bastore, 1) := by decide +kernel
theorem dX7_text_94 : decode cX7_text 94 = .ok (.aload_n 0, 1) := by decide +kernel
theorem dX7_text_95 : decode cX7_text 95 = .ok (.getfield 31, 3) := by decide +kernel
theorem dX7_text_98 : decode cX7_text 98 = .ok (.iconst 1, 1) := by decide +kernel
theorem dX7_text_99 : decode cX7_text 99 = .ok (.iconst 0, 1) := by decide +kernel
theorem dX7_text_100 : decode cX7_text 100 = .ok (.bastore, 1) := by decide +kernel
theorem dX7_text_101 : decode cX7_text 101 = .ok (.aload_n 0, 1) := by decide +kernel
theorem dX7_text_102 : decode cX7_text 102 = .ok (.invokevirtual 141, 3) := by decide +kernel
theorem dX7_text_105 : decode cX7_text 105 = .ok (.ireturn, 1) := by decide +kernel
theorem dX7_fault_0 : decode cX7_fault 0 = .ok (.aload_n 0, 1) := by decide +kernel
theorem dX7_fault_1 : decode cX7_fault 1 = .ok (.getfield 134, 3) := by decide +kernel
theorem dX7_fault_4 : decode cX7_fault 4 = .ok (.ireturn, 1) := by decide +kernel
theorem dX7_copies_0 : decode cX7_copies 0 = .ok (.iconst 0, 1) := by decide +kernel
theorem dX7_copies_1 : decode cX7_copies 1 = .ok (.istore_n 3, 1) := by decide +kernel
theorem dX7_copies_2 : decode cX7_copies 2 = .ok (.iload_n 3, 1) := by decide +kernel
theorem dX7_copies_3 : decode cX7_copies 3 = .ok (.bipush 103, 2) := by decide +kernel
theorem dX7_copies_5 : decode cX7_copies 5 = .ok (.if_icmp .ge 25, 3) := by decide +kernel
theorem dX7_copies_8 : decode cX7_copies 8 = .ok (.aload_n 0, 1) := by decide +kernel
theorem dX7_copies_9 : decode cX7_copies 9 = .ok (.getfield 7, 3) := by decide +kernel
theorem dX7_copies_12 : decode cX7_copies 12 = .ok (.iload_n 2, 1) := by decide +kernel
theorem dX7_copies_13 : decode cX7_copies 13 = .ok (.iload_n 3, 1) := by decide +kernel
theorem dX7_copies_14 : decode cX7_copies 14 = .ok (.iadd, 1) := by decide +kernel
theorem dX7_copies_15 : decode cX7_copies 15 = .ok (.aload_n 0, 1) := by decide +kernel
theorem dX7_copies_16 : decode cX7_copies 16 = .ok (.getfield 7, 3) := by decide +kernel
theorem dX7_copies_19 : decode cX7_copies 19 = .ok (.iload_n 1, 1) := by decide +kernel
theorem dX7_copies_20 : decode cX7_copies 20 = .ok (.iload_n 3, 1) := by decide +kernel
theorem dX7_copies_21 : decode cX7_copies 21 = .ok (.iadd, 1) := by decide +kernel
theorem dX7_copies_22 : decode cX7_copies 22 = .ok (.iaload, 1) := by decide +kernel
theorem dX7_copies_23 : decode cX7_copies 23 = .ok (.iastore, 1) := by decide +kernel
theorem dX7_copies_24 : decode cX7_copies 24 = .ok (.iinc 3 1, 3) := by decide +kernel
theorem dX7_copies_27 : decode cX7_copies 27 = .ok (.goto (-25), 3) := by decide +kernel
theorem dX7_copies_30 : decode cX7_copies 30 = .ok (.return_, 1) := by decide +kernel
theorem dX7_many_0 : decode cX7_many 0 = .ok (.aload_n 0, 1) := by decide +kernel
theorem dX7_many_1 : decode cX7_many 1 = .ok (.getfield 7, 3) := by decide +kernel
theorem dX7_many_4 : decode cX7_many 4 = .ok (.bipush 102, 2) := by decide +kernel
theorem dX7_many_6 : decode cX7_many 6 = .ok (.iaload, 1) := by decide +kernel
theorem dX7_many_7 : decode cX7_many 7 = .ok (.ireturn, 1) := by decide +kernel
theorem dX7_isThere_0 : decode cX7_isThere 0 = .ok (.aload_n 0, 1) := by decide +kernel
theorem dX7_isThere_1 : decode cX7_isThere 1 = .ok (.invokevirtual 128, 3) := by decide +kernel
theorem dX7_isThere_4 : decode cX7_isThere 4 = .ok (.iload_n 1, 1) := by decide +kernel
theorem dX7_isThere_5 : decode cX7_isThere 5 = .ok (.i2l, 1) := by decide +kernel
theorem dX7_isThere_6 : decode cX7_isThere 6 = .ok (.lconst 0, 1) := by decide +kernel
theorem dX7_isThere_7 : decode cX7_isThere 7 = .ok (.aload_n 0, 1) := by decide +kernel
theorem dX7_isThere_8 : decode cX7_isThere 8 = .ok (.invokevirtual 141, 3) := by decide +kernel
theorem dX7_isThere_11 : decode cX7_isThere 11 = .ok (.iconst 1, 1) := by decide +kernel
theorem dX7_isThere_12 : decode cX7_isThere 12 = .ok (.isub, 1) := by decide +kernel
theorem dX7_isThere_13 : decode cX7_isThere 13 = .ok (.i2l, 1) := by decide +kernel
theorem dX7_isThere_14 : decode cX7_isThere 14 = .ok (.invokestatic 54, 3) := by decide +kernel
theorem dX7_isThere_17 : decode cX7_isThere 17 = .ok (.ireturn, 1) := by decide +kernel
theorem dX7_puts_0 : decode cX7_puts 0 = .ok (.iload_n 1, 1) := by decide +kernel
theorem dX7_puts_1 : decode cX7_puts 1 = .ok (.istore_n 3, 1) := by decide +kernel
theorem dX7_puts_2 : decode cX7_puts 2 = .ok (.iload_n 3, 1) := by decide +kernel
theorem dX7_puts_3 : decode cX7_puts 3 = .ok (.ifCond .le 26, 3) := by decide +kernel
theorem dX7_puts_6 : decode cX7_puts 6 = .ok (.aload_n 0, 1) := by decide +kernel
theorem dX7_puts_7 : decode cX7_puts 7 = .ok (.iload_n 3, 1) := by decide +kernel
theorem dX7_puts_8 : decode cX7_puts 8 = .ok (.iconst 1, 1) := by decide +kernel
theorem dX7_puts_9 : decode cX7_puts 9 = .ok (.isub, 1) := by decide +kernel
theorem dX7_puts_10 : decode cX7_puts 10 = .ok (.iaload, 1) := by decide +kernel
theorem dX7_puts_11 : decode cX7_puts 11 = .ok (.iload_n 2, 1) := by decide +kernel
theorem dX7_puts_12 : decode cX7_puts 12 = .ok (.if_icmp .le 17, 3) := by decide +kernel
theorem dX7_puts_15 : decode cX7_puts 15 = .ok (.aload_n 0, 1) := by decide +kernel
theorem dX7_puts_16 : decode cX7_puts 16 = .ok (.iload_n 3, 1) := by decide +kernel
theorem dX7_puts_17 : decode cX7_puts 17 = .ok (.aload_n 0, 1) := by decide +kernel
theorem dX7_puts_18 : decode cX7_puts 18 = .ok (.iload_n 3, 1) := by decide +kernel
theorem dX7_puts_19 : decode cX7_puts 19 = .ok (.iconst 1, 1) := by decide +kernel
theorem dX7_puts_20 : decode cX7_puts 20 = .ok (.isub, 1) := by decide +kernel
theorem dX7_puts_21 : decode cX7_puts 21 = .ok (.iaload, 1) := by decide +kernel
theorem dX7_puts_22 : decode cX7_puts 22 = .ok (.iastore, 1) := by decide +kernel
theorem dX7_puts_23 : decode cX7_puts 23 = .ok (.iinc 3 (-1), 3) := by decide +kernel
theorem dX7_puts_26 : decode cX7_puts 26 = .ok (.goto (-24), 3) := by decide +kernel
theorem dX7_puts_29 : decode cX7_puts 29 = .ok (.aload_n 0, 1) := by decide +kernel
theorem dX7_puts_30 : decode cX7_puts 30 = .ok (.iload_n 3, 1) := by decide +kernel
theorem dX7_puts_31 : decode cX7_puts 31 = .ok (.iload_n 2, 1) := by decide +kernel
theorem dX7_puts_32 : decode cX7_puts 32 = .ok (.iastore, 1) := by decide +kernel
theorem dX7_puts_33 : decode cX7_puts 33 = .ok (.return_, 1) := by decide +kernel
theorem dX7_rowOf_0 : decode cX7_rowOf 0 = .ok (.aload_n 0, 1) := by decide +kernel
theorem dX7_rowOf_1 : decode cX7_rowOf 1 = .ok (.iconst 0, 1) := by decide +kernel
theorem dX7_rowOf_2 : decode cX7_rowOf 2 = .ok (.putfield 144, 3) := by decide +kernel
theorem dX7_rowOf_5 : decode cX7_rowOf 5 = .ok (.iload_n 1, 1) := by decide +kernel
theorem dX7_rowOf_6 : decode cX7_rowOf 6 = .ok (.aload_n 0, 1) := by decide +kernel
theorem dX7_rowOf_7 : decode cX7_rowOf 7 = .ok (.getfield 7, 3) := by decide +kernel
theorem dX7_rowOf_10 : decode cX7_rowOf 10 = .ok (.bipush 96, 2) := by decide +kernel
theorem dX7_rowOf_12 : decode cX7_rowOf 12 = .ok (.iaload, 1) := by decide +kernel
theorem dX7_rowOf_13 : decode cX7_rowOf 13 = .ok (.isub, 1) := by decide +kernel
theorem dX7_rowOf_14 : decode cX7_rowOf 14 = .ok (.iconst 1, 1) := by decide +kernel
theorem dX7_rowOf_15 : decode cX7_rowOf 15 = .ok (.iadd, 1) := by decide +kernel
theorem dX7_rowOf_16 : decode cX7_rowOf 16 = .ok (.istore_n 2, 1) := by decide +kernel
theorem dX7_rowOf_17 : decode cX7_rowOf 17 = .ok (.iload_n 2, 1) := by decide +kernel
theorem dX7_rowOf_18 : decode cX7_rowOf 18 = .ok (.ifCond .ge 7, 3) := by decide +kernel
theorem dX7_rowOf_21 : decode cX7_rowOf 21 = .ok (.iconst 0, 1) := by decide +kernel
theorem dX7_rowOf_22 : decode cX7_rowOf 22 = .ok (.goto 4, 3) := by decide +kernel
theorem dX7_rowOf_25 : decode cX7_rowOf 25 = .ok (.iload_n 2, 1) := by decide +kernel
theorem dX7_rowOf_26 : decode cX7_rowOf 26 = .ok (.istore_n 3, 1) := by decide +kernel
theorem dX7_rowOf_27 : decode cX7_rowOf 27 = .ok (.iload_n 3, 1) := by decide +kernel
theorem dX7_rowOf_28 : decode cX7_rowOf 28 = .ok (.iload_n 1, 1) := by decide +kernel
theorem dX7_rowOf_29 : decode cX7_rowOf 29 = .ok (.if_icmp .gt 47, 3) := by decide +kernel
theorem dX7_rowOf_32 : decode cX7_rowOf 32 = .ok (.aload_n 0, 1) := by decide +kernel
theorem dX7_rowOf_33 : decode cX7_rowOf 33 = .ok (.getfield 7, 3) := by decide +kernel
theorem dX7_rowOf_36 : decode cX7_rowOf 36 = .ok (.iload_n 3, 1) := by decide +kernel
theorem dX7_rowOf_37 : decode cX7_rowOf 37 = .ok (.iaload, 1) := by decide +kernel
theorem dX7_rowOf_38 : decode cX7_rowOf 38 = .ok (.ldc 106, 2) := by decide +kernel
theorem dX7_rowOf_40 : decode cX7_rowOf 40 = .ok (.if_icmp .eq 30, 3) := by decide +kernel
theorem dX7_rowOf_43 : decode cX7_rowOf 43 = .ok (.aload_n 0, 1) := by decide +kernel
theorem dX7_rowOf_44 : decode cX7_rowOf 44 = .ok (.getfield 22, 3) := by decide +kernel
theorem dX7_rowOf_47 : decode cX7_rowOf 47 = .ok (.aload_n 0, 1) := by decide +kernel
theorem dX7_rowOf_48 : decode cX7_rowOf 48 = .ok (.getfield 144, 3) := by decide +kernel
theorem dX7_rowOf_51 : decode cX7_rowOf 51 = .ok (.aload_n 0, 1) := by decide +kernel
theorem dX7_rowOf_52 : decode cX7_rowOf 52 = .ok (.getfield 7, 3) := by decide +kernel
theorem dX7_rowOf_55 : decode cX7_rowOf 55 = .ok (.iload_n 3, 1) := by decide +kernel
theorem dX7_rowOf_56 : decode cX7_rowOf 56 = .ok (.iaload, 1) := by decide +kernel
theorem dX7_rowOf_57 : decode cX7_rowOf 57 = .ok (.invokestatic 147, 3) := by decide +kernel
theorem dX7_rowOf_60 : decode cX7_rowOf 60 = .ok (.aload_n 0, 1) := by decide +kernel
theorem dX7_rowOf_61 : decode cX7_rowOf 61 = .ok (.dup, 1) := by decide +kernel
theorem dX7_rowOf_62 : decode cX7_rowOf 62 = .ok (.getfield 144, 3) := by decide +kernel
theorem dX7_rowOf_65 : decode cX7_rowOf 65 = .ok (.iconst 1, 1) := by decide +kernel
theorem dX7_rowOf_66 : decode cX7_rowOf 66 = .ok (.iadd, 1) := by decide +kernel
theorem dX7_rowOf_67 : decode cX7_rowOf 67 = .ok (.putfield 144, 3) := by decide +kernel
theorem dX7_rowOf_70 : decode cX7_rowOf 70 = .ok (.iinc 3 1, 3) := by decide +kernel
theorem dX7_rowOf_73 : decode cX7_rowOf 73 = .ok (.goto (-46), 3) := by decide +kernel
theorem dX7_rowOf_76 : decode cX7_rowOf 76 = .ok (.return_, 1) := by decide +kernel
theorem dX7_isResult_0 : decode cX7_isResult 0 = .ok (.aload_n 0, 1) := by decide +kernel
theorem dX7_isResult_1 : decode cX7_isResult 1 = .ok (.iload_n 1, 1) := by decide +kernel
theorem dX7_isResult_2 : decode cX7_isResult 2 = .ok (.invokevirtual 151, 3) := by decide +kernel
theorem dX7_isResult_5 : decode cX7_isResult 5 = .ok (.aload_n 0, 1) := by decide +kernel
theorem dX7_isResult_6 : decode cX7_isResult 6 = .ok (.getfield 144, 3) := by decide +kernel
theorem dX7_isResult_9 : decode cX7_isResult 9 = .ok (.aload_n 0, 1) := by decide +kernel
theorem dX7_isResult_10 : decode cX7_isResult 10 = .ok (.getfield 7, 3) := by decide +kernel
theorem dX7_isResult_13 : decode cX7_isResult 13 = .ok (.bipush 97, 2) := by decide +kernel
theorem dX7_isResult_15 : decode cX7_isResult 15 = .ok (.iaload, 1) := by decide +kernel
theorem dX7_isResult_16 : decode cX7_isResult 16 = .ok (.if_icmp .lt 10, 3) := by decide +kernel
theorem dX7_isResult_19 : decode cX7_isResult 19 = .ok (.aload_n 0, 1) := by decide +kernel
theorem dX7_isResult_20 : decode cX7_isResult 20 = .ok (.getfield 144, 3) := by decide +kernel
theorem dX7_isResult_23 : decode cX7_isResult 23 = .ok (.ifCond .ne 5, 3) := by decide +kernel
theorem dX7_isResult_26 : decode cX7_isResult 26 = .ok (.iconst 0, 1) := by decide +kernel
theorem dX7_isResult_27 : decode cX7_isResult 27 = .ok (.ireturn, 1) := by decide +kernel
theorem dX7_isResult_28 : decode cX7_isResult 28 = .ok (.aload_n 0, 1) := by decide +kernel
theorem dX7_isResult_29 : decode cX7_isResult 29 = .ok (.getfield 7, 3) := by decide +kernel
theorem dX7_isResult_32 : decode cX7_isResult 32 = .ok (.bipush 99, 2) := by decide +kernel
theorem dX7_isResult_34 : decode cX7_isResult 34 = .ok (.iaload, 1) := by decide +kernel
theorem dX7_isResult_35 : decode cX7_isResult 35 = .ok (.istore_n 2, 1) := by decide +kernel
theorem dX7_isResult_36 : decode cX7_isResult 36 = .ok (.aload_n 0, 1) := by decide +kernel
theorem dX7_isResult_37 : decode cX7_isResult 37 = .ok (.getfield 144, 3) := by decide +kernel
theorem dX7_isResult_40 : decode cX7_isResult 40 = .ok (.iconst 1, 1) := by decide +kernel
theorem dX7_isResult_41 : decode cX7_isResult 41 = .ok (.isub, 1) := by decide +kernel
theorem dX7_isResult_42 : decode cX7_isResult 42 = .ok (.aload_n 0, 1) := by decide +kernel
theorem dX7_isResult_43 : decode cX7_isResult 43 = .ok (.getfield 7, 3) := by decide +kernel
theorem dX7_isResult_46 : decode cX7_isResult 46 = .ok (.bipush 98, 2) := by decide +kernel
theorem dX7_isResult_48 : decode cX7_isResult 48 = .ok (.iaload, 1) := by decide +kernel
theorem dX7_isResult_49 : decode cX7_isResult 49 = .ok (.imul, 1) := by decide +kernel
theorem dX7_isResult_50 : decode cX7_isResult 50 = .ok (.istore_n 3, 1) := by decide +kernel
theorem dX7_isResult_51 : decode cX7_isResult 51 = .ok (.aload_n 0, 1) := by decide +kernel
theorem dX7_isResult_52 : decode cX7_isResult 52 = .ok (.iload_n 3, 1) := by decide +kernel
theorem dX7_isResult_53 : decode cX7_isResult 53 = .ok (.iload_n 2, 1) := by decide +kernel
theorem dX7_isResult_54 : decode cX7_isResult 54 = .ok (.idiv, 1) := by decide +kernel
theorem dX7_isResult_55 : decode cX7_isResult 55 = .ok (.putfield 154, 3) := by decide +kernel
theorem dX7_isResult_58 : decode cX7_isResult 58 = .ok (.aload_n 0, 1) := by decide +kernel
theorem dX7_isResult_59 : decode cX7_isResult 59 = .ok (.iload_n 3, 1) := by decide +kernel
theorem dX7_isResult_60 : decode cX7_isResult 60 = .ok (.iload_n 2, 1) := by decide +kernel
theorem dX7_isResult_61 : decode cX7_isResult 61 = .ok (.irem, 1) := by decide +kernel
theorem dX7_isResult_62 : decode cX7_isResult 62 = .ok (.putfield 157, 3) := by decide +kernel
theorem dX7_isResult_65 : decode cX7_isResult 65 = .ok (.aload_n 0, 1) := by decide +kernel
theorem dX7_isResult_66 : decode cX7_isResult 66 = .ok (.getfield 22, 3) := by decide +kernel
theorem dX7_isResult_69 : decode cX7_isResult 69 = .ok (.aload_n 0, 1) := by decide +kernel
theorem dX7_isResult_70 : decode cX7_isResult 70 = .ok (.getfield 154, 3) := by decide +kernel
theorem dX7_isResult_73 : decode cX7_isResult 73 = .ok (.iaload, 1) := by decide +kernel
theorem dX7_isResult_74 : decode cX7_isResult 74 = .ok (.istore 4, 2) := by decide +kernel
theorem dX7_isResult_76 : decode cX7_isResult 76 = .ok (.aload_n 0, 1) := by decide +kernel
theorem dX7_isResult_77 : decode cX7_isResult 77 = .ok (.getfield 157, 3) := by decide +kernel
theorem dX7_isResult_80 : decode cX7_isResult 80 = .ok (.ifCond .le 17, 3) := by decide +kernel
theorem dX7_isResult_83 : decode cX7_isResult 83 = .ok (.aload_n 0, 1) := by decide +kernel
theorem dX7_isResult_84 : decode cX7_isResult 84 = .ok (.getfield 22, 3) := by decide +kernel
theorem dX7_isResult_87 : decode cX7_isResult 87 = .ok (.aload_n 0, 1) := by decide +kernel
theorem dX7_isResult_88 : decode cX7_isResult 88 = .ok (.getfield 154, 3) := by decide +kernel
theorem dX7_isResult_91 : decode cX7_isResult 91 = .ok (.iconst 1, 1) := by decide +kernel
theorem dX7_isResult_92 : decode cX7_isResult 92 = .ok (.iadd, 1) := by decide +kernel
theorem dX7_isResult_93 : decode cX7_isResult 93 = .ok (.iaload, 1) := by decide +kernel
theorem dX7_isResult_94 : decode cX7_isResult 94 = .ok (.goto 5, 3) := by decide +kernel
theorem dX7_isResult_97 : decode cX7_isResult 97 = .ok (.iload 4, 2) := by decide +kernel
theorem dX7_isResult_99 : decode cX7_isResult 99 = .ok (.istore 5, 2) := by decide +kernel
theorem dX7_isResult_101 : decode cX7_isResult 101 = .ok (.iconst 2, 1) := by decide +kernel
theorem dX7_isResult_102 : decode cX7_isResult 102 = .ok (.aload_n 0, 1) := by decide +kernel
theorem dX7_isResult_103 : decode cX7_isResult 103 = .ok (.getfield 157, 3) := by decide +kernel
theorem dX7_isResult_106 : decode cX7_isResult 106 = .ok (.imul, 1) := by decide +kernel
theorem dX7_isResult_107 : decode cX7_isResult 107 = .ok (.iload_n 2, 1) := by decide +kernel
theorem dX7_isResult_108 : decode cX7_isResult 108 = .ok (.if_icmp .lt 22, 3) := by decide +kernel
theorem dX7_isResult_111 : decode cX7_isResult 111 = .ok (.iconst 2, 1) := by decide +kernel
theorem dX7_isResult_112 : decode cX7_isResult 112 = .ok (.aload_n 0, 1) := by decide +kernel
theorem dX7_isResult_113 : decode cX7_isResult 113 = .ok (.getfield 157, 3) := by decide +kernel
theorem dX7_isResult_116 : decode cX7_isResult 116 = .ok (.imul, 1) := by decide +kernel
theorem dX7_isResult_117 : decode cX7_isResult 117 = .ok (.iload_n 2, 1) := by decide +kernel
theorem dX7_isResult_118 : decode cX7_isResult 118 = .ok (.if_icmp .ne 16, 3) := by decide +kernel
theorem dX7_isResult_121 : decode cX7_isResult 121 = .ok (.aload_n 0, 1) := by decide +kernel
theorem dX7_isResult_122 : decode cX7_isResult 122 = .ok (.getfield 154, 3) := by decide +kernel
theorem dX7_isResult_125 : decode cX7_isResult 125 = .ok (.iconst 2, 1) := by decide +kernel
theorem dX7_isResult_126 : decode cX7_isResult 126 = .ok (.irem, 1) := by decide +kernel
theorem dX7_isResult_127 : decode cX7_isResult 127 = .ok (.ifCond .ne 7, 3) := by decide +kernel
theorem dX7_isResult_130 : decode cX7_isResult 130 = .ok (.iconst 1, 1) := by decide +kernel
theorem dX7_isResult_131 : decode cX7_isResult 131 = .ok (.goto 4, 3) := by decide +kernel
theorem dX7_isResult_134 : decode cX7_isResult 134 = .ok (.iconst 0, 1) := by decide +kernel
theorem dX7_isResult_135 : decode cX7_isResult 135 = .ok (.istore 6, 2) := by decide +kernel
theorem dX7_isResult_137 : decode cX7_isResult 137 = .ok (.aload_n 0, 1) := by decide +kernel
theorem dX7_isResult_138 : decode cX7_isResult 138 = .ok (.iconst 1, 1) := by decide +kernel
theorem dX7_isResult_139 : decode cX7_isResult 139 = .ok (.putfield 160, 3) := by decide +kernel
theorem dX7_isResult_142 : decode cX7_isResult 142 = .ok (.aload_n 0, 1) := by decide +kernel
theorem dX7_isResult_143 : decode cX7_isResult 143 = .ok (.getfield 7, 3) := by decide +kernel
theorem dX7_isResult_146 : decode cX7_isResult 146 = .ok (.bipush 100, 2) := by decide +kernel
theorem dX7_isResult_148 : decode cX7_isResult 148 = .ok (.iaload, 1) := by decide +kernel
theorem dX7_isResult_149 : decode cX7_isResult 149 = .ok (.tableswitch 85 0 3 #[31, 40, 49, 68], 31) := by decide +kernel
theorem dX7_isResult_180 : decode cX7_isResult 180 = .ok (.aload_n 0, 1) := by decide +kernel
theorem dX7_isResult_181 : decode cX7_isResult 181 = .ok (.iload 4, 2) := by decide +kernel
theorem dX7_isResult_183 : decode cX7_isResult 183 = .ok (.putfield 163, 3) := by decide +kernel
theorem dX7_isResult_186 : decode cX7_isResult 186 = .ok (.goto 74, 3) := by decide +kernel
theorem dX7_isResult_189 : decode cX7_isResult 189 = .ok (.aload_n 0, 1) := by decide +kernel
theorem dX7_isResult_190 : decode cX7_isResult 190 = .ok (.iload 5, 2) := by decide +kernel
theorem dX7_isResult_192 : decode cX7_isResult 192 = .ok (.putfield 163, 3) := by decide +kernel
theorem dX7_isResult_195 : decode cX7_isResult 195 = .ok (.goto 65, 3) := by decide +kernel
theorem dX7_isResult_198 : decode cX7_isResult 198 = .ok (.aload_n 0, 1) := by decide +kernel
theorem dX7_isResult_199 : decode cX7_isResult 199 = .ok (.iload 6, 2) := by decide +kernel
theorem dX7_isResult_201 : decode cX7_isResult 201 = .ok (.ifCond .eq 8, 3) := by decide +kernel
theorem dX7_isResult_204 : decode cX7_isResult 204 = .ok (.iload 4, 2) := by decide +kernel
theorem dX7_isResult_206 : decode cX7_isResult 206 = .ok (.goto 5, 3) := by decide +kernel
theorem dX7_isResult_209 : decode cX7_isResult 209 = .ok (.iload 5, 2) := by decide +kernel
theorem dX7_isResult_211 : decode cX7_isResult 211 = .ok (.putfield 163, 3) := by decide +kernel
theorem dX7_isResult_214 : decode cX7_isResult 214 = .ok (.goto 46, 3) := by decide +kernel
theorem dX7_isResult_217 : decode cX7_isResult 217 = .ok (.aload_n 0, 1) := by decide +kernel
theorem dX7_isResult_218 : decode cX7_isResult 218 = .ok (.iload 4, 2) := by decide +kernel
theorem dX7_isResult_220 : decode cX7_isResult 220 = .ok (.iload 5, 2) := by decide +kernel
theorem dX7_isResult_222 : decode cX7_isResult 222 = .ok (.iadd, 1) := by decide +kernel
theorem dX7_isResult_223 : decode cX7_isResult 223 = .ok (.putfield 163, 3) := by decide +kernel
theorem dX7_isResult_226 : decode cX7_isResult 226 = .ok (.aload_n 0, 1) := by decide +kernel
theorem dX7_isResult_227 : decode cX7_isResult 227 = .ok (.iconst 2, 1) := by decide +kernel
theorem dX7_isResult_228 : decode cX7_isResult 228 = .ok (.putfield 160, 3) := by decide +kernel
theorem dX7_isResult_231 : decode cX7_isResult 231 = .ok (.goto 29, 3) := by decide +kernel
theorem dX7_isResult_234 : decode cX7_isResult 234 = .ok (.aload_n 0, 1) := by decide +kernel
theorem dX7_isResult_235 : decode cX7_isResult 235 = .ok (.iload 4, 2) := by decide +kernel
theorem dX7_isResult_237 : decode cX7_isResult 237 = .ok (.iload_n 2, 1) := by decide +kernel
theorem dX7_isResult_238 : decode cX7_isResult 238 = .ok (.aload_n 0, 1) := by decide +kernel
theorem dX7_isResult_239 : decode cX7_isResult 239 = .ok (.getfield 157, 3) := by decide +kernel
theorem dX7_isResult_242 : decode cX7_isResult 242 = .ok (.isub, 1) := by decide +kernel
theorem dX7_isResult_243 : decode cX7_isResult 243 = .ok (.imul, 1) := by decide +kernel
theorem dX7_isResult_244 : decode cX7_isResult 244 = .ok (.iload 5, 2) := by decide +kernel
theorem dX7_isResult_246 : decode cX7_isResult 246 = .ok (.aload_n 0, 1) := by decide +kernel
theorem dX7_isResult_247 : decode cX7_isResult 247 = .ok (.getfield 157, 3) := by decide +kernel
theorem dX7_isResult_250 : decode cX7_isResult 250 = .ok (.imul, 1) := by decide +kernel
theorem dX7_isResult_251 : decode cX7_isResult 251 = .ok (.iadd, 1) := by decide +kernel
theorem dX7_isResult_252 : decode cX7_isResult 252 = .ok (.putfield 163, 3) := by decide +kernel
theorem dX7_isResult_255 : decode cX7_isResult 255 = .ok (.aload_n 0, 1) := by decide +kernel
theorem dX7_isResult_256 : decode cX7_isResult 256 = .ok (.iload_n 2, 1) := by decide +kernel
theorem dX7_isResult_257 : decode cX7_isResult 257 = .ok (.putfield 160, 3) := by decide +kernel
theorem dX7_isResult_260 : decode cX7_isResult 260 = .ok (.iconst 1, 1) := by decide +kernel
theorem dX7_isResult_261 : decode cX7_isResult 261 = .ok (.ireturn, 1) := by decide +kernel
theorem dX7_rounded_0 : decode cX7_rounded 0 = .ok (.aload_n 0, 1) := by decide +kernel
theorem dX7_rounded_1 : decode cX7_rounded 1 = .ok (.getfield 163, 3) := by decide +kernel
theorem dX7_rounded_4 : decode cX7_rounded 4 = .ok (.ifCond .ge 12, 3) := by decide +kernel
theorem dX7_rounded_7 : decode cX7_rounded 7 = .ok (.aload_n 0, 1) := by decide +kernel
theorem dX7_rounded_8 : decode cX7_rounded 8 = .ok (.getfield 163, 3) := by decide +kernel
theorem dX7_rounded_11 : decode cX7_rounded 11 = .ok (.i2l, 1) := by decide +kernel
theorem dX7_rounded_12 : decode cX7_rounded 12 = .ok (.lneg, 1) := by decide +kernel
theorem dX7_rounded_13 : decode cX7_rounded 13 = .ok (.goto 8, 3) := by decide +kernel
theorem dX7_rounded_16 : decode cX7_rounded 16 = .ok (.aload_n 0, 1) := by decide +kernel
theorem dX7_rounded_17 : decode cX7_rounded 17 = .ok (.getfield 163, 3) := by decide +kernel
theorem dX7_rounded_20 : decode cX7_rounded 20 = .ok (.i2l, 1) := by decide +kernel
theorem dX7_rounded_21 : decode cX7_rounded 21 = .ok (.lstore_n 1, 1) := by decide +kernel
theorem dX7_rounded_22 : decode cX7_rounded 22 = .ok (.ldc2_w 166, 3) := by decide +kernel
theorem dX7_rounded_25 : decode cX7_rounded 25 = .ok (.lload_n 1, 1) := by decide +kernel
theorem dX7_rounded_26 : decode cX7_rounded 26 = .ok (.lmul, 1) := by decide +kernel
theorem dX7_rounded_27 : decode cX7_rounded 27 = .ok (.aload_n 0, 1) := by decide +kernel
theorem dX7_rounded_28 : decode cX7_rounded 28 = .ok (.getfield 160, 3) := by decide +kernel
theorem dX7_rounded_31 : decode cX7_rounded 31 = .ok (.i2l, 1) := by decide +kernel
theorem dX7_rounded_32 : decode cX7_rounded 32 = .ok (.ladd, 1) := by decide +kernel
theorem dX7_rounded_33 : decode cX7_rounded 33 = .ok (.ldc2_w 166, 3) := by decide +kernel
theorem dX7_rounded_36 : decode cX7_rounded 36 = .ok (.aload_n 0, 1) := by decide +kernel
theorem dX7_rounded_37 : decode cX7_rounded 37 = .ok (.getfield 160, 3) := by decide +kernel
theorem dX7_rounded_40 : decode cX7_rounded 40 = .ok (.i2l, 1) := by decide +kernel
theorem dX7_rounded_41 : decode cX7_rounded 41 = .ok (.lmul, 1) := by decide +kernel
theorem dX7_rounded_42 : decode cX7_rounded 42 = .ok (.ldiv, 1) := by decide +kernel
theorem dX7_rounded_43 : decode cX7_rounded 43 = .ok (.l2i, 1) := by decide +kernel
theorem dX7_rounded_44 : decode cX7_rounded 44 = .ok (.istore_n 3, 1) := by decide +kernel
theorem dX7_rounded_45 : decode cX7_rounded 45 = .ok (.aload_n 0, 1) := by decide +kernel
theorem dX7_rounded_46 : decode cX7_rounded 46 = .ok (.getfield 163, 3) := by decide +kernel
theorem dX7_rounded_49 : decode cX7_rounded 49 = .ok (.ifCond .ge 8, 3) := by decide +kernel
theorem dX7_rounded_52 : decode cX7_rounded 52 = .ok (.iload_n 3, 1) := by decide +kernel
theorem dX7_rounded_53 : decode cX7_rounded 53 = .ok (.ineg, 1) := by decide +kernel
theorem dX7_rounded_54 : decode cX7_rounded 54 = .ok (.goto 4, 3) := by decide +kernel
theorem dX7_rounded_57 : decode cX7_rounded 57 = .ok (.iload_n 3, 1) := by decide +kernel
theorem dX7_rounded_58 : decode cX7_rounded 58 = .ok (.ireturn, 1) := by decide +kernel
theorem dX7_missing_0 : decode cX7_missing 0 = .ok (.iconst 0, 1) := by decide +kernel
theorem dX7_missing_1 : decode cX7_missing 1 = .ok (.istore_n 1, 1) := by decide +kernel
theorem dX7_missing_2 : decode cX7_missing 2 = .ok (.iconst 0, 1) := by decide +kernel
theorem dX7_missing_3 : decode cX7_missing 3 = .ok (.istore_n 2, 1) := by decide +kernel
theorem dX7_missing_4 : decode cX7_missing 4 = .ok (.iload_n 2, 1) := by decide +kernel
theorem dX7_missing_5 : decode cX7_missing 5 = .ok (.aload_n 0, 1) := by decide +kernel
theorem dX7_missing_6 : decode cX7_missing 6 = .ok (.invokevirtual 141, 3) := by decide +kernel
theorem dX7_missing_9 : decode cX7_missing 9 = .ok (.if_icmp .ge 28, 3) := by decide +kernel
theorem dX7_missing_12 : decode cX7_missing 12 = .ok (.iload_n 1, 1) := by decide +kernel
theorem dX7_missing_13 : decode cX7_missing 13 = .ok (.aload_n 0, 1) := by decide +kernel
theorem dX7_missing_14 : decode cX7_missing 14 = .ok (.getfield 7, 3) := by decide +kernel
theorem dX7_missing_17 : decode cX7_missing 17 = .ok (.iload_n 2, 1) := by decide +kernel
theorem dX7_missing_18 : decode cX7_missing 18 = .ok (.iaload, 1) := by decide +kernel
theorem dX7_missing_19 : decode cX7_missing 19 = .ok (.ldc 106, 2) := by decide +kernel
theorem dX7_missing_21 : decode cX7_missing 21 = .ok (.if_icmp .ne 7, 3) := by decide +kernel
theorem dX7_missing_24 : decode cX7_missing 24 = .ok (.iconst 1, 1) := by decide +kernel
theorem dX7_missing_25 : decode cX7_missing 25 = .ok (.goto 4, 3) := by decide +kernel
theorem dX7_missing_28 : decode cX7_missing 28 = .ok (.iconst 0, 1) := by decide +kernel
theorem dX7_missing_29 : decode cX7_missing 29 = .ok (.iadd, 1) := by decide +kernel
theorem dX7_missing_30 : decode cX7_missing 30 = .ok (.istore_n 1, 1) := by decide +kernel
theorem dX7_missing_31 : decode cX7_missing 31 = .ok (.iinc 2 1, 3) := by decide +kernel
theorem dX7_missing_34 : decode cX7_missing 34 = .ok (.goto (-30), 3) := by decide +kernel
theorem dX7_missing_37 : decode cX7_missing 37 = .ok (.iload_n 1, 1) := by decide +kernel
theorem dX7_missing_38 : decode cX7_missing 38 = .ok (.ireturn, 1) := by decide +kernel
theorem dX7_results_0 : decode cX7_results 0 = .ok (.iconst 0, 1) := by decide +kernel
theorem dX7_results_1 : decode cX7_results 1 = .ok (.istore_n 1, 1) := by decide +kernel
theorem dX7_results_2 : decode cX7_results 2 = .ok (.iconst 0, 1) := by decide +kernel
theorem dX7_results_3 : decode cX7_results 3 = .ok (.istore_n 2, 1) := by decide +kernel
theorem dX7_results_4 : decode cX7_results 4 = .ok (.iload_n 2, 1) := by decide +kernel
theorem dX7_results_5 : decode cX7_results 5 = .ok (.aload_n 0, 1) := by decide +kernel
theorem dX7_results_6 : decode cX7_results 6 = .ok (.invokevirtual 141, 3) := by decide +kernel
theorem dX7_results_9 : decode cX7_results 9 = .ok (.if_icmp .ge 25, 3) := by decide +kernel
theorem dX7_results_12 : decode cX7_results 12 = .ok (.iload_n 1, 1) := by decide +kernel
theorem dX7_results_13 : decode cX7_results 13 = .ok (.aload_n 0, 1) := by decide +kernel
theorem dX7_results_14 : decode cX7_results 14 = .ok (.iload_n 2, 1) := by decide +kernel
theorem dX7_results_15 : decode cX7_results 15 = .ok (.invokevirtual 168, 3) := by decide +kernel
theorem dX7_results_18 : decode cX7_results 18 = .ok (.ifCond .eq 7, 3) := by decide +kernel
theorem dX7_results_21 : decode cX7_results 21 = .ok (.iconst 1, 1) := by decide +kernel
theorem dX7_results_22 : decode cX7_results 22 = .ok (.goto 4, 3) := by decide +kernel
theorem dX7_results_25 : decode cX7_results 25 = .ok (.iconst 0, 1) := by decide +kernel
theorem dX7_results_26 : decode cX7_results 26 = .ok (.iadd, 1) := by decide +kernel
theorem dX7_results_27 : decode cX7_results 27 = .ok (.istore_n 1, 1) := by decide +kernel
theorem dX7_results_28 : decode cX7_results 28 = .ok (.iinc 2 1, 3) := by decide +kernel
theorem dX7_results_31 : decode cX7_results 31 = .ok (.goto (-27), 3) := by decide +kernel
theorem dX7_results_34 : decode cX7_results 34 = .ok (.iload_n 1, 1) := by decide +kernel
theorem dX7_results_35 : decode cX7_results 35 = .ok (.ireturn, 1) := by decide +kernel
theorem dX7_rule_0 : decode cX7_rule 0 = .ok (.aload_n 0, 1) := by decide +kernel
theorem dX7_rule_1 : decode cX7_rule 1 = .ok (.invokevirtual 128, 3) := by decide +kernel
theorem dX7_rule_4 : decode cX7_rule 4 = .ok (.iload_n 1, 1) := by decide +kernel
theorem dX7_rule_5 : decode cX7_rule 5 = .ok (.lookupswitch 50 #[(0, 35), (1, 40), (8, 45)], 35) := by decide +kernel
theorem dX7_rule_40 : decode cX7_rule 40 = .ok (.aload_n 0, 1) := by decide +kernel
theorem dX7_rule_41 : decode cX7_rule 41 = .ok (.invokevirtual 141, 3) := by decide +kernel
theorem dX7_rule_44 : decode cX7_rule 44 = .ok (.ireturn, 1) := by decide +kernel
theorem dX7_rule_45 : decode cX7_rule 45 = .ok (.aload_n 0, 1) := by decide +kernel
theorem dX7_rule_46 : decode cX7_rule 46 = .ok (.invokevirtual 172, 3) := by decide +kernel
theorem dX7_rule_49 : decode cX7_rule 49 = .ok (.ireturn, 1) := by decide +kernel
theorem dX7_rule_50 : decode cX7_rule 50 = .ok (.aload_n 0, 1) := by decide +kernel
theorem dX7_rule_51 : decode cX7_rule 51 = .ok (.invokevirtual 175, 3) := by decide +kernel
theorem dX7_rule_54 : decode cX7_rule 54 = .ok (.ireturn, 1) := by decide +kernel
theorem dX7_rule_55 : decode cX7_rule 55 = .ok (.iload_n 1, 1) := by decide +kernel
theorem dX7_rule_56 : decode cX7_rule 56 = .ok (.i2l, 1) := by decide +kernel
theorem dX7_rule_57 : decode cX7_rule 57 = .ok (.ldc2_w 166, 3) := by decide +kernel
theorem dX7_rule_60 : decode cX7_rule 60 = .ok (.ldc2_w 178, 3) := by decide +kernel
theorem dX7_rule_63 : decode cX7_rule 63 = .ok (.invokestatic 54, 3) := by decide +kernel
theorem dX7_rule_66 : decode cX7_rule 66 = .ok (.ifCond .eq 15, 3) := by decide +kernel
theorem dX7_rule_69 : decode cX7_rule 69 = .ok (.aload_n 0, 1) := by decide +kernel
theorem dX7_rule_70 : decode cX7_rule 70 = .ok (.getfield 7, 3) := by decide +kernel
theorem dX7_rule_73 : decode cX7_rule 73 = .ok (.bipush 94, 2) := by decide +kernel
theorem dX7_rule_75 : decode cX7_rule 75 = .ok (.iload_n 1, 1) := by decide +kernel
theorem dX7_rule_76 : decode cX7_rule 76 = .ok (.iadd, 1) := by decide +kernel
theorem dX7_rule_77 : decode cX7_rule 77 = .ok (.iaload, 1) := by decide +kernel
theorem dX7_rule_78 : decode cX7_rule 78 = .ok (.goto 4, 3) := by decide +kernel
theorem dX7_rule_81 : decode cX7_rule 81 = .ok (.iconst (-1), 1) := by decide +kernel
theorem dX7_rule_82 : decode cX7_rule 82 = .ok (.ireturn, 1) := by decide +kernel
theorem dX7_reading_0 : decode cX7_reading 0 = .ok (.aload_n 0, 1) := by decide +kernel
theorem dX7_reading_1 : decode cX7_reading 1 = .ok (.iload_n 1, 1) := by decide +kernel
theorem dX7_reading_2 : decode cX7_reading 2 = .ok (.invokevirtual 180, 3) := by decide +kernel
theorem dX7_reading_5 : decode cX7_reading 5 = .ok (.ifCond .eq 12, 3) := by decide +kernel
theorem dX7_reading_8 : decode cX7_reading 8 = .ok (.aload_n 0, 1) := by decide +kernel
theorem dX7_reading_9 : decode cX7_reading 9 = .ok (.getfield 7, 3) := by decide +kernel
theorem dX7_reading_12 : decode cX7_reading 12 = .ok (.iload_n 1, 1) := by decide +kernel
theorem dX7_reading_13 : decode cX7_reading 13 = .ok (.iaload, 1) := by decide +kernel
theorem dX7_reading_14 : decode cX7_reading 14 = .ok (.goto 5, 3) := by decide +kernel
theorem dX7_reading_17 : decode cX7_reading 17 = .ok (.ldc 106, 2) := by decide +kernel
theorem dX7_reading_19 : decode cX7_reading 19 = .ok (.ireturn, 1) := by decide +kernel
theorem dX7_row_0 : decode cX7_row 0 = .ok (.aload_n 0, 1) := by decide +kernel
end
section
theorem dX7_row_1 : decode cX7_row 1 = .ok (.iload_n 1, 1) := by decide +kernel
theorem dX7_row_2 : decode cX7_row 2 = .ok (.invokevirtual 180, 3) := by decide +kernel
theorem dX7_row_5 : decode cX7_row 5 = .ok (.ifCond .eq 15, 3) := by decide +kernel
theorem dX7_row_8 : decode cX7_row 8 = .ok (.iload_n 2, 1) := by decide +kernel
theorem dX7_row_9 : decode cX7_row 9 = .ok (.i2l, 1) := by decide +kernel
theorem dX7_row_10 : decode cX7_row 10 = .ok (.lconst 0, 1) := by decide +kernel
theorem dX7_row_11 : decode cX7_row 11 = .ok (.ldc2_w 166, 3) := by decide +kernel
theorem dX7_row_14 : decode cX7_row 14 = .ok (.invokestatic 54, 3) := by decide +kernel
theorem dX7_row_17 : decode cX7_row 17 = .ok (.ifCond .ne 5, 3) := by decide +kernel
theorem dX7_row_20 : decode cX7_row 20 = .ok (.iconst (-1), 1) := by decide +kernel
theorem dX7_row_21 : decode cX7_row 21 = .ok (.ireturn, 1) := by decide +kernel
theorem dX7_row_22 : decode cX7_row 22 = .ok (.aload_n 0, 1) := by decide +kernel
theorem dX7_row_23 : decode cX7_row 23 = .ok (.iload_n 1, 1) := by decide +kernel
theorem dX7_row_24 : decode cX7_row 24 = .ok (.invokevirtual 168, 3) := by decide +kernel
theorem dX7_row_27 : decode cX7_row 27 = .ok (.istore_n 3, 1) := by decide +kernel
theorem dX7_row_28 : decode cX7_row 28 = .ok (.iload_n 2, 1) := by decide +kernel
theorem dX7_row_29 : decode cX7_row 29 = .ok (.ifCond .ne 10, 3) := by decide +kernel
theorem dX7_row_32 : decode cX7_row 32 = .ok (.aload_n 0, 1) := by decide +kernel
theorem dX7_row_33 : decode cX7_row 33 = .ok (.getfield 144, 3) := by decide +kernel
theorem dX7_row_36 : decode cX7_row 36 = .ok (.goto 28, 3) := by decide +kernel
theorem dX7_row_39 : decode cX7_row 39 = .ok (.iload_n 3, 1) := by decide +kernel
theorem dX7_row_40 : decode cX7_row 40 = .ok (.ifCond .ne 8, 3) := by decide +kernel
theorem dX7_row_43 : decode cX7_row 43 = .ok (.bipush (-4), 2) := by decide +kernel
theorem dX7_row_45 : decode cX7_row 45 = .ok (.goto 19, 3) := by decide +kernel
theorem dX7_row_48 : decode cX7_row 48 = .ok (.iload_n 2, 1) := by decide +kernel
theorem dX7_row_49 : decode cX7_row 49 = .ok (.iconst 1, 1) := by decide +kernel
theorem dX7_row_50 : decode cX7_row 50 = .ok (.if_icmp .ne 10, 3) := by decide +kernel
theorem dX7_row_53 : decode cX7_row 53 = .ok (.aload_n 0, 1) := by decide +kernel
theorem dX7_row_54 : decode cX7_row 54 = .ok (.getfield 154, 3) := by decide +kernel
theorem dX7_row_57 : decode cX7_row 57 = .ok (.goto 7, 3) := by decide +kernel
theorem dX7_row_60 : decode cX7_row 60 = .ok (.aload_n 0, 1) := by decide +kernel
theorem dX7_row_61 : decode cX7_row 61 = .ok (.getfield 157, 3) := by decide +kernel
theorem dX7_row_64 : decode cX7_row 64 = .ok (.ireturn, 1) := by decide +kernel
theorem dX7_item_0 : decode cX7_item 0 = .ok (.aload_n 0, 1) := by decide +kernel
theorem dX7_item_1 : decode cX7_item 1 = .ok (.iload_n 1, 1) := by decide +kernel
theorem dX7_item_2 : decode cX7_item 2 = .ok (.invokevirtual 180, 3) := by decide +kernel
theorem dX7_item_5 : decode cX7_item 5 = .ok (.ifCond .ne 6, 3) := by decide +kernel
theorem dX7_item_8 : decode cX7_item 8 = .ok (.ldc 106, 2) := by decide +kernel
theorem dX7_item_10 : decode cX7_item 10 = .ok (.ireturn, 1) := by decide +kernel
theorem dX7_item_11 : decode cX7_item 11 = .ok (.aload_n 0, 1) := by decide +kernel
theorem dX7_item_12 : decode cX7_item 12 = .ok (.iload_n 1, 1) := by decide +kernel
theorem dX7_item_13 : decode cX7_item 13 = .ok (.invokevirtual 151, 3) := by decide +kernel
theorem dX7_item_16 : decode cX7_item 16 = .ok (.iload_n 2, 1) := by decide +kernel
theorem dX7_item_17 : decode cX7_item 17 = .ok (.i2l, 1) := by decide +kernel
theorem dX7_item_18 : decode cX7_item 18 = .ok (.lconst 0, 1) := by decide +kernel
theorem dX7_item_19 : decode cX7_item 19 = .ok (.aload_n 0, 1) := by decide +kernel
theorem dX7_item_20 : decode cX7_item 20 = .ok (.getfield 144, 3) := by decide +kernel
theorem dX7_item_23 : decode cX7_item 23 = .ok (.iconst 1, 1) := by decide +kernel
theorem dX7_item_24 : decode cX7_item 24 = .ok (.isub, 1) := by decide +kernel
theorem dX7_item_25 : decode cX7_item 25 = .ok (.i2l, 1) := by decide +kernel
theorem dX7_item_26 : decode cX7_item 26 = .ok (.invokestatic 54, 3) := by decide +kernel
theorem dX7_item_29 : decode cX7_item 29 = .ok (.ifCond .eq 12, 3) := by decide +kernel
theorem dX7_item_32 : decode cX7_item 32 = .ok (.aload_n 0, 1) := by decide +kernel
theorem dX7_item_33 : decode cX7_item 33 = .ok (.getfield 22, 3) := by decide +kernel
theorem dX7_item_36 : decode cX7_item 36 = .ok (.iload_n 2, 1) := by decide +kernel
theorem dX7_item_37 : decode cX7_item 37 = .ok (.iaload, 1) := by decide +kernel
theorem dX7_item_38 : decode cX7_item 38 = .ok (.goto 5, 3) := by decide +kernel
theorem dX7_item_41 : decode cX7_item 41 = .ok (.ldc 106, 2) := by decide +kernel
theorem dX7_item_43 : decode cX7_item 43 = .ok (.ireturn, 1) := by decide +kernel
theorem dX7_result_0 : decode cX7_result 0 = .ok (.aload_n 0, 1) := by decide +kernel
theorem dX7_result_1 : decode cX7_result 1 = .ok (.iload_n 1, 1) := by decide +kernel
theorem dX7_result_2 : decode cX7_result 2 = .ok (.invokevirtual 180, 3) := by decide +kernel
theorem dX7_result_5 : decode cX7_result 5 = .ok (.ifCond .eq 23, 3) := by decide +kernel
theorem dX7_result_8 : decode cX7_result 8 = .ok (.iload_n 2, 1) := by decide +kernel
theorem dX7_result_9 : decode cX7_result 9 = .ok (.i2l, 1) := by decide +kernel
theorem dX7_result_10 : decode cX7_result 10 = .ok (.lconst 0, 1) := by decide +kernel
theorem dX7_result_11 : decode cX7_result 11 = .ok (.ldc2_w 166, 3) := by decide +kernel
theorem dX7_result_14 : decode cX7_result 14 = .ok (.invokestatic 54, 3) := by decide +kernel
theorem dX7_result_17 : decode cX7_result 17 = .ok (.ifCond .eq 11, 3) := by decide +kernel
theorem dX7_result_20 : decode cX7_result 20 = .ok (.aload_n 0, 1) := by decide +kernel
theorem dX7_result_21 : decode cX7_result 21 = .ok (.iload_n 1, 1) := by decide +kernel
theorem dX7_result_22 : decode cX7_result 22 = .ok (.invokevirtual 168, 3) := by decide +kernel
theorem dX7_result_25 : decode cX7_result 25 = .ok (.ifCond .ne 6, 3) := by decide +kernel
theorem dX7_result_28 : decode cX7_result 28 = .ok (.ldc 106, 2) := by decide +kernel
theorem dX7_result_30 : decode cX7_result 30 = .ok (.ireturn, 1) := by decide +kernel
theorem dX7_result_31 : decode cX7_result 31 = .ok (.iload_n 2, 1) := by decide +kernel
theorem dX7_result_32 : decode cX7_result 32 = .ok (.ifCond .ne 10, 3) := by decide +kernel
theorem dX7_result_35 : decode cX7_result 35 = .ok (.aload_n 0, 1) := by decide +kernel
theorem dX7_result_36 : decode cX7_result 36 = .ok (.getfield 163, 3) := by decide +kernel
theorem dX7_result_39 : decode cX7_result 39 = .ok (.goto 19, 3) := by decide +kernel
theorem dX7_result_42 : decode cX7_result 42 = .ok (.iload_n 2, 1) := by decide +kernel
theorem dX7_result_43 : decode cX7_result 43 = .ok (.iconst 1, 1) := by decide +kernel
theorem dX7_result_44 : decode cX7_result 44 = .ok (.if_icmp .ne 10, 3) := by decide +kernel
theorem dX7_result_47 : decode cX7_result 47 = .ok (.aload_n 0, 1) := by decide +kernel
theorem dX7_result_48 : decode cX7_result 48 = .ok (.getfield 160, 3) := by decide +kernel
theorem dX7_result_51 : decode cX7_result 51 = .ok (.goto 7, 3) := by decide +kernel
theorem dX7_result_54 : decode cX7_result 54 = .ok (.aload_n 0, 1) := by decide +kernel
theorem dX7_result_55 : decode cX7_result 55 = .ok (.invokevirtual 183, 3) := by decide +kernel
theorem dX7_result_58 : decode cX7_result 58 = .ok (.ireturn, 1) := by decide +kernel
theorem dX7_rank_0 : decode cX7_rank 0 = .ok (.aload_n 0, 1) := by decide +kernel
theorem dX7_rank_1 : decode cX7_rank 1 = .ok (.iload_n 1, 1) := by decide +kernel
theorem dX7_rank_2 : decode cX7_rank 2 = .ok (.invokevirtual 180, 3) := by decide +kernel
theorem dX7_rank_5 : decode cX7_rank 5 = .ok (.ifCond .eq 13, 3) := by decide +kernel
theorem dX7_rank_8 : decode cX7_rank 8 = .ok (.iload_n 3, 1) := by decide +kernel
theorem dX7_rank_9 : decode cX7_rank 9 = .ok (.i2l, 1) := by decide +kernel
theorem dX7_rank_10 : decode cX7_rank 10 = .ok (.lconst 0, 1) := by decide +kernel
theorem dX7_rank_11 : decode cX7_rank 11 = .ok (.lconst 1, 1) := by decide +kernel
theorem dX7_rank_12 : decode cX7_rank 12 = .ok (.invokestatic 54, 3) := by decide +kernel
theorem dX7_rank_15 : decode cX7_rank 15 = .ok (.ifCond .ne 5, 3) := by decide +kernel
theorem dX7_rank_18 : decode cX7_rank 18 = .ok (.iconst (-1), 1) := by decide +kernel
theorem dX7_rank_19 : decode cX7_rank 19 = .ok (.ireturn, 1) := by decide +kernel
theorem dX7_rank_20 : decode cX7_rank 20 = .ok (.aload_n 0, 1) := by decide +kernel
theorem dX7_rank_21 : decode cX7_rank 21 = .ok (.iload_n 1, 1) := by decide +kernel
theorem dX7_rank_22 : decode cX7_rank 22 = .ok (.invokevirtual 151, 3) := by decide +kernel
theorem dX7_rank_25 : decode cX7_rank 25 = .ok (.iconst 0, 1) := by decide +kernel
theorem dX7_rank_26 : decode cX7_rank 26 = .ok (.istore 4, 2) := by decide +kernel
theorem dX7_rank_28 : decode cX7_rank 28 = .ok (.iconst 0, 1) := by decide +kernel
theorem dX7_rank_29 : decode cX7_rank 29 = .ok (.istore 5, 2) := by decide +kernel
theorem dX7_rank_31 : decode cX7_rank 31 = .ok (.iload 5, 2) := by decide +kernel
theorem dX7_rank_33 : decode cX7_rank 33 = .ok (.aload_n 0, 1) := by decide +kernel
theorem dX7_rank_34 : decode cX7_rank 34 = .ok (.getfield 144, 3) := by decide +kernel
theorem dX7_rank_37 : decode cX7_rank 37 = .ok (.if_icmp .ge 48, 3) := by decide +kernel
theorem dX7_rank_40 : decode cX7_rank 40 = .ok (.iload 4, 2) := by decide +kernel
theorem dX7_rank_42 : decode cX7_rank 42 = .ok (.iload_n 3, 1) := by decide +kernel
theorem dX7_rank_43 : decode cX7_rank 43 = .ok (.ifCond .ne 17, 3) := by decide +kernel
theorem dX7_rank_46 : decode cX7_rank 46 = .ok (.aload_n 0, 1) := by decide +kernel
theorem dX7_rank_47 : decode cX7_rank 47 = .ok (.getfield 22, 3) := by decide +kernel
theorem dX7_rank_50 : decode cX7_rank 50 = .ok (.iload 5, 2) := by decide +kernel
theorem dX7_rank_52 : decode cX7_rank 52 = .ok (.iaload, 1) := by decide +kernel
theorem dX7_rank_53 : decode cX7_rank 53 = .ok (.iload_n 2, 1) := by decide +kernel
theorem dX7_rank_54 : decode cX7_rank 54 = .ok (.if_icmp .ge 21, 3) := by decide +kernel
theorem dX7_rank_57 : decode cX7_rank 57 = .ok (.goto 14, 3) := by decide +kernel
theorem dX7_rank_60 : decode cX7_rank 60 = .ok (.aload_n 0, 1) := by decide +kernel
theorem dX7_rank_61 : decode cX7_rank 61 = .ok (.getfield 22, 3) := by decide +kernel
theorem dX7_rank_64 : decode cX7_rank 64 = .ok (.iload 5, 2) := by decide +kernel
theorem dX7_rank_66 : decode cX7_rank 66 = .ok (.iaload, 1) := by decide +kernel
theorem dX7_rank_67 : decode cX7_rank 67 = .ok (.iload_n 2, 1) := by decide +kernel
theorem dX7_rank_68 : decode cX7_rank 68 = .ok (.if_icmp .ne 7, 3) := by decide +kernel
theorem dX7_rank_71 : decode cX7_rank 71 = .ok (.iconst 1, 1) := by decide +kernel
theorem dX7_rank_72 : decode cX7_rank 72 = .ok (.goto 4, 3) := by decide +kernel
theorem dX7_rank_75 : decode cX7_rank 75 = .ok (.iconst 0, 1) := by decide +kernel
theorem dX7_rank_76 : decode cX7_rank 76 = .ok (.iadd, 1) := by decide +kernel
theorem dX7_rank_77 : decode cX7_rank 77 = .ok (.istore 4, 2) := by decide +kernel
theorem dX7_rank_79 : decode cX7_rank 79 = .ok (.iinc 5 1, 3) := by decide +kernel
theorem dX7_rank_82 : decode cX7_rank 82 = .ok (.goto (-51), 3) := by decide +kernel
theorem dX7_rank_85 : decode cX7_rank 85 = .ok (.iload 4, 2) := by decide +kernel
theorem dX7_rank_87 : decode cX7_rank 87 = .ok (.ireturn, 1) := by decide +kernel
theorem dX7_shows_0 : decode cX7_shows 0 = .ok (.aload_n 0, 1) := by decide +kernel
theorem dX7_shows_1 : decode cX7_shows 1 = .ok (.getfield 28, 3) := by decide +kernel
theorem dX7_shows_4 : decode cX7_shows 4 = .ok (.aload_n 0, 1) := by decide +kernel
theorem dX7_shows_5 : decode cX7_shows 5 = .ok (.getfield 186, 3) := by decide +kernel
theorem dX7_shows_8 : decode cX7_shows 8 = .ok (.iload_n 1, 1) := by decide +kernel
theorem dX7_shows_9 : decode cX7_shows 9 = .ok (.iastore, 1) := by decide +kernel
theorem dX7_shows_10 : decode cX7_shows 10 = .ok (.aload_n 0, 1) := by decide +kernel
theorem dX7_shows_11 : decode cX7_shows 11 = .ok (.dup, 1) := by decide +kernel
theorem dX7_shows_12 : decode cX7_shows 12 = .ok (.getfield 186, 3) := by decide +kernel
theorem dX7_shows_15 : decode cX7_shows 15 = .ok (.iconst 1, 1) := by decide +kernel
theorem dX7_shows_16 : decode cX7_shows 16 = .ok (.iadd, 1) := by decide +kernel
theorem dX7_shows_17 : decode cX7_shows 17 = .ok (.putfield 186, 3) := by decide +kernel
theorem dX7_shows_20 : decode cX7_shows 20 = .ok (.return_, 1) := by decide +kernel
theorem dX7_showsNumber_0 : decode cX7_showsNumber 0 = .ok (.iconst 1, 1) := by decide +kernel
theorem dX7_showsNumber_1 : decode cX7_showsNumber 1 = .ok (.istore_n 2, 1) := by decide +kernel
theorem dX7_showsNumber_2 : decode cX7_showsNumber 2 = .ok (.iload_n 1, 1) := by decide +kernel
theorem dX7_showsNumber_3 : decode cX7_showsNumber 3 = .ok (.iload_n 2, 1) := by decide +kernel
theorem dX7_showsNumber_4 : decode cX7_showsNumber 4 = .ok (.idiv, 1) := by decide +kernel
theorem dX7_showsNumber_5 : decode cX7_showsNumber 5 = .ok (.bipush 9, 2) := by decide +kernel
theorem dX7_showsNumber_7 : decode cX7_showsNumber 7 = .ok (.if_icmp .le 11, 3) := by decide +kernel
theorem dX7_showsNumber_10 : decode cX7_showsNumber 10 = .ok (.iload_n 2, 1) := by decide +kernel
theorem dX7_showsNumber_11 : decode cX7_showsNumber 11 = .ok (.bipush 10, 2) := by decide +kernel
theorem dX7_showsNumber_13 : decode cX7_showsNumber 13 = .ok (.imul, 1) := by decide +kernel
theorem dX7_showsNumber_14 : decode cX7_showsNumber 14 = .ok (.istore_n 2, 1) := by decide +kernel
theorem dX7_showsNumber_15 : decode cX7_showsNumber 15 = .ok (.goto (-13), 3) := by decide +kernel
theorem dX7_showsNumber_18 : decode cX7_showsNumber 18 = .ok (.iload_n 2, 1) := by decide +kernel
theorem dX7_showsNumber_19 : decode cX7_showsNumber 19 = .ok (.ifCond .le 24, 3) := by decide +kernel
theorem dX7_showsNumber_22 : decode cX7_showsNumber 22 = .ok (.aload_n 0, 1) := by decide +kernel
theorem dX7_showsNumber_23 : decode cX7_showsNumber 23 = .ok (.bipush 48, 2) := by decide +kernel
theorem dX7_showsNumber_25 : decode cX7_showsNumber 25 = .ok (.iload_n 1, 1) := by decide +kernel
theorem dX7_showsNumber_26 : decode cX7_showsNumber 26 = .ok (.iload_n 2, 1) := by decide +kernel
theorem dX7_showsNumber_27 : decode cX7_showsNumber 27 = .ok (.idiv, 1) := by decide +kernel
theorem dX7_showsNumber_28 : decode cX7_showsNumber 28 = .ok (.bipush 10, 2) := by decide +kernel
theorem dX7_showsNumber_30 : decode cX7_showsNumber 30 = .ok (.irem, 1) := by decide +kernel
theorem dX7_showsNumber_31 : decode cX7_showsNumber 31 = .ok (.iadd, 1) := by decide +kernel
theorem dX7_showsNumber_32 : decode cX7_showsNumber 32 = .ok (.invokevirtual 189, 3) := by decide +kernel
theorem dX7_showsNumber_35 : decode cX7_showsNumber 35 = .ok (.iload_n 2, 1) := by decide +kernel
theorem dX7_showsNumber_36 : decode cX7_showsNumber 36 = .ok (.bipush 10, 2) := by decide +kernel
theorem dX7_showsNumber_38 : decode cX7_showsNumber 38 = .ok (.idiv, 1) := by decide +kernel
theorem dX7_showsNumber_39 : decode cX7_showsNumber 39 = .ok (.istore_n 2, 1) := by decide +kernel
theorem dX7_showsNumber_40 : decode cX7_showsNumber 40 = .ok (.goto (-22), 3) := by decide +kernel
theorem dX7_showsNumber_43 : decode cX7_showsNumber 43 = .ok (.return_, 1) := by decide +kernel
theorem dX7_shownOf_0 : decode cX7_shownOf 0 = .ok (.aload_n 0, 1) := by decide +kernel
theorem dX7_shownOf_1 : decode cX7_shownOf 1 = .ok (.iconst 0, 1) := by decide +kernel
theorem dX7_shownOf_2 : decode cX7_shownOf 2 = .ok (.putfield 186, 3) := by decide +kernel
theorem dX7_shownOf_5 : decode cX7_shownOf 5 = .ok (.aload_n 0, 1) := by decide +kernel
theorem dX7_shownOf_6 : decode cX7_shownOf 6 = .ok (.iload_n 1, 1) := by decide +kernel
theorem dX7_shownOf_7 : decode cX7_shownOf 7 = .ok (.invokevirtual 168, 3) := by decide +kernel
theorem dX7_shownOf_10 : decode cX7_shownOf 10 = .ok (.ifCond .ne 32, 3) := by decide +kernel
theorem dX7_shownOf_13 : decode cX7_shownOf 13 = .ok (.aload_n 0, 1) := by decide +kernel
theorem dX7_shownOf_14 : decode cX7_shownOf 14 = .ok (.bipush 110, 2) := by decide +kernel
theorem dX7_shownOf_16 : decode cX7_shownOf 16 = .ok (.invokevirtual 189, 3) := by decide +kernel
theorem dX7_shownOf_19 : decode cX7_shownOf 19 = .ok (.aload_n 0, 1) := by decide +kernel
theorem dX7_shownOf_20 : decode cX7_shownOf 20 = .ok (.bipush 111, 2) := by decide +kernel
theorem dX7_shownOf_22 : decode cX7_shownOf 22 = .ok (.invokevirtual 189, 3) := by decide +kernel
theorem dX7_shownOf_25 : decode cX7_shownOf 25 = .ok (.aload_n 0, 1) := by decide +kernel
theorem dX7_shownOf_26 : decode cX7_shownOf 26 = .ok (.bipush 110, 2) := by decide +kernel
theorem dX7_shownOf_28 : decode cX7_shownOf 28 = .ok (.invokevirtual 189, 3) := by decide +kernel
theorem dX7_shownOf_31 : decode cX7_shownOf 31 = .ok (.aload_n 0, 1) := by decide +kernel
theorem dX7_shownOf_32 : decode cX7_shownOf 32 = .ok (.bipush 101, 2) := by decide +kernel
theorem dX7_shownOf_34 : decode cX7_shownOf 34 = .ok (.invokevirtual 189, 3) := by decide +kernel
theorem dX7_shownOf_37 : decode cX7_shownOf 37 = .ok (.aload_n 0, 1) := by decide +kernel
theorem dX7_shownOf_38 : decode cX7_shownOf 38 = .ok (.getfield 186, 3) := by decide +kernel
theorem dX7_shownOf_41 : decode cX7_shownOf 41 = .ok (.ireturn, 1) := by decide +kernel
theorem dX7_shownOf_42 : decode cX7_shownOf 42 = .ok (.aload_n 0, 1) := by decide +kernel
theorem dX7_shownOf_43 : decode cX7_shownOf 43 = .ok (.invokevirtual 183, 3) := by decide +kernel
theorem dX7_shownOf_46 : decode cX7_shownOf 46 = .ok (.istore_n 2, 1) := by decide +kernel
theorem dX7_shownOf_47 : decode cX7_shownOf 47 = .ok (.aload_n 0, 1) := by decide +kernel
theorem dX7_shownOf_48 : decode cX7_shownOf 48 = .ok (.getfield 7, 3) := by decide +kernel
theorem dX7_shownOf_51 : decode cX7_shownOf 51 = .ok (.bipush 101, 2) := by decide +kernel
theorem dX7_shownOf_53 : decode cX7_shownOf 53 = .ok (.iaload, 1) := by decide +kernel
theorem dX7_shownOf_54 : decode cX7_shownOf 54 = .ok (.istore_n 3, 1) := by decide +kernel
theorem dX7_shownOf_55 : decode cX7_shownOf 55 = .ok (.iload_n 2, 1) := by decide +kernel
theorem dX7_shownOf_56 : decode cX7_shownOf 56 = .ok (.ifCond .ge 12, 3) := by decide +kernel
theorem dX7_shownOf_59 : decode cX7_shownOf 59 = .ok (.aload_n 0, 1) := by decide +kernel
theorem dX7_shownOf_60 : decode cX7_shownOf 60 = .ok (.bipush 45, 2) := by decide +kernel
theorem dX7_shownOf_62 : decode cX7_shownOf 62 = .ok (.invokevirtual 189, 3) := by decide +kernel
theorem dX7_shownOf_65 : decode cX7_shownOf 65 = .ok (.goto 18, 3) := by decide +kernel
theorem dX7_shownOf_68 : decode cX7_shownOf 68 = .ok (.iload_n 2, 1) := by decide +kernel
theorem dX7_shownOf_69 : decode cX7_shownOf 69 = .ok (.ifCond .le 14, 3) := by decide +kernel
theorem dX7_shownOf_72 : decode cX7_shownOf 72 = .ok (.iload_n 3, 1) := by decide +kernel
theorem dX7_shownOf_73 : decode cX7_shownOf 73 = .ok (.iconst 2, 1) := by decide +kernel
theorem dX7_shownOf_74 : decode cX7_shownOf 74 = .ok (.if_icmp .ne 9, 3) := by decide +kernel
theorem dX7_shownOf_77 : decode cX7_shownOf 77 = .ok (.aload_n 0, 1) := by decide +kernel
theorem dX7_shownOf_78 : decode cX7_shownOf 78 = .ok (.bipush 43, 2) := by decide +kernel
theorem dX7_shownOf_80 : decode cX7_shownOf 80 = .ok (.invokevirtual 189, 3) := by decide +kernel
theorem dX7_shownOf_83 : decode cX7_shownOf 83 = .ok (.iload_n 2, 1) := by decide +kernel
theorem dX7_shownOf_84 : decode cX7_shownOf 84 = .ok (.ifCond .ge 8, 3) := by decide +kernel
theorem dX7_shownOf_87 : decode cX7_shownOf 87 = .ok (.iload_n 2, 1) := by decide +kernel
theorem dX7_shownOf_88 : decode cX7_shownOf 88 = .ok (.ineg, 1) := by decide +kernel
theorem dX7_shownOf_89 : decode cX7_shownOf 89 = .ok (.goto 4, 3) := by decide +kernel
theorem dX7_shownOf_92 : decode cX7_shownOf 92 = .ok (.iload_n 2, 1) := by decide +kernel
theorem dX7_shownOf_93 : decode cX7_shownOf 93 = .ok (.istore 4, 2) := by decide +kernel
theorem dX7_shownOf_95 : decode cX7_shownOf 95 = .ok (.aload_n 0, 1) := by decide +kernel
theorem dX7_shownOf_96 : decode cX7_shownOf 96 = .ok (.iload 4, 2) := by decide +kernel
theorem dX7_shownOf_98 : decode cX7_shownOf 98 = .ok (.bipush 100, 2) := by decide +kernel
theorem dX7_shownOf_100 : decode cX7_shownOf 100 = .ok (.idiv, 1) := by decide +kernel
theorem dX7_shownOf_101 : decode cX7_shownOf 101 = .ok (.invokevirtual 192, 3) := by decide +kernel
theorem dX7_shownOf_104 : decode cX7_shownOf 104 = .ok (.iload 4, 2) := by decide +kernel
theorem dX7_shownOf_106 : decode cX7_shownOf 106 = .ok (.bipush 100, 2) := by decide +kernel
theorem dX7_shownOf_108 : decode cX7_shownOf 108 = .ok (.irem, 1) := by decide +kernel
theorem dX7_shownOf_109 : decode cX7_shownOf 109 = .ok (.istore 5, 2) := by decide +kernel
theorem dX7_shownOf_111 : decode cX7_shownOf 111 = .ok (.iload_n 3, 1) := by decide +kernel
theorem dX7_shownOf_112 : decode cX7_shownOf 112 = .ok (.iconst 1, 1) := by decide +kernel
theorem dX7_shownOf_113 : decode cX7_shownOf 113 = .ok (.if_icmp .eq 8, 3) := by decide +kernel
theorem dX7_shownOf_116 : decode cX7_shownOf 116 = .ok (.iload 5, 2) := by decide +kernel
theorem dX7_shownOf_118 : decode cX7_shownOf 118 = .ok (.ifCond .le 21, 3) := by decide +kernel
theorem dX7_shownOf_121 : decode cX7_shownOf 121 = .ok (.aload_n 0, 1) := by decide +kernel
theorem dX7_shownOf_122 : decode cX7_shownOf 122 = .ok (.bipush 46, 2) := by decide +kernel
theorem dX7_shownOf_124 : decode cX7_shownOf 124 = .ok (.invokevirtual 189, 3) := by decide +kernel
theorem dX7_shownOf_127 : decode cX7_shownOf 127 = .ok (.aload_n 0, 1) := by decide +kernel
theorem dX7_shownOf_128 : decode cX7_shownOf 128 = .ok (.bipush 48, 2) := by decide +kernel
theorem dX7_shownOf_130 : decode cX7_shownOf 130 = .ok (.iload 5, 2) := by decide +kernel
theorem dX7_shownOf_132 : decode cX7_shownOf 132 = .ok (.bipush 10, 2) := by decide +kernel
theorem dX7_shownOf_134 : decode cX7_shownOf 134 = .ok (.idiv, 1) := by decide +kernel
theorem dX7_shownOf_135 : decode cX7_shownOf 135 = .ok (.iadd, 1) := by decide +kernel
theorem dX7_shownOf_136 : decode cX7_shownOf 136 = .ok (.invokevirtual 189, 3) := by decide +kernel
theorem dX7_shownOf_139 : decode cX7_shownOf 139 = .ok (.iload_n 3, 1) := by decide +kernel
theorem dX7_shownOf_140 : decode cX7_shownOf 140 = .ok (.iconst 1, 1) := by decide +kernel
theorem dX7_shownOf_141 : decode cX7_shownOf 141 = .ok (.if_icmp .eq 11, 3) := by decide +kernel
theorem dX7_shownOf_144 : decode cX7_shownOf 144 = .ok (.iload 5, 2) := by decide +kernel
theorem dX7_shownOf_146 : decode cX7_shownOf 146 = .ok (.bipush 10, 2) := by decide +kernel
theorem dX7_shownOf_148 : decode cX7_shownOf 148 = .ok (.irem, 1) := by decide +kernel
theorem dX7_shownOf_149 : decode cX7_shownOf 149 = .ok (.ifCond .le 15, 3) := by decide +kernel
theorem dX7_shownOf_152 : decode cX7_shownOf 152 = .ok (.aload_n 0, 1) := by decide +kernel
theorem dX7_shownOf_153 : decode cX7_shownOf 153 = .ok (.bipush 48, 2) := by decide +kernel
theorem dX7_shownOf_155 : decode cX7_shownOf 155 = .ok (.iload 5, 2) := by decide +kernel
theorem dX7_shownOf_157 : decode cX7_shownOf 157 = .ok (.bipush 10, 2) := by decide +kernel
theorem dX7_shownOf_159 : decode cX7_shownOf 159 = .ok (.irem, 1) := by decide +kernel
theorem dX7_shownOf_160 : decode cX7_shownOf 160 = .ok (.iadd, 1) := by decide +kernel
theorem dX7_shownOf_161 : decode cX7_shownOf 161 = .ok (.invokevirtual 189, 3) := by decide +kernel
theorem dX7_shownOf_164 : decode cX7_shownOf 164 = .ok (.aload_n 0, 1) := by decide +kernel
theorem dX7_shownOf_165 : decode cX7_shownOf 165 = .ok (.getfield 186, 3) := by decide +kernel
theorem dX7_shownOf_168 : decode cX7_shownOf 168 = .ok (.ireturn, 1) := by decide +kernel
theorem dX7_shown_0 : decode cX7_shown 0 = .ok (.aload_n 0, 1) := by decide +kernel
theorem dX7_shown_1 : decode cX7_shown 1 = .ok (.iload_n 1, 1) := by decide +kernel
theorem dX7_shown_2 : decode cX7_shown 2 = .ok (.invokevirtual 180, 3) := by decide +kernel
theorem dX7_shown_5 : decode cX7_shown 5 = .ok (.ifCond .eq 7, 3) := by decide +kernel
theorem dX7_shown_8 : decode cX7_shown 8 = .ok (.iload_n 2, 1) := by decide +kernel
theorem dX7_shown_9 : decode cX7_shown 9 = .ok (.ifCond .ge 5, 3) := by decide +kernel
theorem dX7_shown_12 : decode cX7_shown 12 = .ok (.iconst (-1), 1) := by decide +kernel
theorem dX7_shown_13 : decode cX7_shown 13 = .ok (.ireturn, 1) := by decide +kernel
theorem dX7_shown_14 : decode cX7_shown 14 = .ok (.iload_n 2, 1) := by decide +kernel
theorem dX7_shown_15 : decode cX7_shown 15 = .ok (.aload_n 0, 1) := by decide +kernel
theorem dX7_shown_16 : decode cX7_shown 16 = .ok (.iload_n 1, 1) := by decide +kernel
theorem dX7_shown_17 : decode cX7_shown 17 = .ok (.invokevirtual 195, 3) := by decide +kernel
theorem dX7_shown_20 : decode cX7_shown 20 = .ok (.if_icmp .ge 12, 3) := by decide +kernel
theorem dX7_shown_23 : decode cX7_shown 23 = .ok (.aload_n 0, 1) := by decide +kernel
theorem dX7_shown_24 : decode cX7_shown 24 = .ok (.getfield 28, 3) := by decide +kernel
theorem dX7_shown_27 : decode cX7_shown 27 = .ok (.iload_n 2, 1) := by decide +kernel
theorem dX7_shown_28 : decode cX7_shown 28 = .ok (.iaload, 1) := by decide +kernel
theorem dX7_shown_29 : decode cX7_shown 29 = .ok (.goto 5, 3) := by decide +kernel
theorem dX7_shown_32 : decode cX7_shown 32 = .ok (.bipush (-4), 2) := by decide +kernel
theorem dX7_shown_34 : decode cX7_shown 34 = .ok (.ireturn, 1) := by decide +kernel
theorem dX7_off_0 : decode cX7_off 0 = .ok (.iload_n 0, 1) := by decide +kernel
theorem dX7_off_1 : decode cX7_off 1 = .ok (.iload_n 1, 1) := by decide +kernel
theorem dX7_off_2 : decode cX7_off 2 = .ok (.if_icmp .ge 9, 3) := by decide +kernel
theorem dX7_off_5 : decode cX7_off 5 = .ok (.iload_n 1, 1) := by decide +kernel
theorem dX7_off_6 : decode cX7_off 6 = .ok (.iload_n 0, 1) := by decide +kernel
theorem dX7_off_7 : decode cX7_off 7 = .ok (.isub, 1) := by decide +kernel
theorem dX7_off_8 : decode cX7_off 8 = .ok (.goto 6, 3) := by decide +kernel
theorem dX7_off_11 : decode cX7_off 11 = .ok (.iload_n 0, 1) := by decide +kernel
theorem dX7_off_12 : decode cX7_off 12 = .ok (.iload_n 1, 1) := by decide +kernel
theorem dX7_off_13 : decode cX7_off 13 = .ok (.isub, 1) := by decide +kernel
theorem dX7_off_14 : decode cX7_off 14 = .ok (.ireturn, 1) := by decide +kernel
theorem dX7_spreadOf_0 : decode cX7_spreadOf 0 = .ok (.aload_n 0, 1) := by decide +kernel
theorem dX7_spreadOf_1 : decode cX7_spreadOf 1 = .ok (.getfield 22, 3) := by decide +kernel
theorem dX7_spreadOf_4 : decode cX7_spreadOf 4 = .ok (.aload_n 0, 1) := by decide +kernel
theorem dX7_spreadOf_5 : decode cX7_spreadOf 5 = .ok (.getfield 144, 3) := by decide +kernel
theorem dX7_spreadOf_8 : decode cX7_spreadOf 8 = .ok (.iconst 1, 1) := by decide +kernel
theorem dX7_spreadOf_9 : decode cX7_spreadOf 9 = .ok (.isub, 1) := by decide +kernel
theorem dX7_spreadOf_10 : decode cX7_spreadOf 10 = .ok (.iconst 2, 1) := by decide +kernel
theorem dX7_spreadOf_11 : decode cX7_spreadOf 11 = .ok (.idiv, 1) := by decide +kernel
theorem dX7_spreadOf_12 : decode cX7_spreadOf 12 = .ok (.iaload, 1) := by decide +kernel
theorem dX7_spreadOf_13 : decode cX7_spreadOf 13 = .ok (.istore_n 1, 1) := by decide +kernel
theorem dX7_spreadOf_14 : decode cX7_spreadOf 14 = .ok (.iconst 0, 1) := by decide +kernel
theorem dX7_spreadOf_15 : decode cX7_spreadOf 15 = .ok (.istore_n 2, 1) := by decide +kernel
theorem dX7_spreadOf_16 : decode cX7_spreadOf 16 = .ok (.iload_n 2, 1) := by decide +kernel
theorem dX7_spreadOf_17 : decode cX7_spreadOf 17 = .ok (.aload_n 0, 1) := by decide +kernel
theorem dX7_spreadOf_18 : decode cX7_spreadOf 18 = .ok (.getfield 144, 3) := by decide +kernel
theorem dX7_spreadOf_21 : decode cX7_spreadOf 21 = .ok (.if_icmp .ge 27, 3) := by decide +kernel
theorem dX7_spreadOf_24 : decode cX7_spreadOf 24 = .ok (.aload_n 0, 1) := by decide +kernel
theorem dX7_spreadOf_25 : decode cX7_spreadOf 25 = .ok (.getfield 25, 3) := by decide +kernel
theorem dX7_spreadOf_28 : decode cX7_spreadOf 28 = .ok (.iload_n 2, 1) := by decide +kernel
theorem dX7_spreadOf_29 : decode cX7_spreadOf 29 = .ok (.aload_n 0, 1) := by decide +kernel
theorem dX7_spreadOf_30 : decode cX7_spreadOf 30 = .ok (.getfield 22, 3) := by decide +kernel
theorem dX7_spreadOf_33 : decode cX7_spreadOf 33 = .ok (.iload_n 2, 1) := by decide +kernel
theorem dX7_spreadOf_34 : decode cX7_spreadOf 34 = .ok (.iaload, 1) := by decide +kernel
theorem dX7_spreadOf_35 : decode cX7_spreadOf 35 = .ok (.iload_n 1, 1) := by decide +kernel
theorem dX7_spreadOf_36 : decode cX7_spreadOf 36 = .ok (.invokestatic 198, 3) := by decide +kernel
theorem dX7_spreadOf_39 : decode cX7_spreadOf 39 = .ok (.invokestatic 147, 3) := by decide +kernel
theorem dX7_spreadOf_42 : decode cX7_spreadOf 42 = .ok (.iinc 2 1, 3) := by decide +kernel
theorem dX7_spreadOf_45 : decode cX7_spreadOf 45 = .ok (.goto (-29), 3) := by decide +kernel
theorem dX7_spreadOf_48 : decode cX7_spreadOf 48 = .ok (.aload_n 0, 1) := by decide +kernel
theorem dX7_spreadOf_49 : decode cX7_spreadOf 49 = .ok (.getfield 25, 3) := by decide +kernel
theorem dX7_spreadOf_52 : decode cX7_spreadOf 52 = .ok (.aload_n 0, 1) := by decide +kernel
theorem dX7_spreadOf_53 : decode cX7_spreadOf 53 = .ok (.getfield 144, 3) := by decide +kernel
theorem dX7_spreadOf_56 : decode cX7_spreadOf 56 = .ok (.iconst 1, 1) := by decide +kernel
theorem dX7_spreadOf_57 : decode cX7_spreadOf 57 = .ok (.isub, 1) := by decide +kernel
theorem dX7_spreadOf_58 : decode cX7_spreadOf 58 = .ok (.iconst 2, 1) := by decide +kernel
theorem dX7_spreadOf_59 : decode cX7_spreadOf 59 = .ok (.idiv, 1) := by decide +kernel
theorem dX7_spreadOf_60 : decode cX7_spreadOf 60 = .ok (.iaload, 1) := by decide +kernel
theorem dX7_spreadOf_61 : decode cX7_spreadOf 61 = .ok (.ireturn, 1) := by decide +kernel
theorem dX7_middle_0 : decode cX7_middle 0 = .ok (.aload_n 0, 1) := by decide +kernel
theorem dX7_middle_1 : decode cX7_middle 1 = .ok (.iload_n 1, 1) := by decide +kernel
theorem dX7_middle_2 : decode cX7_middle 2 = .ok (.invokevirtual 180, 3) := by decide +kernel
theorem dX7_middle_5 : decode cX7_middle 5 = .ok (.ifCond .eq 13, 3) := by decide +kernel
theorem dX7_middle_8 : decode cX7_middle 8 = .ok (.iload_n 2, 1) := by decide +kernel
theorem dX7_middle_9 : decode cX7_middle 9 = .ok (.i2l, 1) := by decide +kernel
theorem dX7_middle_10 : decode cX7_middle 10 = .ok (.lconst 0, 1) := by decide +kernel
theorem dX7_middle_11 : decode cX7_middle 11 = .ok (.lconst 1, 1) := by decide +kernel
theorem dX7_middle_12 : decode cX7_middle 12 = .ok (.invokestatic 54, 3) := by decide +kernel
theorem dX7_middle_15 : decode cX7_middle 15 = .ok (.ifCond .ne 6, 3) := by decide +kernel
theorem dX7_middle_18 : decode cX7_middle 18 = .ok (.ldc 106, 2) := by decide +kernel
theorem dX7_middle_20 : decode cX7_middle 20 = .ok (.ireturn, 1) := by decide +kernel
theorem dX7_middle_21 : decode cX7_middle 21 = .ok (.aload_n 0, 1) := by decide +kernel
theorem dX7_middle_22 : decode cX7_middle 22 = .ok (.iload_n 1, 1) := by decide +kernel
theorem dX7_middle_23 : decode cX7_middle 23 = .ok (.invokevirtual 151, 3) := by decide +kernel
theorem dX7_middle_26 : decode cX7_middle 26 = .ok (.aload_n 0, 1) := by decide +kernel
theorem dX7_middle_27 : decode cX7_middle 27 = .ok (.getfield 144, 3) := by decide +kernel
theorem dX7_middle_30 : decode cX7_middle 30 = .ok (.ifCond .ne 8, 3) := by decide +kernel
theorem dX7_middle_33 : decode cX7_middle 33 = .ok (.ldc 106, 2) := by decide +kernel
theorem dX7_middle_35 : decode cX7_middle 35 = .ok (.goto 27, 3) := by decide +kernel
theorem dX7_middle_38 : decode cX7_middle 38 = .ok (.iload_n 2, 1) := by decide +kernel
theorem dX7_middle_39 : decode cX7_middle 39 = .ok (.ifCond .ne 19, 3) := by decide +kernel
theorem dX7_middle_42 : decode cX7_middle 42 = .ok (.aload_n 0, 1) := by decide +kernel
theorem dX7_middle_43 : decode cX7_middle 43 = .ok (.getfield 22, 3) := by decide +kernel
theorem dX7_middle_46 : decode cX7_middle 46 = .ok (.aload_n 0, 1) := by decide +kernel
theorem dX7_middle_47 : decode cX7_middle 47 = .ok (.getfield 144, 3) := by decide +kernel
theorem dX7_middle_50 : decode cX7_middle 50 = .ok (.iconst 1, 1) := by decide +kernel
theorem dX7_middle_51 : decode cX7_middle 51 = .ok (.isub, 1) := by decide +kernel
theorem dX7_middle_52 : decode cX7_middle 52 = .ok (.iconst 2, 1) := by decide +kernel
theorem dX7_middle_53 : decode cX7_middle 53 = .ok (.idiv, 1) := by decide +kernel
theorem dX7_middle_54 : decode cX7_middle 54 = .ok (.iaload, 1) := by decide +kernel
theorem dX7_middle_55 : decode cX7_middle 55 = .ok (.goto 7, 3) := by decide +kernel
theorem dX7_middle_58 : decode cX7_middle 58 = .ok (.aload_n 0, 1) := by decide +kernel
theorem dX7_middle_59 : decode cX7_middle 59 = .ok (.invokevirtual 201, 3) := by decide +kernel
theorem dX7_middle_62 : decode cX7_middle 62 = .ok (.ireturn, 1) := by decide +kernel
theorem dX7_isFar_0 : decode cX7_isFar 0 = .ok (.aload_n 0, 1) := by decide +kernel
theorem dX7_isFar_1 : decode cX7_isFar 1 = .ok (.getfield 7, 3) := by decide +kernel
theorem dX7_isFar_4 : decode cX7_isFar 4 = .ok (.iload_n 1, 1) := by decide +kernel
theorem dX7_isFar_5 : decode cX7_isFar 5 = .ok (.iaload, 1) := by decide +kernel
theorem dX7_isFar_6 : decode cX7_isFar 6 = .ok (.ldc 106, 2) := by decide +kernel
theorem dX7_isFar_8 : decode cX7_isFar 8 = .ok (.if_icmp .ne 5, 3) := by decide +kernel
theorem dX7_isFar_11 : decode cX7_isFar 11 = .ok (.iconst 0, 1) := by decide +kernel
theorem dX7_isFar_12 : decode cX7_isFar 12 = .ok (.ireturn, 1) := by decide +kernel
theorem dX7_isFar_13 : decode cX7_isFar 13 = .ok (.aload_n 0, 1) := by decide +kernel
theorem dX7_isFar_14 : decode cX7_isFar 14 = .ok (.iload_n 1, 1) := by decide +kernel
theorem dX7_isFar_15 : decode cX7_isFar 15 = .ok (.invokevirtual 151, 3) := by decide +kernel
theorem dX7_isFar_18 : decode cX7_isFar 18 = .ok (.aload_n 0, 1) := by decide +kernel
theorem dX7_isFar_19 : decode cX7_isFar 19 = .ok (.getfield 22, 3) := by decide +kernel
theorem dX7_isFar_22 : decode cX7_isFar 22 = .ok (.aload_n 0, 1) := by decide +kernel
theorem dX7_isFar_23 : decode cX7_isFar 23 = .ok (.getfield 144, 3) := by decide +kernel
theorem dX7_isFar_26 : decode cX7_isFar 26 = .ok (.iconst 1, 1) := by decide +kernel
theorem dX7_isFar_27 : decode cX7_isFar 27 = .ok (.isub, 1) := by decide +kernel
theorem dX7_isFar_28 : decode cX7_isFar 28 = .ok (.iconst 2, 1) := by decide +kernel
theorem dX7_isFar_29 : decode cX7_isFar 29 = .ok (.idiv, 1) := by decide +kernel
theorem dX7_isFar_30 : decode cX7_isFar 30 = .ok (.iaload, 1) := by decide +kernel
theorem dX7_isFar_31 : decode cX7_isFar 31 = .ok (.istore_n 3, 1) := by decide +kernel
theorem dX7_isFar_32 : decode cX7_isFar 32 = .ok (.aload_n 0, 1) := by decide +kernel
theorem dX7_isFar_33 : decode cX7_isFar 33 = .ok (.getfield 7, 3) := by decide +kernel
theorem dX7_isFar_36 : decode cX7_isFar 36 = .ok (.iload_n 1, 1) := by decide +kernel
theorem dX7_isFar_37 : decode cX7_isFar 37 = .ok (.iaload, 1) := by decide +kernel
theorem dX7_isFar_38 : decode cX7_isFar 38 = .ok (.iload_n 3, 1) := by decide +kernel
theorem dX7_isFar_39 : decode cX7_isFar 39 = .ok (.invokestatic 198, 3) := by decide +kernel
theorem dX7_isFar_42 : decode cX7_isFar 42 = .ok (.i2l, 1) := by decide +kernel
theorem dX7_isFar_43 : decode cX7_isFar 43 = .ok (.iload_n 2, 1) := by decide +kernel
theorem dX7_isFar_44 : decode cX7_isFar 44 = .ok (.i2l, 1) := by decide +kernel
theorem dX7_isFar_45 : decode cX7_isFar 45 = .ok (.aload_n 0, 1) := by decide +kernel
theorem dX7_isFar_46 : decode cX7_isFar 46 = .ok (.invokevirtual 201, 3) := by decide +kernel
theorem dX7_isFar_49 : decode cX7_isFar 49 = .ok (.i2l, 1) := by decide +kernel
theorem dX7_isFar_50 : decode cX7_isFar 50 = .ok (.lmul, 1) := by decide +kernel
theorem dX7_isFar_51 : decode cX7_isFar 51 = .ok (.lcmp, 1) := by decide +kernel
theorem dX7_isFar_52 : decode cX7_isFar 52 = .ok (.ifCond .le 7, 3) := by decide +kernel
theorem dX7_isFar_55 : decode cX7_isFar 55 = .ok (.iconst 1, 1) := by decide +kernel
theorem dX7_isFar_56 : decode cX7_isFar 56 = .ok (.goto 4, 3) := by decide +kernel
theorem dX7_isFar_59 : decode cX7_isFar 59 = .ok (.iconst 0, 1) := by decide +kernel
theorem dX7_isFar_60 : decode cX7_isFar 60 = .ok (.ireturn, 1) := by decide +kernel
theorem dX7_far_0 : decode cX7_far 0 = .ok (.aload_n 0, 1) := by decide +kernel
theorem dX7_far_1 : decode cX7_far 1 = .ok (.iload_n 1, 1) := by decide +kernel
theorem dX7_far_2 : decode cX7_far 2 = .ok (.invokevirtual 180, 3) := by decide +kernel
theorem dX7_far_5 : decode cX7_far 5 = .ok (.ifCond .eq 15, 3) := by decide +kernel
theorem dX7_far_8 : decode cX7_far 8 = .ok (.iload_n 2, 1) := by decide +kernel
theorem dX7_far_9 : decode cX7_far 9 = .ok (.i2l, 1) := by decide +kernel
theorem dX7_far_10 : decode cX7_far 10 = .ok (.lconst 1, 1) := by decide +kernel
theorem dX7_far_11 : decode cX7_far 11 = .ok (.ldc2_w 204, 3) := by decide +kernel
theorem dX7_far_14 : decode cX7_far 14 = .ok (.invokestatic 54, 3) := by decide +kernel
theorem dX7_far_17 : decode cX7_far 17 = .ok (.ifCond .ne 5, 3) := by decide +kernel
theorem dX7_far_20 : decode cX7_far 20 = .ok (.iconst (-1), 1) := by decide +kernel
theorem dX7_far_21 : decode cX7_far 21 = .ok (.ireturn, 1) := by decide +kernel
theorem dX7_far_22 : decode cX7_far 22 = .ok (.aload_n 0, 1) := by decide +kernel
theorem dX7_far_23 : decode cX7_far 23 = .ok (.iload_n 1, 1) := by decide +kernel
theorem dX7_far_24 : decode cX7_far 24 = .ok (.iload_n 2, 1) := by decide +kernel
theorem dX7_far_25 : decode cX7_far 25 = .ok (.invokevirtual 206, 3) := by decide +kernel
theorem dX7_far_28 : decode cX7_far 28 = .ok (.ifCond .eq 7, 3) := by decide +kernel
theorem dX7_far_31 : decode cX7_far 31 = .ok (.iconst 1, 1) := by decide +kernel
theorem dX7_far_32 : decode cX7_far 32 = .ok (.goto 4, 3) := by decide +kernel
theorem dX7_far_35 : decode cX7_far 35 = .ok (.iconst 0, 1) := by decide +kernel
theorem dX7_far_36 : decode cX7_far 36 = .ok (.ireturn, 1) := by decide +kernel
theorem dX7_fars_0 : decode cX7_fars 0 = .ok (.aload_n 0, 1) := by decide +kernel
theorem dX7_fars_1 : decode cX7_fars 1 = .ok (.invokevirtual 128, 3) := by decide +kernel
theorem dX7_fars_4 : decode cX7_fars 4 = .ok (.iload_n 1, 1) := by decide +kernel
theorem dX7_fars_5 : decode cX7_fars 5 = .ok (.i2l, 1) := by decide +kernel
theorem dX7_fars_6 : decode cX7_fars 6 = .ok (.lconst 1, 1) := by decide +kernel
theorem dX7_fars_7 : decode cX7_fars 7 = .ok (.ldc2_w 204, 3) := by decide +kernel
theorem dX7_fars_10 : decode cX7_fars 10 = .ok (.invokestatic 54, 3) := by decide +kernel
theorem dX7_fars_13 : decode cX7_fars 13 = .ok (.ifCond .ne 5, 3) := by decide +kernel
theorem dX7_fars_16 : decode cX7_fars 16 = .ok (.iconst (-1), 1) := by decide +kernel
theorem dX7_fars_17 : decode cX7_fars 17 = .ok (.ireturn, 1) := by decide +kernel
theorem dX7_fars_18 : decode cX7_fars 18 = .ok (.iconst 0, 1) := by decide +kernel
theorem dX7_fars_19 : decode cX7_fars 19 = .ok (.istore_n 2, 1) := by decide +kernel
theorem dX7_fars_20 : decode cX7_fars 20 = .ok (.iconst 0, 1) := by decide +kernel
theorem dX7_fars_21 : decode cX7_fars 21 = .ok (.istore_n 3, 1) := by decide +kernel
theorem dX7_fars_22 : decode cX7_fars 22 = .ok (.iload_n 3, 1) := by decide +kernel
theorem dX7_fars_23 : decode cX7_fars 23 = .ok (.aload_n 0, 1) := by decide +kernel
theorem dX7_fars_24 : decode cX7_fars 24 = .ok (.invokevirtual 141, 3) := by decide +kernel
theorem dX7_fars_27 : decode cX7_fars 27 = .ok (.if_icmp .ge 26, 3) := by decide +kernel
theorem dX7_fars_30 : decode cX7_fars 30 = .ok (.iload_n 2, 1) := by decide +kernel
theorem dX7_fars_31 : decode cX7_fars 31 = .ok (.aload_n 0, 1) := by decide +kernel
theorem dX7_fars_32 : decode cX7_fars 32 = .ok (.iload_n 3, 1) := by decide +kernel
theorem dX7_fars_33 : decode cX7_fars 33 = .ok (.iload_n 1, 1) := by decide +kernel
theorem dX7_fars_34 : decode cX7_fars 34 = .ok (.invokevirtual 206, 3) := by decide +kernel
theorem dX7_fars_37 : decode cX7_fars 37 = .ok (.ifCond .eq 7, 3) := by decide +kernel
theorem dX7_fars_40 : decode cX7_fars 40 = .ok (.iconst 1, 1) := by decide +kernel
theorem dX7_fars_41 : decode cX7_fars 41 = .ok (.goto 4, 3) := by decide +kernel
theorem dX7_fars_44 : decode cX7_fars 44 = .ok (.iconst 0, 1) := by decide +kernel
theorem dX7_fars_45 : decode cX7_fars 45 = .ok (.iadd, 1) := by decide +kernel
theorem dX7_fars_46 : decode cX7_fars 46 = .ok (.istore_n 2, 1) := by decide +kernel
theorem dX7_fars_47 : decode cX7_fars 47 = .ok (.iinc 3 1, 3) := by decide +kernel
theorem dX7_fars_50 : decode cX7_fars 50 = .ok (.goto (-28), 3) := by decide +kernel
theorem dX7_fars_53 : decode cX7_fars 53 = .ok (.iload_n 2, 1) := by decide +kernel
theorem dX7_fars_54 : decode cX7_fars 54 = .ok (.ireturn, 1) := by decide +kernel
theorem dX7_above_0 : decode cX7_above 0 = .ok (.aload_n 0, 1) := by decide +kernel
theorem dX7_above_1 : decode cX7_above 1 = .ok (.invokevirtual 128, 3) := by decide +kernel
theorem dX7_above_4 : decode cX7_above 4 = .ok (.iload_n 2, 1) := by decide +kernel
theorem dX7_above_5 : decode cX7_above 5 = .ok (.i2l, 1) := by decide +kernel
theorem dX7_above_6 : decode cX7_above 6 = .ok (.lconst 0, 1) := by decide +kernel
theorem dX7_above_7 : decode cX7_above 7 = .ok (.ldc2_w 210, 3) := by decide +kernel
theorem dX7_above_10 : decode cX7_above 10 = .ok (.invokestatic 54, 3) := by decide +kernel
theorem dX7_above_13 : decode cX7_above 13 = .ok (.ifCond .ne 5, 3) := by decide +kernel
theorem dX7_above_16 : decode cX7_above 16 = .ok (.iconst (-1), 1) := by decide +kernel
theorem dX7_above_17 : decode cX7_above 17 = .ok (.ireturn, 1) := by decide +kernel
theorem dX7_above_18 : decode cX7_above 18 = .ok (.iconst 0, 1) := by decide +kernel
theorem dX7_above_19 : decode cX7_above 19 = .ok (.istore_n 3, 1) := by decide +kernel
theorem dX7_above_20 : decode cX7_above 20 = .ok (.bipush (-4), 2) := by decide +kernel
theorem dX7_above_22 : decode cX7_above 22 = .ok (.istore 4, 2) := by decide +kernel
theorem dX7_above_24 : decode cX7_above 24 = .ok (.bipush (-4), 2) := by decide +kernel
theorem dX7_above_26 : decode cX7_above 26 = .ok (.istore 5, 2) := by decide +kernel
theorem dX7_above_28 : decode cX7_above 28 = .ok (.iconst 0, 1) := by decide +kernel
theorem dX7_above_29 : decode cX7_above 29 = .ok (.istore 6, 2) := by decide +kernel
theorem dX7_above_31 : decode cX7_above 31 = .ok (.iconst 0, 1) := by decide +kernel
theorem dX7_above_32 : decode cX7_above 32 = .ok (.istore 7, 2) := by decide +kernel
theorem dX7_above_34 : decode cX7_above 34 = .ok (.iconst 0, 1) := by decide +kernel
theorem dX7_above_35 : decode cX7_above 35 = .ok (.istore 8, 2) := by decide +kernel
theorem dX7_above_37 : decode cX7_above 37 = .ok (.iload 8, 2) := by decide +kernel
theorem dX7_above_39 : decode cX7_above 39 = .ok (.aload_n 0, 1) := by decide +kernel
theorem dX7_above_40 : decode cX7_above 40 = .ok (.invokevirtual 141, 3) := by decide +kernel
theorem dX7_above_43 : decode cX7_above 43 = .ok (.if_icmp .ge 121, 3) := by decide +kernel
theorem dX7_above_46 : decode cX7_above 46 = .ok (.aload_n 0, 1) := by decide +kernel
theorem dX7_above_47 : decode cX7_above 47 = .ok (.iload 8, 2) := by decide +kernel
theorem dX7_above_49 : decode cX7_above 49 = .ok (.invokevirtual 168, 3) := by decide +kernel
theorem dX7_above_52 : decode cX7_above 52 = .ok (.ifCond .eq 24, 3) := by decide +kernel
theorem dX7_above_55 : decode cX7_above 55 = .ok (.aload_n 0, 1) := by decide +kernel
theorem dX7_above_56 : decode cX7_above 56 = .ok (.getfield 163, 3) := by decide +kernel
theorem dX7_above_59 : decode cX7_above 59 = .ok (.i2l, 1) := by decide +kernel
theorem dX7_above_60 : decode cX7_above 60 = .ok (.iload_n 1, 1) := by decide +kernel
theorem dX7_above_61 : decode cX7_above 61 = .ok (.i2l, 1) := by decide +kernel
theorem dX7_above_62 : decode cX7_above 62 = .ok (.aload_n 0, 1) := by decide +kernel
theorem dX7_above_63 : decode cX7_above 63 = .ok (.getfield 160, 3) := by decide +kernel
theorem dX7_above_66 : decode cX7_above 66 = .ok (.i2l, 1) := by decide +kernel
theorem dX7_above_67 : decode cX7_above 67 = .ok (.lmul, 1) := by decide +kernel
theorem dX7_above_68 : decode cX7_above 68 = .ok (.lcmp, 1) := by decide +kernel
theorem dX7_above_69 : decode cX7_above 69 = .ok (.ifCond .le 7, 3) := by decide +kernel
theorem dX7_above_72 : decode cX7_above 72 = .ok (.iconst 1, 1) := by decide +kernel
theorem dX7_above_73 : decode cX7_above 73 = .ok (.goto 4, 3) := by decide +kernel
theorem dX7_above_76 : decode cX7_above 76 = .ok (.iconst 0, 1) := by decide +kernel
theorem dX7_above_77 : decode cX7_above 77 = .ok (.istore 9, 2) := by decide +kernel
theorem dX7_above_79 : decode cX7_above 79 = .ok (.iload 9, 2) := by decide +kernel
theorem dX7_above_81 : decode cX7_above 81 = .ok (.ifCond .eq 10, 3) := by decide +kernel
theorem dX7_above_84 : decode cX7_above 84 = .ok (.iload 6, 2) := by decide +kernel
theorem dX7_above_86 : decode cX7_above 86 = .ok (.iconst 1, 1) := by decide +kernel
theorem dX7_above_87 : decode cX7_above 87 = .ok (.iadd, 1) := by decide +kernel
theorem dX7_above_88 : decode cX7_above 88 = .ok (.goto 4, 3) := by decide +kernel
theorem dX7_above_91 : decode cX7_above 91 = .ok (.iconst 0, 1) := by decide +kernel
theorem dX7_above_92 : decode cX7_above 92 = .ok (.istore 6, 2) := by decide +kernel
theorem dX7_above_94 : decode cX7_above 94 = .ok (.iload 6, 2) := by decide +kernel
theorem dX7_above_96 : decode cX7_above 96 = .ok (.iload 7, 2) := by decide +kernel
theorem dX7_above_98 : decode cX7_above 98 = .ok (.if_icmp .le 8, 3) := by decide +kernel
theorem dX7_above_101 : decode cX7_above 101 = .ok (.iload 6, 2) := by decide +kernel
theorem dX7_above_103 : decode cX7_above 103 = .ok (.goto 5, 3) := by decide +kernel
theorem dX7_above_106 : decode cX7_above 106 = .ok (.iload 7, 2) := by decide +kernel
theorem dX7_above_108 : decode cX7_above 108 = .ok (.istore 7, 2) := by decide +kernel
theorem dX7_above_110 : decode cX7_above 110 = .ok (.iload_n 3, 1) := by decide +kernel
theorem dX7_above_111 : decode cX7_above 111 = .ok (.iload 9, 2) := by decide +kernel
theorem dX7_above_113 : decode cX7_above 113 = .ok (.ifCond .eq 7, 3) := by decide +kernel
theorem dX7_above_116 : decode cX7_above 116 = .ok (.iconst 1, 1) := by decide +kernel
theorem dX7_above_117 : decode cX7_above 117 = .ok (.goto 4, 3) := by decide +kernel
theorem dX7_above_120 : decode cX7_above 120 = .ok (.iconst 0, 1) := by decide +kernel
theorem dX7_above_121 : decode cX7_above 121 = .ok (.iadd, 1) := by decide +kernel
theorem dX7_above_122 : decode cX7_above 122 = .ok (.istore_n 3, 1) := by decide +kernel
theorem dX7_above_123 : decode cX7_above 123 = .ok (.iload 9, 2) := by decide +kernel
theorem dX7_above_125 : decode cX7_above 125 = .ok (.ifCond .eq 15, 3) := by decide +kernel
theorem dX7_above_128 : decode cX7_above 128 = .ok (.iload 4, 2) := by decide +kernel
theorem dX7_above_130 : decode cX7_above 130 = .ok (.bipush (-4), 2) := by decide +kernel
theorem dX7_above_132 : decode cX7_above 132 = .ok (.if_icmp .ne 8, 3) := by decide +kernel
theorem dX7_above_135 : decode cX7_above 135 = .ok (.iload 8, 2) := by decide +kernel
theorem dX7_above_137 : decode cX7_above 137 = .ok (.goto 5, 3) := by decide +kernel
theorem dX7_above_140 : decode cX7_above 140 = .ok (.iload 4, 2) := by decide +kernel
theorem dX7_above_142 : decode cX7_above 142 = .ok (.istore 4, 2) := by decide +kernel
theorem dX7_above_144 : decode cX7_above 144 = .ok (.iload 9, 2) := by decide +kernel
theorem dX7_above_146 : decode cX7_above 146 = .ok (.ifCond .eq 8, 3) := by decide +kernel
theorem dX7_above_149 : decode cX7_above 149 = .ok (.iload 8, 2) := by decide +kernel
theorem dX7_above_151 : decode cX7_above 151 = .ok (.goto 5, 3) := by decide +kernel
theorem dX7_above_154 : decode cX7_above 154 = .ok (.iload 5, 2) := by decide +kernel
theorem dX7_above_156 : decode cX7_above 156 = .ok (.istore 5, 2) := by decide +kernel
theorem dX7_above_158 : decode cX7_above 158 = .ok (.iinc 8 1, 3) := by decide +kernel
theorem dX7_above_161 : decode cX7_above 161 = .ok (.goto (-124), 3) := by decide +kernel
theorem dX7_above_164 : decode cX7_above 164 = .ok (.iload_n 2, 1) := by decide +kernel
theorem dX7_above_165 : decode cX7_above 165 = .ok (.ifCond .ne 7, 3) := by decide +kernel
theorem dX7_above_168 : decode cX7_above 168 = .ok (.iload_n 3, 1) := by decide +kernel
theorem dX7_above_169 : decode cX7_above 169 = .ok (.goto 25, 3) := by decide +kernel
theorem dX7_above_172 : decode cX7_above 172 = .ok (.iload_n 2, 1) := by decide +kernel
theorem dX7_above_173 : decode cX7_above 173 = .ok (.iconst 1, 1) := by decide +kernel
theorem dX7_above_174 : decode cX7_above 174 = .ok (.if_icmp .ne 8, 3) := by decide +kernel
theorem dX7_above_177 : decode cX7_above 177 = .ok (.iload 4, 2) := by decide +kernel
theorem dX7_above_179 : decode cX7_above 179 = .ok (.goto 15, 3) := by decide +kernel
theorem dX7_above_182 : decode cX7_above 182 = .ok (.iload_n 2, 1) := by decide +kernel
theorem dX7_above_183 : decode cX7_above 183 = .ok (.iconst 2, 1) := by decide +kernel
theorem dX7_above_184 : decode cX7_above 184 = .ok (.if_icmp .ne 8, 3) := by decide +kernel
theorem dX7_above_187 : decode cX7_above 187 = .ok (.iload 5, 2) := by decide +kernel
theorem dX7_above_189 : decode cX7_above 189 = .ok (.goto 5, 3) := by decide +kernel
theorem dX7_above_192 : decode cX7_above 192 = .ok (.iload 7, 2) := by decide +kernel
theorem dX7_above_194 : decode cX7_above 194 = .ok (.ireturn, 1) := by decide +kernel
theorem dX7_most_0 : decode cX7_most 0 = .ok (.aload_n 0, 1) := by decide +kernel
theorem dX7_most_1 : decode cX7_most 1 = .ok (.invokevirtual 128, 3) := by decide +kernel
theorem dX7_most_4 : decode cX7_most 4 = .ok (.iload_n 1, 1) := by decide +kernel
theorem dX7_most_5 : decode cX7_most 5 = .ok (.i2l, 1) := by decide +kernel
theorem dX7_most_6 : decode cX7_most 6 = .ok (.lconst 0, 1) := by decide +kernel
theorem dX7_most_7 : decode cX7_most 7 = .ok (.lconst 1, 1) := by decide +kernel
theorem dX7_most_8 : decode cX7_most 8 = .ok (.invokestatic 54, 3) := by decide +kernel
theorem dX7_most_11 : decode cX7_most 11 = .ok (.ifCond .ne 5, 3) := by decide +kernel
theorem dX7_most_14 : decode cX7_most 14 = .ok (.iconst (-1), 1) := by decide +kernel
theorem dX7_most_15 : decode cX7_most 15 = .ok (.ireturn, 1) := by decide +kernel
theorem dX7_most_16 : decode cX7_most 16 = .ok (.bipush (-4), 2) := by decide +kernel
theorem dX7_most_18 : decode cX7_most 18 = .ok (.istore_n 2, 1) := by decide +kernel
theorem dX7_most_19 : decode cX7_most 19 = .ok (.iconst 0, 1) := by decide +kernel
theorem dX7_most_20 : decode cX7_most 20 = .ok (.istore_n 3, 1) := by decide +kernel
theorem dX7_most_21 : decode cX7_most 21 = .ok (.iconst 0, 1) := by decide +kernel
theorem dX7_most_22 : decode cX7_most 22 = .ok (.istore 4, 2) := by decide +kernel
theorem dX7_most_24 : decode cX7_most 24 = .ok (.iload 4, 2) := by decide +kernel
theorem dX7_most_26 : decode cX7_most 26 = .ok (.aload_n 0, 1) := by decide +kernel
theorem dX7_most_27 : decode cX7_most 27 = .ok (.invokevirtual 141, 3) := by decide +kernel
theorem dX7_most_30 : decode cX7_most 30 = .ok (.if_icmp .ge 80, 3) := by decide +kernel
theorem dX7_most_33 : decode cX7_most 33 = .ok (.aload_n 0, 1) := by decide +kernel
theorem dX7_most_34 : decode cX7_most 34 = .ok (.iload 4, 2) := by decide +kernel
theorem dX7_most_36 : decode cX7_most 36 = .ok (.invokevirtual 168, 3) := by decide +kernel
theorem dX7_most_39 : decode cX7_most 39 = .ok (.ifCond .eq 65, 3) := by decide +kernel
theorem dX7_most_42 : decode cX7_most 42 = .ok (.iload_n 2, 1) := by decide +kernel
theorem dX7_most_43 : decode cX7_most 43 = .ok (.bipush (-4), 2) := by decide +kernel
theorem dX7_most_45 : decode cX7_most 45 = .ok (.if_icmp .eq 26, 3) := by decide +kernel
theorem dX7_most_48 : decode cX7_most 48 = .ok (.iload_n 1, 1) := by decide +kernel
theorem dX7_most_49 : decode cX7_most 49 = .ok (.ifCond .ne 14, 3) := by decide +kernel
theorem dX7_most_52 : decode cX7_most 52 = .ok (.aload_n 0, 1) := by decide +kernel
theorem dX7_most_53 : decode cX7_most 53 = .ok (.getfield 163, 3) := by decide +kernel
theorem dX7_most_56 : decode cX7_most 56 = .ok (.iload_n 3, 1) := by decide +kernel
theorem dX7_most_57 : decode cX7_most 57 = .ok (.if_icmp .ge 18, 3) := by decide +kernel
theorem dX7_most_60 : decode cX7_most 60 = .ok (.goto 11, 3) := by decide +kernel
theorem dX7_most_63 : decode cX7_most 63 = .ok (.aload_n 0, 1) := by decide +kernel
theorem dX7_most_64 : decode cX7_most 64 = .ok (.getfield 163, 3) := by decide +kernel
theorem dX7_most_67 : decode cX7_most 67 = .ok (.iload_n 3, 1) := by decide +kernel
theorem dX7_most_68 : decode cX7_most 68 = .ok (.if_icmp .le 7, 3) := by decide +kernel
theorem dX7_most_71 : decode cX7_most 71 = .ok (.iconst 1, 1) := by decide +kernel
theorem dX7_most_72 : decode cX7_most 72 = .ok (.goto 4, 3) := by decide +kernel
theorem dX7_most_75 : decode cX7_most 75 = .ok (.iconst 0, 1) := by decide +kernel
theorem dX7_most_76 : decode cX7_most 76 = .ok (.istore 5, 2) := by decide +kernel
theorem dX7_most_78 : decode cX7_most 78 = .ok (.iload 5, 2) := by decide +kernel
theorem dX7_most_80 : decode cX7_most 80 = .ok (.ifCond .eq 8, 3) := by decide +kernel
theorem dX7_most_83 : decode cX7_most 83 = .ok (.iload 4, 2) := by decide +kernel
theorem dX7_most_85 : decode cX7_most 85 = .ok (.goto 4, 3) := by decide +kernel
theorem dX7_most_88 : decode cX7_most 88 = .ok (.iload_n 2, 1) := by decide +kernel
theorem dX7_most_89 : decode cX7_most 89 = .ok (.istore_n 2, 1) := by decide +kernel
theorem dX7_most_90 : decode cX7_most 90 = .ok (.iload 5, 2) := by decide +kernel
theorem dX7_most_92 : decode cX7_most 92 = .ok (.ifCond .eq 10, 3) := by decide +kernel
theorem dX7_most_95 : decode cX7_most 95 = .ok (.aload_n 0, 1) := by decide +kernel
theorem dX7_most_96 : decode cX7_most 96 = .ok (.getfield 163, 3) := by decide +kernel
theorem dX7_most_99 : decode cX7_most 99 = .ok (.goto 4, 3) := by decide +kernel
theorem dX7_most_102 : decode cX7_most 102 = .ok (.iload_n 3, 1) := by decide +kernel
theorem dX7_most_103 : decode cX7_most 103 = .ok (.istore_n 3, 1) := by decide +kernel
theorem dX7_most_104 : decode cX7_most 104 = .ok (.iinc 4 1, 3) := by decide +kernel
theorem dX7_most_107 : decode cX7_most 107 = .ok (.goto (-83), 3) := by decide +kernel
theorem dX7_most_110 : decode cX7_most 110 = .ok (.iload_n 2, 1) := by decide +kernel
theorem dX7_most_111 : decode cX7_most 111 = .ok (.ireturn, 1) := by decide +kernel
theorem dX7_comes_0 : decode cX7_comes 0 = .ok (.aload_n 0, 1) := by decide +kernel
theorem dX7_comes_1 : decode cX7_comes 1 = .ok (.invokevirtual 141, 3) := by decide +kernel
theorem dX7_comes_4 : decode cX7_comes 4 = .ok (.bipush 96, 2) := by decide +kernel
theorem dX7_comes_6 : decode cX7_comes 6 = .ok (.if_icmp .ne 6, 3) := by decide +kernel
theorem dX7_comes_9 : decode cX7_comes 9 = .ok (.bipush (-3), 2) := by decide +kernel
theorem dX7_comes_11 : decode cX7_comes 11 = .ok (.ireturn, 1) := by decide +kernel
theorem dX7_comes_12 : decode cX7_comes 12 = .ok (.aload_n 0, 1) := by decide +kernel
theorem dX7_comes_13 : decode cX7_comes 13 = .ok (.getfield 7, 3) := by decide +kernel
theorem dX7_comes_16 : decode cX7_comes 16 = .ok (.aload_n 0, 1) := by decide +kernel
theorem dX7_comes_17 : decode cX7_comes 17 = .ok (.invokevirtual 141, 3) := by decide +kernel
theorem dX7_comes_20 : decode cX7_comes 20 = .ok (.iload_n 1, 1) := by decide +kernel
theorem dX7_comes_21 : decode cX7_comes 21 = .ok (.iastore, 1) := by decide +kernel
theorem dX7_comes_22 : decode cX7_comes 22 = .ok (.aload_n 0, 1) := by decide +kernel
theorem dX7_comes_23 : decode cX7_comes 23 = .ok (.getfield 7, 3) := by decide +kernel
theorem dX7_comes_26 : decode cX7_comes 26 = .ok (.bipush 102, 2) := by decide +kernel
theorem dX7_comes_28 : decode cX7_comes 28 = .ok (.dup2, 1) := by decide +kernel
theorem dX7_comes_29 : decode cX7_comes 29 = .ok (.iaload, 1) := by decide +kernel
theorem dX7_comes_30 : decode cX7_comes 30 = .ok (.iconst 1, 1) := by decide +kernel
theorem dX7_comes_31 : decode cX7_comes 31 = .ok (.iadd, 1) := by decide +kernel
theorem dX7_comes_32 : decode cX7_comes 32 = .ok (.iastore, 1) := by decide +kernel
theorem dX7_comes_33 : decode cX7_comes 33 = .ok (.aload_n 0, 1) := by decide +kernel
theorem dX7_comes_34 : decode cX7_comes 34 = .ok (.invokevirtual 141, 3) := by decide +kernel
theorem dX7_comes_37 : decode cX7_comes 37 = .ok (.ireturn, 1) := by decide +kernel
theorem dX7_isReading_0 : decode cX7_isReading 0 = .ok (.iload_n 0, 1) := by decide +kernel
theorem dX7_isReading_1 : decode cX7_isReading 1 = .ok (.i2l, 1) := by decide +kernel
theorem dX7_isReading_2 : decode cX7_isReading 2 = .ok (.ldc2_w 212, 3) := by decide +kernel
theorem dX7_isReading_5 : decode cX7_isReading 5 = .ok (.ldc2_w 214, 3) := by decide +kernel
theorem dX7_isReading_8 : decode cX7_isReading 8 = .ok (.invokestatic 54, 3) := by decide +kernel
theorem dX7_isReading_11 : decode cX7_isReading 11 = .ok (.ireturn, 1) := by decide +kernel
theorem dX7_add_0 : decode cX7_add 0 = .ok (.aload_n 0, 1) := by decide +kernel
theorem dX7_add_1 : decode cX7_add 1 = .ok (.invokevirtual 128, 3) := by decide +kernel
theorem dX7_add_4 : decode cX7_add 4 = .ok (.iload_n 1, 1) := by decide +kernel
theorem dX7_add_5 : decode cX7_add 5 = .ok (.invokestatic 216, 3) := by decide +kernel
theorem dX7_add_8 : decode cX7_add 8 = .ok (.ifCond .eq 11, 3) := by decide +kernel
theorem dX7_add_11 : decode cX7_add 11 = .ok (.aload_n 0, 1) := by decide +kernel
theorem dX7_add_12 : decode cX7_add 12 = .ok (.iload_n 1, 1) := by decide +kernel
theorem dX7_add_13 : decode cX7_add 13 = .ok (.invokevirtual 219, 3) := by decide +kernel
theorem dX7_add_16 : decode cX7_add 16 = .ok (.goto 4, 3) := by decide +kernel
theorem dX7_add_19 : decode cX7_add 19 = .ok (.iconst (-1), 1) := by decide +kernel
theorem dX7_add_20 : decode cX7_add 20 = .ok (.ireturn, 1) := by decide +kernel
theorem dX7_miss_0 : decode cX7_miss 0 = .ok (.aload_n 0, 1) := by decide +kernel
theorem dX7_miss_1 : decode cX7_miss 1 = .ok (.invokevirtual 128, 3) := by decide +kernel
theorem dX7_miss_4 : decode cX7_miss 4 = .ok (.aload_n 0, 1) := by decide +kernel
theorem dX7_miss_5 : decode cX7_miss 5 = .ok (.ldc 106, 2) := by decide +kernel
theorem dX7_miss_7 : decode cX7_miss 7 = .ok (.invokevirtual 219, 3) := by decide +kernel
theorem dX7_miss_10 : decode cX7_miss 10 = .ok (.ireturn, 1) := by decide +kernel
theorem dX7_set_0 : decode cX7_set 0 = .ok (.aload_n 0, 1) := by decide +kernel
theorem dX7_set_1 : decode cX7_set 1 = .ok (.iload_n 1, 1) := by decide +kernel
theorem dX7_set_2 : decode cX7_set 2 = .ok (.invokevirtual 180, 3) := by decide +kernel
theorem dX7_set_5 : decode cX7_set 5 = .ok (.ifCond .eq 10, 3) := by decide +kernel
theorem dX7_set_8 : decode cX7_set 8 = .ok (.iload_n 2, 1) := by decide +kernel
theorem dX7_set_9 : decode cX7_set 9 = .ok (.invokestatic 216, 3) := by decide +kernel
theorem dX7_set_12 : decode cX7_set 12 = .ok (.ifCond .ne 5, 3) := by decide +kernel
theorem dX7_set_15 : decode cX7_set 15 = .ok (.iconst (-1), 1) := by decide +kernel
theorem dX7_set_16 : decode cX7_set 16 = .ok (.ireturn, 1) := by decide +kernel
theorem dX7_set_17 : decode cX7_set 17 = .ok (.aload_n 0, 1) := by decide +kernel
theorem dX7_set_18 : decode cX7_set 18 = .ok (.getfield 7, 3) := by decide +kernel
theorem dX7_set_21 : decode cX7_set 21 = .ok (.iload_n 1, 1) := by decide +kernel
theorem dX7_set_22 : decode cX7_set 22 = .ok (.iaload, 1) := by decide +kernel
theorem dX7_set_23 : decode cX7_set 23 = .ok (.ldc 106, 2) := by decide +kernel
theorem dX7_set_25 : decode cX7_set 25 = .ok (.if_icmp .ne 7, 3) := by decide +kernel
theorem dX7_set_28 : decode cX7_set 28 = .ok (.iconst 1, 1) := by decide +kernel
theorem dX7_set_29 : decode cX7_set 29 = .ok (.goto 4, 3) := by decide +kernel
theorem dX7_set_32 : decode cX7_set 32 = .ok (.iconst 0, 1) := by decide +kernel
theorem dX7_set_33 : decode cX7_set 33 = .ok (.istore_n 3, 1) := by decide +kernel
theorem dX7_set_34 : decode cX7_set 34 = .ok (.aload_n 0, 1) := by decide +kernel
theorem dX7_set_35 : decode cX7_set 35 = .ok (.getfield 7, 3) := by decide +kernel
theorem dX7_set_38 : decode cX7_set 38 = .ok (.iload_n 1, 1) := by decide +kernel
theorem dX7_set_39 : decode cX7_set 39 = .ok (.iload_n 2, 1) := by decide +kernel
theorem dX7_set_40 : decode cX7_set 40 = .ok (.iastore, 1) := by decide +kernel
theorem dX7_set_41 : decode cX7_set 41 = .ok (.iload_n 3, 1) := by decide +kernel
theorem dX7_set_42 : decode cX7_set 42 = .ok (.ireturn, 1) := by decide +kernel
theorem dX7_lose_0 : decode cX7_lose 0 = .ok (.aload_n 0, 1) := by decide +kernel
theorem dX7_lose_1 : decode cX7_lose 1 = .ok (.iload_n 1, 1) := by decide +kernel
theorem dX7_lose_2 : decode cX7_lose 2 = .ok (.invokevirtual 180, 3) := by decide +kernel
theorem dX7_lose_5 : decode cX7_lose 5 = .ok (.ifCond .ne 5, 3) := by decide +kernel
theorem dX7_lose_8 : decode cX7_lose 8 = .ok (.iconst (-1), 1) := by decide +kernel
theorem dX7_lose_9 : decode cX7_lose 9 = .ok (.ireturn, 1) := by decide +kernel
theorem dX7_lose_10 : decode cX7_lose 10 = .ok (.aload_n 0, 1) := by decide +kernel
theorem dX7_lose_11 : decode cX7_lose 11 = .ok (.getfield 7, 3) := by decide +kernel
theorem dX7_lose_14 : decode cX7_lose 14 = .ok (.iload_n 1, 1) := by decide +kernel
theorem dX7_lose_15 : decode cX7_lose 15 = .ok (.iaload, 1) := by decide +kernel
theorem dX7_lose_16 : decode cX7_lose 16 = .ok (.ldc 106, 2) := by decide +kernel
theorem dX7_lose_18 : decode cX7_lose 18 = .ok (.if_icmp .ne 7, 3) := by decide +kernel
theorem dX7_lose_21 : decode cX7_lose 21 = .ok (.iconst 1, 1) := by decide +kernel
theorem dX7_lose_22 : decode cX7_lose 22 = .ok (.goto 4, 3) := by decide +kernel
theorem dX7_lose_25 : decode cX7_lose 25 = .ok (.iconst 0, 1) := by decide +kernel
theorem dX7_lose_26 : decode cX7_lose 26 = .ok (.istore_n 2, 1) := by decide +kernel
theorem dX7_lose_27 : decode cX7_lose 27 = .ok (.aload_n 0, 1) := by decide +kernel
theorem dX7_lose_28 : decode cX7_lose 28 = .ok (.getfield 7, 3) := by decide +kernel
theorem dX7_lose_31 : decode cX7_lose 31 = .ok (.iload_n 1, 1) := by decide +kernel
theorem dX7_lose_32 : decode cX7_lose 32 = .ok (.ldc 106, 2) := by decide +kernel
theorem dX7_lose_34 : decode cX7_lose 34 = .ok (.iastore, 1) := by decide +kernel
theorem dX7_lose_35 : decode cX7_lose 35 = .ok (.iload_n 2, 1) := by decide +kernel
theorem dX7_lose_36 : decode cX7_lose 36 = .ok (.ireturn, 1) := by decide +kernel
theorem dX7_drop_0 : decode cX7_drop 0 = .ok (.aload_n 0, 1) := by decide +kernel
theorem dX7_drop_1 : decode cX7_drop 1 = .ok (.invokevirtual 128, 3) := by decide +kernel
theorem dX7_drop_4 : decode cX7_drop 4 = .ok (.iload_n 1, 1) := by decide +kernel
theorem dX7_drop_5 : decode cX7_drop 5 = .ok (.i2l, 1) := by decide +kernel
theorem dX7_drop_6 : decode cX7_drop 6 = .ok (.lconst 0, 1) := by decide +kernel
theorem dX7_drop_7 : decode cX7_drop 7 = .ok (.aload_n 0, 1) := by decide +kernel
theorem dX7_drop_8 : decode cX7_drop 8 = .ok (.invokevirtual 141, 3) := by decide +kernel
theorem dX7_drop_11 : decode cX7_drop 11 = .ok (.i2l, 1) := by decide +kernel
theorem dX7_drop_12 : decode cX7_drop 12 = .ok (.invokestatic 54, 3) := by decide +kernel
theorem dX7_drop_15 : decode cX7_drop 15 = .ok (.ifCond .ne 5, 3) := by decide +kernel
theorem dX7_drop_18 : decode cX7_drop 18 = .ok (.iconst (-1), 1) := by decide +kernel
theorem dX7_drop_19 : decode cX7_drop 19 = .ok (.ireturn, 1) := by decide +kernel
theorem dX7_drop_20 : decode cX7_drop 20 = .ok (.aload_n 0, 1) := by decide +kernel
theorem dX7_drop_21 : decode cX7_drop 21 = .ok (.getfield 7, 3) := by decide +kernel
theorem dX7_drop_24 : decode cX7_drop 24 = .ok (.bipush 102, 2) := by decide +kernel
theorem dX7_drop_26 : decode cX7_drop 26 = .ok (.dup2, 1) := by decide +kernel
theorem dX7_drop_27 : decode cX7_drop 27 = .ok (.iaload, 1) := by decide +kernel
theorem dX7_drop_28 : decode cX7_drop 28 = .ok (.iload_n 1, 1) := by decide +kernel
theorem dX7_drop_29 : decode cX7_drop 29 = .ok (.isub, 1) := by decide +kernel
theorem dX7_drop_30 : decode cX7_drop 30 = .ok (.iastore, 1) := by decide +kernel
theorem dX7_drop_31 : decode cX7_drop 31 = .ok (.iconst 0, 1) := by decide +kernel
theorem dX7_drop_32 : decode cX7_drop 32 = .ok (.istore_n 2, 1) := by decide +kernel
theorem dX7_drop_33 : decode cX7_drop 33 = .ok (.iload_n 2, 1) := by decide +kernel
theorem dX7_drop_34 : decode cX7_drop 34 = .ok (.aload_n 0, 1) := by decide +kernel
theorem dX7_drop_35 : decode cX7_drop 35 = .ok (.invokevirtual 141, 3) := by decide +kernel
theorem dX7_drop_38 : decode cX7_drop 38 = .ok (.if_icmp .ge 23, 3) := by decide +kernel
theorem dX7_drop_41 : decode cX7_drop 41 = .ok (.aload_n 0, 1) := by decide +kernel
theorem dX7_drop_42 : decode cX7_drop 42 = .ok (.getfield 7, 3) := by decide +kernel
theorem dX7_drop_45 : decode cX7_drop 45 = .ok (.iload_n 2, 1) := by decide +kernel
theorem dX7_drop_46 : decode cX7_drop 46 = .ok (.aload_n 0, 1) := by decide +kernel
theorem dX7_drop_47 : decode cX7_drop 47 = .ok (.getfield 7, 3) := by decide +kernel
theorem dX7_drop_50 : decode cX7_drop 50 = .ok (.iload_n 2, 1) := by decide +kernel
theorem dX7_drop_51 : decode cX7_drop 51 = .ok (.iload_n 1, 1) := by decide +kernel
theorem dX7_drop_52 : decode cX7_drop 52 = .ok (.iadd, 1) := by decide +kernel
theorem dX7_drop_53 : decode cX7_drop 53 = .ok (.iaload, 1) := by decide +kernel
theorem dX7_drop_54 : decode cX7_drop 54 = .ok (.iastore, 1) := by decide +kernel
theorem dX7_drop_55 : decode cX7_drop 55 = .ok (.iinc 2 1, 3) := by decide +kernel
theorem dX7_drop_58 : decode cX7_drop 58 = .ok (.goto (-25), 3) := by decide +kernel
theorem dX7_drop_61 : decode cX7_drop 61 = .ok (.aload_n 0, 1) := by decide +kernel
theorem dX7_drop_62 : decode cX7_drop 62 = .ok (.invokevirtual 141, 3) := by decide +kernel
theorem dX7_drop_65 : decode cX7_drop 65 = .ok (.ireturn, 1) := by decide +kernel
theorem dX7_becomes_0 : decode cX7_becomes 0 = .ok (.aload_n 0, 1) := by decide +kernel
theorem dX7_becomes_1 : decode cX7_becomes 1 = .ok (.invokevirtual 128, 3) := by decide +kernel
theorem dX7_becomes_4 : decode cX7_becomes 4 = .ok (.iload_n 1, 1) := by decide +kernel
theorem dX7_becomes_5 : decode cX7_becomes 5 = .ok (.ifCond .ne 5, 3) := by decide +kernel
theorem dX7_becomes_8 : decode cX7_becomes 8 = .ok (.iconst (-1), 1) := by decide +kernel
theorem dX7_becomes_9 : decode cX7_becomes 9 = .ok (.ireturn, 1) := by decide +kernel
theorem dX7_becomes_10 : decode cX7_becomes 10 = .ok (.aload_n 0, 1) := by decide +kernel
theorem dX7_becomes_11 : decode cX7_becomes 11 = .ok (.getfield 7, 3) := by decide +kernel
theorem dX7_becomes_14 : decode cX7_becomes 14 = .ok (.iload_n 2, 1) := by decide +kernel
theorem dX7_becomes_15 : decode cX7_becomes 15 = .ok (.iaload, 1) := by decide +kernel
theorem dX7_becomes_16 : decode cX7_becomes 16 = .ok (.istore 4, 2) := by decide +kernel
theorem dX7_becomes_18 : decode cX7_becomes 18 = .ok (.aload_n 0, 1) := by decide +kernel
theorem dX7_becomes_19 : decode cX7_becomes 19 = .ok (.getfield 7, 3) := by decide +kernel
theorem dX7_becomes_22 : decode cX7_becomes 22 = .ok (.iload_n 2, 1) := by decide +kernel
theorem dX7_becomes_23 : decode cX7_becomes 23 = .ok (.iload_n 3, 1) := by decide +kernel
theorem dX7_becomes_24 : decode cX7_becomes 24 = .ok (.iastore, 1) := by decide +kernel
theorem dX7_becomes_25 : decode cX7_becomes 25 = .ok (.iload 4, 2) := by decide +kernel
theorem dX7_becomes_27 : decode cX7_becomes 27 = .ok (.ireturn, 1) := by decide +kernel
theorem dX7_width_0 : decode cX7_width 0 = .ok (.aload_n 0, 1) := by decide +kernel
theorem dX7_width_1 : decode cX7_width 1 = .ok (.iload_n 1, 1) := by decide +kernel
theorem dX7_width_2 : decode cX7_width 2 = .ok (.i2l, 1) := by decide +kernel
theorem dX7_width_3 : decode cX7_width 3 = .ok (.lconst 1, 1) := by decide +kernel
theorem dX7_width_4 : decode cX7_width 4 = .ok (.ldc2_w 222, 3) := by decide +kernel
theorem dX7_width_7 : decode cX7_width 7 = .ok (.invokestatic 54, 3) := by decide +kernel
theorem dX7_width_10 : decode cX7_width 10 = .ok (.bipush 96, 2) := by decide +kernel
theorem dX7_width_12 : decode cX7_width 12 = .ok (.iload_n 1, 1) := by decide +kernel
theorem dX7_width_13 : decode cX7_width 13 = .ok (.invokevirtual 224, 3) := by decide +kernel
theorem dX7_width_16 : decode cX7_width 16 = .ok (.ireturn, 1) := by decide +kernel
theorem dX7_need_0 : decode cX7_need 0 = .ok (.aload_n 0, 1) := by decide +kernel
theorem dX7_need_1 : decode cX7_need 1 = .ok (.iload_n 1, 1) := by decide +kernel
theorem dX7_need_2 : decode cX7_need 2 = .ok (.i2l, 1) := by decide +kernel
theorem dX7_need_3 : decode cX7_need 3 = .ok (.lconst 1, 1) := by decide +kernel
theorem dX7_need_4 : decode cX7_need 4 = .ok (.ldc2_w 222, 3) := by decide +kernel
theorem dX7_need_7 : decode cX7_need 7 = .ok (.invokestatic 54, 3) := by decide +kernel
theorem dX7_need_10 : decode cX7_need 10 = .ok (.bipush 97, 2) := by decide +kernel
theorem dX7_need_12 : decode cX7_need 12 = .ok (.iload_n 1, 1) := by decide +kernel
theorem dX7_need_13 : decode cX7_need 13 = .ok (.invokevirtual 224, 3) := by decide +kernel
theorem dX7_need_16 : decode cX7_need 16 = .ok (.ireturn, 1) := by decide +kernel
theorem dX7_part_0 : decode cX7_part 0 = .ok (.iload_n 2, 1) := by decide +kernel
theorem dX7_part_1 : decode cX7_part 1 = .ok (.i2l, 1) := by decide +kernel
theorem dX7_part_2 : decode cX7_part 2 = .ok (.lconst 1, 1) := by decide +kernel
theorem dX7_part_3 : decode cX7_part 3 = .ok (.ldc2_w 228, 3) := by decide +kernel
theorem dX7_part_6 : decode cX7_part 6 = .ok (.invokestatic 54, 3) := by decide +kernel
theorem dX7_part_9 : decode cX7_part 9 = .ok (.ifCond .eq 14, 3) := by decide +kernel
theorem dX7_part_12 : decode cX7_part 12 = .ok (.iload_n 1, 1) := by decide +kernel
theorem dX7_part_13 : decode cX7_part 13 = .ok (.i2l, 1) := by decide +kernel
theorem dX7_part_14 : decode cX7_part 14 = .ok (.lconst 0, 1) := by decide +kernel
theorem dX7_part_15 : decode cX7_part 15 = .ok (.iload_n 2, 1) := by decide +kernel
theorem dX7_part_16 : decode cX7_part 16 = .ok (.i2l, 1) := by decide +kernel
theorem dX7_part_17 : decode cX7_part 17 = .ok (.invokestatic 54, 3) := by decide +kernel
theorem dX7_part_20 : decode cX7_part 20 = .ok (.ifCond .ne 5, 3) := by decide +kernel
theorem dX7_part_23 : decode cX7_part 23 = .ok (.iconst (-1), 1) := by decide +kernel
theorem dX7_part_24 : decode cX7_part 24 = .ok (.ireturn, 1) := by decide +kernel
theorem dX7_part_25 : decode cX7_part 25 = .ok (.aload_n 0, 1) := by decide +kernel
theorem dX7_part_26 : decode cX7_part 26 = .ok (.iconst 1, 1) := by decide +kernel
theorem dX7_part_27 : decode cX7_part 27 = .ok (.bipush 98, 2) := by decide +kernel
theorem dX7_part_29 : decode cX7_part 29 = .ok (.iload_n 1, 1) := by decide +kernel
theorem dX7_part_30 : decode cX7_part 30 = .ok (.invokevirtual 224, 3) := by decide +kernel
theorem dX7_part_33 : decode cX7_part 33 = .ok (.istore_n 3, 1) := by decide +kernel
theorem dX7_part_34 : decode cX7_part 34 = .ok (.sipush 1000, 3) := by decide +kernel
theorem dX7_part_37 : decode cX7_part 37 = .ok (.iload_n 3, 1) := by decide +kernel
theorem dX7_part_38 : decode cX7_part 38 = .ok (.imul, 1) := by decide +kernel
theorem dX7_part_39 : decode cX7_part 39 = .ok (.aload_n 0, 1) := by decide +kernel
theorem dX7_part_40 : decode cX7_part 40 = .ok (.iconst 1, 1) := by decide +kernel
theorem dX7_part_41 : decode cX7_part 41 = .ok (.bipush 99, 2) := by decide +kernel
theorem dX7_part_43 : decode cX7_part 43 = .ok (.iload_n 2, 1) := by decide +kernel
theorem dX7_part_44 : decode cX7_part 44 = .ok (.invokevirtual 224, 3) := by decide +kernel
theorem dX7_part_47 : decode cX7_part 47 = .ok (.iadd, 1) := by decide +kernel
theorem dX7_part_48 : decode cX7_part 48 = .ok (.ireturn, 1) := by decide +kernel
theorem dX7_choose_0 : decode cX7_choose 0 = .ok (.aload_n 0, 1) := by decide +kernel
theorem dX7_choose_1 : decode cX7_choose 1 = .ok (.iload_n 1, 1) := by decide +kernel
theorem dX7_choose_2 : decode cX7_choose 2 = .ok (.i2l, 1) := by decide +kernel
theorem dX7_choose_3 : decode cX7_choose 3 = .ok (.lconst 0, 1) := by decide +kernel
theorem dX7_choose_4 : decode cX7_choose 4 = .ok (.ldc2_w 230, 3) := by decide +kernel
theorem dX7_choose_7 : decode cX7_choose 7 = .ok (.invokestatic 54, 3) := by decide +kernel
theorem dX7_choose_10 : decode cX7_choose 10 = .ok (.bipush 100, 2) := by decide +kernel
theorem dX7_choose_12 : decode cX7_choose 12 = .ok (.iload_n 1, 1) := by decide +kernel
theorem dX7_choose_13 : decode cX7_choose 13 = .ok (.invokevirtual 224, 3) := by decide +kernel
theorem dX7_choose_16 : decode cX7_choose 16 = .ok (.ireturn, 1) := by decide +kernel
theorem dX7_form_0 : decode cX7_form 0 = .ok (.aload_n 0, 1) := by decide +kernel
theorem dX7_form_1 : decode cX7_form 1 = .ok (.iload_n 1, 1) := by decide +kernel
theorem dX7_form_2 : decode cX7_form 2 = .ok (.i2l, 1) := by decide +kernel
theorem dX7_form_3 : decode cX7_form 3 = .ok (.lconst 0, 1) := by decide +kernel
theorem dX7_form_4 : decode cX7_form 4 = .ok (.ldc2_w 166, 3) := by decide +kernel
theorem dX7_form_7 : decode cX7_form 7 = .ok (.invokestatic 54, 3) := by decide +kernel
theorem dX7_form_10 : decode cX7_form 10 = .ok (.bipush 101, 2) := by decide +kernel
theorem dX7_form_12 : decode cX7_form 12 = .ok (.iload_n 1, 1) := by decide +kernel
theorem dX7_form_13 : decode cX7_form 13 = .ok (.invokevirtual 224, 3) := by decide +kernel
theorem dX7_form_16 : decode cX7_form 16 = .ok (.ireturn, 1) := by decide +kernel
theorem dX7_latest_0 : decode cX7_latest 0 = .ok (.aload_n 0, 1) := by decide +kernel
theorem dX7_latest_1 : decode cX7_latest 1 = .ok (.invokevirtual 141, 3) := by decide +kernel
theorem dX7_latest_4 : decode cX7_latest 4 = .ok (.iconst 1, 1) := by decide +kernel
theorem dX7_latest_5 : decode cX7_latest 5 = .ok (.isub, 1) := by decide +kernel
theorem dX7_latest_6 : decode cX7_latest 6 = .ok (.istore_n 1, 1) := by decide +kernel
theorem dX7_latest_7 : decode cX7_latest 7 = .ok (.iload_n 1, 1) := by decide +kernel
theorem dX7_latest_8 : decode cX7_latest 8 = .ok (.ifCond .lt 27, 3) := by decide +kernel
theorem dX7_latest_11 : decode cX7_latest 11 = .ok (.aload_n 0, 1) := by decide +kernel
theorem dX7_latest_12 : decode cX7_latest 12 = .ok (.getfield 7, 3) := by decide +kernel
theorem dX7_latest_15 : decode cX7_latest 15 = .ok (.iload_n 1, 1) := by decide +kernel
theorem dX7_latest_16 : decode cX7_latest 16 = .ok (.iaload, 1) := by decide +kernel
theorem dX7_latest_17 : decode cX7_latest 17 = .ok (.ldc 106, 2) := by decide +kernel
theorem dX7_latest_19 : decode cX7_latest 19 = .ok (.if_icmp .eq 10, 3) := by decide +kernel
theorem dX7_latest_22 : decode cX7_latest 22 = .ok (.aload_n 0, 1) := by decide +kernel
theorem dX7_latest_23 : decode cX7_latest 23 = .ok (.getfield 7, 3) := by decide +kernel
theorem dX7_latest_26 : decode cX7_latest 26 = .ok (.iload_n 1, 1) := by decide +kernel
theorem dX7_latest_27 : decode cX7_latest 27 = .ok (.iaload, 1) := by decide +kernel
theorem dX7_latest_28 : decode cX7_latest 28 = .ok (.ireturn, 1) := by decide +kernel
theorem dX7_latest_29 : decode cX7_latest 29 = .ok (.iinc 1 (-1), 3) := by decide +kernel
theorem dX7_latest_32 : decode cX7_latest 32 = .ok (.goto (-25), 3) := by decide +kernel
theorem dX7_latest_35 : decode cX7_latest 35 = .ok (.iconst 0, 1) := by decide +kernel
theorem dX7_latest_36 : decode cX7_latest 36 = .ok (.ireturn, 1) := by decide +kernel
theorem dX7_drift_0 : decode cX7_drift 0 = .ok (.aload_n 0, 1) := by decide +kernel
theorem dX7_drift_1 : decode cX7_drift 1 = .ok (.invokevirtual 128, 3) := by decide +kernel
theorem dX7_drift_4 : decode cX7_drift 4 = .ok (.iload_n 2, 1) := by decide +kernel
theorem dX7_drift_5 : decode cX7_drift 5 = .ok (.i2l, 1) := by decide +kernel
theorem dX7_drift_6 : decode cX7_drift 6 = .ok (.lconst 1, 1) := by decide +kernel
theorem dX7_drift_7 : decode cX7_drift 7 = .ok (.ldc2_w 88, 3) := by decide +kernel
theorem dX7_drift_10 : decode cX7_drift 10 = .ok (.invokestatic 54, 3) := by decide +kernel
theorem dX7_drift_13 : decode cX7_drift 13 = .ok (.ifCond .ne 5, 3) := by decide +kernel
theorem dX7_drift_16 : decode cX7_drift 16 = .ok (.iconst (-1), 1) := by decide +kernel
theorem dX7_drift_17 : decode cX7_drift 17 = .ok (.ireturn, 1) := by decide +kernel
theorem dX7_drift_18 : decode cX7_drift 18 = .ok (.iload_n 1, 1) := by decide +kernel
theorem dX7_drift_19 : decode cX7_drift 19 = .ok (.istore_n 3, 1) := by decide +kernel
theorem dX7_drift_20 : decode cX7_drift 20 = .ok (.iconst 0, 1) := by decide +kernel
theorem dX7_drift_21 : decode cX7_drift 21 = .ok (.istore 4, 2) := by decide +kernel
theorem dX7_drift_23 : decode cX7_drift 23 = .ok (.iload 4, 2) := by decide +kernel
theorem dX7_drift_25 : decode cX7_drift 25 = .ok (.iload_n 2, 1) := by decide +kernel
theorem dX7_drift_26 : decode cX7_drift 26 = .ok (.if_icmp .ge 105, 3) := by decide +kernel
theorem dX7_drift_29 : decode cX7_drift 29 = .ok (.aload_n 0, 1) := by decide +kernel
theorem dX7_drift_30 : decode cX7_drift 30 = .ok (.invokevirtual 141, 3) := by decide +kernel
theorem dX7_drift_33 : decode cX7_drift 33 = .ok (.bipush 96, 2) := by decide +kernel
theorem dX7_drift_35 : decode cX7_drift 35 = .ok (.if_icmp .ge 96, 3) := by decide +kernel
theorem dX7_drift_38 : decode cX7_drift 38 = .ok (.iload_n 3, 1) := by decide +kernel
theorem dX7_drift_39 : decode cX7_drift 39 = .ok (.ldc 232, 2) := by decide +kernel
theorem dX7_drift_41 : decode cX7_drift 41 = .ok (.imul, 1) := by decide +kernel
theorem dX7_drift_42 : decode cX7_drift 42 = .ok (.sipush 12345, 3) := by decide +kernel
theorem dX7_drift_45 : decode cX7_drift 45 = .ok (.iadd, 1) := by decide +kernel
theorem dX7_drift_46 : decode cX7_drift 46 = .ok (.istore_n 3, 1) := by decide +kernel
theorem dX7_drift_47 : decode cX7_drift 47 = .ok (.iload_n 3, 1) := by decide +kernel
theorem dX7_drift_48 : decode cX7_drift 48 = .ok (.bipush 16, 2) := by decide +kernel
theorem dX7_drift_50 : decode cX7_drift 50 = .ok (.ishr, 1) := by decide +kernel
theorem dX7_drift_51 : decode cX7_drift 51 = .ok (.sipush 32767, 3) := by decide +kernel
theorem dX7_drift_54 : decode cX7_drift 54 = .ok (.iand, 1) := by decide +kernel
theorem dX7_drift_55 : decode cX7_drift 55 = .ok (.istore 5, 2) := by decide +kernel
theorem dX7_drift_57 : decode cX7_drift 57 = .ok (.aload_n 0, 1) := by decide +kernel
theorem dX7_drift_58 : decode cX7_drift 58 = .ok (.invokevirtual 233, 3) := by decide +kernel
theorem dX7_drift_61 : decode cX7_drift 61 = .ok (.iload 5, 2) := by decide +kernel
theorem dX7_drift_63 : decode cX7_drift 63 = .ok (.bipush 16, 2) := by decide +kernel
theorem dX7_drift_65 : decode cX7_drift 65 = .ok (.idiv, 1) := by decide +kernel
theorem dX7_drift_66 : decode cX7_drift 66 = .ok (.sipush 401, 3) := by decide +kernel
theorem dX7_drift_69 : decode cX7_drift 69 = .ok (.irem, 1) := by decide +kernel
theorem dX7_drift_70 : decode cX7_drift 70 = .ok (.iadd, 1) := by decide +kernel
theorem dX7_drift_71 : decode cX7_drift 71 = .ok (.sipush 200, 3) := by decide +kernel
theorem dX7_drift_74 : decode cX7_drift 74 = .ok (.isub, 1) := by decide +kernel
theorem dX7_drift_75 : decode cX7_drift 75 = .ok (.istore 6, 2) := by decide +kernel
theorem dX7_drift_77 : decode cX7_drift 77 = .ok (.iload 6, 2) := by decide +kernel
theorem dX7_drift_79 : decode cX7_drift 79 = .ok (.ldc 236, 2) := by decide +kernel
theorem dX7_drift_81 : decode cX7_drift 81 = .ok (.if_icmp .ge 8, 3) := by decide +kernel
theorem dX7_drift_84 : decode cX7_drift 84 = .ok (.ldc 236, 2) := by decide +kernel
theorem dX7_drift_86 : decode cX7_drift 86 = .ok (.goto 17, 3) := by decide +kernel
theorem dX7_drift_89 : decode cX7_drift 89 = .ok (.iload 6, 2) := by decide +kernel
theorem dX7_drift_91 : decode cX7_drift 91 = .ok (.ldc 237, 2) := by decide +kernel
theorem dX7_drift_93 : decode cX7_drift 93 = .ok (.if_icmp .le 8, 3) := by decide +kernel
theorem dX7_drift_96 : decode cX7_drift 96 = .ok (.ldc 237, 2) := by decide +kernel
theorem dX7_drift_98 : decode cX7_drift 98 = .ok (.goto 5, 3) := by decide +kernel
theorem dX7_drift_101 : decode cX7_drift 101 = .ok (.iload 6, 2) := by decide +kernel
theorem dX7_drift_103 : decode cX7_drift 103 = .ok (.istore 6, 2) := by decide +kernel
theorem dX7_drift_105 : decode cX7_drift 105 = .ok (.aload_n 0, 1) := by decide +kernel
theorem dX7_drift_106 : decode cX7_drift 106 = .ok (.iload 5, 2) := by decide +kernel
theorem dX7_drift_108 : decode cX7_drift 108 = .ok (.bipush 9, 2) := by decide +kernel
theorem dX7_drift_110 : decode cX7_drift 110 = .ok (.irem, 1) := by decide +kernel
theorem dX7_drift_111 : decode cX7_drift 111 = .ok (.ifCond .ne 8, 3) := by decide +kernel
theorem dX7_drift_114 : decode cX7_drift 114 = .ok (.ldc 106, 2) := by decide +kernel
theorem dX7_drift_116 : decode cX7_drift 116 = .ok (.goto 5, 3) := by decide +kernel
theorem dX7_drift_119 : decode cX7_drift 119 = .ok (.iload 6, 2) := by decide +kernel
theorem dX7_drift_121 : decode cX7_drift 121 = .ok (.invokevirtual 219, 3) := by decide +kernel
theorem dX7_drift_124 : decode cX7_drift 124 = .ok (.pop, 1) := by decide +kernel
theorem dX7_drift_125 : decode cX7_drift 125 = .ok (.iinc 4 1, 3) := by decide +kernel
theorem dX7_drift_128 : decode cX7_drift 128 = .ok (.goto (-105), 3) := by decide +kernel
theorem dX7_drift_131 : decode cX7_drift 131 = .ok (.iload 4, 2) := by decide +kernel
theorem dX7_drift_133 : decode cX7_drift 133 = .ok (.ireturn, 1) := by decide +kernel
theorem dX7_keep_0 : decode cX7_keep 0 = .ok (.iload_n 1, 1) := by decide +kernel
theorem dX7_keep_1 : decode cX7_keep 1 = .ok (.i2l, 1) := by decide +kernel
theorem dX7_keep_2 : decode cX7_keep 2 = .ok (.lconst 0, 1) := by decide +kernel
theorem dX7_keep_3 : decode cX7_keep 3 = .ok (.lconst 1, 1) := by decide +kernel
theorem dX7_keep_4 : decode cX7_keep 4 = .ok (.invokestatic 54, 3) := by decide +kernel
theorem dX7_keep_7 : decode cX7_keep 7 = .ok (.ifCond .ne 5, 3) := by decide +kernel
theorem dX7_keep_10 : decode cX7_keep 10 = .ok (.iconst (-1), 1) := by decide +kernel
theorem dX7_keep_11 : decode cX7_keep 11 = .ok (.ireturn, 1) := by decide +kernel
theorem dX7_keep_12 : decode cX7_keep 12 = .ok (.aload_n 0, 1) := by decide +kernel
theorem dX7_keep_13 : decode cX7_keep 13 = .ok (.invokevirtual 128, 3) := by decide +kernel
theorem dX7_keep_16 : decode cX7_keep 16 = .ok (.aload_n 0, 1) := by decide +kernel
theorem dX7_keep_17 : decode cX7_keep 17 = .ok (.getfield 31, 3) := by decide +kernel
theorem dX7_keep_20 : decode cX7_keep 20 = .ok (.iload_n 1, 1) := by decide +kernel
theorem dX7_keep_21 : decode cX7_keep 21 = .ok (.baload, 1) := by decide +kernel
theorem dX7_keep_22 : decode cX7_keep 22 = .ok (.ifCond .eq 7, 3) := by decide +kernel
theorem dX7_keep_25 : decode cX7_keep 25 = .ok (.iconst 1, 1) := by decide +kernel
theorem dX7_keep_26 : decode cX7_keep 26 = .ok (.goto 4, 3) := by decide +kernel
theorem dX7_keep_29 : decode cX7_keep 29 = .ok (.iconst 0, 1) := by decide +kernel
theorem dX7_keep_30 : decode cX7_keep 30 = .ok (.istore_n 2, 1) := by decide +kernel
theorem dX7_keep_31 : decode cX7_keep 31 = .ok (.aload_n 0, 1) := by decide +kernel
theorem dX7_keep_32 : decode cX7_keep 32 = .ok (.iconst 0, 1) := by decide +kernel
theorem dX7_keep_33 : decode cX7_keep 33 = .ok (.bipush 103, 2) := by decide +kernel
theorem dX7_keep_35 : decode cX7_keep 35 = .ok (.iload_n 1, 1) := by decide +kernel
theorem dX7_keep_36 : decode cX7_keep 36 = .ok (.imul, 1) := by decide +kernel
theorem dX7_keep_37 : decode cX7_keep 37 = .ok (.bipush 103, 2) := by decide +kernel
theorem dX7_keep_39 : decode cX7_keep 39 = .ok (.iadd, 1) := by decide +kernel
theorem dX7_keep_40 : decode cX7_keep 40 = .ok (.invokevirtual 137, 3) := by decide +kernel
theorem dX7_keep_43 : decode cX7_keep 43 = .ok (.aload_n 0, 1) := by decide +kernel
theorem dX7_keep_44 : decode cX7_keep 44 = .ok (.getfield 31, 3) := by decide +kernel
theorem dX7_keep_47 : decode cX7_keep 47 = .ok (.iload_n 1, 1) := by decide +kernel
theorem dX7_keep_48 : decode cX7_keep 48 = .ok (.iconst 1, 1) := by decide +kernel
theorem dX7_keep_49 : decode cX7_keep 49 = .ok (.bastore, 1) := by decide +kernel
theorem dX7_keep_50 : decode cX7_keep 50 = .ok (.iload_n 2, 1) := by decide +kernel
theorem dX7_keep_51 : decode cX7_keep 51 = .ok (.ireturn, 1) := by decide +kernel
theorem dX7_back_0 : decode cX7_back 0 = .ok (.iload_n 1, 1) := by decide +kernel
theorem dX7_back_1 : decode cX7_back 1 = .ok (.i2l, 1) := by decide +kernel
theorem dX7_back_2 : decode cX7_back 2 = .ok (.lconst 0, 1) := by decide +kernel
theorem dX7_back_3 : decode cX7_back 3 = .ok (.lconst 1, 1) := by decide +kernel
theorem dX7_back_4 : decode cX7_back 4 = .ok (.invokestatic 54, 3) := by decide +kernel
theorem dX7_back_7 : decode cX7_back 7 = .ok (.ifCond .ne 5, 3) := by decide +kernel
theorem dX7_back_10 : decode cX7_back 10 = .ok (.iconst (-1), 1) := by decide +kernel
theorem dX7_back_11 : decode cX7_back 11 = .ok (.ireturn, 1) := by decide +kernel
theorem dX7_back_12 : decode cX7_back 12 = .ok (.aload_n 0, 1) := by decide +kernel
theorem dX7_back_13 : decode cX7_back 13 = .ok (.getfield 31, 3) := by decide +kernel
theorem dX7_back_16 : decode cX7_back 16 = .ok (.iload_n 1, 1) := by decide +kernel
theorem dX7_back_17 : decode cX7_back 17 = .ok (.baload, 1) := by decide +kernel
theorem dX7_back_18 : decode cX7_back 18 = .ok (.ifCond .ne 6, 3) := by decide +kernel
theorem dX7_back_21 : decode cX7_back 21 = .ok (.bipush (-2), 2) := by decide +kernel
theorem dX7_back_23 : decode cX7_back 23 = .ok (.ireturn, 1) := by decide +kernel
theorem dX7_back_24 : decode cX7_back 24 = .ok (.aload_n 0, 1) := by decide +kernel
theorem dX7_back_25 : decode cX7_back 25 = .ok (.bipush 103, 2) := by decide +kernel
theorem dX7_back_27 : decode cX7_back 27 = .ok (.iload_n 1, 1) := by decide +kernel
theorem dX7_back_28 : decode cX7_back 28 = .ok (.imul, 1) := by decide +kernel
theorem dX7_back_29 : decode cX7_back 29 = .ok (.bipush 103, 2) := by decide +kernel
theorem dX7_back_31 : decode cX7_back 31 = .ok (.iadd, 1) := by decide +kernel
theorem dX7_back_32 : decode cX7_back 32 = .ok (.iconst 0, 1) := by decide +kernel
theorem dX7_back_33 : decode cX7_back 33 = .ok (.invokevirtual 137, 3) := by decide +kernel
theorem dX7_back_36 : decode cX7_back 36 = .ok (.aload_n 0, 1) := by decide +kernel
theorem dX7_back_37 : decode cX7_back 37 = .ok (.invokevirtual 141, 3) := by decide +kernel
theorem dX7_back_40 : decode cX7_back 40 = .ok (.ireturn, 1) := by decide +kernel
theorem dX7_sheet_0 : decode cX7_sheet 0 = .ok (.iload_n 1, 1) := by decide +kernel
theorem dX7_sheet_1 : decode cX7_sheet 1 = .ok (.i2l, 1) := by decide +kernel
theorem dX7_sheet_2 : decode cX7_sheet 2 = .ok (.lconst 0, 1) := by decide +kernel
theorem dX7_sheet_3 : decode cX7_sheet 3 = .ok (.ldc2_w 210, 3) := by decide +kernel
theorem dX7_sheet_6 : decode cX7_sheet 6 = .ok (.invokestatic 54, 3) := by decide +kernel
theorem dX7_sheet_9 : decode cX7_sheet 9 = .ok (.ifCond .eq 21, 3) := by decide +kernel
theorem dX7_sheet_12 : decode cX7_sheet 12 = .ok (.iload_n 2, 1) := by decide +kernel
theorem dX7_sheet_13 : decode cX7_sheet 13 = .ok (.i2l, 1) := by decide +kernel
theorem dX7_sheet_14 : decode cX7_sheet 14 = .ok (.lconst 0, 1) := by decide +kernel
theorem dX7_sheet_15 : decode cX7_sheet 15 = .ok (.ldc2_w 166, 3) := by decide +kernel
theorem dX7_sheet_18 : decode cX7_sheet 18 = .ok (.invokestatic 54, 3) := by decide +kernel
theorem dX7_sheet_21 : decode cX7_sheet 21 = .ok (.ifCond .eq 9, 3) := by decide +kernel
theorem dX7_sheet_24 : decode cX7_sheet 24 = .ok (.iload_n 3, 1) := by decide +kernel
theorem dX7_sheet_25 : decode cX7_sheet 25 = .ok (.bipush 40, 2) := by decide +kernel
theorem dX7_sheet_27 : decode cX7_sheet 27 = .ok (.if_icmp .le 5, 3) := by decide +kernel
theorem dX7_sheet_30 : decode cX7_sheet 30 = .ok (.iconst (-1), 1) := by decide +kernel
theorem dX7_sheet_31 : decode cX7_sheet 31 = .ok (.ireturn, 1) := by decide +kernel
theorem dX7_sheet_32 : decode cX7_sheet 32 = .ok (.iload_n 3, 1) := by decide +kernel
theorem dX7_sheet_33 : decode cX7_sheet 33 = .ok (.ifCond .ge 6, 3) := by decide +kernel
theorem dX7_sheet_36 : decode cX7_sheet 36 = .ok (.bipush (-14), 2) := by decide +kernel
theorem dX7_sheet_38 : decode cX7_sheet 38 = .ok (.ireturn, 1) := by decide +kernel
theorem dX7_sheet_39 : decode cX7_sheet 39 = .ok (.aload_n 0, 1) := by decide +kernel
theorem dX7_sheet_40 : decode cX7_sheet 40 = .ok (.getfield 35, 3) := by decide +kernel
theorem dX7_sheet_43 : decode cX7_sheet 43 = .ok (.iload_n 1, 1) := by decide +kernel
theorem dX7_sheet_44 : decode cX7_sheet 44 = .ok (.iload_n 2, 1) := by decide +kernel
theorem dX7_sheet_45 : decode cX7_sheet 45 = .ok (.iastore, 1) := by decide +kernel
theorem dX7_sheet_46 : decode cX7_sheet 46 = .ok (.aload_n 0, 1) := by decide +kernel
theorem dX7_sheet_47 : decode cX7_sheet 47 = .ok (.getfield 38, 3) := by decide +kernel
theorem dX7_sheet_50 : decode cX7_sheet 50 = .ok (.iload_n 1, 1) := by decide +kernel
theorem dX7_sheet_51 : decode cX7_sheet 51 = .ok (.iload_n 3, 1) := by decide +kernel
theorem dX7_sheet_52 : decode cX7_sheet 52 = .ok (.iastore, 1) := by decide +kernel
theorem dX7_sheet_53 : decode cX7_sheet 53 = .ok (.iconst 0, 1) := by decide +kernel
theorem dX7_sheet_54 : decode cX7_sheet 54 = .ok (.istore 4, 2) := by decide +kernel
theorem dX7_sheet_56 : decode cX7_sheet 56 = .ok (.iload 4, 2) := by decide +kernel
theorem dX7_sheet_58 : decode cX7_sheet 58 = .ok (.bipush 40, 2) := by decide +kernel
theorem dX7_sheet_60 : decode cX7_sheet 60 = .ok (.if_icmp .ge 22, 3) := by decide +kernel
theorem dX7_sheet_63 : decode cX7_sheet 63 = .ok (.aload_n 0, 1) := by decide +kernel
theorem dX7_sheet_64 : decode cX7_sheet 64 = .ok (.getfield 41, 3) := by decide +kernel
theorem dX7_sheet_67 : decode cX7_sheet 67 = .ok (.bipush 40, 2) := by decide +kernel
theorem dX7_sheet_69 : decode cX7_sheet 69 = .ok (.iload_n 1, 1) := by decide +kernel
theorem dX7_sheet_70 : decode cX7_sheet 70 = .ok (.imul, 1) := by decide +kernel
theorem dX7_sheet_71 : decode cX7_sheet 71 = .ok (.iload 4, 2) := by decide +kernel
theorem dX7_sheet_73 : decode cX7_sheet 73 = .ok (.iadd, 1) := by decide +kernel
theorem dX7_sheet_74 : decode cX7_sheet 74 = .ok (.iconst 0, 1) := by decide +kernel
theorem dX7_sheet_75 : decode cX7_sheet 75 = .ok (.iastore, 1) := by decide +kernel
theorem dX7_sheet_76 : decode cX7_sheet 76 = .ok (.iinc 4 1, 3) := by decide +kernel
theorem dX7_sheet_79 : decode cX7_sheet 79 = .ok (.goto (-23), 3) := by decide +kernel
theorem dX7_sheet_82 : decode cX7_sheet 82 = .ok (.iconst 1, 1) := by decide +kernel
theorem dX7_sheet_83 : decode cX7_sheet 83 = .ok (.ireturn, 1) := by decide +kernel
theorem dX7_lay_0 : decode cX7_lay 0 = .ok (.iload_n 1, 1) := by decide +kernel
theorem dX7_lay_1 : decode cX7_lay 1 = .ok (.i2l, 1) := by decide +kernel
theorem dX7_lay_2 : decode cX7_lay 2 = .ok (.lconst 0, 1) := by decide +kernel
theorem dX7_lay_3 : decode cX7_lay 3 = .ok (.ldc2_w 210, 3) := by decide +kernel
theorem dX7_lay_6 : decode cX7_lay 6 = .ok (.invokestatic 54, 3) := by decide +kernel
theorem dX7_lay_9 : decode cX7_lay 9 = .ok (.ifCond .ne 5, 3) := by decide +kernel
theorem dX7_lay_12 : decode cX7_lay 12 = .ok (.iconst (-1), 1) := by decide +kernel
theorem dX7_lay_13 : decode cX7_lay 13 = .ok (.ireturn, 1) := by decide +kernel
theorem dX7_lay_14 : decode cX7_lay 14 = .ok (.aload_n 0, 1) := by decide +kernel
theorem dX7_lay_15 : decode cX7_lay 15 = .ok (.getfield 35, 3) := by decide +kernel
theorem dX7_lay_18 : decode cX7_lay 18 = .ok (.iload_n 1, 1) := by decide +kernel
theorem dX7_lay_19 : decode cX7_lay 19 = .ok (.iaload, 1) := by decide +kernel
theorem dX7_lay_20 : decode cX7_lay 20 = .ok (.bipush (-4), 2) := by decide +kernel
theorem dX7_lay_22 : decode cX7_lay 22 = .ok (.if_icmp .ne 6, 3) := by decide +kernel
theorem dX7_lay_25 : decode cX7_lay 25 = .ok (.bipush (-11), 2) := by decide +kernel
theorem dX7_lay_27 : decode cX7_lay 27 = .ok (.ireturn, 1) := by decide +kernel
theorem dX7_lay_28 : decode cX7_lay 28 = .ok (.iload_n 2, 1) := by decide +kernel
theorem dX7_lay_29 : decode cX7_lay 29 = .ok (.i2l, 1) := by decide +kernel
theorem dX7_lay_30 : decode cX7_lay 30 = .ok (.lconst 0, 1) := by decide +kernel
theorem dX7_lay_31 : decode cX7_lay 31 = .ok (.aload_n 0, 1) := by decide +kernel
theorem dX7_lay_32 : decode cX7_lay 32 = .ok (.getfield 38, 3) := by decide +kernel
theorem dX7_lay_35 : decode cX7_lay 35 = .ok (.iload_n 1, 1) := by decide +kernel
theorem dX7_lay_36 : decode cX7_lay 36 = .ok (.iaload, 1) := by decide +kernel
theorem dX7_lay_37 : decode cX7_lay 37 = .ok (.iconst 1, 1) := by decide +kernel
theorem dX7_lay_38 : decode cX7_lay 38 = .ok (.isub, 1) := by decide +kernel
theorem dX7_lay_39 : decode cX7_lay 39 = .ok (.i2l, 1) := by decide +kernel
theorem dX7_lay_40 : decode cX7_lay 40 = .ok (.invokestatic 54, 3) := by decide +kernel
theorem dX7_lay_43 : decode cX7_lay 43 = .ok (.ifCond .ne 6, 3) := by decide +kernel
theorem dX7_lay_46 : decode cX7_lay 46 = .ok (.bipush (-12), 2) := by decide +kernel
theorem dX7_lay_48 : decode cX7_lay 48 = .ok (.ireturn, 1) := by decide +kernel
theorem dX7_lay_49 : decode cX7_lay 49 = .ok (.aload_n 0, 1) := by decide +kernel
theorem dX7_lay_50 : decode cX7_lay 50 = .ok (.getfield 41, 3) := by decide +kernel
theorem dX7_lay_53 : decode cX7_lay 53 = .ok (.bipush 40, 2) := by decide +kernel
theorem dX7_lay_55 : decode cX7_lay 55 = .ok (.iload_n 1, 1) := by decide +kernel
theorem dX7_lay_56 : decode cX7_lay 56 = .ok (.imul, 1) := by decide +kernel
theorem dX7_lay_57 : decode cX7_lay 57 = .ok (.iload_n 2, 1) := by decide +kernel
theorem dX7_lay_58 : decode cX7_lay 58 = .ok (.iadd, 1) := by decide +kernel
theorem dX7_lay_59 : decode cX7_lay 59 = .ok (.aload_n 0, 1) := by decide +kernel
end
section
theorem dX7_lay_60 : decode cX7_lay 60 = .ok (.getfield 35, 3) := by decide +kernel
theorem dX7_lay_63 : decode cX7_lay 63 = .ok (.iload_n 1, 1) := by decide +kernel
theorem dX7_lay_64 : decode cX7_lay 64 = .ok (.iaload, 1) := by decide +kernel
theorem dX7_lay_65 : decode cX7_lay 65 = .ok (.ifCond .ne 13, 3) := by decide +kernel
theorem dX7_lay_68 : decode cX7_lay 68 = .ok (.iload_n 3, 1) := by decide +kernel
theorem dX7_lay_69 : decode cX7_lay 69 = .ok (.bipush 24, 2) := by decide +kernel
theorem dX7_lay_71 : decode cX7_lay 71 = .ok (.ishl, 1) := by decide +kernel
theorem dX7_lay_72 : decode cX7_lay 72 = .ok (.bipush 24, 2) := by decide +kernel
theorem dX7_lay_74 : decode cX7_lay 74 = .ok (.ishr, 1) := by decide +kernel
theorem dX7_lay_75 : decode cX7_lay 75 = .ok (.goto 24, 3) := by decide +kernel
theorem dX7_lay_78 : decode cX7_lay 78 = .ok (.aload_n 0, 1) := by decide +kernel
theorem dX7_lay_79 : decode cX7_lay 79 = .ok (.getfield 35, 3) := by decide +kernel
theorem dX7_lay_82 : decode cX7_lay 82 = .ok (.iload_n 1, 1) := by decide +kernel
theorem dX7_lay_83 : decode cX7_lay 83 = .ok (.iaload, 1) := by decide +kernel
theorem dX7_lay_84 : decode cX7_lay 84 = .ok (.iconst 1, 1) := by decide +kernel
theorem dX7_lay_85 : decode cX7_lay 85 = .ok (.if_icmp .ne 13, 3) := by decide +kernel
theorem dX7_lay_88 : decode cX7_lay 88 = .ok (.iload_n 3, 1) := by decide +kernel
theorem dX7_lay_89 : decode cX7_lay 89 = .ok (.bipush 16, 2) := by decide +kernel
theorem dX7_lay_91 : decode cX7_lay 91 = .ok (.ishl, 1) := by decide +kernel
theorem dX7_lay_92 : decode cX7_lay 92 = .ok (.bipush 16, 2) := by decide +kernel
theorem dX7_lay_94 : decode cX7_lay 94 = .ok (.ishr, 1) := by decide +kernel
theorem dX7_lay_95 : decode cX7_lay 95 = .ok (.goto 4, 3) := by decide +kernel
theorem dX7_lay_98 : decode cX7_lay 98 = .ok (.iload_n 3, 1) := by decide +kernel
theorem dX7_lay_99 : decode cX7_lay 99 = .ok (.iastore, 1) := by decide +kernel
theorem dX7_lay_100 : decode cX7_lay 100 = .ok (.iconst 1, 1) := by decide +kernel
theorem dX7_lay_101 : decode cX7_lay 101 = .ok (.ireturn, 1) := by decide +kernel
theorem dX7_read_0 : decode cX7_read 0 = .ok (.iload_n 1, 1) := by decide +kernel
theorem dX7_read_1 : decode cX7_read 1 = .ok (.i2l, 1) := by decide +kernel
theorem dX7_read_2 : decode cX7_read 2 = .ok (.lconst 0, 1) := by decide +kernel
theorem dX7_read_3 : decode cX7_read 3 = .ok (.ldc2_w 210, 3) := by decide +kernel
theorem dX7_read_6 : decode cX7_read 6 = .ok (.invokestatic 54, 3) := by decide +kernel
theorem dX7_read_9 : decode cX7_read 9 = .ok (.ifCond .eq 28, 3) := by decide +kernel
theorem dX7_read_12 : decode cX7_read 12 = .ok (.iload_n 2, 1) := by decide +kernel
theorem dX7_read_13 : decode cX7_read 13 = .ok (.i2l, 1) := by decide +kernel
theorem dX7_read_14 : decode cX7_read 14 = .ok (.lconst 0, 1) := by decide +kernel
theorem dX7_read_15 : decode cX7_read 15 = .ok (.ldc2_w 166, 3) := by decide +kernel
theorem dX7_read_18 : decode cX7_read 18 = .ok (.invokestatic 54, 3) := by decide +kernel
theorem dX7_read_21 : decode cX7_read 21 = .ok (.ifCond .eq 16, 3) := by decide +kernel
theorem dX7_read_24 : decode cX7_read 24 = .ok (.iload 4, 2) := by decide +kernel
theorem dX7_read_26 : decode cX7_read 26 = .ok (.i2l, 1) := by decide +kernel
theorem dX7_read_27 : decode cX7_read 27 = .ok (.lconst 0, 1) := by decide +kernel
theorem dX7_read_28 : decode cX7_read 28 = .ok (.ldc2_w 238, 3) := by decide +kernel
theorem dX7_read_31 : decode cX7_read 31 = .ok (.invokestatic 54, 3) := by decide +kernel
theorem dX7_read_34 : decode cX7_read 34 = .ok (.ifCond .ne 5, 3) := by decide +kernel
theorem dX7_read_37 : decode cX7_read 37 = .ok (.iconst (-1), 1) := by decide +kernel
theorem dX7_read_38 : decode cX7_read 38 = .ok (.ireturn, 1) := by decide +kernel
theorem dX7_read_39 : decode cX7_read 39 = .ok (.aload_n 0, 1) := by decide +kernel
theorem dX7_read_40 : decode cX7_read 40 = .ok (.invokevirtual 128, 3) := by decide +kernel
theorem dX7_read_43 : decode cX7_read 43 = .ok (.aload_n 0, 1) := by decide +kernel
theorem dX7_read_44 : decode cX7_read 44 = .ok (.iconst 0, 1) := by decide +kernel
theorem dX7_read_45 : decode cX7_read 45 = .ok (.sipush 412, 3) := by decide +kernel
theorem dX7_read_48 : decode cX7_read 48 = .ok (.invokevirtual 137, 3) := by decide +kernel
theorem dX7_read_51 : decode cX7_read 51 = .ok (.iconst 0, 1) := by decide +kernel
theorem dX7_read_52 : decode cX7_read 52 = .ok (.istore 5, 2) := by decide +kernel
theorem dX7_read_54 : decode cX7_read 54 = .ok (.iconst 0, 1) := by decide +kernel
theorem dX7_read_55 : decode cX7_read 55 = .ok (.istore 6, 2) := by decide +kernel
theorem dX7_read_57 : decode cX7_read 57 = .ok (.iload 6, 2) := by decide +kernel
theorem dX7_read_59 : decode cX7_read 59 = .ok (.iload 4, 2) := by decide +kernel
theorem dX7_read_61 : decode cX7_read 61 = .ok (.if_icmp .ge 127, 3) := by decide +kernel
theorem dX7_read_64 : decode cX7_read 64 = .ok (.iload 5, 2) := by decide +kernel
theorem dX7_read_66 : decode cX7_read 66 = .ok (.ifCond .ne 122, 3) := by decide +kernel
theorem dX7_read_69 : decode cX7_read 69 = .ok (.iload_n 3, 1) := by decide +kernel
theorem dX7_read_70 : decode cX7_read 70 = .ok (.i2l, 1) := by decide +kernel
theorem dX7_read_71 : decode cX7_read 71 = .ok (.iload 6, 2) := by decide +kernel
theorem dX7_read_73 : decode cX7_read 73 = .ok (.i2l, 1) := by decide +kernel
theorem dX7_read_74 : decode cX7_read 74 = .ok (.ladd, 1) := by decide +kernel
theorem dX7_read_75 : decode cX7_read 75 = .ok (.lstore 7, 2) := by decide +kernel
theorem dX7_read_77 : decode cX7_read 77 = .ok (.aload_n 0, 1) := by decide +kernel
theorem dX7_read_78 : decode cX7_read 78 = .ok (.getfield 35, 3) := by decide +kernel
theorem dX7_read_81 : decode cX7_read 81 = .ok (.iload_n 1, 1) := by decide +kernel
theorem dX7_read_82 : decode cX7_read 82 = .ok (.iaload, 1) := by decide +kernel
theorem dX7_read_83 : decode cX7_read 83 = .ok (.bipush (-4), 2) := by decide +kernel
theorem dX7_read_85 : decode cX7_read 85 = .ok (.if_icmp .ne 7, 3) := by decide +kernel
theorem dX7_read_88 : decode cX7_read 88 = .ok (.iconst 1, 1) := by decide +kernel
theorem dX7_read_89 : decode cX7_read 89 = .ok (.goto 40, 3) := by decide +kernel
theorem dX7_read_92 : decode cX7_read 92 = .ok (.aload_n 0, 1) := by decide +kernel
theorem dX7_read_93 : decode cX7_read 93 = .ok (.getfield 35, 3) := by decide +kernel
theorem dX7_read_96 : decode cX7_read 96 = .ok (.iload_n 1, 1) := by decide +kernel
theorem dX7_read_97 : decode cX7_read 97 = .ok (.iaload, 1) := by decide +kernel
theorem dX7_read_98 : decode cX7_read 98 = .ok (.iload_n 2, 1) := by decide +kernel
theorem dX7_read_99 : decode cX7_read 99 = .ok (.if_icmp .eq 7, 3) := by decide +kernel
theorem dX7_read_102 : decode cX7_read 102 = .ok (.iconst 3, 1) := by decide +kernel
theorem dX7_read_103 : decode cX7_read 103 = .ok (.goto 26, 3) := by decide +kernel
theorem dX7_read_106 : decode cX7_read 106 = .ok (.lload 7, 2) := by decide +kernel
theorem dX7_read_108 : decode cX7_read 108 = .ok (.lconst 0, 1) := by decide +kernel
theorem dX7_read_109 : decode cX7_read 109 = .ok (.aload_n 0, 1) := by decide +kernel
theorem dX7_read_110 : decode cX7_read 110 = .ok (.getfield 38, 3) := by decide +kernel
theorem dX7_read_113 : decode cX7_read 113 = .ok (.iload_n 1, 1) := by decide +kernel
theorem dX7_read_114 : decode cX7_read 114 = .ok (.iaload, 1) := by decide +kernel
theorem dX7_read_115 : decode cX7_read 115 = .ok (.iconst 1, 1) := by decide +kernel
theorem dX7_read_116 : decode cX7_read 116 = .ok (.isub, 1) := by decide +kernel
theorem dX7_read_117 : decode cX7_read 117 = .ok (.i2l, 1) := by decide +kernel
theorem dX7_read_118 : decode cX7_read 118 = .ok (.invokestatic 54, 3) := by decide +kernel
theorem dX7_read_121 : decode cX7_read 121 = .ok (.ifCond .ne 7, 3) := by decide +kernel
theorem dX7_read_124 : decode cX7_read 124 = .ok (.iconst 2, 1) := by decide +kernel
theorem dX7_read_125 : decode cX7_read 125 = .ok (.goto 4, 3) := by decide +kernel
theorem dX7_read_128 : decode cX7_read 128 = .ok (.iconst 0, 1) := by decide +kernel
theorem dX7_read_129 : decode cX7_read 129 = .ok (.istore 5, 2) := by decide +kernel
theorem dX7_read_131 : decode cX7_read 131 = .ok (.iload 5, 2) := by decide +kernel
theorem dX7_read_133 : decode cX7_read 133 = .ok (.ifCond .ne 52, 3) := by decide +kernel
theorem dX7_read_136 : decode cX7_read 136 = .ok (.aload_n 0, 1) := by decide +kernel
theorem dX7_read_137 : decode cX7_read 137 = .ok (.getfield 41, 3) := by decide +kernel
theorem dX7_read_140 : decode cX7_read 140 = .ok (.bipush 40, 2) := by decide +kernel
theorem dX7_read_142 : decode cX7_read 142 = .ok (.iload_n 1, 1) := by decide +kernel
theorem dX7_read_143 : decode cX7_read 143 = .ok (.imul, 1) := by decide +kernel
theorem dX7_read_144 : decode cX7_read 144 = .ok (.lload 7, 2) := by decide +kernel
theorem dX7_read_146 : decode cX7_read 146 = .ok (.l2i, 1) := by decide +kernel
theorem dX7_read_147 : decode cX7_read 147 = .ok (.iadd, 1) := by decide +kernel
theorem dX7_read_148 : decode cX7_read 148 = .ok (.iaload, 1) := by decide +kernel
theorem dX7_read_149 : decode cX7_read 149 = .ok (.istore 9, 2) := by decide +kernel
theorem dX7_read_151 : decode cX7_read 151 = .ok (.iload 9, 2) := by decide +kernel
theorem dX7_read_153 : decode cX7_read 153 = .ok (.invokestatic 216, 3) := by decide +kernel
theorem dX7_read_156 : decode cX7_read 156 = .ok (.ifCond .eq 12, 3) := by decide +kernel
theorem dX7_read_159 : decode cX7_read 159 = .ok (.aload_n 0, 1) := by decide +kernel
theorem dX7_read_160 : decode cX7_read 160 = .ok (.iload 9, 2) := by decide +kernel
theorem dX7_read_162 : decode cX7_read 162 = .ok (.invokevirtual 219, 3) := by decide +kernel
theorem dX7_read_165 : decode cX7_read 165 = .ok (.ifCond .ge 17, 3) := by decide +kernel
theorem dX7_read_168 : decode cX7_read 168 = .ok (.aload_n 0, 1) := by decide +kernel
theorem dX7_read_169 : decode cX7_read 169 = .ok (.sipush 412, 3) := by decide +kernel
theorem dX7_read_172 : decode cX7_read 172 = .ok (.iconst 0, 1) := by decide +kernel
theorem dX7_read_173 : decode cX7_read 173 = .ok (.invokevirtual 137, 3) := by decide +kernel
theorem dX7_read_176 : decode cX7_read 176 = .ok (.bipush (-20), 2) := by decide +kernel
theorem dX7_read_178 : decode cX7_read 178 = .ok (.iload 6, 2) := by decide +kernel
theorem dX7_read_180 : decode cX7_read 180 = .ok (.isub, 1) := by decide +kernel
theorem dX7_read_181 : decode cX7_read 181 = .ok (.ireturn, 1) := by decide +kernel
theorem dX7_read_182 : decode cX7_read 182 = .ok (.iinc 6 1, 3) := by decide +kernel
theorem dX7_read_185 : decode cX7_read 185 = .ok (.goto (-128), 3) := by decide +kernel
theorem dX7_read_188 : decode cX7_read 188 = .ok (.aload_n 0, 1) := by decide +kernel
theorem dX7_read_189 : decode cX7_read 189 = .ok (.iload 5, 2) := by decide +kernel
theorem dX7_read_191 : decode cX7_read 191 = .ok (.putfield 240, 3) := by decide +kernel
theorem dX7_read_194 : decode cX7_read 194 = .ok (.iload 6, 2) := by decide +kernel
theorem dX7_read_196 : decode cX7_read 196 = .ok (.ireturn, 1) := by decide +kernel
theorem dX7_torn_0 : decode cX7_torn 0 = .ok (.aload_n 0, 1) := by decide +kernel
theorem dX7_torn_1 : decode cX7_torn 1 = .ok (.getfield 240, 3) := by decide +kernel
theorem dX7_torn_4 : decode cX7_torn 4 = .ok (.ireturn, 1) := by decide +kernel
theorem dX7_shownAll_0 : decode cX7_shownAll 0 = .ok (.iconst 0, 1) := by decide +kernel
theorem dX7_shownAll_1 : decode cX7_shownAll 1 = .ok (.istore_n 1, 1) := by decide +kernel
theorem dX7_shownAll_2 : decode cX7_shownAll 2 = .ok (.iconst 0, 1) := by decide +kernel
theorem dX7_shownAll_3 : decode cX7_shownAll 3 = .ok (.istore_n 2, 1) := by decide +kernel
theorem dX7_shownAll_4 : decode cX7_shownAll 4 = .ok (.iload_n 2, 1) := by decide +kernel
theorem dX7_shownAll_5 : decode cX7_shownAll 5 = .ok (.aload_n 0, 1) := by decide +kernel
theorem dX7_shownAll_6 : decode cX7_shownAll 6 = .ok (.invokevirtual 141, 3) := by decide +kernel
theorem dX7_shownAll_9 : decode cX7_shownAll 9 = .ok (.if_icmp .ge 17, 3) := by decide +kernel
theorem dX7_shownAll_12 : decode cX7_shownAll 12 = .ok (.iload_n 1, 1) := by decide +kernel
theorem dX7_shownAll_13 : decode cX7_shownAll 13 = .ok (.aload_n 0, 1) := by decide +kernel
theorem dX7_shownAll_14 : decode cX7_shownAll 14 = .ok (.iload_n 2, 1) := by decide +kernel
theorem dX7_shownAll_15 : decode cX7_shownAll 15 = .ok (.invokevirtual 195, 3) := by decide +kernel
theorem dX7_shownAll_18 : decode cX7_shownAll 18 = .ok (.iadd, 1) := by decide +kernel
theorem dX7_shownAll_19 : decode cX7_shownAll 19 = .ok (.istore_n 1, 1) := by decide +kernel
theorem dX7_shownAll_20 : decode cX7_shownAll 20 = .ok (.iinc 2 1, 3) := by decide +kernel
theorem dX7_shownAll_23 : decode cX7_shownAll 23 = .ok (.goto (-19), 3) := by decide +kernel
theorem dX7_shownAll_26 : decode cX7_shownAll 26 = .ok (.iload_n 1, 1) := by decide +kernel
theorem dX7_shownAll_27 : decode cX7_shownAll 27 = .ok (.ireturn, 1) := by decide +kernel
theorem dX7_count_0 : decode cX7_count 0 = .ok (.aload_n 0, 1) := by decide +kernel
theorem dX7_count_1 : decode cX7_count 1 = .ok (.invokevirtual 128, 3) := by decide +kernel
theorem dX7_count_4 : decode cX7_count 4 = .ok (.iload_n 1, 1) := by decide +kernel
theorem dX7_count_5 : decode cX7_count 5 = .ok (.tableswitch 94 0 3 #[31, 61, 66, 89], 31) := by decide +kernel
theorem dX7_count_36 : decode cX7_count 36 = .ok (.aload_n 0, 1) := by decide +kernel
theorem dX7_count_37 : decode cX7_count 37 = .ok (.getfield 31, 3) := by decide +kernel
theorem dX7_count_40 : decode cX7_count 40 = .ok (.iconst 0, 1) := by decide +kernel
theorem dX7_count_41 : decode cX7_count 41 = .ok (.baload, 1) := by decide +kernel
theorem dX7_count_42 : decode cX7_count 42 = .ok (.ifCond .eq 7, 3) := by decide +kernel
theorem dX7_count_45 : decode cX7_count 45 = .ok (.iconst 1, 1) := by decide +kernel
theorem dX7_count_46 : decode cX7_count 46 = .ok (.goto 4, 3) := by decide +kernel
theorem dX7_count_49 : decode cX7_count 49 = .ok (.iconst 0, 1) := by decide +kernel
theorem dX7_count_50 : decode cX7_count 50 = .ok (.aload_n 0, 1) := by decide +kernel
theorem dX7_count_51 : decode cX7_count 51 = .ok (.getfield 31, 3) := by decide +kernel
theorem dX7_count_54 : decode cX7_count 54 = .ok (.iconst 1, 1) := by decide +kernel
theorem dX7_count_55 : decode cX7_count 55 = .ok (.baload, 1) := by decide +kernel
theorem dX7_count_56 : decode cX7_count 56 = .ok (.ifCond .eq 7, 3) := by decide +kernel
theorem dX7_count_59 : decode cX7_count 59 = .ok (.iconst 1, 1) := by decide +kernel
theorem dX7_count_60 : decode cX7_count 60 = .ok (.goto 4, 3) := by decide +kernel
theorem dX7_count_63 : decode cX7_count 63 = .ok (.iconst 0, 1) := by decide +kernel
theorem dX7_count_64 : decode cX7_count 64 = .ok (.iadd, 1) := by decide +kernel
theorem dX7_count_65 : decode cX7_count 65 = .ok (.ireturn, 1) := by decide +kernel
theorem dX7_count_66 : decode cX7_count 66 = .ok (.aload_n 0, 1) := by decide +kernel
theorem dX7_count_67 : decode cX7_count 67 = .ok (.getfield 58, 3) := by decide +kernel
theorem dX7_count_70 : decode cX7_count 70 = .ok (.ireturn, 1) := by decide +kernel
theorem dX7_count_71 : decode cX7_count 71 = .ok (.aload_n 0, 1) := by decide +kernel
theorem dX7_count_72 : decode cX7_count 72 = .ok (.getfield 35, 3) := by decide +kernel
theorem dX7_count_75 : decode cX7_count 75 = .ok (.iconst 0, 1) := by decide +kernel
theorem dX7_count_76 : decode cX7_count 76 = .ok (.iaload, 1) := by decide +kernel
theorem dX7_count_77 : decode cX7_count 77 = .ok (.bipush (-4), 2) := by decide +kernel
theorem dX7_count_79 : decode cX7_count 79 = .ok (.if_icmp .ne 8, 3) := by decide +kernel
theorem dX7_count_82 : decode cX7_count 82 = .ok (.bipush (-4), 2) := by decide +kernel
theorem dX7_count_84 : decode cX7_count 84 = .ok (.goto 9, 3) := by decide +kernel
theorem dX7_count_87 : decode cX7_count 87 = .ok (.aload_n 0, 1) := by decide +kernel
theorem dX7_count_88 : decode cX7_count 88 = .ok (.getfield 38, 3) := by decide +kernel
theorem dX7_count_91 : decode cX7_count 91 = .ok (.iconst 0, 1) := by decide +kernel
theorem dX7_count_92 : decode cX7_count 92 = .ok (.iaload, 1) := by decide +kernel
theorem dX7_count_93 : decode cX7_count 93 = .ok (.ireturn, 1) := by decide +kernel
theorem dX7_count_94 : decode cX7_count 94 = .ok (.aload_n 0, 1) := by decide +kernel
theorem dX7_count_95 : decode cX7_count 95 = .ok (.invokevirtual 243, 3) := by decide +kernel
theorem dX7_count_98 : decode cX7_count 98 = .ok (.ireturn, 1) := by decide +kernel
theorem dX7_count_99 : decode cX7_count 99 = .ok (.iconst (-1), 1) := by decide +kernel
theorem dX7_count_100 : decode cX7_count 100 = .ok (.ireturn, 1) := by decide +kernel
theorem dJ9_abs_0f7a4_0 : decode cJ9_abs_0f7a4 0 = .ok (.iload_n 0, 1) := by decide +kernel
theorem dJ9_abs_0f7a4_1 : decode cJ9_abs_0f7a4 1 = .ok (.ifCond .ge 8, 3) := by decide +kernel
theorem dJ9_abs_0f7a4_4 : decode cJ9_abs_0f7a4 4 = .ok (.iload_n 0, 1) := by decide +kernel
theorem dJ9_abs_0f7a4_5 : decode cJ9_abs_0f7a4 5 = .ok (.ineg, 1) := by decide +kernel
theorem dJ9_abs_0f7a4_6 : decode cJ9_abs_0f7a4 6 = .ok (.goto 4, 3) := by decide +kernel
theorem dJ9_abs_0f7a4_9 : decode cJ9_abs_0f7a4 9 = .ok (.iload_n 0, 1) := by decide +kernel
theorem dJ9_abs_0f7a4_10 : decode cJ9_abs_0f7a4 10 = .ok (.ireturn, 1) := by decide +kernel
theorem dJ9_max_7cf53_0 : decode cJ9_max_7cf53 0 = .ok (.iload_n 0, 1) := by decide +kernel
theorem dJ9_max_7cf53_1 : decode cJ9_max_7cf53 1 = .ok (.iload_n 1, 1) := by decide +kernel
theorem dJ9_max_7cf53_2 : decode cJ9_max_7cf53 2 = .ok (.if_icmp .lt 7, 3) := by decide +kernel
theorem dJ9_max_7cf53_5 : decode cJ9_max_7cf53 5 = .ok (.iload_n 0, 1) := by decide +kernel
theorem dJ9_max_7cf53_6 : decode cJ9_max_7cf53 6 = .ok (.goto 4, 3) := by decide +kernel
theorem dJ9_max_7cf53_9 : decode cJ9_max_7cf53 9 = .ok (.iload_n 1, 1) := by decide +kernel
theorem dJ9_max_7cf53_10 : decode cJ9_max_7cf53 10 = .ok (.ireturn, 1) := by decide +kernel
theorem dJ9_min_7cf53_0 : decode cJ9_min_7cf53 0 = .ok (.iload_n 0, 1) := by decide +kernel
theorem dJ9_min_7cf53_1 : decode cJ9_min_7cf53 1 = .ok (.iload_n 1, 1) := by decide +kernel
theorem dJ9_min_7cf53_2 : decode cJ9_min_7cf53 2 = .ok (.if_icmp .gt 7, 3) := by decide +kernel
theorem dJ9_min_7cf53_5 : decode cJ9_min_7cf53 5 = .ok (.iload_n 0, 1) := by decide +kernel
theorem dJ9_min_7cf53_6 : decode cJ9_min_7cf53 6 = .ok (.goto 4, 3) := by decide +kernel
theorem dJ9_min_7cf53_9 : decode cJ9_min_7cf53 9 = .ok (.iload_n 1, 1) := by decide +kernel
theorem dJ9_min_7cf53_10 : decode cJ9_min_7cf53 10 = .ok (.ireturn, 1) := by decide +kernel
theorem dJ0_length_8abf5_0 : decode cJ0_length_8abf5 0 = .ok (.aload_n 0, 1) := by decide +kernel
theorem dJ0_length_8abf5_1 : decode cJ0_length_8abf5 1 = .ok (.getfield 9, 3) := by decide +kernel
theorem dJ0_length_8abf5_4 : decode cJ0_length_8abf5 4 = .ok (.arraylength, 1) := by decide +kernel
theorem dJ0_length_8abf5_5 : decode cJ0_length_8abf5 5 = .ok (.aload_n 0, 1) := by decide +kernel
theorem dJ0_length_8abf5_6 : decode cJ0_length_8abf5 6 = .ok (.invokevirtual 335, 3) := by decide +kernel
theorem dJ0_length_8abf5_9 : decode cJ0_length_8abf5 9 = .ok (.ishr, 1) := by decide +kernel
theorem dJ0_length_8abf5_10 : decode cJ0_length_8abf5 10 = .ok (.ireturn, 1) := by decide +kernel
theorem dJ0_charAt_5068e_0 : decode cJ0_charAt_5068e 0 = .ok (.aload_n 0, 1) := by decide +kernel
theorem dJ0_charAt_5068e_1 : decode cJ0_charAt_5068e 1 = .ok (.invokevirtual 492, 3) := by decide +kernel
theorem dJ0_charAt_5068e_4 : decode cJ0_charAt_5068e 4 = .ok (.ifCond .eq 12, 3) := by decide +kernel
theorem dJ0_charAt_5068e_7 : decode cJ0_charAt_5068e 7 = .ok (.aload_n 0, 1) := by decide +kernel
theorem dJ0_charAt_5068e_8 : decode cJ0_charAt_5068e 8 = .ok (.getfield 9, 3) := by decide +kernel
theorem dJ0_charAt_5068e_11 : decode cJ0_charAt_5068e 11 = .ok (.iload_n 1, 1) := by decide +kernel
theorem dJ0_charAt_5068e_12 : decode cJ0_charAt_5068e 12 = .ok (.invokestatic 495, 3) := by decide +kernel
theorem dJ0_charAt_5068e_15 : decode cJ0_charAt_5068e 15 = .ok (.ireturn, 1) := by decide +kernel
theorem dJ0_charAt_5068e_16 : decode cJ0_charAt_5068e 16 = .ok (.aload_n 0, 1) := by decide +kernel
theorem dJ0_charAt_5068e_17 : decode cJ0_charAt_5068e 17 = .ok (.getfield 9, 3) := by decide +kernel
theorem dJ0_charAt_5068e_20 : decode cJ0_charAt_5068e 20 = .ok (.iload_n 1, 1) := by decide +kernel
theorem dJ0_charAt_5068e_21 : decode cJ0_charAt_5068e 21 = .ok (.invokestatic 498, 3) := by decide +kernel
theorem dJ0_charAt_5068e_24 : decode cJ0_charAt_5068e 24 = .ok (.ireturn, 1) := by decide +kernel
theorem dJ0_coder_7d493_0 : decode cJ0_coder_7d493 0 = .ok (.getstatic 38, 3) := by decide +kernel
theorem dJ0_coder_7d493_3 : decode cJ0_coder_7d493 3 = .ok (.ifCond .eq 10, 3) := by decide +kernel
theorem dJ0_coder_7d493_6 : decode cJ0_coder_7d493 6 = .ok (.aload_n 0, 1) := by decide +kernel
theorem dJ0_coder_7d493_7 : decode cJ0_coder_7d493 7 = .ok (.getfield 15, 3) := by decide +kernel
theorem dJ0_coder_7d493_10 : decode cJ0_coder_7d493 10 = .ok (.goto 4, 3) := by decide +kernel
theorem dJ0_coder_7d493_13 : decode cJ0_coder_7d493 13 = .ok (.iconst 1, 1) := by decide +kernel
theorem dJ0_coder_7d493_14 : decode cJ0_coder_7d493 14 = .ok (.ireturn, 1) := by decide +kernel
theorem dJ0_isLatin1_aae02_0 : decode cJ0_isLatin1_aae02 0 = .ok (.getstatic 38, 3) := by decide +kernel
theorem dJ0_isLatin1_aae02_3 : decode cJ0_isLatin1_aae02 3 = .ok (.ifCond .eq 14, 3) := by decide +kernel
theorem dJ0_isLatin1_aae02_6 : decode cJ0_isLatin1_aae02 6 = .ok (.aload_n 0, 1) := by decide +kernel
theorem dJ0_isLatin1_aae02_7 : decode cJ0_isLatin1_aae02 7 = .ok (.getfield 15, 3) := by decide +kernel
theorem dJ0_isLatin1_aae02_10 : decode cJ0_isLatin1_aae02 10 = .ok (.ifCond .ne 7, 3) := by decide +kernel
theorem dJ0_isLatin1_aae02_13 : decode cJ0_isLatin1_aae02 13 = .ok (.iconst 1, 1) := by decide +kernel
theorem dJ0_isLatin1_aae02_14 : decode cJ0_isLatin1_aae02 14 = .ok (.goto 4, 3) := by decide +kernel
theorem dJ0_isLatin1_aae02_17 : decode cJ0_isLatin1_aae02 17 = .ok (.iconst 0, 1) := by decide +kernel
theorem dJ0_isLatin1_aae02_18 : decode cJ0_isLatin1_aae02 18 = .ok (.ireturn, 1) := by decide +kernel
theorem dJ0_checkIndex_df160_0 : decode cJ0_checkIndex_df160 0 = .ok (.iload_n 0, 1) := by decide +kernel
theorem dJ0_checkIndex_df160_1 : decode cJ0_checkIndex_df160 1 = .ok (.iload_n 1, 1) := by decide +kernel
theorem dJ0_checkIndex_df160_2 : decode cJ0_checkIndex_df160 2 = .ok (.getstatic 1053, 3) := by decide +kernel
theorem dJ0_checkIndex_df160_5 : decode cJ0_checkIndex_df160 5 = .ok (.invokestatic 1059, 3) := by decide +kernel
theorem dJ0_checkIndex_df160_8 : decode cJ0_checkIndex_df160 8 = .ok (.pop, 1) := by decide +kernel
theorem dJ0_checkIndex_df160_9 : decode cJ0_checkIndex_df160 9 = .ok (.return_, 1) := by decide +kernel
theorem dJ1_charAt_3b067_0 : decode cJ1_charAt_3b067 0 = .ok (.iload_n 1, 1) := by decide +kernel
theorem dJ1_charAt_3b067_1 : decode cJ1_charAt_3b067 1 = .ok (.aload_n 0, 1) := by decide +kernel
theorem dJ1_charAt_3b067_2 : decode cJ1_charAt_3b067 2 = .ok (.arraylength, 1) := by decide +kernel
theorem dJ1_charAt_3b067_3 : decode cJ1_charAt_3b067 3 = .ok (.invokestatic 9, 3) := by decide +kernel
theorem dJ1_charAt_3b067_6 : decode cJ1_charAt_3b067 6 = .ok (.aload_n 0, 1) := by decide +kernel
theorem dJ1_charAt_3b067_7 : decode cJ1_charAt_3b067 7 = .ok (.iload_n 1, 1) := by decide +kernel
theorem dJ1_charAt_3b067_8 : decode cJ1_charAt_3b067 8 = .ok (.baload, 1) := by decide +kernel
theorem dJ1_charAt_3b067_9 : decode cJ1_charAt_3b067 9 = .ok (.sipush 255, 3) := by decide +kernel
theorem dJ1_charAt_3b067_12 : decode cJ1_charAt_3b067 12 = .ok (.iand, 1) := by decide +kernel
theorem dJ1_charAt_3b067_13 : decode cJ1_charAt_3b067 13 = .ok (.i2c, 1) := by decide +kernel
theorem dJ1_charAt_3b067_14 : decode cJ1_charAt_3b067 14 = .ok (.ireturn, 1) := by decide +kernel
theorem dJ2_getChar_3b067_0 : decode cJ2_getChar_3b067 0 = .ok (.getstatic 44, 3) := by decide +kernel
theorem dJ2_getChar_3b067_3 : decode cJ2_getChar_3b067 3 = .ok (.ifCond .ne 25, 3) := by decide +kernel
theorem dJ2_getChar_3b067_6 : decode cJ2_getChar_3b067 6 = .ok (.iload_n 1, 1) := by decide +kernel
theorem dJ2_getChar_3b067_7 : decode cJ2_getChar_3b067 7 = .ok (.ifCond .lt 11, 3) := by decide +kernel
theorem dJ2_getChar_3b067_10 : decode cJ2_getChar_3b067 10 = .ok (.iload_n 1, 1) := by decide +kernel
theorem dJ2_getChar_3b067_11 : decode cJ2_getChar_3b067 11 = .ok (.aload_n 0, 1) := by decide +kernel
theorem dJ2_getChar_3b067_12 : decode cJ2_getChar_3b067 12 = .ok (.invokestatic 48, 3) := by decide +kernel
theorem dJ2_getChar_3b067_15 : decode cJ2_getChar_3b067 15 = .ok (.if_icmp .lt 13, 3) := by decide +kernel
theorem dJ2_getChar_3b067_18 : decode cJ2_getChar_3b067 18 = .ok (.new 52, 3) := by decide +kernel
theorem dJ2_getChar_3b067_21 : decode cJ2_getChar_3b067 21 = .ok (.dup, 1) := by decide +kernel
theorem dJ2_getChar_3b067_22 : decode cJ2_getChar_3b067 22 = .ok (.ldc 54, 2) := by decide +kernel
theorem dJ2_getChar_3b067_24 : decode cJ2_getChar_3b067 24 = .ok (.invokespecial 56, 3) := by decide +kernel
theorem dJ2_getChar_3b067_27 : decode cJ2_getChar_3b067 27 = .ok (.athrow, 1) := by decide +kernel
theorem dJ2_getChar_3b067_28 : decode cJ2_getChar_3b067 28 = .ok (.iload_n 1, 1) := by decide +kernel
theorem dJ2_getChar_3b067_29 : decode cJ2_getChar_3b067 29 = .ok (.iconst 1, 1) := by decide +kernel
theorem dJ2_getChar_3b067_30 : decode cJ2_getChar_3b067 30 = .ok (.ishl, 1) := by decide +kernel
theorem dJ2_getChar_3b067_31 : decode cJ2_getChar_3b067 31 = .ok (.istore_n 1, 1) := by decide +kernel
theorem dJ2_getChar_3b067_32 : decode cJ2_getChar_3b067 32 = .ok (.aload_n 0, 1) := by decide +kernel
theorem dJ2_getChar_3b067_33 : decode cJ2_getChar_3b067 33 = .ok (.iload_n 1, 1) := by decide +kernel
theorem dJ2_getChar_3b067_34 : decode cJ2_getChar_3b067 34 = .ok (.iinc 1 1, 3) := by decide +kernel
theorem dJ2_getChar_3b067_37 : decode cJ2_getChar_3b067 37 = .ok (.baload, 1) := by decide +kernel
theorem dJ2_getChar_3b067_38 : decode cJ2_getChar_3b067 38 = .ok (.sipush 255, 3) := by decide +kernel
theorem dJ2_getChar_3b067_41 : decode cJ2_getChar_3b067 41 = .ok (.iand, 1) := by decide +kernel
theorem dJ2_getChar_3b067_42 : decode cJ2_getChar_3b067 42 = .ok (.getstatic 59, 3) := by decide +kernel
theorem dJ2_getChar_3b067_45 : decode cJ2_getChar_3b067 45 = .ok (.ishl, 1) := by decide +kernel
theorem dJ2_getChar_3b067_46 : decode cJ2_getChar_3b067 46 = .ok (.aload_n 0, 1) := by decide +kernel
theorem dJ2_getChar_3b067_47 : decode cJ2_getChar_3b067 47 = .ok (.iload_n 1, 1) := by decide +kernel
theorem dJ2_getChar_3b067_48 : decode cJ2_getChar_3b067 48 = .ok (.baload, 1) := by decide +kernel
theorem dJ2_getChar_3b067_49 : decode cJ2_getChar_3b067 49 = .ok (.sipush 255, 3) := by decide +kernel
theorem dJ2_getChar_3b067_52 : decode cJ2_getChar_3b067 52 = .ok (.iand, 1) := by decide +kernel
theorem dJ2_getChar_3b067_53 : decode cJ2_getChar_3b067 53 = .ok (.getstatic 63, 3) := by decide +kernel
theorem dJ2_getChar_3b067_56 : decode cJ2_getChar_3b067 56 = .ok (.ishl, 1) := by decide +kernel
theorem dJ2_getChar_3b067_57 : decode cJ2_getChar_3b067 57 = .ok (.ior, 1) := by decide +kernel
theorem dJ2_getChar_3b067_58 : decode cJ2_getChar_3b067 58 = .ok (.i2c, 1) := by decide +kernel
theorem dJ2_getChar_3b067_59 : decode cJ2_getChar_3b067 59 = .ok (.ireturn, 1) := by decide +kernel
theorem dJ2_length_9d52b_0 : decode cJ2_length_9d52b 0 = .ok (.aload_n 0, 1) := by decide +kernel
theorem dJ2_length_9d52b_1 : decode cJ2_length_9d52b 1 = .ok (.arraylength, 1) := by decide +kernel
theorem dJ2_length_9d52b_2 : decode cJ2_length_9d52b 2 = .ok (.iconst 1, 1) := by decide +kernel
theorem dJ2_length_9d52b_3 : decode cJ2_length_9d52b 3 = .ok (.ishr, 1) := by decide +kernel
theorem dJ2_length_9d52b_4 : decode cJ2_length_9d52b 4 = .ok (.ireturn, 1) := by decide +kernel
theorem dJ2_charAt_3b067_0 : decode cJ2_charAt_3b067 0 = .ok (.iload_n 1, 1) := by decide +kernel
theorem dJ2_charAt_3b067_1 : decode cJ2_charAt_3b067 1 = .ok (.aload_n 0, 1) := by decide +kernel
theorem dJ2_charAt_3b067_2 : decode cJ2_charAt_3b067 2 = .ok (.invokestatic 67, 3) := by decide +kernel
theorem dJ2_charAt_3b067_5 : decode cJ2_charAt_3b067 5 = .ok (.aload_n 0, 1) := by decide +kernel
theorem dJ2_charAt_3b067_6 : decode cJ2_charAt_3b067 6 = .ok (.iload_n 1, 1) := by decide +kernel
theorem dJ2_charAt_3b067_7 : decode cJ2_charAt_3b067 7 = .ok (.invokestatic 71, 3) := by decide +kernel
theorem dJ2_charAt_3b067_10 : decode cJ2_charAt_3b067 10 = .ok (.ireturn, 1) := by decide +kernel
theorem dJ2_checkIndex_2214a_0 : decode cJ2_checkIndex_2214a 0 = .ok (.iload_n 0, 1) := by decide +kernel
theorem dJ2_checkIndex_2214a_1 : decode cJ2_checkIndex_2214a 1 = .ok (.aload_n 1, 1) := by decide +kernel
theorem dJ2_checkIndex_2214a_2 : decode cJ2_checkIndex_2214a 2 = .ok (.invokestatic 48, 3) := by decide +kernel
theorem dJ2_checkIndex_2214a_5 : decode cJ2_checkIndex_2214a 5 = .ok (.invokestatic 414, 3) := by decide +kernel
theorem dJ2_checkIndex_2214a_8 : decode cJ2_checkIndex_2214a 8 = .ok (.return_, 1) := by decide +kernel
theorem dJ3_checkIndex_8e157_0 : decode cJ3_checkIndex_8e157 0 = .ok (.iload_n 0, 1) := by decide +kernel
theorem dJ3_checkIndex_8e157_1 : decode cJ3_checkIndex_8e157 1 = .ok (.ifCond .lt 8, 3) := by decide +kernel
theorem dJ3_checkIndex_8e157_4 : decode cJ3_checkIndex_8e157 4 = .ok (.iload_n 0, 1) := by decide +kernel
theorem dJ3_checkIndex_8e157_5 : decode cJ3_checkIndex_8e157 5 = .ok (.iload_n 1, 1) := by decide +kernel
theorem dJ3_checkIndex_8e157_6 : decode cJ3_checkIndex_8e157 6 = .ok (.if_icmp .lt 10, 3) := by decide +kernel
theorem dJ3_checkIndex_8e157_9 : decode cJ3_checkIndex_8e157 9 = .ok (.aload_n 2, 1) := by decide +kernel
theorem dJ3_checkIndex_8e157_10 : decode cJ3_checkIndex_8e157 10 = .ok (.iload_n 0, 1) := by decide +kernel
theorem dJ3_checkIndex_8e157_11 : decode cJ3_checkIndex_8e157 11 = .ok (.iload_n 1, 1) := by decide +kernel
theorem dJ3_checkIndex_8e157_12 : decode cJ3_checkIndex_8e157 12 = .ok (.invokestatic 95, 3) := by decide +kernel
theorem dJ3_checkIndex_8e157_15 : decode cJ3_checkIndex_8e157 15 = .ok (.athrow, 1) := by decide +kernel
theorem dJ3_checkIndex_8e157_16 : decode cJ3_checkIndex_8e157 16 = .ok (.iload_n 0, 1) := by decide +kernel
theorem dJ3_checkIndex_8e157_17 : decode cJ3_checkIndex_8e157 17 = .ok (.ireturn, 1) := by decide +kernel
theorem dL_law_0 : decode cL_law 0 = .ok (.new 7, 3) := by decide +kernel
theorem dL_law_3 : decode cL_law 3 = .ok (.dup, 1) := by decide +kernel
theorem dL_law_4 : decode cL_law 4 = .ok (.invokespecial 9, 3) := by decide +kernel
theorem dL_law_7 : decode cL_law 7 = .ok (.astore_n 1, 1) := by decide +kernel
theorem dL_law_8 : decode cL_law 8 = .ok (.new 10, 3) := by decide +kernel
theorem dL_law_11 : decode cL_law 11 = .ok (.dup, 1) := by decide +kernel
theorem dL_law_12 : decode cL_law 12 = .ok (.invokespecial 12, 3) := by decide +kernel
theorem dL_law_15 : decode cL_law 15 = .ok (.astore_n 2, 1) := by decide +kernel
theorem dL_law_16 : decode cL_law 16 = .ok (.iconst 0, 1) := by decide +kernel
theorem dL_law_17 : decode cL_law 17 = .ok (.istore_n 3, 1) := by decide +kernel
theorem dL_law_18 : decode cL_law 18 = .ok (.iload_n 3, 1) := by decide +kernel
theorem dL_law_19 : decode cL_law 19 = .ok (.aload_n 0, 1) := by decide +kernel
theorem dL_law_20 : decode cL_law 20 = .ok (.arraylength, 1) := by decide +kernel
theorem dL_law_21 : decode cL_law 21 = .ok (.iconst 5, 1) := by decide +kernel
theorem dL_law_22 : decode cL_law 22 = .ok (.isub, 1) := by decide +kernel
theorem dL_law_23 : decode cL_law 23 = .ok (.if_icmp .gt 1099, 3) := by decide +kernel
theorem dL_law_26 : decode cL_law 26 = .ok (.aload_n 0, 1) := by decide +kernel
theorem dL_law_27 : decode cL_law 27 = .ok (.iload_n 3, 1) := by decide +kernel
theorem dL_law_28 : decode cL_law 28 = .ok (.iaload, 1) := by decide +kernel
theorem dL_law_29 : decode cL_law 29 = .ok (.bipush 63, 2) := by decide +kernel
theorem dL_law_31 : decode cL_law 31 = .ok (.iand, 1) := by decide +kernel
theorem dL_law_32 : decode cL_law 32 = .ok (.tableswitch 1084 0 33 #[152, 175, 198, 211, 224, 247, 270, 303, 336, 369, 412, 445, 478, 511, 534, 567, 590, 613, 626, 659, 682, 705, 728, 751, 784, 807, 830, 863, 886, 909, 952, 995, 1048, 1061], 152) := by decide +kernel
theorem dL_law_184 : decode cL_law 184 = .ok (.aload_n 1, 1) := by decide +kernel
theorem dL_law_185 : decode cL_law 185 = .ok (.aload_n 0, 1) := by decide +kernel
theorem dL_law_186 : decode cL_law 186 = .ok (.iload_n 3, 1) := by decide +kernel
theorem dL_law_187 : decode cL_law 187 = .ok (.iconst 1, 1) := by decide +kernel
theorem dL_law_188 : decode cL_law 188 = .ok (.iadd, 1) := by decide +kernel
theorem dL_law_189 : decode cL_law 189 = .ok (.iaload, 1) := by decide +kernel
theorem dL_law_190 : decode cL_law 190 = .ok (.invokevirtual 13, 3) := by decide +kernel
theorem dL_law_193 : decode cL_law 193 = .ok (.aload_n 2, 1) := by decide +kernel
theorem dL_law_194 : decode cL_law 194 = .ok (.aload_n 0, 1) := by decide +kernel
theorem dL_law_195 : decode cL_law 195 = .ok (.iload_n 3, 1) := by decide +kernel
theorem dL_law_196 : decode cL_law 196 = .ok (.iconst 1, 1) := by decide +kernel
theorem dL_law_197 : decode cL_law 197 = .ok (.iadd, 1) := by decide +kernel
theorem dL_law_198 : decode cL_law 198 = .ok (.iaload, 1) := by decide +kernel
theorem dL_law_199 : decode cL_law 199 = .ok (.invokevirtual 17, 3) := by decide +kernel
theorem dL_law_202 : decode cL_law 202 = .ok (.if_icmp .eq 914, 3) := by decide +kernel
theorem dL_law_205 : decode cL_law 205 = .ok (.iconst 0, 1) := by decide +kernel
theorem dL_law_206 : decode cL_law 206 = .ok (.ireturn, 1) := by decide +kernel
theorem dL_law_207 : decode cL_law 207 = .ok (.aload_n 1, 1) := by decide +kernel
theorem dL_law_208 : decode cL_law 208 = .ok (.aload_n 0, 1) := by decide +kernel
theorem dL_law_209 : decode cL_law 209 = .ok (.iload_n 3, 1) := by decide +kernel
theorem dL_law_210 : decode cL_law 210 = .ok (.iconst 1, 1) := by decide +kernel
theorem dL_law_211 : decode cL_law 211 = .ok (.iadd, 1) := by decide +kernel
theorem dL_law_212 : decode cL_law 212 = .ok (.iaload, 1) := by decide +kernel
theorem dL_law_213 : decode cL_law 213 = .ok (.invokevirtual 18, 3) := by decide +kernel
theorem dL_law_216 : decode cL_law 216 = .ok (.aload_n 2, 1) := by decide +kernel
theorem dL_law_217 : decode cL_law 217 = .ok (.aload_n 0, 1) := by decide +kernel
theorem dL_law_218 : decode cL_law 218 = .ok (.iload_n 3, 1) := by decide +kernel
theorem dL_law_219 : decode cL_law 219 = .ok (.iconst 1, 1) := by decide +kernel
theorem dL_law_220 : decode cL_law 220 = .ok (.iadd, 1) := by decide +kernel
theorem dL_law_221 : decode cL_law 221 = .ok (.iaload, 1) := by decide +kernel
theorem dL_law_222 : decode cL_law 222 = .ok (.invokevirtual 21, 3) := by decide +kernel
theorem dL_law_225 : decode cL_law 225 = .ok (.if_icmp .eq 891, 3) := by decide +kernel
theorem dL_law_228 : decode cL_law 228 = .ok (.iconst 0, 1) := by decide +kernel
theorem dL_law_229 : decode cL_law 229 = .ok (.ireturn, 1) := by decide +kernel
theorem dL_law_230 : decode cL_law 230 = .ok (.aload_n 1, 1) := by decide +kernel
theorem dL_law_231 : decode cL_law 231 = .ok (.invokevirtual 22, 3) := by decide +kernel
theorem dL_law_234 : decode cL_law 234 = .ok (.aload_n 2, 1) := by decide +kernel
theorem dL_law_235 : decode cL_law 235 = .ok (.invokevirtual 26, 3) := by decide +kernel
theorem dL_law_238 : decode cL_law 238 = .ok (.if_icmp .eq 878, 3) := by decide +kernel
theorem dL_law_241 : decode cL_law 241 = .ok (.iconst 0, 1) := by decide +kernel
theorem dL_law_242 : decode cL_law 242 = .ok (.ireturn, 1) := by decide +kernel
theorem dL_law_243 : decode cL_law 243 = .ok (.aload_n 1, 1) := by decide +kernel
theorem dL_law_244 : decode cL_law 244 = .ok (.invokevirtual 27, 3) := by decide +kernel
theorem dL_law_247 : decode cL_law 247 = .ok (.aload_n 2, 1) := by decide +kernel
theorem dL_law_248 : decode cL_law 248 = .ok (.invokevirtual 30, 3) := by decide +kernel
theorem dL_law_251 : decode cL_law 251 = .ok (.if_icmp .eq 865, 3) := by decide +kernel
theorem dL_law_254 : decode cL_law 254 = .ok (.iconst 0, 1) := by decide +kernel
theorem dL_law_255 : decode cL_law 255 = .ok (.ireturn, 1) := by decide +kernel
theorem dL_law_256 : decode cL_law 256 = .ok (.aload_n 1, 1) := by decide +kernel
theorem dL_law_257 : decode cL_law 257 = .ok (.aload_n 0, 1) := by decide +kernel
theorem dL_law_258 : decode cL_law 258 = .ok (.iload_n 3, 1) := by decide +kernel
theorem dL_law_259 : decode cL_law 259 = .ok (.iconst 1, 1) := by decide +kernel
theorem dL_law_260 : decode cL_law 260 = .ok (.iadd, 1) := by decide +kernel
theorem dL_law_261 : decode cL_law 261 = .ok (.iaload, 1) := by decide +kernel
theorem dL_law_262 : decode cL_law 262 = .ok (.invokevirtual 31, 3) := by decide +kernel
theorem dL_law_265 : decode cL_law 265 = .ok (.aload_n 2, 1) := by decide +kernel
theorem dL_law_266 : decode cL_law 266 = .ok (.aload_n 0, 1) := by decide +kernel
theorem dL_law_267 : decode cL_law 267 = .ok (.iload_n 3, 1) := by decide +kernel
theorem dL_law_268 : decode cL_law 268 = .ok (.iconst 1, 1) := by decide +kernel
theorem dL_law_269 : decode cL_law 269 = .ok (.iadd, 1) := by decide +kernel
theorem dL_law_270 : decode cL_law 270 = .ok (.iaload, 1) := by decide +kernel
theorem dL_law_271 : decode cL_law 271 = .ok (.invokevirtual 34, 3) := by decide +kernel
theorem dL_law_274 : decode cL_law 274 = .ok (.if_icmp .eq 842, 3) := by decide +kernel
theorem dL_law_277 : decode cL_law 277 = .ok (.iconst 0, 1) := by decide +kernel
theorem dL_law_278 : decode cL_law 278 = .ok (.ireturn, 1) := by decide +kernel
theorem dL_law_279 : decode cL_law 279 = .ok (.aload_n 1, 1) := by decide +kernel
theorem dL_law_280 : decode cL_law 280 = .ok (.aload_n 0, 1) := by decide +kernel
theorem dL_law_281 : decode cL_law 281 = .ok (.iload_n 3, 1) := by decide +kernel
theorem dL_law_282 : decode cL_law 282 = .ok (.iconst 1, 1) := by decide +kernel
theorem dL_law_283 : decode cL_law 283 = .ok (.iadd, 1) := by decide +kernel
theorem dL_law_284 : decode cL_law 284 = .ok (.iaload, 1) := by decide +kernel
theorem dL_law_285 : decode cL_law 285 = .ok (.invokevirtual 35, 3) := by decide +kernel
theorem dL_law_288 : decode cL_law 288 = .ok (.aload_n 2, 1) := by decide +kernel
theorem dL_law_289 : decode cL_law 289 = .ok (.aload_n 0, 1) := by decide +kernel
theorem dL_law_290 : decode cL_law 290 = .ok (.iload_n 3, 1) := by decide +kernel
theorem dL_law_291 : decode cL_law 291 = .ok (.iconst 1, 1) := by decide +kernel
theorem dL_law_292 : decode cL_law 292 = .ok (.iadd, 1) := by decide +kernel
theorem dL_law_293 : decode cL_law 293 = .ok (.iaload, 1) := by decide +kernel
theorem dL_law_294 : decode cL_law 294 = .ok (.invokevirtual 38, 3) := by decide +kernel
theorem dL_law_297 : decode cL_law 297 = .ok (.if_icmp .eq 819, 3) := by decide +kernel
theorem dL_law_300 : decode cL_law 300 = .ok (.iconst 0, 1) := by decide +kernel
theorem dL_law_301 : decode cL_law 301 = .ok (.ireturn, 1) := by decide +kernel
theorem dL_law_302 : decode cL_law 302 = .ok (.aload_n 1, 1) := by decide +kernel
theorem dL_law_303 : decode cL_law 303 = .ok (.aload_n 0, 1) := by decide +kernel
theorem dL_law_304 : decode cL_law 304 = .ok (.iload_n 3, 1) := by decide +kernel
theorem dL_law_305 : decode cL_law 305 = .ok (.iconst 1, 1) := by decide +kernel
theorem dL_law_306 : decode cL_law 306 = .ok (.iadd, 1) := by decide +kernel
theorem dL_law_307 : decode cL_law 307 = .ok (.iaload, 1) := by decide +kernel
theorem dL_law_308 : decode cL_law 308 = .ok (.aload_n 0, 1) := by decide +kernel
theorem dL_law_309 : decode cL_law 309 = .ok (.iload_n 3, 1) := by decide +kernel
theorem dL_law_310 : decode cL_law 310 = .ok (.iconst 2, 1) := by decide +kernel
theorem dL_law_311 : decode cL_law 311 = .ok (.iadd, 1) := by decide +kernel
theorem dL_law_312 : decode cL_law 312 = .ok (.iaload, 1) := by decide +kernel
theorem dL_law_313 : decode cL_law 313 = .ok (.invokevirtual 39, 3) := by decide +kernel
theorem dL_law_316 : decode cL_law 316 = .ok (.aload_n 2, 1) := by decide +kernel
theorem dL_law_317 : decode cL_law 317 = .ok (.aload_n 0, 1) := by decide +kernel
theorem dL_law_318 : decode cL_law 318 = .ok (.iload_n 3, 1) := by decide +kernel
theorem dL_law_319 : decode cL_law 319 = .ok (.iconst 1, 1) := by decide +kernel
theorem dL_law_320 : decode cL_law 320 = .ok (.iadd, 1) := by decide +kernel
theorem dL_law_321 : decode cL_law 321 = .ok (.iaload, 1) := by decide +kernel
theorem dL_law_322 : decode cL_law 322 = .ok (.aload_n 0, 1) := by decide +kernel
theorem dL_law_323 : decode cL_law 323 = .ok (.iload_n 3, 1) := by decide +kernel
theorem dL_law_324 : decode cL_law 324 = .ok (.iconst 2, 1) := by decide +kernel
theorem dL_law_325 : decode cL_law 325 = .ok (.iadd, 1) := by decide +kernel
theorem dL_law_326 : decode cL_law 326 = .ok (.iaload, 1) := by decide +kernel
theorem dL_law_327 : decode cL_law 327 = .ok (.invokevirtual 43, 3) := by decide +kernel
theorem dL_law_330 : decode cL_law 330 = .ok (.if_icmp .eq 786, 3) := by decide +kernel
theorem dL_law_333 : decode cL_law 333 = .ok (.iconst 0, 1) := by decide +kernel
theorem dL_law_334 : decode cL_law 334 = .ok (.ireturn, 1) := by decide +kernel
theorem dL_law_335 : decode cL_law 335 = .ok (.aload_n 1, 1) := by decide +kernel
theorem dL_law_336 : decode cL_law 336 = .ok (.aload_n 0, 1) := by decide +kernel
theorem dL_law_337 : decode cL_law 337 = .ok (.iload_n 3, 1) := by decide +kernel
theorem dL_law_338 : decode cL_law 338 = .ok (.iconst 1, 1) := by decide +kernel
theorem dL_law_339 : decode cL_law 339 = .ok (.iadd, 1) := by decide +kernel
theorem dL_law_340 : decode cL_law 340 = .ok (.iaload, 1) := by decide +kernel
theorem dL_law_341 : decode cL_law 341 = .ok (.aload_n 0, 1) := by decide +kernel
theorem dL_law_342 : decode cL_law 342 = .ok (.iload_n 3, 1) := by decide +kernel
theorem dL_law_343 : decode cL_law 343 = .ok (.iconst 2, 1) := by decide +kernel
theorem dL_law_344 : decode cL_law 344 = .ok (.iadd, 1) := by decide +kernel
theorem dL_law_345 : decode cL_law 345 = .ok (.iaload, 1) := by decide +kernel
theorem dL_law_346 : decode cL_law 346 = .ok (.invokevirtual 44, 3) := by decide +kernel
theorem dL_law_349 : decode cL_law 349 = .ok (.aload_n 2, 1) := by decide +kernel
theorem dL_law_350 : decode cL_law 350 = .ok (.aload_n 0, 1) := by decide +kernel
theorem dL_law_351 : decode cL_law 351 = .ok (.iload_n 3, 1) := by decide +kernel
theorem dL_law_352 : decode cL_law 352 = .ok (.iconst 1, 1) := by decide +kernel
theorem dL_law_353 : decode cL_law 353 = .ok (.iadd, 1) := by decide +kernel
theorem dL_law_354 : decode cL_law 354 = .ok (.iaload, 1) := by decide +kernel
theorem dL_law_355 : decode cL_law 355 = .ok (.aload_n 0, 1) := by decide +kernel
theorem dL_law_356 : decode cL_law 356 = .ok (.iload_n 3, 1) := by decide +kernel
theorem dL_law_357 : decode cL_law 357 = .ok (.iconst 2, 1) := by decide +kernel
theorem dL_law_358 : decode cL_law 358 = .ok (.iadd, 1) := by decide +kernel
theorem dL_law_359 : decode cL_law 359 = .ok (.iaload, 1) := by decide +kernel
theorem dL_law_360 : decode cL_law 360 = .ok (.invokevirtual 47, 3) := by decide +kernel
theorem dL_law_363 : decode cL_law 363 = .ok (.if_icmp .eq 753, 3) := by decide +kernel
theorem dL_law_366 : decode cL_law 366 = .ok (.iconst 0, 1) := by decide +kernel
theorem dL_law_367 : decode cL_law 367 = .ok (.ireturn, 1) := by decide +kernel
theorem dL_law_368 : decode cL_law 368 = .ok (.aload_n 1, 1) := by decide +kernel
theorem dL_law_369 : decode cL_law 369 = .ok (.aload_n 0, 1) := by decide +kernel
theorem dL_law_370 : decode cL_law 370 = .ok (.iload_n 3, 1) := by decide +kernel
theorem dL_law_371 : decode cL_law 371 = .ok (.iconst 1, 1) := by decide +kernel
theorem dL_law_372 : decode cL_law 372 = .ok (.iadd, 1) := by decide +kernel
theorem dL_law_373 : decode cL_law 373 = .ok (.iaload, 1) := by decide +kernel
theorem dL_law_374 : decode cL_law 374 = .ok (.aload_n 0, 1) := by decide +kernel
theorem dL_law_375 : decode cL_law 375 = .ok (.iload_n 3, 1) := by decide +kernel
theorem dL_law_376 : decode cL_law 376 = .ok (.iconst 2, 1) := by decide +kernel
theorem dL_law_377 : decode cL_law 377 = .ok (.iadd, 1) := by decide +kernel
theorem dL_law_378 : decode cL_law 378 = .ok (.iaload, 1) := by decide +kernel
theorem dL_law_379 : decode cL_law 379 = .ok (.invokevirtual 48, 3) := by decide +kernel
theorem dL_law_382 : decode cL_law 382 = .ok (.aload_n 2, 1) := by decide +kernel
theorem dL_law_383 : decode cL_law 383 = .ok (.aload_n 0, 1) := by decide +kernel
theorem dL_law_384 : decode cL_law 384 = .ok (.iload_n 3, 1) := by decide +kernel
theorem dL_law_385 : decode cL_law 385 = .ok (.iconst 1, 1) := by decide +kernel
theorem dL_law_386 : decode cL_law 386 = .ok (.iadd, 1) := by decide +kernel
theorem dL_law_387 : decode cL_law 387 = .ok (.iaload, 1) := by decide +kernel
theorem dL_law_388 : decode cL_law 388 = .ok (.aload_n 0, 1) := by decide +kernel
theorem dL_law_389 : decode cL_law 389 = .ok (.iload_n 3, 1) := by decide +kernel
theorem dL_law_390 : decode cL_law 390 = .ok (.iconst 2, 1) := by decide +kernel
theorem dL_law_391 : decode cL_law 391 = .ok (.iadd, 1) := by decide +kernel
theorem dL_law_392 : decode cL_law 392 = .ok (.iaload, 1) := by decide +kernel
theorem dL_law_393 : decode cL_law 393 = .ok (.invokevirtual 51, 3) := by decide +kernel
theorem dL_law_396 : decode cL_law 396 = .ok (.if_icmp .eq 720, 3) := by decide +kernel
theorem dL_law_399 : decode cL_law 399 = .ok (.iconst 0, 1) := by decide +kernel
theorem dL_law_400 : decode cL_law 400 = .ok (.ireturn, 1) := by decide +kernel
theorem dL_law_401 : decode cL_law 401 = .ok (.aload_n 1, 1) := by decide +kernel
theorem dL_law_402 : decode cL_law 402 = .ok (.aload_n 0, 1) := by decide +kernel
theorem dL_law_403 : decode cL_law 403 = .ok (.iload_n 3, 1) := by decide +kernel
theorem dL_law_404 : decode cL_law 404 = .ok (.iconst 1, 1) := by decide +kernel
theorem dL_law_405 : decode cL_law 405 = .ok (.iadd, 1) := by decide +kernel
theorem dL_law_406 : decode cL_law 406 = .ok (.iaload, 1) := by decide +kernel
theorem dL_law_407 : decode cL_law 407 = .ok (.aload_n 0, 1) := by decide +kernel
theorem dL_law_408 : decode cL_law 408 = .ok (.iload_n 3, 1) := by decide +kernel
theorem dL_law_409 : decode cL_law 409 = .ok (.iconst 2, 1) := by decide +kernel
theorem dL_law_410 : decode cL_law 410 = .ok (.iadd, 1) := by decide +kernel
theorem dL_law_411 : decode cL_law 411 = .ok (.iaload, 1) := by decide +kernel
theorem dL_law_412 : decode cL_law 412 = .ok (.aload_n 0, 1) := by decide +kernel
theorem dL_law_413 : decode cL_law 413 = .ok (.iload_n 3, 1) := by decide +kernel
theorem dL_law_414 : decode cL_law 414 = .ok (.iconst 3, 1) := by decide +kernel
theorem dL_law_415 : decode cL_law 415 = .ok (.iadd, 1) := by decide +kernel
theorem dL_law_416 : decode cL_law 416 = .ok (.iaload, 1) := by decide +kernel
theorem dL_law_417 : decode cL_law 417 = .ok (.invokevirtual 52, 3) := by decide +kernel
theorem dL_law_420 : decode cL_law 420 = .ok (.aload_n 2, 1) := by decide +kernel
theorem dL_law_421 : decode cL_law 421 = .ok (.aload_n 0, 1) := by decide +kernel
theorem dL_law_422 : decode cL_law 422 = .ok (.iload_n 3, 1) := by decide +kernel
theorem dL_law_423 : decode cL_law 423 = .ok (.iconst 1, 1) := by decide +kernel
theorem dL_law_424 : decode cL_law 424 = .ok (.iadd, 1) := by decide +kernel
theorem dL_law_425 : decode cL_law 425 = .ok (.iaload, 1) := by decide +kernel
theorem dL_law_426 : decode cL_law 426 = .ok (.aload_n 0, 1) := by decide +kernel
theorem dL_law_427 : decode cL_law 427 = .ok (.iload_n 3, 1) := by decide +kernel
theorem dL_law_428 : decode cL_law 428 = .ok (.iconst 2, 1) := by decide +kernel
theorem dL_law_429 : decode cL_law 429 = .ok (.iadd, 1) := by decide +kernel
theorem dL_law_430 : decode cL_law 430 = .ok (.iaload, 1) := by decide +kernel
theorem dL_law_431 : decode cL_law 431 = .ok (.aload_n 0, 1) := by decide +kernel
theorem dL_law_432 : decode cL_law 432 = .ok (.iload_n 3, 1) := by decide +kernel
theorem dL_law_433 : decode cL_law 433 = .ok (.iconst 3, 1) := by decide +kernel
theorem dL_law_434 : decode cL_law 434 = .ok (.iadd, 1) := by decide +kernel
theorem dL_law_435 : decode cL_law 435 = .ok (.iaload, 1) := by decide +kernel
theorem dL_law_436 : decode cL_law 436 = .ok (.invokevirtual 56, 3) := by decide +kernel
theorem dL_law_439 : decode cL_law 439 = .ok (.if_icmp .eq 677, 3) := by decide +kernel
theorem dL_law_442 : decode cL_law 442 = .ok (.iconst 0, 1) := by decide +kernel
theorem dL_law_443 : decode cL_law 443 = .ok (.ireturn, 1) := by decide +kernel
theorem dL_law_444 : decode cL_law 444 = .ok (.aload_n 1, 1) := by decide +kernel
theorem dL_law_445 : decode cL_law 445 = .ok (.aload_n 0, 1) := by decide +kernel
theorem dL_law_446 : decode cL_law 446 = .ok (.iload_n 3, 1) := by decide +kernel
theorem dL_law_447 : decode cL_law 447 = .ok (.iconst 1, 1) := by decide +kernel
theorem dL_law_448 : decode cL_law 448 = .ok (.iadd, 1) := by decide +kernel
theorem dL_law_449 : decode cL_law 449 = .ok (.iaload, 1) := by decide +kernel
theorem dL_law_450 : decode cL_law 450 = .ok (.aload_n 0, 1) := by decide +kernel
theorem dL_law_451 : decode cL_law 451 = .ok (.iload_n 3, 1) := by decide +kernel
theorem dL_law_452 : decode cL_law 452 = .ok (.iconst 2, 1) := by decide +kernel
theorem dL_law_453 : decode cL_law 453 = .ok (.iadd, 1) := by decide +kernel
theorem dL_law_454 : decode cL_law 454 = .ok (.iaload, 1) := by decide +kernel
theorem dL_law_455 : decode cL_law 455 = .ok (.invokevirtual 57, 3) := by decide +kernel
theorem dL_law_458 : decode cL_law 458 = .ok (.aload_n 2, 1) := by decide +kernel
theorem dL_law_459 : decode cL_law 459 = .ok (.aload_n 0, 1) := by decide +kernel
theorem dL_law_460 : decode cL_law 460 = .ok (.iload_n 3, 1) := by decide +kernel
theorem dL_law_461 : decode cL_law 461 = .ok (.iconst 1, 1) := by decide +kernel
theorem dL_law_462 : decode cL_law 462 = .ok (.iadd, 1) := by decide +kernel
theorem dL_law_463 : decode cL_law 463 = .ok (.iaload, 1) := by decide +kernel
theorem dL_law_464 : decode cL_law 464 = .ok (.aload_n 0, 1) := by decide +kernel
theorem dL_law_465 : decode cL_law 465 = .ok (.iload_n 3, 1) := by decide +kernel
theorem dL_law_466 : decode cL_law 466 = .ok (.iconst 2, 1) := by decide +kernel
theorem dL_law_467 : decode cL_law 467 = .ok (.iadd, 1) := by decide +kernel
theorem dL_law_468 : decode cL_law 468 = .ok (.iaload, 1) := by decide +kernel
theorem dL_law_469 : decode cL_law 469 = .ok (.invokevirtual 60, 3) := by decide +kernel
theorem dL_law_472 : decode cL_law 472 = .ok (.if_icmp .eq 644, 3) := by decide +kernel
theorem dL_law_475 : decode cL_law 475 = .ok (.iconst 0, 1) := by decide +kernel
theorem dL_law_476 : decode cL_law 476 = .ok (.ireturn, 1) := by decide +kernel
theorem dL_law_477 : decode cL_law 477 = .ok (.aload_n 1, 1) := by decide +kernel
theorem dL_law_478 : decode cL_law 478 = .ok (.aload_n 0, 1) := by decide +kernel
theorem dL_law_479 : decode cL_law 479 = .ok (.iload_n 3, 1) := by decide +kernel
theorem dL_law_480 : decode cL_law 480 = .ok (.iconst 1, 1) := by decide +kernel
theorem dL_law_481 : decode cL_law 481 = .ok (.iadd, 1) := by decide +kernel
theorem dL_law_482 : decode cL_law 482 = .ok (.iaload, 1) := by decide +kernel
theorem dL_law_483 : decode cL_law 483 = .ok (.aload_n 0, 1) := by decide +kernel
theorem dL_law_484 : decode cL_law 484 = .ok (.iload_n 3, 1) := by decide +kernel
theorem dL_law_485 : decode cL_law 485 = .ok (.iconst 2, 1) := by decide +kernel
theorem dL_law_486 : decode cL_law 486 = .ok (.iadd, 1) := by decide +kernel
theorem dL_law_487 : decode cL_law 487 = .ok (.iaload, 1) := by decide +kernel
theorem dL_law_488 : decode cL_law 488 = .ok (.invokevirtual 61, 3) := by decide +kernel
theorem dL_law_491 : decode cL_law 491 = .ok (.aload_n 2, 1) := by decide +kernel
theorem dL_law_492 : decode cL_law 492 = .ok (.aload_n 0, 1) := by decide +kernel
theorem dL_law_493 : decode cL_law 493 = .ok (.iload_n 3, 1) := by decide +kernel
theorem dL_law_494 : decode cL_law 494 = .ok (.iconst 1, 1) := by decide +kernel
theorem dL_law_495 : decode cL_law 495 = .ok (.iadd, 1) := by decide +kernel
theorem dL_law_496 : decode cL_law 496 = .ok (.iaload, 1) := by decide +kernel
theorem dL_law_497 : decode cL_law 497 = .ok (.aload_n 0, 1) := by decide +kernel
theorem dL_law_498 : decode cL_law 498 = .ok (.iload_n 3, 1) := by decide +kernel
theorem dL_law_499 : decode cL_law 499 = .ok (.iconst 2, 1) := by decide +kernel
theorem dL_law_500 : decode cL_law 500 = .ok (.iadd, 1) := by decide +kernel
theorem dL_law_501 : decode cL_law 501 = .ok (.iaload, 1) := by decide +kernel
theorem dL_law_502 : decode cL_law 502 = .ok (.invokevirtual 64, 3) := by decide +kernel
theorem dL_law_505 : decode cL_law 505 = .ok (.if_icmp .eq 611, 3) := by decide +kernel
theorem dL_law_508 : decode cL_law 508 = .ok (.iconst 0, 1) := by decide +kernel
theorem dL_law_509 : decode cL_law 509 = .ok (.ireturn, 1) := by decide +kernel
theorem dL_law_510 : decode cL_law 510 = .ok (.aload_n 1, 1) := by decide +kernel
theorem dL_law_511 : decode cL_law 511 = .ok (.aload_n 0, 1) := by decide +kernel
theorem dL_law_512 : decode cL_law 512 = .ok (.iload_n 3, 1) := by decide +kernel
theorem dL_law_513 : decode cL_law 513 = .ok (.iconst 1, 1) := by decide +kernel
theorem dL_law_514 : decode cL_law 514 = .ok (.iadd, 1) := by decide +kernel
theorem dL_law_515 : decode cL_law 515 = .ok (.iaload, 1) := by decide +kernel
theorem dL_law_516 : decode cL_law 516 = .ok (.aload_n 0, 1) := by decide +kernel
theorem dL_law_517 : decode cL_law 517 = .ok (.iload_n 3, 1) := by decide +kernel
theorem dL_law_518 : decode cL_law 518 = .ok (.iconst 2, 1) := by decide +kernel
theorem dL_law_519 : decode cL_law 519 = .ok (.iadd, 1) := by decide +kernel
theorem dL_law_520 : decode cL_law 520 = .ok (.iaload, 1) := by decide +kernel
theorem dL_law_521 : decode cL_law 521 = .ok (.invokevirtual 65, 3) := by decide +kernel
theorem dL_law_524 : decode cL_law 524 = .ok (.aload_n 2, 1) := by decide +kernel
theorem dL_law_525 : decode cL_law 525 = .ok (.aload_n 0, 1) := by decide +kernel
theorem dL_law_526 : decode cL_law 526 = .ok (.iload_n 3, 1) := by decide +kernel
theorem dL_law_527 : decode cL_law 527 = .ok (.iconst 1, 1) := by decide +kernel
theorem dL_law_528 : decode cL_law 528 = .ok (.iadd, 1) := by decide +kernel
theorem dL_law_529 : decode cL_law 529 = .ok (.iaload, 1) := by decide +kernel
theorem dL_law_530 : decode cL_law 530 = .ok (.aload_n 0, 1) := by decide +kernel
theorem dL_law_531 : decode cL_law 531 = .ok (.iload_n 3, 1) := by decide +kernel
theorem dL_law_532 : decode cL_law 532 = .ok (.iconst 2, 1) := by decide +kernel
theorem dL_law_533 : decode cL_law 533 = .ok (.iadd, 1) := by decide +kernel
theorem dL_law_534 : decode cL_law 534 = .ok (.iaload, 1) := by decide +kernel
theorem dL_law_535 : decode cL_law 535 = .ok (.invokevirtual 68, 3) := by decide +kernel
theorem dL_law_538 : decode cL_law 538 = .ok (.if_icmp .eq 578, 3) := by decide +kernel
theorem dL_law_541 : decode cL_law 541 = .ok (.iconst 0, 1) := by decide +kernel
theorem dL_law_542 : decode cL_law 542 = .ok (.ireturn, 1) := by decide +kernel
theorem dL_law_543 : decode cL_law 543 = .ok (.aload_n 1, 1) := by decide +kernel
theorem dL_law_544 : decode cL_law 544 = .ok (.aload_n 0, 1) := by decide +kernel
theorem dL_law_545 : decode cL_law 545 = .ok (.iload_n 3, 1) := by decide +kernel
theorem dL_law_546 : decode cL_law 546 = .ok (.iconst 1, 1) := by decide +kernel
theorem dL_law_547 : decode cL_law 547 = .ok (.iadd, 1) := by decide +kernel
theorem dL_law_548 : decode cL_law 548 = .ok (.iaload, 1) := by decide +kernel
theorem dL_law_549 : decode cL_law 549 = .ok (.invokevirtual 69, 3) := by decide +kernel
theorem dL_law_552 : decode cL_law 552 = .ok (.aload_n 2, 1) := by decide +kernel
theorem dL_law_553 : decode cL_law 553 = .ok (.aload_n 0, 1) := by decide +kernel
theorem dL_law_554 : decode cL_law 554 = .ok (.iload_n 3, 1) := by decide +kernel
theorem dL_law_555 : decode cL_law 555 = .ok (.iconst 1, 1) := by decide +kernel
theorem dL_law_556 : decode cL_law 556 = .ok (.iadd, 1) := by decide +kernel
theorem dL_law_557 : decode cL_law 557 = .ok (.iaload, 1) := by decide +kernel
theorem dL_law_558 : decode cL_law 558 = .ok (.invokevirtual 72, 3) := by decide +kernel
theorem dL_law_561 : decode cL_law 561 = .ok (.if_icmp .eq 555, 3) := by decide +kernel
theorem dL_law_564 : decode cL_law 564 = .ok (.iconst 0, 1) := by decide +kernel
theorem dL_law_565 : decode cL_law 565 = .ok (.ireturn, 1) := by decide +kernel
theorem dL_law_566 : decode cL_law 566 = .ok (.aload_n 1, 1) := by decide +kernel
theorem dL_law_567 : decode cL_law 567 = .ok (.aload_n 0, 1) := by decide +kernel
theorem dL_law_568 : decode cL_law 568 = .ok (.iload_n 3, 1) := by decide +kernel
theorem dL_law_569 : decode cL_law 569 = .ok (.iconst 1, 1) := by decide +kernel
theorem dL_law_570 : decode cL_law 570 = .ok (.iadd, 1) := by decide +kernel
theorem dL_law_571 : decode cL_law 571 = .ok (.iaload, 1) := by decide +kernel
theorem dL_law_572 : decode cL_law 572 = .ok (.aload_n 0, 1) := by decide +kernel
theorem dL_law_573 : decode cL_law 573 = .ok (.iload_n 3, 1) := by decide +kernel
theorem dL_law_574 : decode cL_law 574 = .ok (.iconst 2, 1) := by decide +kernel
theorem dL_law_575 : decode cL_law 575 = .ok (.iadd, 1) := by decide +kernel
theorem dL_law_576 : decode cL_law 576 = .ok (.iaload, 1) := by decide +kernel
theorem dL_law_577 : decode cL_law 577 = .ok (.invokevirtual 73, 3) := by decide +kernel
theorem dL_law_580 : decode cL_law 580 = .ok (.aload_n 2, 1) := by decide +kernel
theorem dL_law_581 : decode cL_law 581 = .ok (.aload_n 0, 1) := by decide +kernel
theorem dL_law_582 : decode cL_law 582 = .ok (.iload_n 3, 1) := by decide +kernel
theorem dL_law_583 : decode cL_law 583 = .ok (.iconst 1, 1) := by decide +kernel
theorem dL_law_584 : decode cL_law 584 = .ok (.iadd, 1) := by decide +kernel
theorem dL_law_585 : decode cL_law 585 = .ok (.iaload, 1) := by decide +kernel
theorem dL_law_586 : decode cL_law 586 = .ok (.aload_n 0, 1) := by decide +kernel
theorem dL_law_587 : decode cL_law 587 = .ok (.iload_n 3, 1) := by decide +kernel
theorem dL_law_588 : decode cL_law 588 = .ok (.iconst 2, 1) := by decide +kernel
theorem dL_law_589 : decode cL_law 589 = .ok (.iadd, 1) := by decide +kernel
theorem dL_law_590 : decode cL_law 590 = .ok (.iaload, 1) := by decide +kernel
theorem dL_law_591 : decode cL_law 591 = .ok (.invokevirtual 76, 3) := by decide +kernel
theorem dL_law_594 : decode cL_law 594 = .ok (.if_icmp .eq 522, 3) := by decide +kernel
theorem dL_law_597 : decode cL_law 597 = .ok (.iconst 0, 1) := by decide +kernel
theorem dL_law_598 : decode cL_law 598 = .ok (.ireturn, 1) := by decide +kernel
theorem dL_law_599 : decode cL_law 599 = .ok (.aload_n 1, 1) := by decide +kernel
theorem dL_law_600 : decode cL_law 600 = .ok (.aload_n 0, 1) := by decide +kernel
theorem dL_law_601 : decode cL_law 601 = .ok (.iload_n 3, 1) := by decide +kernel
theorem dL_law_602 : decode cL_law 602 = .ok (.iconst 1, 1) := by decide +kernel
theorem dL_law_603 : decode cL_law 603 = .ok (.iadd, 1) := by decide +kernel
theorem dL_law_604 : decode cL_law 604 = .ok (.iaload, 1) := by decide +kernel
theorem dL_law_605 : decode cL_law 605 = .ok (.invokevirtual 77, 3) := by decide +kernel
theorem dL_law_608 : decode cL_law 608 = .ok (.aload_n 2, 1) := by decide +kernel
theorem dL_law_609 : decode cL_law 609 = .ok (.aload_n 0, 1) := by decide +kernel
theorem dL_law_610 : decode cL_law 610 = .ok (.iload_n 3, 1) := by decide +kernel
theorem dL_law_611 : decode cL_law 611 = .ok (.iconst 1, 1) := by decide +kernel
theorem dL_law_612 : decode cL_law 612 = .ok (.iadd, 1) := by decide +kernel
theorem dL_law_613 : decode cL_law 613 = .ok (.iaload, 1) := by decide +kernel
theorem dL_law_614 : decode cL_law 614 = .ok (.invokevirtual 80, 3) := by decide +kernel
theorem dL_law_617 : decode cL_law 617 = .ok (.if_icmp .eq 499, 3) := by decide +kernel
theorem dL_law_620 : decode cL_law 620 = .ok (.iconst 0, 1) := by decide +kernel
theorem dL_law_621 : decode cL_law 621 = .ok (.ireturn, 1) := by decide +kernel
theorem dL_law_622 : decode cL_law 622 = .ok (.aload_n 1, 1) := by decide +kernel
theorem dL_law_623 : decode cL_law 623 = .ok (.aload_n 0, 1) := by decide +kernel
theorem dL_law_624 : decode cL_law 624 = .ok (.iload_n 3, 1) := by decide +kernel
theorem dL_law_625 : decode cL_law 625 = .ok (.iconst 1, 1) := by decide +kernel
theorem dL_law_626 : decode cL_law 626 = .ok (.iadd, 1) := by decide +kernel
theorem dL_law_627 : decode cL_law 627 = .ok (.iaload, 1) := by decide +kernel
theorem dL_law_628 : decode cL_law 628 = .ok (.invokevirtual 81, 3) := by decide +kernel
theorem dL_law_631 : decode cL_law 631 = .ok (.aload_n 2, 1) := by decide +kernel
theorem dL_law_632 : decode cL_law 632 = .ok (.aload_n 0, 1) := by decide +kernel
theorem dL_law_633 : decode cL_law 633 = .ok (.iload_n 3, 1) := by decide +kernel
theorem dL_law_634 : decode cL_law 634 = .ok (.iconst 1, 1) := by decide +kernel
theorem dL_law_635 : decode cL_law 635 = .ok (.iadd, 1) := by decide +kernel
theorem dL_law_636 : decode cL_law 636 = .ok (.iaload, 1) := by decide +kernel
theorem dL_law_637 : decode cL_law 637 = .ok (.invokevirtual 84, 3) := by decide +kernel
theorem dL_law_640 : decode cL_law 640 = .ok (.if_icmp .eq 476, 3) := by decide +kernel
theorem dL_law_643 : decode cL_law 643 = .ok (.iconst 0, 1) := by decide +kernel
theorem dL_law_644 : decode cL_law 644 = .ok (.ireturn, 1) := by decide +kernel
theorem dL_law_645 : decode cL_law 645 = .ok (.aload_n 1, 1) := by decide +kernel
theorem dL_law_646 : decode cL_law 646 = .ok (.invokevirtual 85, 3) := by decide +kernel
theorem dL_law_649 : decode cL_law 649 = .ok (.aload_n 2, 1) := by decide +kernel
theorem dL_law_650 : decode cL_law 650 = .ok (.invokevirtual 88, 3) := by decide +kernel
theorem dL_law_653 : decode cL_law 653 = .ok (.if_icmp .eq 463, 3) := by decide +kernel
theorem dL_law_656 : decode cL_law 656 = .ok (.iconst 0, 1) := by decide +kernel
theorem dL_law_657 : decode cL_law 657 = .ok (.ireturn, 1) := by decide +kernel
theorem dL_law_658 : decode cL_law 658 = .ok (.aload_n 1, 1) := by decide +kernel
theorem dL_law_659 : decode cL_law 659 = .ok (.aload_n 0, 1) := by decide +kernel
theorem dL_law_660 : decode cL_law 660 = .ok (.iload_n 3, 1) := by decide +kernel
theorem dL_law_661 : decode cL_law 661 = .ok (.iconst 1, 1) := by decide +kernel
theorem dL_law_662 : decode cL_law 662 = .ok (.iadd, 1) := by decide +kernel
theorem dL_law_663 : decode cL_law 663 = .ok (.iaload, 1) := by decide +kernel
theorem dL_law_664 : decode cL_law 664 = .ok (.aload_n 0, 1) := by decide +kernel
theorem dL_law_665 : decode cL_law 665 = .ok (.iload_n 3, 1) := by decide +kernel
theorem dL_law_666 : decode cL_law 666 = .ok (.iconst 2, 1) := by decide +kernel
theorem dL_law_667 : decode cL_law 667 = .ok (.iadd, 1) := by decide +kernel
theorem dL_law_668 : decode cL_law 668 = .ok (.iaload, 1) := by decide +kernel
theorem dL_law_669 : decode cL_law 669 = .ok (.invokevirtual 89, 3) := by decide +kernel
theorem dL_law_672 : decode cL_law 672 = .ok (.aload_n 2, 1) := by decide +kernel
theorem dL_law_673 : decode cL_law 673 = .ok (.aload_n 0, 1) := by decide +kernel
theorem dL_law_674 : decode cL_law 674 = .ok (.iload_n 3, 1) := by decide +kernel
theorem dL_law_675 : decode cL_law 675 = .ok (.iconst 1, 1) := by decide +kernel
theorem dL_law_676 : decode cL_law 676 = .ok (.iadd, 1) := by decide +kernel
theorem dL_law_677 : decode cL_law 677 = .ok (.iaload, 1) := by decide +kernel
theorem dL_law_678 : decode cL_law 678 = .ok (.aload_n 0, 1) := by decide +kernel
theorem dL_law_679 : decode cL_law 679 = .ok (.iload_n 3, 1) := by decide +kernel
theorem dL_law_680 : decode cL_law 680 = .ok (.iconst 2, 1) := by decide +kernel
theorem dL_law_681 : decode cL_law 681 = .ok (.iadd, 1) := by decide +kernel
theorem dL_law_682 : decode cL_law 682 = .ok (.iaload, 1) := by decide +kernel
theorem dL_law_683 : decode cL_law 683 = .ok (.invokevirtual 92, 3) := by decide +kernel
theorem dL_law_686 : decode cL_law 686 = .ok (.if_icmp .eq 430, 3) := by decide +kernel
theorem dL_law_689 : decode cL_law 689 = .ok (.iconst 0, 1) := by decide +kernel
theorem dL_law_690 : decode cL_law 690 = .ok (.ireturn, 1) := by decide +kernel
theorem dL_law_691 : decode cL_law 691 = .ok (.aload_n 1, 1) := by decide +kernel
theorem dL_law_692 : decode cL_law 692 = .ok (.aload_n 0, 1) := by decide +kernel
theorem dL_law_693 : decode cL_law 693 = .ok (.iload_n 3, 1) := by decide +kernel
theorem dL_law_694 : decode cL_law 694 = .ok (.iconst 1, 1) := by decide +kernel
theorem dL_law_695 : decode cL_law 695 = .ok (.iadd, 1) := by decide +kernel
theorem dL_law_696 : decode cL_law 696 = .ok (.iaload, 1) := by decide +kernel
theorem dL_law_697 : decode cL_law 697 = .ok (.invokevirtual 93, 3) := by decide +kernel
theorem dL_law_700 : decode cL_law 700 = .ok (.aload_n 2, 1) := by decide +kernel
theorem dL_law_701 : decode cL_law 701 = .ok (.aload_n 0, 1) := by decide +kernel
theorem dL_law_702 : decode cL_law 702 = .ok (.iload_n 3, 1) := by decide +kernel
theorem dL_law_703 : decode cL_law 703 = .ok (.iconst 1, 1) := by decide +kernel
theorem dL_law_704 : decode cL_law 704 = .ok (.iadd, 1) := by decide +kernel
theorem dL_law_705 : decode cL_law 705 = .ok (.iaload, 1) := by decide +kernel
theorem dL_law_706 : decode cL_law 706 = .ok (.invokevirtual 96, 3) := by decide +kernel
theorem dL_law_709 : decode cL_law 709 = .ok (.if_icmp .eq 407, 3) := by decide +kernel
theorem dL_law_712 : decode cL_law 712 = .ok (.iconst 0, 1) := by decide +kernel
theorem dL_law_713 : decode cL_law 713 = .ok (.ireturn, 1) := by decide +kernel
theorem dL_law_714 : decode cL_law 714 = .ok (.aload_n 1, 1) := by decide +kernel
theorem dL_law_715 : decode cL_law 715 = .ok (.aload_n 0, 1) := by decide +kernel
theorem dL_law_716 : decode cL_law 716 = .ok (.iload_n 3, 1) := by decide +kernel
theorem dL_law_717 : decode cL_law 717 = .ok (.iconst 1, 1) := by decide +kernel
theorem dL_law_718 : decode cL_law 718 = .ok (.iadd, 1) := by decide +kernel
theorem dL_law_719 : decode cL_law 719 = .ok (.iaload, 1) := by decide +kernel
theorem dL_law_720 : decode cL_law 720 = .ok (.invokevirtual 97, 3) := by decide +kernel
theorem dL_law_723 : decode cL_law 723 = .ok (.aload_n 2, 1) := by decide +kernel
theorem dL_law_724 : decode cL_law 724 = .ok (.aload_n 0, 1) := by decide +kernel
theorem dL_law_725 : decode cL_law 725 = .ok (.iload_n 3, 1) := by decide +kernel
theorem dL_law_726 : decode cL_law 726 = .ok (.iconst 1, 1) := by decide +kernel
theorem dL_law_727 : decode cL_law 727 = .ok (.iadd, 1) := by decide +kernel
theorem dL_law_728 : decode cL_law 728 = .ok (.iaload, 1) := by decide +kernel
theorem dL_law_729 : decode cL_law 729 = .ok (.invokevirtual 100, 3) := by decide +kernel
theorem dL_law_732 : decode cL_law 732 = .ok (.if_icmp .eq 384, 3) := by decide +kernel
theorem dL_law_735 : decode cL_law 735 = .ok (.iconst 0, 1) := by decide +kernel
theorem dL_law_736 : decode cL_law 736 = .ok (.ireturn, 1) := by decide +kernel
theorem dL_law_737 : decode cL_law 737 = .ok (.aload_n 1, 1) := by decide +kernel
theorem dL_law_738 : decode cL_law 738 = .ok (.aload_n 0, 1) := by decide +kernel
theorem dL_law_739 : decode cL_law 739 = .ok (.iload_n 3, 1) := by decide +kernel
theorem dL_law_740 : decode cL_law 740 = .ok (.iconst 1, 1) := by decide +kernel
theorem dL_law_741 : decode cL_law 741 = .ok (.iadd, 1) := by decide +kernel
theorem dL_law_742 : decode cL_law 742 = .ok (.iaload, 1) := by decide +kernel
theorem dL_law_743 : decode cL_law 743 = .ok (.invokevirtual 101, 3) := by decide +kernel
theorem dL_law_746 : decode cL_law 746 = .ok (.aload_n 2, 1) := by decide +kernel
theorem dL_law_747 : decode cL_law 747 = .ok (.aload_n 0, 1) := by decide +kernel
theorem dL_law_748 : decode cL_law 748 = .ok (.iload_n 3, 1) := by decide +kernel
theorem dL_law_749 : decode cL_law 749 = .ok (.iconst 1, 1) := by decide +kernel
theorem dL_law_750 : decode cL_law 750 = .ok (.iadd, 1) := by decide +kernel
theorem dL_law_751 : decode cL_law 751 = .ok (.iaload, 1) := by decide +kernel
theorem dL_law_752 : decode cL_law 752 = .ok (.invokevirtual 104, 3) := by decide +kernel
theorem dL_law_755 : decode cL_law 755 = .ok (.if_icmp .eq 361, 3) := by decide +kernel
theorem dL_law_758 : decode cL_law 758 = .ok (.iconst 0, 1) := by decide +kernel
theorem dL_law_759 : decode cL_law 759 = .ok (.ireturn, 1) := by decide +kernel
theorem dL_law_760 : decode cL_law 760 = .ok (.aload_n 1, 1) := by decide +kernel
theorem dL_law_761 : decode cL_law 761 = .ok (.aload_n 0, 1) := by decide +kernel
theorem dL_law_762 : decode cL_law 762 = .ok (.iload_n 3, 1) := by decide +kernel
theorem dL_law_763 : decode cL_law 763 = .ok (.iconst 1, 1) := by decide +kernel
theorem dL_law_764 : decode cL_law 764 = .ok (.iadd, 1) := by decide +kernel
theorem dL_law_765 : decode cL_law 765 = .ok (.iaload, 1) := by decide +kernel
theorem dL_law_766 : decode cL_law 766 = .ok (.invokevirtual 105, 3) := by decide +kernel
theorem dL_law_769 : decode cL_law 769 = .ok (.aload_n 2, 1) := by decide +kernel
theorem dL_law_770 : decode cL_law 770 = .ok (.aload_n 0, 1) := by decide +kernel
theorem dL_law_771 : decode cL_law 771 = .ok (.iload_n 3, 1) := by decide +kernel
theorem dL_law_772 : decode cL_law 772 = .ok (.iconst 1, 1) := by decide +kernel
theorem dL_law_773 : decode cL_law 773 = .ok (.iadd, 1) := by decide +kernel
theorem dL_law_774 : decode cL_law 774 = .ok (.iaload, 1) := by decide +kernel
theorem dL_law_775 : decode cL_law 775 = .ok (.invokevirtual 108, 3) := by decide +kernel
theorem dL_law_778 : decode cL_law 778 = .ok (.if_icmp .eq 338, 3) := by decide +kernel
theorem dL_law_781 : decode cL_law 781 = .ok (.iconst 0, 1) := by decide +kernel
theorem dL_law_782 : decode cL_law 782 = .ok (.ireturn, 1) := by decide +kernel
theorem dL_law_783 : decode cL_law 783 = .ok (.aload_n 1, 1) := by decide +kernel
theorem dL_law_784 : decode cL_law 784 = .ok (.aload_n 0, 1) := by decide +kernel
theorem dL_law_785 : decode cL_law 785 = .ok (.iload_n 3, 1) := by decide +kernel
theorem dL_law_786 : decode cL_law 786 = .ok (.iconst 1, 1) := by decide +kernel
theorem dL_law_787 : decode cL_law 787 = .ok (.iadd, 1) := by decide +kernel
theorem dL_law_788 : decode cL_law 788 = .ok (.iaload, 1) := by decide +kernel
theorem dL_law_789 : decode cL_law 789 = .ok (.aload_n 0, 1) := by decide +kernel
theorem dL_law_790 : decode cL_law 790 = .ok (.iload_n 3, 1) := by decide +kernel
theorem dL_law_791 : decode cL_law 791 = .ok (.iconst 2, 1) := by decide +kernel
theorem dL_law_792 : decode cL_law 792 = .ok (.iadd, 1) := by decide +kernel
theorem dL_law_793 : decode cL_law 793 = .ok (.iaload, 1) := by decide +kernel
theorem dL_law_794 : decode cL_law 794 = .ok (.invokevirtual 109, 3) := by decide +kernel
theorem dL_law_797 : decode cL_law 797 = .ok (.aload_n 2, 1) := by decide +kernel
theorem dL_law_798 : decode cL_law 798 = .ok (.aload_n 0, 1) := by decide +kernel
theorem dL_law_799 : decode cL_law 799 = .ok (.iload_n 3, 1) := by decide +kernel
theorem dL_law_800 : decode cL_law 800 = .ok (.iconst 1, 1) := by decide +kernel
theorem dL_law_801 : decode cL_law 801 = .ok (.iadd, 1) := by decide +kernel
theorem dL_law_802 : decode cL_law 802 = .ok (.iaload, 1) := by decide +kernel
theorem dL_law_803 : decode cL_law 803 = .ok (.aload_n 0, 1) := by decide +kernel
theorem dL_law_804 : decode cL_law 804 = .ok (.iload_n 3, 1) := by decide +kernel
theorem dL_law_805 : decode cL_law 805 = .ok (.iconst 2, 1) := by decide +kernel
theorem dL_law_806 : decode cL_law 806 = .ok (.iadd, 1) := by decide +kernel
theorem dL_law_807 : decode cL_law 807 = .ok (.iaload, 1) := by decide +kernel
theorem dL_law_808 : decode cL_law 808 = .ok (.invokevirtual 112, 3) := by decide +kernel
theorem dL_law_811 : decode cL_law 811 = .ok (.if_icmp .eq 305, 3) := by decide +kernel
theorem dL_law_814 : decode cL_law 814 = .ok (.iconst 0, 1) := by decide +kernel
theorem dL_law_815 : decode cL_law 815 = .ok (.ireturn, 1) := by decide +kernel
theorem dL_law_816 : decode cL_law 816 = .ok (.aload_n 1, 1) := by decide +kernel
theorem dL_law_817 : decode cL_law 817 = .ok (.aload_n 0, 1) := by decide +kernel
theorem dL_law_818 : decode cL_law 818 = .ok (.iload_n 3, 1) := by decide +kernel
theorem dL_law_819 : decode cL_law 819 = .ok (.iconst 1, 1) := by decide +kernel
theorem dL_law_820 : decode cL_law 820 = .ok (.iadd, 1) := by decide +kernel
theorem dL_law_821 : decode cL_law 821 = .ok (.iaload, 1) := by decide +kernel
theorem dL_law_822 : decode cL_law 822 = .ok (.invokevirtual 113, 3) := by decide +kernel
theorem dL_law_825 : decode cL_law 825 = .ok (.aload_n 2, 1) := by decide +kernel
theorem dL_law_826 : decode cL_law 826 = .ok (.aload_n 0, 1) := by decide +kernel
theorem dL_law_827 : decode cL_law 827 = .ok (.iload_n 3, 1) := by decide +kernel
theorem dL_law_828 : decode cL_law 828 = .ok (.iconst 1, 1) := by decide +kernel
theorem dL_law_829 : decode cL_law 829 = .ok (.iadd, 1) := by decide +kernel
theorem dL_law_830 : decode cL_law 830 = .ok (.iaload, 1) := by decide +kernel
theorem dL_law_831 : decode cL_law 831 = .ok (.invokevirtual 116, 3) := by decide +kernel
theorem dL_law_834 : decode cL_law 834 = .ok (.if_icmp .eq 282, 3) := by decide +kernel
theorem dL_law_837 : decode cL_law 837 = .ok (.iconst 0, 1) := by decide +kernel
theorem dL_law_838 : decode cL_law 838 = .ok (.ireturn, 1) := by decide +kernel
theorem dL_law_839 : decode cL_law 839 = .ok (.aload_n 1, 1) := by decide +kernel
theorem dL_law_840 : decode cL_law 840 = .ok (.aload_n 0, 1) := by decide +kernel
theorem dL_law_841 : decode cL_law 841 = .ok (.iload_n 3, 1) := by decide +kernel
theorem dL_law_842 : decode cL_law 842 = .ok (.iconst 1, 1) := by decide +kernel
theorem dL_law_843 : decode cL_law 843 = .ok (.iadd, 1) := by decide +kernel
theorem dL_law_844 : decode cL_law 844 = .ok (.iaload, 1) := by decide +kernel
theorem dL_law_845 : decode cL_law 845 = .ok (.invokevirtual 117, 3) := by decide +kernel
theorem dL_law_848 : decode cL_law 848 = .ok (.aload_n 2, 1) := by decide +kernel
theorem dL_law_849 : decode cL_law 849 = .ok (.aload_n 0, 1) := by decide +kernel
theorem dL_law_850 : decode cL_law 850 = .ok (.iload_n 3, 1) := by decide +kernel
theorem dL_law_851 : decode cL_law 851 = .ok (.iconst 1, 1) := by decide +kernel
theorem dL_law_852 : decode cL_law 852 = .ok (.iadd, 1) := by decide +kernel
theorem dL_law_853 : decode cL_law 853 = .ok (.iaload, 1) := by decide +kernel
theorem dL_law_854 : decode cL_law 854 = .ok (.invokevirtual 120, 3) := by decide +kernel
theorem dL_law_857 : decode cL_law 857 = .ok (.if_icmp .eq 259, 3) := by decide +kernel
theorem dL_law_860 : decode cL_law 860 = .ok (.iconst 0, 1) := by decide +kernel
theorem dL_law_861 : decode cL_law 861 = .ok (.ireturn, 1) := by decide +kernel
theorem dL_law_862 : decode cL_law 862 = .ok (.aload_n 1, 1) := by decide +kernel
theorem dL_law_863 : decode cL_law 863 = .ok (.aload_n 0, 1) := by decide +kernel
theorem dL_law_864 : decode cL_law 864 = .ok (.iload_n 3, 1) := by decide +kernel
theorem dL_law_865 : decode cL_law 865 = .ok (.iconst 1, 1) := by decide +kernel
theorem dL_law_866 : decode cL_law 866 = .ok (.iadd, 1) := by decide +kernel
theorem dL_law_867 : decode cL_law 867 = .ok (.iaload, 1) := by decide +kernel
theorem dL_law_868 : decode cL_law 868 = .ok (.aload_n 0, 1) := by decide +kernel
theorem dL_law_869 : decode cL_law 869 = .ok (.iload_n 3, 1) := by decide +kernel
theorem dL_law_870 : decode cL_law 870 = .ok (.iconst 2, 1) := by decide +kernel
theorem dL_law_871 : decode cL_law 871 = .ok (.iadd, 1) := by decide +kernel
theorem dL_law_872 : decode cL_law 872 = .ok (.iaload, 1) := by decide +kernel
theorem dL_law_873 : decode cL_law 873 = .ok (.invokevirtual 121, 3) := by decide +kernel
theorem dL_law_876 : decode cL_law 876 = .ok (.aload_n 2, 1) := by decide +kernel
theorem dL_law_877 : decode cL_law 877 = .ok (.aload_n 0, 1) := by decide +kernel
theorem dL_law_878 : decode cL_law 878 = .ok (.iload_n 3, 1) := by decide +kernel
theorem dL_law_879 : decode cL_law 879 = .ok (.iconst 1, 1) := by decide +kernel
theorem dL_law_880 : decode cL_law 880 = .ok (.iadd, 1) := by decide +kernel
theorem dL_law_881 : decode cL_law 881 = .ok (.iaload, 1) := by decide +kernel
theorem dL_law_882 : decode cL_law 882 = .ok (.aload_n 0, 1) := by decide +kernel
theorem dL_law_883 : decode cL_law 883 = .ok (.iload_n 3, 1) := by decide +kernel
theorem dL_law_884 : decode cL_law 884 = .ok (.iconst 2, 1) := by decide +kernel
theorem dL_law_885 : decode cL_law 885 = .ok (.iadd, 1) := by decide +kernel
theorem dL_law_886 : decode cL_law 886 = .ok (.iaload, 1) := by decide +kernel
theorem dL_law_887 : decode cL_law 887 = .ok (.invokevirtual 124, 3) := by decide +kernel
theorem dL_law_890 : decode cL_law 890 = .ok (.if_icmp .eq 226, 3) := by decide +kernel
theorem dL_law_893 : decode cL_law 893 = .ok (.iconst 0, 1) := by decide +kernel
theorem dL_law_894 : decode cL_law 894 = .ok (.ireturn, 1) := by decide +kernel
theorem dL_law_895 : decode cL_law 895 = .ok (.aload_n 1, 1) := by decide +kernel
theorem dL_law_896 : decode cL_law 896 = .ok (.aload_n 0, 1) := by decide +kernel
theorem dL_law_897 : decode cL_law 897 = .ok (.iload_n 3, 1) := by decide +kernel
theorem dL_law_898 : decode cL_law 898 = .ok (.iconst 1, 1) := by decide +kernel
theorem dL_law_899 : decode cL_law 899 = .ok (.iadd, 1) := by decide +kernel
theorem dL_law_900 : decode cL_law 900 = .ok (.iaload, 1) := by decide +kernel
theorem dL_law_901 : decode cL_law 901 = .ok (.invokevirtual 125, 3) := by decide +kernel
theorem dL_law_904 : decode cL_law 904 = .ok (.aload_n 2, 1) := by decide +kernel
theorem dL_law_905 : decode cL_law 905 = .ok (.aload_n 0, 1) := by decide +kernel
theorem dL_law_906 : decode cL_law 906 = .ok (.iload_n 3, 1) := by decide +kernel
theorem dL_law_907 : decode cL_law 907 = .ok (.iconst 1, 1) := by decide +kernel
theorem dL_law_908 : decode cL_law 908 = .ok (.iadd, 1) := by decide +kernel
theorem dL_law_909 : decode cL_law 909 = .ok (.iaload, 1) := by decide +kernel
theorem dL_law_910 : decode cL_law 910 = .ok (.invokevirtual 128, 3) := by decide +kernel
theorem dL_law_913 : decode cL_law 913 = .ok (.if_icmp .eq 203, 3) := by decide +kernel
theorem dL_law_916 : decode cL_law 916 = .ok (.iconst 0, 1) := by decide +kernel
theorem dL_law_917 : decode cL_law 917 = .ok (.ireturn, 1) := by decide +kernel
theorem dL_law_918 : decode cL_law 918 = .ok (.aload_n 1, 1) := by decide +kernel
theorem dL_law_919 : decode cL_law 919 = .ok (.aload_n 0, 1) := by decide +kernel
theorem dL_law_920 : decode cL_law 920 = .ok (.iload_n 3, 1) := by decide +kernel
theorem dL_law_921 : decode cL_law 921 = .ok (.iconst 1, 1) := by decide +kernel
theorem dL_law_922 : decode cL_law 922 = .ok (.iadd, 1) := by decide +kernel
theorem dL_law_923 : decode cL_law 923 = .ok (.iaload, 1) := by decide +kernel
theorem dL_law_924 : decode cL_law 924 = .ok (.invokevirtual 129, 3) := by decide +kernel
theorem dL_law_927 : decode cL_law 927 = .ok (.aload_n 2, 1) := by decide +kernel
theorem dL_law_928 : decode cL_law 928 = .ok (.aload_n 0, 1) := by decide +kernel
theorem dL_law_929 : decode cL_law 929 = .ok (.iload_n 3, 1) := by decide +kernel
theorem dL_law_930 : decode cL_law 930 = .ok (.iconst 1, 1) := by decide +kernel
theorem dL_law_931 : decode cL_law 931 = .ok (.iadd, 1) := by decide +kernel
theorem dL_law_932 : decode cL_law 932 = .ok (.iaload, 1) := by decide +kernel
theorem dL_law_933 : decode cL_law 933 = .ok (.invokevirtual 132, 3) := by decide +kernel
theorem dL_law_936 : decode cL_law 936 = .ok (.if_icmp .eq 180, 3) := by decide +kernel
theorem dL_law_939 : decode cL_law 939 = .ok (.iconst 0, 1) := by decide +kernel
theorem dL_law_940 : decode cL_law 940 = .ok (.ireturn, 1) := by decide +kernel
theorem dL_law_941 : decode cL_law 941 = .ok (.aload_n 1, 1) := by decide +kernel
theorem dL_law_942 : decode cL_law 942 = .ok (.aload_n 0, 1) := by decide +kernel
theorem dL_law_943 : decode cL_law 943 = .ok (.iload_n 3, 1) := by decide +kernel
theorem dL_law_944 : decode cL_law 944 = .ok (.iconst 1, 1) := by decide +kernel
theorem dL_law_945 : decode cL_law 945 = .ok (.iadd, 1) := by decide +kernel
theorem dL_law_946 : decode cL_law 946 = .ok (.iaload, 1) := by decide +kernel
theorem dL_law_947 : decode cL_law 947 = .ok (.aload_n 0, 1) := by decide +kernel
theorem dL_law_948 : decode cL_law 948 = .ok (.iload_n 3, 1) := by decide +kernel
theorem dL_law_949 : decode cL_law 949 = .ok (.iconst 2, 1) := by decide +kernel
theorem dL_law_950 : decode cL_law 950 = .ok (.iadd, 1) := by decide +kernel
theorem dL_law_951 : decode cL_law 951 = .ok (.iaload, 1) := by decide +kernel
theorem dL_law_952 : decode cL_law 952 = .ok (.aload_n 0, 1) := by decide +kernel
theorem dL_law_953 : decode cL_law 953 = .ok (.iload_n 3, 1) := by decide +kernel
theorem dL_law_954 : decode cL_law 954 = .ok (.iconst 3, 1) := by decide +kernel
theorem dL_law_955 : decode cL_law 955 = .ok (.iadd, 1) := by decide +kernel
theorem dL_law_956 : decode cL_law 956 = .ok (.iaload, 1) := by decide +kernel
theorem dL_law_957 : decode cL_law 957 = .ok (.invokevirtual 133, 3) := by decide +kernel
theorem dL_law_960 : decode cL_law 960 = .ok (.aload_n 2, 1) := by decide +kernel
theorem dL_law_961 : decode cL_law 961 = .ok (.aload_n 0, 1) := by decide +kernel
theorem dL_law_962 : decode cL_law 962 = .ok (.iload_n 3, 1) := by decide +kernel
theorem dL_law_963 : decode cL_law 963 = .ok (.iconst 1, 1) := by decide +kernel
theorem dL_law_964 : decode cL_law 964 = .ok (.iadd, 1) := by decide +kernel
theorem dL_law_965 : decode cL_law 965 = .ok (.iaload, 1) := by decide +kernel
theorem dL_law_966 : decode cL_law 966 = .ok (.aload_n 0, 1) := by decide +kernel
theorem dL_law_967 : decode cL_law 967 = .ok (.iload_n 3, 1) := by decide +kernel
theorem dL_law_968 : decode cL_law 968 = .ok (.iconst 2, 1) := by decide +kernel
theorem dL_law_969 : decode cL_law 969 = .ok (.iadd, 1) := by decide +kernel
theorem dL_law_970 : decode cL_law 970 = .ok (.iaload, 1) := by decide +kernel
theorem dL_law_971 : decode cL_law 971 = .ok (.aload_n 0, 1) := by decide +kernel
theorem dL_law_972 : decode cL_law 972 = .ok (.iload_n 3, 1) := by decide +kernel
theorem dL_law_973 : decode cL_law 973 = .ok (.iconst 3, 1) := by decide +kernel
theorem dL_law_974 : decode cL_law 974 = .ok (.iadd, 1) := by decide +kernel
theorem dL_law_975 : decode cL_law 975 = .ok (.iaload, 1) := by decide +kernel
theorem dL_law_976 : decode cL_law 976 = .ok (.invokevirtual 136, 3) := by decide +kernel
theorem dL_law_979 : decode cL_law 979 = .ok (.if_icmp .eq 137, 3) := by decide +kernel
theorem dL_law_982 : decode cL_law 982 = .ok (.iconst 0, 1) := by decide +kernel
theorem dL_law_983 : decode cL_law 983 = .ok (.ireturn, 1) := by decide +kernel
theorem dL_law_984 : decode cL_law 984 = .ok (.aload_n 1, 1) := by decide +kernel
theorem dL_law_985 : decode cL_law 985 = .ok (.aload_n 0, 1) := by decide +kernel
theorem dL_law_986 : decode cL_law 986 = .ok (.iload_n 3, 1) := by decide +kernel
theorem dL_law_987 : decode cL_law 987 = .ok (.iconst 1, 1) := by decide +kernel
theorem dL_law_988 : decode cL_law 988 = .ok (.iadd, 1) := by decide +kernel
theorem dL_law_989 : decode cL_law 989 = .ok (.iaload, 1) := by decide +kernel
theorem dL_law_990 : decode cL_law 990 = .ok (.aload_n 0, 1) := by decide +kernel
theorem dL_law_991 : decode cL_law 991 = .ok (.iload_n 3, 1) := by decide +kernel
theorem dL_law_992 : decode cL_law 992 = .ok (.iconst 2, 1) := by decide +kernel
theorem dL_law_993 : decode cL_law 993 = .ok (.iadd, 1) := by decide +kernel
theorem dL_law_994 : decode cL_law 994 = .ok (.iaload, 1) := by decide +kernel
theorem dL_law_995 : decode cL_law 995 = .ok (.aload_n 0, 1) := by decide +kernel
theorem dL_law_996 : decode cL_law 996 = .ok (.iload_n 3, 1) := by decide +kernel
theorem dL_law_997 : decode cL_law 997 = .ok (.iconst 3, 1) := by decide +kernel
theorem dL_law_998 : decode cL_law 998 = .ok (.iadd, 1) := by decide +kernel
theorem dL_law_999 : decode cL_law 999 = .ok (.iaload, 1) := by decide +kernel
theorem dL_law_1000 : decode cL_law 1000 = .ok (.invokevirtual 137, 3) := by decide +kernel
theorem dL_law_1003 : decode cL_law 1003 = .ok (.aload_n 2, 1) := by decide +kernel
theorem dL_law_1004 : decode cL_law 1004 = .ok (.aload_n 0, 1) := by decide +kernel
theorem dL_law_1005 : decode cL_law 1005 = .ok (.iload_n 3, 1) := by decide +kernel
theorem dL_law_1006 : decode cL_law 1006 = .ok (.iconst 1, 1) := by decide +kernel
theorem dL_law_1007 : decode cL_law 1007 = .ok (.iadd, 1) := by decide +kernel
theorem dL_law_1008 : decode cL_law 1008 = .ok (.iaload, 1) := by decide +kernel
theorem dL_law_1009 : decode cL_law 1009 = .ok (.aload_n 0, 1) := by decide +kernel
theorem dL_law_1010 : decode cL_law 1010 = .ok (.iload_n 3, 1) := by decide +kernel
theorem dL_law_1011 : decode cL_law 1011 = .ok (.iconst 2, 1) := by decide +kernel
theorem dL_law_1012 : decode cL_law 1012 = .ok (.iadd, 1) := by decide +kernel
theorem dL_law_1013 : decode cL_law 1013 = .ok (.iaload, 1) := by decide +kernel
theorem dL_law_1014 : decode cL_law 1014 = .ok (.aload_n 0, 1) := by decide +kernel
theorem dL_law_1015 : decode cL_law 1015 = .ok (.iload_n 3, 1) := by decide +kernel
theorem dL_law_1016 : decode cL_law 1016 = .ok (.iconst 3, 1) := by decide +kernel
theorem dL_law_1017 : decode cL_law 1017 = .ok (.iadd, 1) := by decide +kernel
theorem dL_law_1018 : decode cL_law 1018 = .ok (.iaload, 1) := by decide +kernel
theorem dL_law_1019 : decode cL_law 1019 = .ok (.invokevirtual 140, 3) := by decide +kernel
theorem dL_law_1022 : decode cL_law 1022 = .ok (.if_icmp .eq 94, 3) := by decide +kernel
theorem dL_law_1025 : decode cL_law 1025 = .ok (.iconst 0, 1) := by decide +kernel
theorem dL_law_1026 : decode cL_law 1026 = .ok (.ireturn, 1) := by decide +kernel
theorem dL_law_1027 : decode cL_law 1027 = .ok (.aload_n 1, 1) := by decide +kernel
theorem dL_law_1028 : decode cL_law 1028 = .ok (.aload_n 0, 1) := by decide +kernel
theorem dL_law_1029 : decode cL_law 1029 = .ok (.iload_n 3, 1) := by decide +kernel
theorem dL_law_1030 : decode cL_law 1030 = .ok (.iconst 1, 1) := by decide +kernel
theorem dL_law_1031 : decode cL_law 1031 = .ok (.iadd, 1) := by decide +kernel
theorem dL_law_1032 : decode cL_law 1032 = .ok (.iaload, 1) := by decide +kernel
theorem dL_law_1033 : decode cL_law 1033 = .ok (.aload_n 0, 1) := by decide +kernel
theorem dL_law_1034 : decode cL_law 1034 = .ok (.iload_n 3, 1) := by decide +kernel
theorem dL_law_1035 : decode cL_law 1035 = .ok (.iconst 2, 1) := by decide +kernel
theorem dL_law_1036 : decode cL_law 1036 = .ok (.iadd, 1) := by decide +kernel
theorem dL_law_1037 : decode cL_law 1037 = .ok (.iaload, 1) := by decide +kernel
theorem dL_law_1038 : decode cL_law 1038 = .ok (.aload_n 0, 1) := by decide +kernel
theorem dL_law_1039 : decode cL_law 1039 = .ok (.iload_n 3, 1) := by decide +kernel
theorem dL_law_1040 : decode cL_law 1040 = .ok (.iconst 3, 1) := by decide +kernel
theorem dL_law_1041 : decode cL_law 1041 = .ok (.iadd, 1) := by decide +kernel
theorem dL_law_1042 : decode cL_law 1042 = .ok (.iaload, 1) := by decide +kernel
theorem dL_law_1043 : decode cL_law 1043 = .ok (.aload_n 0, 1) := by decide +kernel
theorem dL_law_1044 : decode cL_law 1044 = .ok (.iload_n 3, 1) := by decide +kernel
theorem dL_law_1045 : decode cL_law 1045 = .ok (.iconst 4, 1) := by decide +kernel
theorem dL_law_1046 : decode cL_law 1046 = .ok (.iadd, 1) := by decide +kernel
theorem dL_law_1047 : decode cL_law 1047 = .ok (.iaload, 1) := by decide +kernel
theorem dL_law_1048 : decode cL_law 1048 = .ok (.invokevirtual 141, 3) := by decide +kernel
theorem dL_law_1051 : decode cL_law 1051 = .ok (.aload_n 2, 1) := by decide +kernel
theorem dL_law_1052 : decode cL_law 1052 = .ok (.aload_n 0, 1) := by decide +kernel
theorem dL_law_1053 : decode cL_law 1053 = .ok (.iload_n 3, 1) := by decide +kernel
theorem dL_law_1054 : decode cL_law 1054 = .ok (.iconst 1, 1) := by decide +kernel
theorem dL_law_1055 : decode cL_law 1055 = .ok (.iadd, 1) := by decide +kernel
theorem dL_law_1056 : decode cL_law 1056 = .ok (.iaload, 1) := by decide +kernel
theorem dL_law_1057 : decode cL_law 1057 = .ok (.aload_n 0, 1) := by decide +kernel
theorem dL_law_1058 : decode cL_law 1058 = .ok (.iload_n 3, 1) := by decide +kernel
theorem dL_law_1059 : decode cL_law 1059 = .ok (.iconst 2, 1) := by decide +kernel
theorem dL_law_1060 : decode cL_law 1060 = .ok (.iadd, 1) := by decide +kernel
theorem dL_law_1061 : decode cL_law 1061 = .ok (.iaload, 1) := by decide +kernel
theorem dL_law_1062 : decode cL_law 1062 = .ok (.aload_n 0, 1) := by decide +kernel
theorem dL_law_1063 : decode cL_law 1063 = .ok (.iload_n 3, 1) := by decide +kernel
theorem dL_law_1064 : decode cL_law 1064 = .ok (.iconst 3, 1) := by decide +kernel
theorem dL_law_1065 : decode cL_law 1065 = .ok (.iadd, 1) := by decide +kernel
theorem dL_law_1066 : decode cL_law 1066 = .ok (.iaload, 1) := by decide +kernel
theorem dL_law_1067 : decode cL_law 1067 = .ok (.aload_n 0, 1) := by decide +kernel
theorem dL_law_1068 : decode cL_law 1068 = .ok (.iload_n 3, 1) := by decide +kernel
theorem dL_law_1069 : decode cL_law 1069 = .ok (.iconst 4, 1) := by decide +kernel
theorem dL_law_1070 : decode cL_law 1070 = .ok (.iadd, 1) := by decide +kernel
theorem dL_law_1071 : decode cL_law 1071 = .ok (.iaload, 1) := by decide +kernel
theorem dL_law_1072 : decode cL_law 1072 = .ok (.invokevirtual 145, 3) := by decide +kernel
theorem dL_law_1075 : decode cL_law 1075 = .ok (.if_icmp .eq 41, 3) := by decide +kernel
theorem dL_law_1078 : decode cL_law 1078 = .ok (.iconst 0, 1) := by decide +kernel
theorem dL_law_1079 : decode cL_law 1079 = .ok (.ireturn, 1) := by decide +kernel
theorem dL_law_1080 : decode cL_law 1080 = .ok (.aload_n 1, 1) := by decide +kernel
theorem dL_law_1081 : decode cL_law 1081 = .ok (.invokevirtual 146, 3) := by decide +kernel
theorem dL_law_1084 : decode cL_law 1084 = .ok (.aload_n 2, 1) := by decide +kernel
theorem dL_law_1085 : decode cL_law 1085 = .ok (.invokevirtual 149, 3) := by decide +kernel
theorem dL_law_1088 : decode cL_law 1088 = .ok (.if_icmp .eq 28, 3) := by decide +kernel
theorem dL_law_1091 : decode cL_law 1091 = .ok (.iconst 0, 1) := by decide +kernel
theorem dL_law_1092 : decode cL_law 1092 = .ok (.ireturn, 1) := by decide +kernel
theorem dL_law_1093 : decode cL_law 1093 = .ok (.aload_n 1, 1) := by decide +kernel
theorem dL_law_1094 : decode cL_law 1094 = .ok (.aload_n 0, 1) := by decide +kernel
theorem dL_law_1095 : decode cL_law 1095 = .ok (.iload_n 3, 1) := by decide +kernel
theorem dL_law_1096 : decode cL_law 1096 = .ok (.iconst 1, 1) := by decide +kernel
theorem dL_law_1097 : decode cL_law 1097 = .ok (.iadd, 1) := by decide +kernel
theorem dL_law_1098 : decode cL_law 1098 = .ok (.iaload, 1) := by decide +kernel
theorem dL_law_1099 : decode cL_law 1099 = .ok (.invokevirtual 150, 3) := by decide +kernel
theorem dL_law_1102 : decode cL_law 1102 = .ok (.aload_n 2, 1) := by decide +kernel
theorem dL_law_1103 : decode cL_law 1103 = .ok (.aload_n 0, 1) := by decide +kernel
theorem dL_law_1104 : decode cL_law 1104 = .ok (.iload_n 3, 1) := by decide +kernel
theorem dL_law_1105 : decode cL_law 1105 = .ok (.iconst 1, 1) := by decide +kernel
theorem dL_law_1106 : decode cL_law 1106 = .ok (.iadd, 1) := by decide +kernel
theorem dL_law_1107 : decode cL_law 1107 = .ok (.iaload, 1) := by decide +kernel
theorem dL_law_1108 : decode cL_law 1108 = .ok (.invokevirtual 153, 3) := by decide +kernel
theorem dL_law_1111 : decode cL_law 1111 = .ok (.if_icmp .eq 5, 3) := by decide +kernel
theorem dL_law_1114 : decode cL_law 1114 = .ok (.iconst 0, 1) := by decide +kernel
theorem dL_law_1115 : decode cL_law 1115 = .ok (.ireturn, 1) := by decide +kernel
theorem dL_law_1116 : decode cL_law 1116 = .ok (.iinc 3 5, 3) := by decide +kernel
theorem dL_law_1119 : decode cL_law 1119 = .ok (.goto (-1101), 3) := by decide +kernel
theorem dL_law_1122 : decode cL_law 1122 = .ok (.iconst 1, 1) := by decide +kernel
theorem dL_law_1123 : decode cL_law 1123 = .ok (.ireturn, 1) := by decide +kernel
end
section
/-! MY FRAME: one list of words for all methods, worlds of fixed shape over numbers 'place, index -> int', contracts over pure functions -/
def kwL : List Cond := lw_tbl.filter goodWord
theorem kw_at (i : Nat) {w : Cond} (h : lw_tbl[i]? = some w) (hg : goodWord w = true) : w ∈ kwL := List.mem_filter.mpr ⟨List.mem_of_getElem? h, hg⟩
theorem kw_good {w : Cond} (h : w ∈ kwL) : goodWord w = true := (List.mem_filter.mp h).2
theorem kw_tbl {w : Cond} (h : w ∈ kwL) : w ∈ lw_tbl := (List.mem_filter.mp h).1
theorem kw_sub {ws : List Cond} (ps : List Nat) (h : ws = ps.filterMap (fun i => lw_tbl[i]?)) (hg : ws.all goodWord = true) : ∀ w ∈ ws, w ∈ kwL := by
  intro w hw
  refine List.mem_filter.mpr ⟨?_, List.all_eq_true.mp hg w hw⟩
  rw [h] at hw
  obtain ⟨i, -, hi⟩ := List.mem_filterMap.mp hw
  exact List.mem_of_getElem? hi
abbrev kW (y : MethodName) (c : ByteArray) (n : Nat) (r : Option FieldType) : List Cond := .code y c n r :: kwL
theorem kG {ws : List Cond} (h : ∀ w ∈ ws, w ∈ kwL) : GoodIn kwL ws := fun w hw => ⟨h w hw, good_of_word (kw_good (h w hw))⟩
theorem kG_w {y : MethodName} {c : ByteArray} {n : Nat} {r : Option FieldType} (h5 : Cond.code y c n r ∈ kwL) : ∀ w ∈ kW y c n r, w ∈ kwL := by
  intro w hw
  rcases List.mem_cons.mp hw with h | h
  · rw [h]; exact h5
  · exact h
theorem kG_i {y : MethodName} {c : ByteArray} {n : Nat} {r : Option FieldType} (h5 : Cond.code y c n r ∈ kwL) : GoodIn kwL (kW y c n r) := kG (kG_w h5)
theorem kG_v {own : String} {i : Nat} {C : String} {y : MethodName} {c : ByteArray} {n : Nat} {r : Option FieldType} (h1 : Cond.methodLink own i y ∈ kwL) (h2 : Cond.instanceMethod y ∈ kwL) (h3 : Cond.selects C y y ∈ kwL) (h4 : Cond.initialized C ∈ kwL) (h5 : Cond.code y c n r ∈ kwL) : GoodIn kwL (wsV own i C y (kW y c n r)) := kG (by
  intro w hw
  unfold wsV at hw
  rcases List.mem_append.mp hw with hw | hw
  · simp only [List.mem_cons, List.not_mem_nil, or_false] at hw
    rcases hw with h | h | h | h <;> rw [h] <;> assumption
  · exact kG_w h5 w hw)
theorem kG_s {own : String} {i : Nat} {y : MethodName} {c : ByteArray} {n : Nat} {r : Option FieldType} (h1 : Cond.methodLink own i y ∈ kwL) (h2 : Cond.static y ∈ kwL) (h4 : Cond.initialized y.cls ∈ kwL) (h5 : Cond.code y c n r ∈ kwL) : GoodIn kwL (va_wsS own i y (kW y c n r)) := kG (by
  intro w hw
  unfold va_wsS at hw
  rcases List.mem_append.mp hw with hw | hw
  · simp only [List.mem_cons, List.not_mem_nil, or_false] at hw
    rcases hw with h | h | h <;> rw [h] <;> assumption
  · exact kG_w h5 w hw)
/-! numbers -/
abbrev Sg : Type := Nat → Nat → Int32
def s_upr (σ : Sg) (p : Nat) (f : Nat → Int32) : Sg := fun q => if q = p then f else σ q
def s_up (σ : Sg) (p i : Nat) (v : Int32) : Sg := s_upr σ p (upd (σ p) i v)
def s_lt {α R : Type} (a : α) (F : α → Option R) : Option R := F a
theorem s_lt_at {α R : Type} {a x : α} {F : α → Option R} {r : Option R} (ex : x = a) (h : s_lt a F = r) : F x = r := by subst ex; exact h
def s_gd {R : Type} (b : Bool) (x : Option R) : Option R := if b = true then x else none
theorem s_gd_some {R : Type} {b : Bool} {x : Option R} {r : R} (h : s_gd b x = some r) : b = true ∧ x = some r := by
  unfold s_gd at h
  by_cases hb : b = true
  · rw [if_pos hb] at h; exact ⟨hb, h⟩
  · rw [if_neg hb] at h; cases h
def s_bi {R : Type} (x : Option (Int32 × Sg)) (k : Int32 → Sg → Option R) : Option R := match x with
  | some q => k q.1 q.2
  | none => none
theorem s_bi_some {R : Type} {x : Option (Int32 × Sg)} {k : Int32 → Sg → Option R} {r : R} (h : s_bi x k = some r) : ∃ (a : Int32) (σ1 : Sg), x = some (a, σ1) ∧ k a σ1 = some r := by
  cases x with
  | none => cases h
  | some q => exact ⟨q.1, q.2, rfl, h⟩
def s_bv {R : Type} (x : Option Sg) (k : Sg → Option R) : Option R := match x with
  | some q => k q
  | none => none
theorem s_bv_some {R : Type} {x : Option Sg} {k : Sg → Option R} {r : R} (h : s_bv x k = some r) : ∃ (σ1 : Sg), x = some σ1 ∧ k σ1 = some r := by
  cases x with
  | none => cases h
  | some q => exact ⟨q, rfl, h⟩
def s_in (i : Int32) (n : Nat) : Bool := decide (¬ (i < 0 ∨ n ≤ i.toNatClampNeg))
theorem s_in_of {i : Int32} {n : Nat} (h : s_in i n = true) : vp_in i n := by
  unfold vp_in
  exact of_decide_eq_true h
def s_nz (y : Int32) : Bool := decide (¬ y = 0)
theorem s_nz_of {y : Int32} (h : s_nz y = true) : ¬ y = 0 := of_decide_eq_true h
def s_nzl (y : Int64) : Bool := decide (¬ y = 0)
theorem s_nzl_of {y : Int64} (h : s_nzl y = true) : ¬ y = 0 := of_decide_eq_true h
def s_z (v : Int32) : Bool := decide (v = 0 ∨ v = 1)
theorem s_z_nar {v : Int32} (h : s_z v = true) : narrow .boolean (.int v) = .int v := by
  rcases of_decide_eq_true h with h | h <;> subst h <;> rfl
theorem s_z_fit {v : Int32} (h : s_z v = true) : fits .boolean (.int v) = true := by
  rcases of_decide_eq_true h with h | h <;> subst h <;> rfl
def s_fu : Nat := 4096
def s_rem (a b : Int32) : Int32 := a - a / b * b
def s_max (a b : Int32) : Int32 := if a < b then b else a
def s_min (a b : Int32) : Int32 := if b < a then b else a
def s_abs (a : Int32) : Int32 := if 0 ≤ a then a else 0 - a
def s_ushr (x y : Int32) : Int32 := (x.toUInt32 >>> (y.toUInt32 &&& Int32.toUInt32 31)).toInt32
def s_i2c (x : Int32) : Int32 := (x.toUInt32 % 65536).toInt32
def s_c (v : Int32) : Bool := decide (v = s_i2c v)
theorem s_c_nar {v : Int32} (h : s_c v = true) : narrow .char (.int v) = .int v := by
  have e : v = s_i2c v := of_decide_eq_true h
  rw [e]
  exact pk_nc v
def s_cpok (sp dp n : Int32) (n0 n1 : Nat) : Bool := decide (¬ sp < 0 ∧ ¬ dp < 0 ∧ ¬ n < 0 ∧ sp.toNatClampNeg + n.toNatClampNeg ≤ n0 ∧ dp.toNatClampNeg + n.toNatClampNeg ≤ n1)
theorem s_cpok_of {sp dp n : Int32} {n0 n1 : Nat} (h : s_cpok sp dp n n0 n1 = true) : ¬ sp < 0 ∧ ¬ dp < 0 ∧ ¬ n < 0 ∧ sp.toNatClampNeg + n.toNatClampNeg ≤ n0 ∧ dp.toNatClampNeg + n.toNatClampNeg ≤ n1 := of_decide_eq_true h
theorem s_ret {X re : Int32} {σk σe : Sg} (h : some (X, σk) = some (re, σe)) : X = re ∧ σk = σe := by cases h; exact ⟨rfl, rfl⟩
/-! worlds: the class has 27 cells (sheets at 19, 21, 23, 25, their rows behind them), the reference 12 -/
def s_WC (cy : Nat → ClassId) (ad : Nat → Nat) (σ : Sg) : va_W :=
  [(ad 0, .inr (6, [.ref (ad 1), .ref (ad 3), .ref (ad 6), .ref (ad 8), .ref (ad 10), .ref (ad 12), .ref (ad 17), .ref (ad 18), .int (σ 0 8)])),
   (ad 1, .inr (3, [.ref (ad 2), .int (σ 1 1)])),
   (ad 2, .inl (cy 0, 320, .inl (σ 2))),
   (ad 3, .inr (4, [.ref (ad 4), .int (σ 3 1), .int (σ 3 2), .int (σ 3 3), .int (σ 3 4), .int (σ 3 5), .int (σ 3 6), .int (σ 3 7), .int (σ 3 8), .int (σ 3 9), .int (σ 3 10), .int (σ 3 11)])),
   (ad 4, .inr (1, [.ref (ad 5), .int (σ 4 1), .int (σ 4 2), .int (σ 4 3), .int (σ 4 4), .int (σ 4 5), .int (σ 4 6), .int (σ 4 7)])),
   (ad 5, .inl (cy 1, 96, .inl (σ 5))),
   (ad 6, .inr (1, [.ref (ad 7), .int (σ 6 1), .int (σ 6 2), .int (σ 6 3), .int (σ 6 4), .int (σ 6 5), .int (σ 6 6), .int (σ 6 7)])),
   (ad 7, .inl (cy 1, 96, .inl (σ 7))),
   (ad 8, .inr (0, [.ref (ad 6), .ref (ad 9), .int (σ 8 2)])),
   (ad 9, .inl (cy 1, 24, .inl (σ 9))),
   (ad 10, .inr (5, [.ref (ad 11), .int (σ 10 1)])),
   (ad 11, .inl (cy 0, 8, .inl (σ 11))),
   (ad 12, .inl (cy 3, 2, .inr (.inr (.inr (.inr (va_up (va_up (fun _ => none) 0 (some (ad 13))) 1 (some (ad 15)))))))),
   (ad 13, .inr (1, [.ref (ad 14), .int (σ 13 1), .int (σ 13 2), .int (σ 13 3), .int (σ 13 4), .int (σ 13 5), .int (σ 13 6), .int (σ 13 7)])),
   (ad 14, .inl (cy 1, 96, .inl (σ 14))),
   (ad 15, .inr (1, [.ref (ad 16), .int (σ 15 1), .int (σ 15 2), .int (σ 15 3), .int (σ 15 4), .int (σ 15 5), .int (σ 15 6), .int (σ 15 7)])),
   (ad 16, .inl (cy 1, 96, .inl (σ 16))),
   (ad 17, .inl (cy 2, 2, .inl (σ 17))),
   (ad 18, .inl (cy 4, 4, .inr (.inr (.inr (.inr (va_up (va_up (va_up (va_up (fun _ => none) 0 (some (ad 19))) 1 (some (ad 21))) 2 (some (ad 23))) 3 (some (ad 25)))))))),
   (ad 19, .inr (2, [.ref (ad 20), .int (σ 19 1), .int (σ 19 2)])),
   (ad 20, .inl (cy 1, 40, .inl (σ 20))),
   (ad 21, .inr (2, [.ref (ad 22), .int (σ 21 1), .int (σ 21 2)])),
   (ad 22, .inl (cy 1, 40, .inl (σ 22))),
   (ad 23, .inr (2, [.ref (ad 24), .int (σ 23 1), .int (σ 23 2)])),
   (ad 24, .inl (cy 1, 40, .inl (σ 24))),
   (ad 25, .inr (2, [.ref (ad 26), .int (σ 25 1), .int (σ 25 2)])),
   (ad 26, .inl (cy 1, 40, .inl (σ 26)))]
def s_WM (cy : Nat → ClassId) (ad : Nat → Nat) (σ : Sg) : va_W :=
  [(ad 0, .inr (7, [.ref (ad 1), .int (σ 0 1), .ref (ad 2), .int (σ 0 3), .int (σ 0 4), .int (σ 0 5), .int (σ 0 6), .int (σ 0 7), .int (σ 0 8), .int (σ 0 9), .int (σ 0 10), .int (σ 0 11), .ref (ad 3), .ref (ad 4), .ref (ad 5), .int (σ 0 15), .ref (ad 6), .int (σ 0 17), .int (σ 0 18), .int (σ 0 19), .int (σ 0 20), .ref (ad 7), .int (σ 0 22), .ref (ad 8), .ref (ad 9), .ref (ad 10), .ref (ad 11), .int (σ 0 27)])),
   (ad 1, .inl (cy 1, 515, .inl (σ 1))),
   (ad 2, .inl (cy 1, 320, .inl (σ 2))),
   (ad 3, .inl (cy 1, 16, .inl (σ 3))),
   (ad 4, .inl (cy 1, 61, .inl (σ 4))),
   (ad 5, .inl (cy 1, 24, .inl (σ 5))),
   (ad 6, .inl (cy 1, 24, .inl (σ 6))),
   (ad 7, .inl (cy 1, 16, .inl (σ 7))),
   (ad 8, .inl (cy 2, 2, .inl (σ 8))),
   (ad 9, .inl (cy 1, 4, .inl (σ 9))),
   (ad 10, .inl (cy 1, 4, .inl (σ 10))),
   (ad 11, .inl (cy 1, 160, .inl (σ 11)))]
theorem s_WC_ad (cy : Nat → ClassId) (ad : Nat → Nat) (σ : Sg) : (s_WC cy ad σ).map Prod.fst = (List.range 27).map ad := rfl
theorem s_WM_ad (cy : Nat → ClassId) (ad : Nat → Nat) (σ : Sg) : (s_WM cy ad σ).map Prod.fst = (List.range 12).map ad := rfl
def s_ty (cy : Nat → ClassId) : List (ClassId × FieldType) := [(cy 0, .byte), (cy 1, .int), (cy 2, .boolean), (cy 3, .object "SlidingRanks$Series"), (cy 4, .object "SlidingRanks$Sheet")]
def s_inj (ad : Nat → Nat) (n : Nat) : Prop := ∀ i j : Nat, i < n → j < n → ad i = ad j → i = j
def s_A (ad : Nat → Nat) (n sz : Nat) : Nat → Prop := fun q => (∃ k, k < n ∧ ad k = q) ∨ sz ≤ q
theorem s_D {w : va_W} {ad : Nat → Nat} {n : Nat} {A : Nat → Prop} (he : w.map Prod.fst = (List.range n).map ad) (hI : s_inj ad n) (hA : ∀ k, k < n → A (ad k)) : va_D A w := by
  have key : ∀ (k : Nat) (q : Nat × va_E), w[k]? = some q → k < n ∧ q.1 = ad k := by
    intro k q hk
    have h1 : (w.map Prod.fst)[k]? = some q.1 := by rw [List.getElem?_map, hk]; rfl
    rw [he, List.getElem?_map] at h1
    by_cases hkn : k < n
    · rw [List.getElem?_range hkn] at h1
      exact ⟨hkn, (Option.some.inj h1).symm⟩
    · rw [List.getElem?_eq_none (by rw [List.length_range]; omega)] at h1
      cases h1
  refine ⟨fun i j x y hi hj hxy => ?_, fun k q hk => ?_⟩
  · obtain ⟨h1, h2⟩ := key i x hi
    obtain ⟨h3, h4⟩ := key j y hj
    exact hI i j h1 h3 (h2.symm.trans (hxy.trans h4))
  · obtain ⟨h1, h2⟩ := key k q hk
    rw [h2]
    exact hA k h1
/-! what stands beside the worlds: links among nest mates, the one string constant, a static of String -/
def s_nest : List (String × Nat × String × String × String × String) := [("SlidingRanks", 73, "SlidingRanks$Tape", "length", "I", "SlidingRanks"), ("SlidingRanks$Teller", 134, "SlidingRanks$Tape", "length", "I", "SlidingRanks"), ("SlidingRanks", 89, "SlidingRanks$Series", "size", "I", "SlidingRanks"), ("SlidingRanks$Teller", 127, "SlidingRanks$Series", "size", "I", "SlidingRanks"), ("SlidingRanks$Row", 26, "SlidingRanks$Series", "width", "I", "SlidingRanks"), ("SlidingRanks$Teller", 80, "SlidingRanks$Series", "width", "I", "SlidingRanks"), ("SlidingRanks", 99, "SlidingRanks$Series", "width", "I", "SlidingRanks"), ("SlidingRanks$Teller", 83, "SlidingRanks$Series", "need", "I", "SlidingRanks"), ("SlidingRanks", 102, "SlidingRanks$Series", "need", "I", "SlidingRanks"), ("SlidingRanks$Row", 52, "SlidingRanks$Series", "need", "I", "SlidingRanks"), ("SlidingRanks$Teller", 86, "SlidingRanks$Series", "p", "I", "SlidingRanks"), ("SlidingRanks", 105, "SlidingRanks$Series", "p", "I", "SlidingRanks"), ("SlidingRanks$Row", 58, "SlidingRanks$Series", "p", "I", "SlidingRanks"), ("SlidingRanks$Teller", 95, "SlidingRanks$Series", "q", "I", "SlidingRanks"), ("SlidingRanks", 108, "SlidingRanks$Series", "q", "I", "SlidingRanks"), ("SlidingRanks$Row", 55, "SlidingRanks$Series", "q", "I", "SlidingRanks"), ("SlidingRanks$Teller", 101, "SlidingRanks$Series", "rule", "I", "SlidingRanks"), ("SlidingRanks", 111, "SlidingRanks$Series", "rule", "I", "SlidingRanks"), ("SlidingRanks$Row", 71, "SlidingRanks$Series", "rule", "I", "SlidingRanks"), ("SlidingRanks$Teller", 104, "SlidingRanks$Series", "form", "I", "SlidingRanks"), ("SlidingRanks", 114, "SlidingRanks$Series", "form", "I", "SlidingRanks"), ("SlidingRanks", 83, "SlidingRanks$Teller", "draft", "LSlidingRanks$Series;", "SlidingRanks"), ("SlidingRanks", 92, "SlidingRanks$Teller", "fault", "I", "SlidingRanks"), ("SlidingRanks", 80, "SlidingRanks$Teller", "faultPlace", "I", "SlidingRanks"), ("SlidingRanks", 131, "SlidingRanks$Row", "n", "I", "SlidingRanks"), ("SlidingRanks", 165, "SlidingRanks$Words", "length", "I", "SlidingRanks"), ("SlidingRanks", 266, "SlidingRanks$Sheet", "lane", "I", "SlidingRanks"), ("SlidingRanks", 253, "SlidingRanks$Sheet", "size", "I", "SlidingRanks")]
def s_txt : String := "width need part rule form put miss low high near mean line plain cents sign "
def s_byt : List Int32 := [119, 105, 100, 116, 104, 32, 110, 101, 101, 100, 32, 112, 97, 114, 116, 32, 114, 117, 108, 101, 32, 102, 111, 114, 109, 32, 112, 117, 116, 32, 109, 105, 115, 115, 32, 108, 111, 119, 32, 104, 105, 103, 104, 32, 110, 101, 97, 114, 32, 109, 101, 97, 110, 32, 108, 105, 110, 101, 32, 112, 108, 97, 105, 110, 32, 99, 101, 110, 116, 115, 32, 115, 105, 103, 110, 32]
def s_E (sa : Nat × Nat) (A : Nat → Prop) (U : State) (H : Heap) : Prop :=
  (∀ q ∈ s_nest, va_Nw (.fieldLinkNest q.1 q.2.1 q.2.2.1 q.2.2.2.1 q.2.2.2.2.1 q.2.2.2.2.2) U) ∧ vk_R "SlidingRanks$Teller" 154 s_txt sa.1 U ∧ vk_S 1 [76] [s_byt] (fun _ => sa.1) (fun _ => sa.2) A U H ∧ va_Z "java/lang/String" "COMPACT_STRINGS" "Z" (.int 1) A U H ∧ va_Zq "jdk/internal/util/Preconditions" "SIOOBE_FORMATTER" "Ljava/util/function/BiFunction;" A U H
theorem s_E.go {sa : Nat × Nat} {A B : Nat → Prop} {s U : State} {H : Heap} {locs : List Loc} (h : s_E sa A s s.heap) (hS : va_S A s.heap H locs) (hW : s.WarmedH U.vm) (hU : U.heap = H) (hB : ∀ q, B q → A q) : s_E sa B U U.heap := by
  obtain ⟨h1, h2, h3, h4, h5⟩ := h
  rw [hU]
  exact ⟨fun q hq => (h1 q hq).warmF hW, h2.warm hW, ((h3.kept hS.2.1).moved hW.alike).narrow hB, ((h4.kept hS.2.1).moved hW.alike).narrow hB, ((h5.kept hS.2.1).moved hW.alike).narrow hB⟩
theorem s_E.frame {sa : Nat × Nat} {A : Nat → Prop} {U : State} {g : JFrame} {mk : MethodId} {a : Array Value} (h : s_E sa A U U.heap) : s_E sa A (U.calling g mk a) (U.calling g mk a).heap := by
  obtain ⟨h1, h2, h3, h4, h5⟩ := h
  exact ⟨fun q hq => (h1 q hq).same rfl rfl, h2.same rfl, h3.moved (Vm.Alike.refl U.vm), h4.moved (Vm.Alike.refl U.vm), h5.moved (Vm.Alike.refl U.vm)⟩
/-! contracts -/
def s_P (Wd : Sg → va_W) (G : va_G) (cy : Nat → ClassId) (sa : Nat × Nat) (ad : Nat → Nat) (n : Nat) (av : List Value) (sz : Nat) (σ : Sg) : Array Value → State → Prop :=
  va_Pc av (fun U => U.heap.size = sz ∧ va_P G vwCl (Wd σ) U.heap ∧ va_K G vwCl (s_ty cy) U ∧ s_E sa (s_A ad n sz) U U.heap)
def s_Qi (Wd : Sg → va_W) (G : va_G) (A : Nat → Prop) (r : Int32) (σ : Sg) : Array Value → State → Outcome → State → Prop :=
  va_Qi (fun (r' : Int32) (_ : Unit) => r' = r) (fun _ t => va_P G vwCl (Wd σ) t.heap) A
def s_Qv (Wd : Sg → va_W) (G : va_G) (A : Nat → Prop) (σ : Sg) : Array Value → State → Outcome → State → Prop :=
  va_Qv (fun (_ : Unit) => True) (fun _ t => va_P G vwCl (Wd σ) t.heap) A
theorem s_P_blind {Wd : Sg → va_W} {G : va_G} {cy : Nat → ClassId} {sa : Nat × Nat} {ad : Nat → Nat} {n : Nat} {av : List Value} {sz : Nat} {σ : Sg} : FrameBlind (s_P Wd G cy sa ad n av sz σ) := by
  intro a U g mk q
  obtain ⟨q0, q1, qP, qK, qE⟩ := q
  exact ⟨q0, q1, qP, va_K.moved (u := U) (U := U.calling g mk a) (Vm.Alike.refl U.vm) qK, qE.frame⟩
def s_X (p : Program) (s : State) (m : MethodId) (meth : Method) (c : Code) (args : Array Value) (cc : ByteArray) (ret : Option FieldType) (nL : Nat) (own : String) (G : va_G) (cy : Nat → ClassId) (sa : Nat × Nat) (ad : Nat → Nat) (n : Nat) : Prop :=
  p.tables.exec = Jvm.exec ∧ c.code = cc ∧ meth.sig.returnType = ret ∧ c.maxLocals = nL ∧ s.vm.findClass own = some m.cls ∧ (∀ w ∈ kwL, w.before args s = true) ∧ meth.locks = false ∧ va_K G vwCl (s_ty cy) s ∧ s_E sa (s_A ad n s.heap.size) s s.heap ∧ s_inj ad n
/-- a method's contract out of the walk of its body -/
theorem s_met {l : Launch} {y : MethodName} {cc : ByteArray} {maxL : Nat} {rt : Option FieldType} {own : String} {rm : Room} {Wd : Sg → va_W} {G : va_G} {cy : Nat → ClassId} {sa : Nat × Nat} {ad : Nat → Nat} {n : Nat} {av : List Value} {sz : Nat} {σ : Sg} {Qc : Array Value → State → Outcome → State → Prop} (hy : plainName y.cls = true) (ho : y.cls = own) (hI : s_inj ad n) (hlen : (lg_sl av).length ≤ maxL)
    (body : ∀ (p : Program) (e : Env) (s : State) (m : MethodId) (below : List Frame) (meth : Method) (c : Code) (ls : Array Slot), s.heap.size = sz → s_X p s m meth c av.toArray cc rt maxL own G cy sa ad n → va_P G vwCl (Wd σ) s.heap → lv_has ls maxL (lv_args 0 av) → W p l e rm s m av.toArray below meth c s.heap [] 0 0 (MQ below Qc av.toArray s 0 0 (s_A ad n sz)) (F0 m 0 ls [])) :
    Met l y (kW y cc maxL rt) rm (s_P Wd G cy sa ad n av sz σ) Qc 0 0 (s_A ad n sz) := by
  refine Met.ofW (cc := cc) (maxL := maxL) (ret := rt) hy rfl ?_
  intro p e s m args below meth c s₁ B hml hv
  obtain ⟨rfl, hsz, hP, hK, hE⟩ := hv
  have hts := atoms_spec (ws := kW y cc maxL rt) B.pre
  have hown : s.vm.findClass y.cls = some m.cls := findClass_of_methodNamed B.named
  have hl := lv_entry av (n := maxL) hlen
  rw [lg_entry_eq]
  generalize (lg_sl av ++ List.replicate (maxL - (lg_sl av).length) Slot.unset).toArray = ls at hl ⊢
  subst hsz
  exact body p e s m below meth c ls rfl ⟨B.exec, B.bytes, B.returns, hml, by rw [← ho]; exact hown, fun w h => hts w (List.mem_cons_of_mem _ h), B.notSynchronized, hK, hE, hI⟩ hP hl
theorem s_fin {Wd : Sg → va_W} {G : va_G} {t : State} {H : Heap} {σ σe : Sg} (ht : t.heap = H) (he : σ = σe) (hP : va_P G vwCl (Wd σ) H) : va_P G vwCl (Wd σe) t.heap := by rw [ht, ← he]; exact hP
section SCALL
variable {p : Program} {l : Launch} {e : Env} {R : Room} {s : State} {m : MethodId} {args : Array Value} {below : List Frame} {meth : Method} {c : Code} {H : Heap} {locs : List Loc} {Q : State → Prop}
variable {cc : ByteArray} {ret : Option FieldType} {nL : Nat} {own : String} {G : va_G} {cy : Nat → ClassId} {sa : Nat × Nat} {ad : Nat → Nat} {n : Nat} {Wd : Sg → va_W} {σ σ1 : Sg} {r1 : Int32}
variable {y : MethodName} {bytes : ByteArray} {maxL idx nn pc : Nat} {rt : Option FieldType} {Cn : String} {rm : Room} {As rest st0 : List Value} {b : Nat} {ls : Array Slot}
theorem s_sub {sz sz' q : Nat} (hz : sz ≤ sz') (h : s_A ad n sz' q) : s_A ad n sz q := h.imp id (fun z => Nat.le_trans hz z)
theorem s_calli (C : s_X p s m meth c args cc ret nL own G cy sa ad n) (hM : Met l y (kW y bytes maxL rt) rm (s_P Wd G cy sa ad n (.ref b :: As) H.size σ) (s_Qi Wd G (s_A ad n H.size) r1 σ1) 0 0 (s_A ad n H.size))
    (hg : GoodIn kwL (wsV own idx Cn y (kW y bytes maxL rt))) (hrc : rm.cells = 0) (hrs : rm.slots = 0) (hd : y.cls = Cn ∧ y.cls ≠ "java/lang/invoke/MethodHandle" ∧ y.cls ≠ "java/lang/invoke/VarHandle" ∧ (parseMethodDescriptor y.desc).map (fun d => d.parameters.length) = some nn) (hR : rm.frames + 1 ≤ R.frames ∧ 8 + (maxL + 11) + rm.locals ≤ R.locals)
    (hP : va_P G vwCl (Wd σ) H) (hS : va_S (s_A ad n s.heap.size) s.heap H locs) {q0 ci : Nat} {vc : vw_C} {fs : List Value} (hc : vwCl[ci]? = some vc) (he : (Wd σ)[q0]? = some (b, .inr (ci, fs))) (hCn : vc.1 = Cn) (hst : st0 = As.reverse ++ .ref b :: rest) (hn : As.length = nn) (hls : ls.size = nL) (hW : (rest.map fun v => v.category).sum ≤ 8) (hdg : decode cc pc = .ok (.invokevirtual idx, 3))
    (kk : ∀ (H1 : Heap) (locs1 : List Loc), va_P G vwCl (Wd σ1) H1 → va_S (s_A ad n s.heap.size) s.heap H1 locs1 → W p l e R s m args below meth c H1 locs1 0 0 Q (F0 m (pc + 3) ls (.int r1 :: rest))) :
    W p l e R s m args below meth c H locs 0 0 Q (F0 m pc ls st0) := by
  obtain ⟨hx, hb, hr, hml, hown, hts, hlk, hK, hE, hI⟩ := C
  subst hCn
  refine va_calli (va_runV (As := As) (rest := rest) ⟨hx, hb, hml, hown, hts⟩ hM (cwV nn hts hg rfl hrc hrs hd hR) ⟨s_P_blind, va_recv hK hP (ci := ci) (q0 := q0) hc he, fun U hU hW => ⟨rfl, by rw [hU], by rw [hU]; exact hP, va_K.moved hW.alike hK, hE.go hS hW hU (fun q h => s_sub hS.1 h)⟩⟩ rfl hn hls hst (lv_room hW) hdg ⟨Nat.zero_le _, Nat.zero_le _⟩) hS (fun q _ h => s_sub hS.1 h) (fun q h => s_sub hS.1 h) (fun r u t H1 locs1 ht hvm hw hB hz1 hk1 hS1 => ?_)
  subst hw
  rw [ht] at hB
  exact kk H1 locs1 hB hS1
theorem s_calliR (C : s_X p s m meth c args cc ret nL own G cy sa ad n) (hM : Met l y (kW y bytes maxL rt) rm (s_P Wd G cy sa ad n (.ref b :: As) H.size σ) (s_Qi Wd G (s_A ad n H.size) r1 σ1) 0 0 (s_A ad n H.size))
    (hg : GoodIn kwL (wsV own idx Cn y (kW y bytes maxL rt))) (hrc : rm.cells = 0) (hrs : rm.slots = 0) (hd : y.cls = Cn ∧ y.cls ≠ "java/lang/invoke/MethodHandle" ∧ y.cls ≠ "java/lang/invoke/VarHandle" ∧ (parseMethodDescriptor y.desc).map (fun d => d.parameters.length) = some nn) (hR : rm.frames + 1 ≤ R.frames ∧ 8 + (maxL + 11) + rm.locals ≤ R.locals)
    (hP : va_P G vwCl (Wd σ) H) (hS : va_S (s_A ad n s.heap.size) s.heap H locs) (hrv : ∃ cell : Cell, H[b]? = some cell ∧ cell.vm.isStatics = false ∧ s.vm.findClass Cn = some cell.cls) (hst : st0 = As.reverse ++ .ref b :: rest) (hn : As.length = nn) (hls : ls.size = nL) (hW : (rest.map fun v => v.category).sum ≤ 8) (hdg : decode cc pc = .ok (.invokevirtual idx, 3))
    (kk : ∀ (H1 : Heap) (locs1 : List Loc), va_P G vwCl (Wd σ1) H1 → va_S (s_A ad n s.heap.size) s.heap H1 locs1 → W p l e R s m args below meth c H1 locs1 0 0 Q (F0 m (pc + 3) ls (.int r1 :: rest))) :
    W p l e R s m args below meth c H locs 0 0 Q (F0 m pc ls st0) := by
  obtain ⟨hx, hb, hr, hml, hown, hts, hlk, hK, hE, hI⟩ := C
  refine va_calli (va_runV (As := As) (rest := rest) ⟨hx, hb, hml, hown, hts⟩ hM (cwV nn hts hg rfl hrc hrs hd hR) ⟨s_P_blind, hrv, fun U hU hW => ⟨rfl, by rw [hU], by rw [hU]; exact hP, va_K.moved hW.alike hK, hE.go hS hW hU (fun q h => s_sub hS.1 h)⟩⟩ rfl hn hls hst (lv_room hW) hdg ⟨Nat.zero_le _, Nat.zero_le _⟩) hS (fun q _ h => s_sub hS.1 h) (fun q h => s_sub hS.1 h) (fun r u t H1 locs1 ht hvm hw hB hz1 hk1 hS1 => ?_)
  subst hw
  rw [ht] at hB
  exact kk H1 locs1 hB hS1
theorem s_callv (C : s_X p s m meth c args cc ret nL own G cy sa ad n) (hM : Met l y (kW y bytes maxL rt) rm (s_P Wd G cy sa ad n (.ref b :: As) H.size σ) (s_Qv Wd G (s_A ad n H.size) σ1) 0 0 (s_A ad n H.size))
    (hg : GoodIn kwL (wsV own idx Cn y (kW y bytes maxL rt))) (hrc : rm.cells = 0) (hrs : rm.slots = 0) (hd : y.cls = Cn ∧ y.cls ≠ "java/lang/invoke/MethodHandle" ∧ y.cls ≠ "java/lang/invoke/VarHandle" ∧ (parseMethodDescriptor y.desc).map (fun d => d.parameters.length) = some nn) (hR : rm.frames + 1 ≤ R.frames ∧ 8 + (maxL + 11) + rm.locals ≤ R.locals)
    (hP : va_P G vwCl (Wd σ) H) (hS : va_S (s_A ad n s.heap.size) s.heap H locs) {q0 ci : Nat} {vc : vw_C} {fs : List Value} (hc : vwCl[ci]? = some vc) (he : (Wd σ)[q0]? = some (b, .inr (ci, fs))) (hCn : vc.1 = Cn) (hst : st0 = As.reverse ++ .ref b :: rest) (hn : As.length = nn) (hls : ls.size = nL) (hW : (rest.map fun v => v.category).sum ≤ 8) (hdg : decode cc pc = .ok (.invokevirtual idx, 3))
    (kk : ∀ (H1 : Heap) (locs1 : List Loc), va_P G vwCl (Wd σ1) H1 → va_S (s_A ad n s.heap.size) s.heap H1 locs1 → W p l e R s m args below meth c H1 locs1 0 0 Q (F0 m (pc + 3) ls rest)) :
    W p l e R s m args below meth c H locs 0 0 Q (F0 m pc ls st0) := by
  obtain ⟨hx, hb, hr, hml, hown, hts, hlk, hK, hE, hI⟩ := C
  subst hCn
  refine va_callv (va_runV (As := As) (rest := rest) ⟨hx, hb, hml, hown, hts⟩ hM (cwV nn hts hg rfl hrc hrs hd hR) ⟨s_P_blind, va_recv hK hP (ci := ci) (q0 := q0) hc he, fun U hU hW => ⟨rfl, by rw [hU], by rw [hU]; exact hP, va_K.moved hW.alike hK, hE.go hS hW hU (fun q h => s_sub hS.1 h)⟩⟩ rfl hn hls hst (lv_room hW) hdg ⟨Nat.zero_le _, Nat.zero_le _⟩) hS (fun q _ h => s_sub hS.1 h) (fun q h => s_sub hS.1 h) (fun u t H1 locs1 ht hvm hw hB hz1 hk1 hS1 => ?_)
  rw [ht] at hB
  exact kk H1 locs1 hB hS1
theorem s_calliS (C : s_X p s m meth c args cc ret nL own G cy sa ad n) (hM : Met l y (kW y bytes maxL rt) rm (s_P Wd G cy sa ad n As H.size σ) (s_Qi Wd G (s_A ad n H.size) r1 σ1) 0 0 (s_A ad n H.size))
    (hg : GoodIn kwL (va_wsS own idx y (kW y bytes maxL rt))) (hrc : rm.cells = 0) (hrs : rm.slots = 0) (hd : y.cls ≠ "java/lang/invoke/MethodHandle" ∧ y.cls ≠ "java/lang/invoke/VarHandle" ∧ (parseMethodDescriptor y.desc).map (fun d => d.parameters.length) = some nn) (hR : rm.frames + 1 ≤ R.frames ∧ 8 + (maxL + 11) + rm.locals ≤ R.locals)
    (hP : va_P G vwCl (Wd σ) H) (hS : va_S (s_A ad n s.heap.size) s.heap H locs) (hst : st0 = As.reverse ++ rest) (hn : As.length = nn) (hls : ls.size = nL) (hW : (rest.map fun v => v.category).sum ≤ 8) (hdg : decode cc pc = .ok (.invokestatic idx, 3))
    (kk : ∀ (H1 : Heap) (locs1 : List Loc), va_P G vwCl (Wd σ1) H1 → va_S (s_A ad n s.heap.size) s.heap H1 locs1 → W p l e R s m args below meth c H1 locs1 0 0 Q (F0 m (pc + 3) ls (.int r1 :: rest))) :
    W p l e R s m args below meth c H locs 0 0 Q (F0 m pc ls st0) := by
  obtain ⟨hx, hb, hr, hml, hown, hts, hlk, hK, hE, hI⟩ := C
  refine va_calli (va_runS (As := As) (rest := rest) ⟨hx, hb, hml, hown, hts⟩ hM (va_cwS nn hts hg rfl hrc hrs hd hR) ⟨s_P_blind, fun U hU hW => ⟨rfl, by rw [hU], by rw [hU]; exact hP, va_K.moved hW.alike hK, hE.go hS hW hU (fun q h => s_sub hS.1 h)⟩⟩ rfl hn hls hst (lv_room hW) hdg ⟨Nat.zero_le _, Nat.zero_le _⟩) hS (fun q _ h => s_sub hS.1 h) (fun q h => s_sub hS.1 h) (fun r u t H1 locs1 ht hvm hw hB hz1 hk1 hS1 => ?_)
  subst hw
  rw [ht] at hB
  exact kk H1 locs1 hB hS1
theorem s_callvS (C : s_X p s m meth c args cc ret nL own G cy sa ad n) (hM : Met l y (kW y bytes maxL rt) rm (s_P Wd G cy sa ad n As H.size σ) (s_Qv Wd G (s_A ad n H.size) σ1) 0 0 (s_A ad n H.size))
    (hg : GoodIn kwL (va_wsS own idx y (kW y bytes maxL rt))) (hrc : rm.cells = 0) (hrs : rm.slots = 0) (hd : y.cls ≠ "java/lang/invoke/MethodHandle" ∧ y.cls ≠ "java/lang/invoke/VarHandle" ∧ (parseMethodDescriptor y.desc).map (fun d => d.parameters.length) = some nn) (hR : rm.frames + 1 ≤ R.frames ∧ 8 + (maxL + 11) + rm.locals ≤ R.locals)
    (hP : va_P G vwCl (Wd σ) H) (hS : va_S (s_A ad n s.heap.size) s.heap H locs) (hst : st0 = As.reverse ++ rest) (hn : As.length = nn) (hls : ls.size = nL) (hW : (rest.map fun v => v.category).sum ≤ 8) (hdg : decode cc pc = .ok (.invokestatic idx, 3))
    (kk : ∀ (H1 : Heap) (locs1 : List Loc), va_P G vwCl (Wd σ1) H1 → va_S (s_A ad n s.heap.size) s.heap H1 locs1 → W p l e R s m args below meth c H1 locs1 0 0 Q (F0 m (pc + 3) ls rest)) :
    W p l e R s m args below meth c H locs 0 0 Q (F0 m pc ls st0) := by
  obtain ⟨hx, hb, hr, hml, hown, hts, hlk, hK, hE, hI⟩ := C
  refine va_callv (va_runS (As := As) (rest := rest) ⟨hx, hb, hml, hown, hts⟩ hM (va_cwS nn hts hg rfl hrc hrs hd hR) ⟨s_P_blind, fun U hU hW => ⟨rfl, by rw [hU], by rw [hU]; exact hP, va_K.moved hW.alike hK, hE.go hS hW hU (fun q h => s_sub hS.1 h)⟩⟩ rfl hn hls hst (lv_room hW) hdg ⟨Nat.zero_le _, Nat.zero_le _⟩) hS (fun q _ h => s_sub hS.1 h) (fun q h => s_sub hS.1 h) (fun u t H1 locs1 ht hvm hw hB hz1 hk1 hS1 => ?_)
  rw [ht] at hB
  exact kk H1 locs1 hB hS1
end SCALL
end
section
def fX7_in_b17 (σ : Sg) : Option (Int32 × Sg) := (some ((0 : Int32), σ))
def fX7_in (σ : Sg) (x0 : Int64) (x2 : Int64) (x4 : Int64) : Option (Int32 × Sg) := (if (lg_cmp x0 x2) < 0 then (fX7_in_b17 σ) else (if 0 < (lg_cmp x0 x4) then (fX7_in_b17 σ) else (some ((1 : Int32), σ))))
def fX7_begins (σ : Sg) (x1 : Int32) : Option Sg := (s_gd (s_in (x1 + (96 : Int32)) 515) (s_lt (s_up σ 1 (Int32.toNatClampNeg (x1 + (96 : Int32))) (5 : Int32)) (fun σ2 => (s_gd (s_in (x1 + (97 : Int32)) 515) (s_lt (s_up σ2 1 (Int32.toNatClampNeg (x1 + (97 : Int32))) (1 : Int32)) (fun σ4 => (s_gd (s_in (x1 + (98 : Int32)) 515) (s_lt (s_up σ4 1 (Int32.toNatClampNeg (x1 + (98 : Int32))) (1 : Int32)) (fun σ6 => (s_gd (s_in (x1 + (99 : Int32)) 515) (s_lt (s_up σ6 1 (Int32.toNatClampNeg (x1 + (99 : Int32))) (2 : Int32)) (fun σ8 => (s_gd (s_in (x1 + (100 : Int32)) 515) (s_lt (s_up σ8 1 (Int32.toNatClampNeg (x1 + (100 : Int32))) (0 : Int32)) (fun σ10 => (s_gd (s_in (x1 + (101 : Int32)) 515) (s_lt (s_up σ10 1 (Int32.toNatClampNeg (x1 + (101 : Int32))) (0 : Int32)) (fun σ12 => (s_gd (s_in (x1 + (102 : Int32)) 515) (s_lt (s_up σ12 1 (Int32.toNatClampNeg (x1 + (102 : Int32))) (0 : Int32)) (fun σ14 => (some σ14))))))))))))))))))))))
def fX7_starts (σ : Sg) : Option Sg := (if (σ 0 1) = 0 then (s_lt (s_up σ 0 1 (1 : Int32)) (fun σ2 => (s_bv (fX7_begins σ2 (0 : Int32)) (fun σ3 => (some σ3))))) else (some σ))
def fX7_feed (σ : Sg) (x1 : Int32) : Option (Int32 × Sg) := (s_bi (fX7_in σ (Int32.toInt64 x1) (0 : Int64) (127 : Int64)) (fun r3 σ1 => (if r3 = 0 then (some ((-1 : Int32), σ1)) else (if (σ1 0 3) = (320 : Int32) then (some ((-3 : Int32), σ1)) else (s_gd (s_in (σ1 0 3) 320) (s_lt (s_up σ1 2 (Int32.toNatClampNeg (σ1 0 3)) x1) (fun σ7 => (s_lt (s_up σ7 0 3 ((σ7 0 3) + (1 : Int32))) (fun σ8 => (some ((σ8 0 3), σ8)))))))))))
def fX7_end (σ : Sg) (x1 : Int32) : Option (Int32 × Sg) := (s_bi (fX7_in σ (Int32.toInt64 x1) (0 : Int64) (Int32.toInt64 (σ 0 3))) (fun r3 σ1 => (if r3 = 0 then (some ((-1 : Int32), σ1)) else (s_lt (σ1 0 3) (fun t5 => (s_lt (s_up σ1 0 3 x1) (fun σ6 => (some (t5, σ6)))))))))
def fX7_byteAt (σ : Sg) (x1 : Int32) : Option (Int32 × Sg) := (if (σ 0 3) ≤ x1 then (some ((-4 : Int32), σ)) else (s_gd (s_in x1 320) (some ((σ 2 (Int32.toNatClampNeg x1)), σ))))
def fX7_fails (σ : Sg) (x1 : Int32) : Option Sg := (if (σ 0 5) = 0 then (s_lt (s_up σ 0 5 x1) (fun σ2 => (s_lt (s_up σ2 0 6 (σ2 0 8)) (fun σ3 => (some σ3))))) else (some σ))
def fX7_nameHere_b118 (σ : Sg) : Option (Int32 × Sg) := (some ((-4 : Int32), σ))
def fX7_nameHere_b106 (k2 : Sg → Int32 → Option (Int32 × Sg)) (σ : Sg) (x1 : Int32) (x2 : Int32) : Option (Int32 × Sg) := (if x2 = 0 then (s_lt (x1 + 1) (fun t2 => (k2 σ t2))) else (some (x1, σ)))
def fX7_nameHere_b99 (k2 : Sg → Int32 → Option (Int32 × Sg)) (k51 : Sg → Int32 → Int32 → Int32 → Option (Int32 × Sg)) (σ : Sg) (x1 : Int32) (x3 : Int32) (y0 : Int32) : Option (Int32 × Sg) := (s_lt (x3 + 1) (fun t1 => (k51 σ x1 y0 t1)))
def fX7_nameHere_b51 (k2 : Sg → Int32 → Option (Int32 × Sg)) (k51 : Sg → Int32 → Int32 → Int32 → Option (Int32 × Sg)) (σ : Sg) (x1 : Int32) (x2 : Int32) (x3 : Int32) : Option (Int32 × Sg) := (if x2 = 0 then (fX7_nameHere_b106 k2 σ x1 x2) else (if ((σ 0 7) - (σ 0 8)) ≤ x3 then (fX7_nameHere_b106 k2 σ x1 x2) else (s_bi (fX7_byteAt σ ((σ 0 8) + x3)) (fun r5 σ3 => (s_gd (s_in x1 16) (s_gd (s_in ((σ3 3 (Int32.toNatClampNeg x1)) + x3) 61) (if r5 = (σ3 4 (Int32.toNatClampNeg ((σ3 3 (Int32.toNatClampNeg x1)) + x3))) then (fX7_nameHere_b99 k2 k51 σ3 x1 x3 (1 : Int32)) else (fX7_nameHere_b99 k2 k51 σ3 x1 x3 (0 : Int32)))))))))
def fX7_nameHere_b51_L (k2 : Sg → Int32 → Option (Int32 × Sg)) : Nat → Sg → Int32 → Int32 → Int32 → Option (Int32 × Sg)
  | 0 => fun _ _ _ _ => none
  | n + 1 => fun σ x1 x2 x3 => fX7_nameHere_b51 k2 (fX7_nameHere_b51_L k2 n) σ x1 x2 x3
def fX7_nameHere_b48 (k2 : Sg → Int32 → Option (Int32 × Sg)) (σ : Sg) (x1 : Int32) (y0 : Int32) : Option (Int32 × Sg) := (fX7_nameHere_b51_L k2 s_fu σ x1 y0 (0 : Int32))
def fX7_nameHere_b2 (k2 : Sg → Int32 → Option (Int32 × Sg)) (σ : Sg) (x1 : Int32) : Option (Int32 × Sg) := (if (15 : Int32) ≤ x1 then (fX7_nameHere_b118 σ) else (if (σ 0 9) = (1 : Int32) then (s_gd (s_in (x1 + (1 : Int32)) 16) (s_gd (s_in x1 16) (if ((σ 0 7) - (σ 0 8)) = ((σ 3 (Int32.toNatClampNeg (x1 + (1 : Int32)))) - (σ 3 (Int32.toNatClampNeg x1))) then (fX7_nameHere_b48 k2 σ x1 (1 : Int32)) else (fX7_nameHere_b48 k2 σ x1 (0 : Int32))))) else (fX7_nameHere_b118 σ)))
def fX7_nameHere_b2_L : Nat → Sg → Int32 → Option (Int32 × Sg)
  | 0 => fun _ _ => none
  | n + 1 => fun σ x1 => fX7_nameHere_b2 (fX7_nameHere_b2_L n) σ x1
def fX7_nameHere (σ : Sg) : Option (Int32 × Sg) := (fX7_nameHere_b2_L s_fu σ (0 : Int32))
def fX7_readsOn_b265 (σ : Sg) (x1 : Int32) (y1 : Int32) : Option Sg := (s_lt (s_up σ 0 9 y1) (fun σ1 => (s_lt (s_up σ1 0 7 ((σ1 0 7) + (1 : Int32))) (fun σ2 => (if x1 = (59 : Int32) then (some σ2) else (if x1 = (45 : Int32) then (some σ2) else (if x1 = (46 : Int32) then (some σ2) else (s_bv (fX7_fails σ2 (1 : Int32)) (fun σ6 => (some σ6))))))))))
def fX7_readsOn_b201 (k140 : Sg → Option Sg) (σ : Sg) (y1 : Int32) : Option Sg := (s_lt (s_up σ 0 10 y1) (fun σ1 => (s_lt (s_up σ1 0 7 ((σ1 0 7) + (1 : Int32))) (fun σ2 => (k140 σ2)))))
def fX7_readsOn_b140 (k140 : Sg → Option Sg) (σ : Sg) : Option Sg := (s_bi (fX7_byteAt σ (σ 0 7)) (fun r3 σ1 => (s_bi (fX7_in σ1 (Int32.toInt64 r3) (48 : Int64) (57 : Int64)) (fun r6 σ4 => (if r6 = 0 then (s_lt (s_up σ4 0 9 (2 : Int32)) (fun σ8 => (if ((σ8 0 7) - (σ8 0 8)) ≤ (4 : Int32) then (some σ8) else (s_bv (fX7_fails σ8 (1 : Int32)) (fun σ10 => (some σ10)))))) else (if (4 : Int32) ≤ ((σ4 0 7) - (σ4 0 8)) then (fX7_readsOn_b201 k140 σ4 (σ4 0 10)) else (s_bi (fX7_byteAt σ4 (σ4 0 7)) (fun r15 σ13 => (fX7_readsOn_b201 k140 σ13 ((((10 : Int32) * (σ4 0 10)) + r15) - (48 : Int32)))))))))))
def fX7_readsOn_b140_L : Nat → Sg → Option Sg
  | 0 => fun _ => none
  | n + 1 => fun σ => fX7_readsOn_b140 (fX7_readsOn_b140_L n) σ
def fX7_readsOn_b84 (k84 : Sg → Option Sg) (σ : Sg) : Option Sg := (s_bi (fX7_byteAt σ (σ 0 7)) (fun r3 σ1 => (s_bi (fX7_in σ1 (Int32.toInt64 r3) (97 : Int64) (122 : Int64)) (fun r6 σ4 => (if r6 = 0 then (s_lt (s_up σ4 0 9 (1 : Int32)) (fun σ8 => (some σ8))) else (s_lt (s_up σ4 0 7 ((σ4 0 7) + (1 : Int32))) (fun σ9 => (k84 σ9))))))))
def fX7_readsOn_b84_L : Nat → Sg → Option Sg
  | 0 => fun _ => none
  | n + 1 => fun σ => fX7_readsOn_b84 (fX7_readsOn_b84_L n) σ
def fX7_readsOn_b8 (k8 : Sg → Option Sg) (σ : Sg) : Option Sg := (s_bi (fX7_byteAt σ (σ 0 7)) (fun r3 σ1 => (if r3 = (32 : Int32) then (s_lt (s_up σ1 0 7 ((σ1 0 7) + (1 : Int32))) (fun σ22 => (k8 σ22))) else (s_lt (s_up σ1 0 8 (σ1 0 7)) (fun σ5 => (s_bi (fX7_byteAt σ5 (σ5 0 7)) (fun r8 σ6 => (s_lt (s_up σ6 0 10 (0 : Int32)) (fun σ9 => (if r8 = (-4 : Int32) then (s_lt (s_up σ9 0 9 (0 : Int32)) (fun σ21 => (some σ21))) else (s_bi (fX7_in σ9 (Int32.toInt64 r8) (97 : Int64) (122 : Int64)) (fun r13 σ11 => (if r13 = 0 then (s_bi (fX7_in σ11 (Int32.toInt64 r8) (48 : Int64) (57 : Int64)) (fun r17 σ15 => (if r17 = 0 then (if r8 = (45 : Int32) then (fX7_readsOn_b265 σ15 r8 (4 : Int32)) else (if r8 = (46 : Int32) then (fX7_readsOn_b265 σ15 r8 (5 : Int32)) else (fX7_readsOn_b265 σ15 r8 (3 : Int32)))) else (fX7_readsOn_b140_L s_fu σ15)))) else (fX7_readsOn_b84_L s_fu σ11))))))))))))))
def fX7_readsOn_b8_L : Nat → Sg → Option Sg
  | 0 => fun _ => none
  | n + 1 => fun σ => fX7_readsOn_b8 (fX7_readsOn_b8_L n) σ
def fX7_readsOn (σ : Sg) : Option Sg := (if (σ 0 5) ≤ 0 then (fX7_readsOn_b8_L s_fu σ) else (some σ))
def fX7_numberRead_b62 (σ : Sg) (y0 : Int32) : Option (Int32 × Sg) := (s_bv (fX7_readsOn σ) (fun σ1 => (some (y0, σ1))))
def fX7_numberRead_b47 (σ : Sg) (x1 : Int32) : Option (Int32 × Sg) := (if (σ 0 5) = 0 then (fX7_numberRead_b62 σ (σ 0 10)) else (fX7_numberRead_b62 σ x1))
def fX7_numberRead_b20 (σ : Sg) (x1 : Int32) (x2 : Int32) : Option (Int32 × Sg) := (if (σ 0 5) = 0 then (s_bi (fX7_in σ (Int32.toInt64 (σ 0 10)) (Int32.toInt64 x1) (Int32.toInt64 x2)) (fun r4 σ2 => (if r4 = 0 then (s_bv (fX7_fails σ2 (3 : Int32)) (fun σ6 => (fX7_numberRead_b47 σ6 x1))) else (fX7_numberRead_b47 σ2 x1)))) else (fX7_numberRead_b47 σ x1))
def fX7_numberRead (σ : Sg) (x1 : Int32) (x2 : Int32) : Option (Int32 × Sg) := (if (σ 0 5) = 0 then (if (σ 0 9) = (2 : Int32) then (fX7_numberRead_b20 σ x1 x2) else (s_bv (fX7_fails σ (2 : Int32)) (fun σ3 => (fX7_numberRead_b20 σ3 x1 x2)))) else (fX7_numberRead_b20 σ x1 x2))
def fX7_wordRead_b33 (σ : Sg) (x1 : Int32) (x3 : Int32) : Option (Int32 × Sg) := (s_bv (fX7_readsOn σ) (fun σ1 => (if (σ1 0 5) = 0 then (some ((x3 - x1), σ1)) else (some ((0 : Int32), σ1)))))
def fX7_wordRead (σ : Sg) (x1 : Int32) (x2 : Int32) : Option (Int32 × Sg) := (s_bi (fX7_nameHere σ) (fun r3 σ1 => (if (σ1 0 5) = 0 then (s_bi (fX7_in σ1 (Int32.toInt64 r3) (Int32.toInt64 x1) (Int32.toInt64 ((x1 + x2) - (1 : Int32)))) (fun r7 σ5 => (if r7 = 0 then (s_bv (fX7_fails σ5 (2 : Int32)) (fun σ9 => (fX7_wordRead_b33 σ9 x1 r3))) else (fX7_wordRead_b33 σ5 x1 r3)))) else (fX7_wordRead_b33 σ1 x1 r3))))
def fX7_hundredthsRead_b15 (σ : Sg) : Option (Int32 × Sg) := (some ((0 : Int32), σ))
def fX7_hundredthsRead_b87 (σ : Sg) (y0 : Int32) : Option (Int32 × Sg) := (s_bv (fX7_readsOn σ) (fun σ1 => (if (σ1 0 5) = 0 then (some (y0, σ1)) else (some ((0 : Int32), σ1)))))
def fX7_hundredthsRead_b68 (σ : Sg) (x1 : Int32) : Option (Int32 × Sg) := (if x1 = (1 : Int32) then (fX7_hundredthsRead_b87 σ ((10 : Int32) * (σ 0 10))) else (fX7_hundredthsRead_b87 σ (σ 0 10)))
def fX7_hundredthsRead_b41 (σ : Sg) : Option (Int32 × Sg) := (s_lt ((σ 0 7) - (σ 0 8)) (fun t1 => (if (σ 0 5) = 0 then (if t1 ≤ (2 : Int32) then (fX7_hundredthsRead_b68 σ t1) else (s_bv (fX7_fails σ (3 : Int32)) (fun σ4 => (fX7_hundredthsRead_b68 σ4 t1)))) else (fX7_hundredthsRead_b68 σ t1))))
def fX7_hundredthsRead (σ : Sg) : Option (Int32 × Sg) := (if 0 < (σ 0 5) then (fX7_hundredthsRead_b15 σ) else (if (σ 0 9) = (5 : Int32) then (s_bv (fX7_readsOn σ) (fun σ3 => (if (σ3 0 5) = 0 then (if (σ3 0 9) = (2 : Int32) then (fX7_hundredthsRead_b41 σ3) else (s_bv (fX7_fails σ3 (2 : Int32)) (fun σ7 => (fX7_hundredthsRead_b41 σ7)))) else (fX7_hundredthsRead_b41 σ3)))) else (fX7_hundredthsRead_b15 σ)))
def fX7_isReadingHere_b25 (σ : Sg) : Option (Int32 × Sg) := (some ((1 : Int32), σ))
def fX7_isReadingHere (σ : Sg) : Option (Int32 × Sg) := (if (σ 0 9) = (2 : Int32) then (fX7_isReadingHere_b25 σ) else (if (σ 0 9) = (4 : Int32) then (fX7_isReadingHere_b25 σ) else (s_bi (fX7_nameHere σ) (fun r5 σ3 => (if r5 = (14 : Int32) then (fX7_isReadingHere_b25 σ3) else (some ((0 : Int32), σ3)))))))
def fX7_readReading_b124 (σ : Sg) (x1 : Int32) (x2 : Int32) : Option Sg := (s_gd (s_in ((309 : Int32) + x1) 515) (s_lt (s_up σ 1 (Int32.toNatClampNeg ((309 : Int32) + x1)) x2) (fun σ2 => (s_lt (s_up σ2 1 411 ((σ2 1 411) + (1 : Int32))) (fun σ3 => (some σ3))))))
def fX7_readReading_b123 (σ : Sg) (x1 : Int32) (y0 : Int32) : Option Sg := (fX7_readReading_b124 σ x1 y0)
def fX7_readReading_b94 (σ : Sg) (x1 : Int32) (x3 : Int32) : Option Sg := (s_bi (fX7_numberRead σ (0 : Int32) (9999 : Int32)) (fun r3 σ1 => (s_lt ((100 : Int32) * r3) (fun t4 => (s_bi (fX7_hundredthsRead σ1) (fun r7 σ5 => (s_lt (t4 + r7) (fun t8 => (if x3 = 0 then (fX7_readReading_b123 σ5 x1 t8) else (fX7_readReading_b123 σ5 x1 (-t8)))))))))))
def fX7_readReading_b85 (σ : Sg) (x1 : Int32) (y0 : Int32) : Option Sg := (if y0 = 0 then (fX7_readReading_b94 σ x1 y0) else (s_bv (fX7_readsOn σ) (fun σ2 => (fX7_readReading_b94 σ2 x1 y0))))
def fX7_readReading_b46 (σ : Sg) (x1 : Int32) : Option Sg := (if (σ 0 5) ≤ 0 then (if (σ 0 9) = (1 : Int32) then (s_bv (fX7_readsOn σ) (fun σ4 => (fX7_readReading_b124 σ4 x1 (100000000 : Int32)))) else (if (σ 0 9) = (4 : Int32) then (fX7_readReading_b85 σ x1 (1 : Int32)) else (fX7_readReading_b85 σ x1 (0 : Int32)))) else (some σ))
def fX7_readReading_b19 (σ : Sg) : Option Sg := (s_lt (σ 1 411) (fun t1 => (if (σ 0 5) = 0 then (if t1 = (96 : Int32) then (s_bv (fX7_fails σ (5 : Int32)) (fun σ4 => (fX7_readReading_b46 σ4 t1))) else (fX7_readReading_b46 σ t1)) else (fX7_readReading_b46 σ t1))))
def fX7_readReading (σ : Sg) : Option Sg := (if (σ 0 5) = 0 then (s_bi (fX7_isReadingHere σ) (fun r4 σ2 => (if r4 = 0 then (s_bv (fX7_fails σ2 (2 : Int32)) (fun σ6 => (fX7_readReading_b19 σ6))) else (fX7_readReading_b19 σ2)))) else (fX7_readReading_b19 σ))
def fX7_readPut_b4 (k4 : Sg → Option Sg) (σ : Sg) : Option Sg := (if (σ 0 5) = 0 then (s_bi (fX7_isReadingHere σ) (fun r4 σ2 => (if r4 = 0 then (some σ2) else (s_bv (fX7_readReading σ2) (fun σ6 => (k4 σ6)))))) else (some σ))
def fX7_readPut_b4_L : Nat → Sg → Option Sg
  | 0 => fun _ => none
  | n + 1 => fun σ => fX7_readPut_b4 (fX7_readPut_b4_L n) σ
def fX7_readPut (σ : Sg) : Option Sg := (s_bv (fX7_readReading σ) (fun σ1 => (fX7_readPut_b4_L s_fu σ1)))
def fX7_readLine_b248 (σ : Sg) : Option Sg := (s_bv (fX7_readsOn σ) (fun σ1 => (some σ1)))
def fX7_readLine_b228 (σ : Sg) : Option Sg := (if (σ 0 5) = 0 then (if (σ 0 9) = (3 : Int32) then (fX7_readLine_b248 σ) else (s_bv (fX7_fails σ (2 : Int32)) (fun σ3 => (fX7_readLine_b248 σ3)))) else (fX7_readLine_b248 σ))
def fX7_readLine_b179 (σ : Sg) (y1 : Int32) (y3 : Int32) : Option Sg := (s_bi (fX7_numberRead σ y3 (100 : Int32)) (fun r3 σ1 => (s_gd (s_in y1 515) (s_lt (s_up σ1 1 (Int32.toNatClampNeg y1) r3) (fun σ5 => (fX7_readLine_b228 σ5))))))
def fX7_readLine_b45 (σ : Sg) (x1 : Int32) : Option Sg := (s_lt (s_up σ 0 11 ((σ 0 11) ||| ((1 : Int32) <<< (x1 &&& 31)))) (fun σ1 => (s_bv (fX7_readsOn σ1) (fun σ2 => (if x1 = 0 then (s_bi (fX7_numberRead σ2 (1 : Int32) (24 : Int32)) (fun r7 σ5 => (s_lt (s_up σ5 1 405 r7) (fun σ8 => (fX7_readLine_b228 σ8))))) else (if x1 = 1 then (s_bi (fX7_numberRead σ2 (1 : Int32) (24 : Int32)) (fun r12 σ10 => (s_lt (s_up σ10 1 406 r12) (fun σ13 => (fX7_readLine_b228 σ13))))) else (if x1 = 2 then (s_bi (fX7_numberRead σ2 (0 : Int32) (100 : Int32)) (fun r17 σ15 => (s_lt (s_up σ15 1 407 r17) (fun σ18 => (if (σ18 1 407) ≤ (1 : Int32) then (fX7_readLine_b179 σ18 (408 : Int32) (1 : Int32)) else (fX7_readLine_b179 σ18 (408 : Int32) (σ18 1 407))))))) else (if x1 = 3 then (s_bi (fX7_wordRead σ2 (6 : Int32) (5 : Int32)) (fun r23 σ21 => (s_lt (s_up σ21 1 409 r23) (fun σ24 => (fX7_readLine_b228 σ24))))) else (if x1 = 4 then (s_bi (fX7_wordRead σ2 (11 : Int32) (3 : Int32)) (fun r28 σ26 => (s_lt (s_up σ26 1 410 r28) (fun σ29 => (fX7_readLine_b228 σ29))))) else (s_bv (fX7_readPut σ2) (fun σ30 => (fX7_readLine_b228 σ30))))))))))))
def fX7_readLine (σ : Sg) : Option Sg := (s_bi (fX7_nameHere σ) (fun r3 σ1 => (s_bi (fX7_in σ1 (Int32.toInt64 r3) (0 : Int64) (5 : Int64)) (fun r6 σ4 => (if r6 = 0 then (s_bv (fX7_fails σ4 (2 : Int32)) (fun σ12 => (some σ12))) else (if (5 : Int32) ≤ r3 then (fX7_readLine_b45 σ4 r3) else (if (((σ4 0 11) >>> (r3 &&& 31)) &&& (1 : Int32)) = (1 : Int32) then (s_bv (fX7_fails σ4 (4 : Int32)) (fun σ10 => (fX7_readLine_b45 σ10 r3))) else (fX7_readLine_b45 σ4 r3))))))))
def fX7_copies_b2 (k2 : Sg → Int32 → Int32 → Int32 → Option Sg) (σ : Sg) (x1 : Int32) (x2 : Int32) (x3 : Int32) : Option Sg := (if (103 : Int32) ≤ x3 then (some σ) else (s_gd (s_in (x1 + x3) 515) (s_gd (s_in (x2 + x3) 515) (s_lt (s_up σ 1 (Int32.toNatClampNeg (x2 + x3)) (σ 1 (Int32.toNatClampNeg (x1 + x3)))) (fun σ4 => (s_lt (x3 + 1) (fun t5 => (k2 σ4 x1 x2 t5))))))))
def fX7_copies_b2_L : Nat → Sg → Int32 → Int32 → Int32 → Option Sg
  | 0 => fun _ _ _ _ => none
  | n + 1 => fun σ x1 x2 x3 => fX7_copies_b2 (fX7_copies_b2_L n) σ x1 x2 x3
def fX7_copies (σ : Sg) (x1 : Int32) (x2 : Int32) : Option Sg := (fX7_copies_b2_L s_fu σ x1 x2 (0 : Int32))
def fX7_many (σ : Sg) : Option (Int32 × Sg) := (some ((σ 1 102), σ))
def fX7_text_b51 (σ : Sg) : Option (Int32 × Sg) := (s_lt (s_up σ 0 3 (0 : Int32)) (fun σ1 => (s_lt (s_up σ1 0 4 (σ1 0 5)) (fun σ2 => (if (σ2 0 5) ≤ 0 then (s_bv (fX7_copies σ2 (309 : Int32) (0 : Int32)) (fun σ4 => (s_lt (s_up σ4 8 0 (vp_nar .boolean (0 : Int32))) (fun σ6 => (s_lt (s_up σ6 8 1 (vp_nar .boolean (0 : Int32))) (fun σ7 => (s_bi (fX7_many σ7) (fun r10 σ8 => (some (r10, σ8)))))))))) else (some (((-10 : Int32) - (σ2 0 6)), σ2)))))))
def fX7_text_b30 (k30 : Sg → Option (Int32 × Sg)) (σ : Sg) : Option (Int32 × Sg) := (if (σ 0 5) = 0 then (if (σ 0 9) = 0 then (fX7_text_b51 σ) else (s_bv (fX7_readLine σ) (fun σ3 => (k30 σ3)))) else (fX7_text_b51 σ))
def fX7_text_b30_L : Nat → Sg → Option (Int32 × Sg)
  | 0 => fun _ => none
  | n + 1 => fun σ => fX7_text_b30 (fX7_text_b30_L n) σ
def fX7_text (σ : Sg) : Option (Int32 × Sg) := (s_bv (fX7_starts σ) (fun σ1 => (s_lt (s_up σ1 0 5 (0 : Int32)) (fun σ3 => (s_lt (s_up σ3 0 7 (0 : Int32)) (fun σ4 => (s_lt (s_up σ4 0 11 (0 : Int32)) (fun σ5 => (s_bv (fX7_begins σ5 (309 : Int32)) (fun σ6 => (s_bv (fX7_readsOn σ6) (fun σ8 => (fX7_text_b30_L s_fu σ8)))))))))))))
def fX7_fault (σ : Sg) : Option (Int32 × Sg) := (some ((σ 0 4), σ))
def fX7_isThere (σ : Sg) (x1 : Int32) : Option (Int32 × Sg) := (s_bv (fX7_starts σ) (fun σ1 => (s_bi (fX7_many σ1) (fun r5 σ3 => (s_bi (fX7_in σ3 (Int32.toInt64 x1) (0 : Int64) (Int32.toInt64 (r5 - (1 : Int32)))) (fun r8 σ6 => (s_gd (s_z r8) (some (r8, σ6)))))))))
def fX7_puts_5_b29 (σ : Sg) (x2 : Int32) (x3 : Int32) : Option Sg := (s_gd (s_in x3 24) (s_lt (s_up σ 5 (Int32.toNatClampNeg x3) x2) (fun σ2 => (some σ2))))
def fX7_puts_5_b2 (k2 : Sg → Int32 → Int32 → Option Sg) (σ : Sg) (x2 : Int32) (x3 : Int32) : Option Sg := (if x3 ≤ 0 then (fX7_puts_5_b29 σ x2 x3) else (s_gd (s_in (x3 - (1 : Int32)) 24) (if (σ 5 (Int32.toNatClampNeg (x3 - (1 : Int32)))) ≤ x2 then (fX7_puts_5_b29 σ x2 x3) else (s_gd (s_in (x3 - (1 : Int32)) 24) (s_gd (s_in x3 24) (s_lt (s_up σ 5 (Int32.toNatClampNeg x3) (σ 5 (Int32.toNatClampNeg (x3 - (1 : Int32))))) (fun σ6 => (s_lt (x3 + (-1)) (fun t7 => (k2 σ6 x2 t7))))))))))
def fX7_puts_5_b2_L : Nat → Sg → Int32 → Int32 → Option Sg
  | 0 => fun _ _ _ => none
  | n + 1 => fun σ x2 x3 => fX7_puts_5_b2 (fX7_puts_5_b2_L n) σ x2 x3
def fX7_puts_5 (σ : Sg) (x1 : Int32) (x2 : Int32) : Option Sg := (fX7_puts_5_b2_L s_fu σ x2 x1)
def fX7_rowOf_b70 (k27 : Sg → Int32 → Int32 → Option Sg) (σ : Sg) (x1 : Int32) (x3 : Int32) : Option Sg := (s_lt (x3 + 1) (fun t1 => (k27 σ x1 t1)))
def fX7_rowOf_b27 (k27 : Sg → Int32 → Int32 → Option Sg) (σ : Sg) (x1 : Int32) (x3 : Int32) : Option Sg := (if x1 < x3 then (some σ) else (s_gd (s_in x3 515) (if (σ 1 (Int32.toNatClampNeg x3)) = (100000000 : Int32) then (fX7_rowOf_b70 k27 σ x1 x3) else (s_gd (s_in x3 515) (s_bv (fX7_puts_5 σ (σ 0 15) (σ 1 (Int32.toNatClampNeg x3))) (fun σ5 => (s_lt (s_up σ5 0 15 ((σ5 0 15) + (1 : Int32))) (fun σ7 => (fX7_rowOf_b70 k27 σ7 x1 x3)))))))))
def fX7_rowOf_b27_L : Nat → Sg → Int32 → Int32 → Option Sg
  | 0 => fun _ _ _ => none
  | n + 1 => fun σ x1 x3 => fX7_rowOf_b27 (fX7_rowOf_b27_L n) σ x1 x3
def fX7_rowOf_b26 (σ : Sg) (x1 : Int32) (y0 : Int32) : Option Sg := (fX7_rowOf_b27_L s_fu σ x1 y0)
def fX7_rowOf (σ : Sg) (x1 : Int32) : Option Sg := (s_lt (s_up σ 0 15 (0 : Int32)) (fun σ1 => (s_lt ((x1 - (σ1 1 96)) + (1 : Int32)) (fun t2 => (if 0 ≤ t2 then (fX7_rowOf_b26 σ1 x1 t2) else (fX7_rowOf_b26 σ1 x1 (0 : Int32)))))))
def fX7_isResult_b26 (σ : Sg) : Option (Int32 × Sg) := (some ((0 : Int32), σ))
def fX7_isResult_b260 (σ : Sg) : Option (Int32 × Sg) := (some ((1 : Int32), σ))
def fX7_isResult_b211 (σ : Sg) (y1 : Int32) : Option (Int32 × Sg) := (s_lt (s_up σ 0 19 y1) (fun σ1 => (fX7_isResult_b260 σ1)))
def fX7_isResult_b135 (σ : Sg) (x2 : Int32) (x4 : Int32) (x5 : Int32) (y0 : Int32) : Option (Int32 × Sg) := (s_lt (s_up σ 0 20 (1 : Int32)) (fun σ1 => (if (σ1 1 100) = 0 then (s_lt (s_up σ1 0 19 x4) (fun σ3 => (fX7_isResult_b260 σ3))) else (if (σ1 1 100) = 1 then (s_lt (s_up σ1 0 19 x5) (fun σ5 => (fX7_isResult_b260 σ5))) else (if (σ1 1 100) = 2 then (if y0 = 0 then (fX7_isResult_b211 σ1 x5) else (fX7_isResult_b211 σ1 x4)) else (if (σ1 1 100) = 3 then (s_lt (s_up σ1 0 19 (x4 + x5)) (fun σ9 => (s_lt (s_up σ9 0 20 (2 : Int32)) (fun σ10 => (fX7_isResult_b260 σ10))))) else (s_lt (s_up σ1 0 19 ((x4 * (x2 - (σ1 0 18))) + (x5 * (σ1 0 18)))) (fun σ11 => (s_lt (s_up σ11 0 20 x2) (fun σ12 => (fX7_isResult_b260 σ12)))))))))))
def fX7_isResult_b130 (σ : Sg) (x2 : Int32) (x4 : Int32) (x5 : Int32) : Option (Int32 × Sg) := (fX7_isResult_b135 σ x2 x4 x5 (1 : Int32))
def fX7_isResult_b134 (σ : Sg) (x2 : Int32) (x4 : Int32) (x5 : Int32) : Option (Int32 × Sg) := (fX7_isResult_b135 σ x2 x4 x5 (0 : Int32))
def fX7_isResult_b99 (σ : Sg) (x2 : Int32) (x4 : Int32) (y0 : Int32) : Option (Int32 × Sg) := (if ((2 : Int32) * (σ 0 18)) < x2 then (fX7_isResult_b130 σ x2 x4 y0) else (if ((2 : Int32) * (σ 0 18)) = x2 then (s_lt (s_rem (σ 0 17) (2 : Int32)) (fun t3 => (if t3 = 0 then (fX7_isResult_b130 σ x2 x4 y0) else (fX7_isResult_b134 σ x2 x4 y0)))) else (fX7_isResult_b134 σ x2 x4 y0)))
def fX7_isResult (σ : Sg) (x1 : Int32) : Option (Int32 × Sg) := (s_bv (fX7_rowOf σ x1) (fun σ1 => (if (σ1 0 15) < (σ1 1 97) then (fX7_isResult_b26 σ1) else (if (σ1 0 15) = 0 then (fX7_isResult_b26 σ1) else (s_lt (σ1 1 99) (fun t5 => (s_lt (((σ1 0 15) - (1 : Int32)) * (σ1 1 98)) (fun t6 => (s_gd (s_nz t5) (s_lt (s_up σ1 0 17 (t6 / t5)) (fun σ8 => (s_gd (s_nz t5) (s_lt (s_rem t6 t5) (fun t10 => (s_lt (s_up σ8 0 18 t10) (fun σ11 => (s_gd (s_in (σ11 0 17) 24) (s_lt (σ11 5 (Int32.toNatClampNeg (σ11 0 17))) (fun t13 => (if (σ11 0 18) ≤ 0 then (fX7_isResult_b99 σ11 t5 t13 t13) else (s_gd (s_in ((σ11 0 17) + (1 : Int32)) 24) (fX7_isResult_b99 σ11 t5 t13 (σ11 5 (Int32.toNatClampNeg ((σ11 0 17) + (1 : Int32))))))))))))))))))))))))))
def fX7_rounded_b21 (σ : Sg) (y0 : Int64) : Option (Int32 × Sg) := (s_gd (s_nzl ((2 : Int64) * (Int32.toInt64 (σ 0 20)))) (s_lt (Int64.toInt32 ((((2 : Int64) * y0) + (Int32.toInt64 (σ 0 20))) / ((2 : Int64) * (Int32.toInt64 (σ 0 20))))) (fun t2 => (if 0 ≤ (σ 0 19) then (some (t2, σ)) else (some ((-t2), σ))))))
def fX7_rounded (σ : Sg) : Option (Int32 × Sg) := (if 0 ≤ (σ 0 19) then (fX7_rounded_b21 σ (Int32.toInt64 (σ 0 19))) else (fX7_rounded_b21 σ (-(Int32.toInt64 (σ 0 19)))))
def fX7_missing_b29 (k4 : Sg → Int32 → Int32 → Option (Int32 × Sg)) (σ : Sg) (x2 : Int32) (y0 : Int32) (y1 : Int32) : Option (Int32 × Sg) := (s_lt (y0 + y1) (fun t1 => (s_lt (x2 + 1) (fun t2 => (k4 σ t1 t2)))))
def fX7_missing_b4 (k4 : Sg → Int32 → Int32 → Option (Int32 × Sg)) (σ : Sg) (x1 : Int32) (x2 : Int32) : Option (Int32 × Sg) := (s_bi (fX7_many σ) (fun r3 σ1 => (if r3 ≤ x2 then (some (x1, σ1)) else (s_gd (s_in x2 515) (if (σ1 1 (Int32.toNatClampNeg x2)) = (100000000 : Int32) then (fX7_missing_b29 k4 σ1 x2 x1 (1 : Int32)) else (fX7_missing_b29 k4 σ1 x2 x1 (0 : Int32)))))))
def fX7_missing_b4_L : Nat → Sg → Int32 → Int32 → Option (Int32 × Sg)
  | 0 => fun _ _ _ => none
  | n + 1 => fun σ x1 x2 => fX7_missing_b4 (fX7_missing_b4_L n) σ x1 x2
def fX7_missing (σ : Sg) : Option (Int32 × Sg) := (fX7_missing_b4_L s_fu σ (0 : Int32) (0 : Int32))
def fX7_results_b26 (k4 : Sg → Int32 → Int32 → Option (Int32 × Sg)) (σ : Sg) (x2 : Int32) (y0 : Int32) (y1 : Int32) : Option (Int32 × Sg) := (s_lt (y0 + y1) (fun t1 => (s_lt (x2 + 1) (fun t2 => (k4 σ t1 t2)))))
def fX7_results_b4 (k4 : Sg → Int32 → Int32 → Option (Int32 × Sg)) (σ : Sg) (x1 : Int32) (x2 : Int32) : Option (Int32 × Sg) := (s_bi (fX7_many σ) (fun r3 σ1 => (if r3 ≤ x2 then (some (x1, σ1)) else (s_bi (fX7_isResult σ1 x2) (fun r7 σ5 => (if r7 = 0 then (fX7_results_b26 k4 σ5 x2 x1 (0 : Int32)) else (fX7_results_b26 k4 σ5 x2 x1 (1 : Int32))))))))
def fX7_results_b4_L : Nat → Sg → Int32 → Int32 → Option (Int32 × Sg)
  | 0 => fun _ _ _ => none
  | n + 1 => fun σ x1 x2 => fX7_results_b4 (fX7_results_b4_L n) σ x1 x2
def fX7_results (σ : Sg) : Option (Int32 × Sg) := (fX7_results_b4_L s_fu σ (0 : Int32) (0 : Int32))
def fX7_rule (σ : Sg) (x1 : Int32) : Option (Int32 × Sg) := (s_bv (fX7_starts σ) (fun σ1 => (if x1 = 0 then (s_bi (fX7_many σ1) (fun r6 σ4 => (some (r6, σ4)))) else (if x1 = 1 then (s_bi (fX7_missing σ1) (fun r10 σ8 => (some (r10, σ8)))) else (if x1 = 8 then (s_bi (fX7_results σ1) (fun r14 σ12 => (some (r14, σ12)))) else (s_bi (fX7_in σ1 (Int32.toInt64 x1) (2 : Int64) (7 : Int64)) (fun r17 σ15 => (if r17 = 0 then (some ((-1 : Int32), σ15)) else (s_gd (s_in ((94 : Int32) + x1) 515) (some ((σ15 1 (Int32.toNatClampNeg ((94 : Int32) + x1))), σ15)))))))))))
def fX7_reading (σ : Sg) (x1 : Int32) : Option (Int32 × Sg) := (s_bi (fX7_isThere σ x1) (fun r3 σ1 => (if r3 = 0 then (some ((100000000 : Int32), σ1)) else (s_gd (s_in x1 515) (some ((σ1 1 (Int32.toNatClampNeg x1)), σ1))))))
def fX7_row_b20 (σ : Sg) : Option (Int32 × Sg) := (some ((-1 : Int32), σ))
def fX7_row (σ : Sg) (x1 : Int32) (x2 : Int32) : Option (Int32 × Sg) := (s_bi (fX7_isThere σ x1) (fun r3 σ1 => (if r3 = 0 then (fX7_row_b20 σ1) else (s_bi (fX7_in σ1 (Int32.toInt64 x2) (0 : Int64) (2 : Int64)) (fun r7 σ5 => (if r7 = 0 then (fX7_row_b20 σ5) else (s_bi (fX7_isResult σ5 x1) (fun r11 σ9 => (if x2 = 0 then (some ((σ9 0 15), σ9)) else (if r11 = 0 then (some ((-4 : Int32), σ9)) else (if x2 = (1 : Int32) then (some ((σ9 0 17), σ9)) else (some ((σ9 0 18), σ9)))))))))))))
def fX7_item (σ : Sg) (x1 : Int32) (x2 : Int32) : Option (Int32 × Sg) := (s_bi (fX7_isThere σ x1) (fun r3 σ1 => (if r3 = 0 then (some ((100000000 : Int32), σ1)) else (s_bv (fX7_rowOf σ1 x1) (fun σ5 => (s_bi (fX7_in σ5 (Int32.toInt64 x2) (0 : Int64) (Int32.toInt64 ((σ5 0 15) - (1 : Int32)))) (fun r9 σ7 => (if r9 = 0 then (some ((100000000 : Int32), σ7)) else (s_gd (s_in x2 24) (some ((σ7 5 (Int32.toNatClampNeg x2)), σ7)))))))))))
def fX7_result_b28 (σ : Sg) : Option (Int32 × Sg) := (some ((100000000 : Int32), σ))
def fX7_result (σ : Sg) (x1 : Int32) (x2 : Int32) : Option (Int32 × Sg) := (s_bi (fX7_isThere σ x1) (fun r3 σ1 => (if r3 = 0 then (fX7_result_b28 σ1) else (s_bi (fX7_in σ1 (Int32.toInt64 x2) (0 : Int64) (2 : Int64)) (fun r7 σ5 => (if r7 = 0 then (fX7_result_b28 σ5) else (s_bi (fX7_isResult σ5 x1) (fun r11 σ9 => (if r11 = 0 then (fX7_result_b28 σ9) else (if x2 = 0 then (some ((σ9 0 19), σ9)) else (if x2 = (1 : Int32) then (some ((σ9 0 20), σ9)) else (s_bi (fX7_rounded σ9) (fun r17 σ15 => (some (r17, σ15)))))))))))))))
def fX7_rank_b18 (σ : Sg) : Option (Int32 × Sg) := (some ((-1 : Int32), σ))
def fX7_rank_b76 (k31 : Sg → Int32 → Int32 → Int32 → Int32 → Option (Int32 × Sg)) (σ : Sg) (x2 : Int32) (x3 : Int32) (x5 : Int32) (y0 : Int32) (y1 : Int32) : Option (Int32 × Sg) := (s_lt (y0 + y1) (fun t1 => (s_lt (x5 + 1) (fun t2 => (k31 σ x2 x3 t1 t2)))))
def fX7_rank_b75 (k31 : Sg → Int32 → Int32 → Int32 → Int32 → Option (Int32 × Sg)) (σ : Sg) (x2 : Int32) (x3 : Int32) (x5 : Int32) (y0 : Int32) : Option (Int32 × Sg) := (fX7_rank_b76 k31 σ x2 x3 x5 y0 (0 : Int32))
def fX7_rank_b71 (k31 : Sg → Int32 → Int32 → Int32 → Int32 → Option (Int32 × Sg)) (σ : Sg) (x2 : Int32) (x3 : Int32) (x5 : Int32) (y0 : Int32) : Option (Int32 × Sg) := (fX7_rank_b76 k31 σ x2 x3 x5 y0 (1 : Int32))
def fX7_rank_b31 (k31 : Sg → Int32 → Int32 → Int32 → Int32 → Option (Int32 × Sg)) (σ : Sg) (x2 : Int32) (x3 : Int32) (x4 : Int32) (x5 : Int32) : Option (Int32 × Sg) := (if (σ 0 15) ≤ x5 then (some (x4, σ)) else (if x3 = 0 then (s_gd (s_in x5 24) (if x2 ≤ (σ 5 (Int32.toNatClampNeg x5)) then (fX7_rank_b75 k31 σ x2 x3 x5 x4) else (fX7_rank_b71 k31 σ x2 x3 x5 x4))) else (s_gd (s_in x5 24) (if (σ 5 (Int32.toNatClampNeg x5)) = x2 then (fX7_rank_b71 k31 σ x2 x3 x5 x4) else (fX7_rank_b75 k31 σ x2 x3 x5 x4)))))
def fX7_rank_b31_L : Nat → Sg → Int32 → Int32 → Int32 → Int32 → Option (Int32 × Sg)
  | 0 => fun _ _ _ _ _ => none
  | n + 1 => fun σ x2 x3 x4 x5 => fX7_rank_b31 (fX7_rank_b31_L n) σ x2 x3 x4 x5
def fX7_rank (σ : Sg) (x1 : Int32) (x2 : Int32) (x3 : Int32) : Option (Int32 × Sg) := (s_bi (fX7_isThere σ x1) (fun r3 σ1 => (if r3 = 0 then (fX7_rank_b18 σ1) else (s_bi (fX7_in σ1 (Int32.toInt64 x3) (0 : Int64) (1 : Int64)) (fun r7 σ5 => (if r7 = 0 then (fX7_rank_b18 σ5) else (s_bv (fX7_rowOf σ5 x1) (fun σ9 => (fX7_rank_b31_L s_fu σ9 x2 x3 (0 : Int32) (0 : Int32))))))))))
def fX7_shows (σ : Sg) (x1 : Int32) : Option Sg := (s_gd (s_in (σ 0 22) 16) (s_lt (s_up σ 7 (Int32.toNatClampNeg (σ 0 22)) x1) (fun σ2 => (s_lt (s_up σ2 0 22 ((σ2 0 22) + (1 : Int32))) (fun σ3 => (some σ3))))))
def fX7_showsNumber_b18 (k18 : Sg → Int32 → Int32 → Option Sg) (σ : Sg) (x1 : Int32) (x2 : Int32) : Option Sg := (if x2 ≤ 0 then (some σ) else (s_gd (s_nz x2) (s_lt (s_rem (x1 / x2) (10 : Int32)) (fun t3 => (s_bv (fX7_shows σ ((48 : Int32) + t3)) (fun σ4 => (s_lt (x2 / (10 : Int32)) (fun t6 => (k18 σ4 x1 t6)))))))))
def fX7_showsNumber_b18_L : Nat → Sg → Int32 → Int32 → Option Sg
  | 0 => fun _ _ _ => none
  | n + 1 => fun σ x1 x2 => fX7_showsNumber_b18 (fX7_showsNumber_b18_L n) σ x1 x2
def fX7_showsNumber_b2 (k2 : Sg → Int32 → Int32 → Option Sg) (σ : Sg) (x1 : Int32) (x2 : Int32) : Option Sg := (s_gd (s_nz x2) (if (x1 / x2) ≤ (9 : Int32) then (fX7_showsNumber_b18_L s_fu σ x1 x2) else (s_lt (x2 * (10 : Int32)) (fun t3 => (k2 σ x1 t3)))))
def fX7_showsNumber_b2_L : Nat → Sg → Int32 → Int32 → Option Sg
  | 0 => fun _ _ _ => none
  | n + 1 => fun σ x1 x2 => fX7_showsNumber_b2 (fX7_showsNumber_b2_L n) σ x1 x2
def fX7_showsNumber (σ : Sg) (x1 : Int32) : Option Sg := (fX7_showsNumber_b2_L s_fu σ x1 (1 : Int32))
def fX7_shownOf_b164 (σ : Sg) : Option (Int32 × Sg) := (some ((σ 0 22), σ))
def fX7_shownOf_b152 (σ : Sg) (x5 : Int32) : Option (Int32 × Sg) := (s_lt (s_rem x5 (10 : Int32)) (fun t1 => (s_bv (fX7_shows σ ((48 : Int32) + t1)) (fun σ2 => (fX7_shownOf_b164 σ2)))))
def fX7_shownOf_b139 (σ : Sg) (x3 : Int32) (x5 : Int32) : Option (Int32 × Sg) := (if x3 = (1 : Int32) then (fX7_shownOf_b152 σ x5) else (s_lt (s_rem x5 (10 : Int32)) (fun t2 => (if t2 ≤ 0 then (fX7_shownOf_b164 σ) else (fX7_shownOf_b152 σ x5)))))
def fX7_shownOf_b121 (σ : Sg) (x3 : Int32) (x5 : Int32) : Option (Int32 × Sg) := (s_bv (fX7_shows σ (46 : Int32)) (fun σ1 => (s_bv (fX7_shows σ1 ((48 : Int32) + (x5 / (10 : Int32)))) (fun σ3 => (fX7_shownOf_b139 σ3 x3 x5)))))
def fX7_shownOf_b93 (σ : Sg) (x3 : Int32) (y0 : Int32) : Option (Int32 × Sg) := (s_bv (fX7_showsNumber σ (y0 / (100 : Int32))) (fun σ1 => (s_lt (s_rem y0 (100 : Int32)) (fun t3 => (if x3 = (1 : Int32) then (fX7_shownOf_b121 σ1 x3 t3) else (if t3 ≤ 0 then (fX7_shownOf_b139 σ1 x3 t3) else (fX7_shownOf_b121 σ1 x3 t3)))))))
def fX7_shownOf_b83 (σ : Sg) (x2 : Int32) (x3 : Int32) : Option (Int32 × Sg) := (if 0 ≤ x2 then (fX7_shownOf_b93 σ x3 x2) else (fX7_shownOf_b93 σ x3 (-x2)))
def fX7_shownOf (σ : Sg) (x1 : Int32) : Option (Int32 × Sg) := (s_lt (s_up σ 0 22 (0 : Int32)) (fun σ1 => (s_bi (fX7_isResult σ1 x1) (fun r4 σ2 => (if r4 = 0 then (s_bv (fX7_shows σ2 (110 : Int32)) (fun σ17 => (s_bv (fX7_shows σ17 (111 : Int32)) (fun σ19 => (s_bv (fX7_shows σ19 (110 : Int32)) (fun σ21 => (s_bv (fX7_shows σ21 (101 : Int32)) (fun σ23 => (some ((σ23 0 22), σ23)))))))))) else (s_bi (fX7_rounded σ2) (fun r8 σ6 => (s_lt (σ6 1 101) (fun t9 => (if 0 ≤ r8 then (if r8 ≤ 0 then (fX7_shownOf_b83 σ6 r8 t9) else (if t9 = (2 : Int32) then (s_bv (fX7_shows σ6 (43 : Int32)) (fun σ13 => (fX7_shownOf_b83 σ13 r8 t9))) else (fX7_shownOf_b83 σ6 r8 t9))) else (s_bv (fX7_shows σ6 (45 : Int32)) (fun σ15 => (fX7_shownOf_b83 σ15 r8 t9)))))))))))))
def fX7_shown_b12 (σ : Sg) : Option (Int32 × Sg) := (some ((-1 : Int32), σ))
def fX7_shown (σ : Sg) (x1 : Int32) (x2 : Int32) : Option (Int32 × Sg) := (s_bi (fX7_isThere σ x1) (fun r3 σ1 => (if r3 = 0 then (fX7_shown_b12 σ1) else (if 0 ≤ x2 then (s_bi (fX7_shownOf σ1 x1) (fun r8 σ6 => (if r8 ≤ x2 then (some ((-4 : Int32), σ6)) else (s_gd (s_in x2 16) (some ((σ6 7 (Int32.toNatClampNeg x2)), σ6)))))) else (fX7_shown_b12 σ1)))))
def fX7_off (σ : Sg) (x0 : Int32) (x1 : Int32) : Option (Int32 × Sg) := (if x1 ≤ x0 then (some ((x0 - x1), σ)) else (some ((x1 - x0), σ)))
def fX7_puts_6_b29 (σ : Sg) (x2 : Int32) (x3 : Int32) : Option Sg := (s_gd (s_in x3 24) (s_lt (s_up σ 6 (Int32.toNatClampNeg x3) x2) (fun σ2 => (some σ2))))
def fX7_puts_6_b2 (k2 : Sg → Int32 → Int32 → Option Sg) (σ : Sg) (x2 : Int32) (x3 : Int32) : Option Sg := (if x3 ≤ 0 then (fX7_puts_6_b29 σ x2 x3) else (s_gd (s_in (x3 - (1 : Int32)) 24) (if (σ 6 (Int32.toNatClampNeg (x3 - (1 : Int32)))) ≤ x2 then (fX7_puts_6_b29 σ x2 x3) else (s_gd (s_in (x3 - (1 : Int32)) 24) (s_gd (s_in x3 24) (s_lt (s_up σ 6 (Int32.toNatClampNeg x3) (σ 6 (Int32.toNatClampNeg (x3 - (1 : Int32))))) (fun σ6 => (s_lt (x3 + (-1)) (fun t7 => (k2 σ6 x2 t7))))))))))
def fX7_puts_6_b2_L : Nat → Sg → Int32 → Int32 → Option Sg
  | 0 => fun _ _ _ => none
  | n + 1 => fun σ x2 x3 => fX7_puts_6_b2 (fX7_puts_6_b2_L n) σ x2 x3
def fX7_puts_6 (σ : Sg) (x1 : Int32) (x2 : Int32) : Option Sg := (fX7_puts_6_b2_L s_fu σ x2 x1)
def fX7_spreadOf_b16 (k16 : Sg → Int32 → Int32 → Option (Int32 × Sg)) (σ : Sg) (x1 : Int32) (x2 : Int32) : Option (Int32 × Sg) := (if (σ 0 15) ≤ x2 then (s_gd (s_in (((σ 0 15) - (1 : Int32)) / (2 : Int32)) 24) (some ((σ 6 (Int32.toNatClampNeg (((σ 0 15) - (1 : Int32)) / (2 : Int32)))), σ))) else (s_gd (s_in x2 24) (s_bi (fX7_off σ (σ 5 (Int32.toNatClampNeg x2)) x1) (fun r6 σ4 => (s_bv (fX7_puts_6 σ4 x2 r6) (fun σ7 => (s_lt (x2 + 1) (fun t9 => (k16 σ7 x1 t9)))))))))
def fX7_spreadOf_b16_L : Nat → Sg → Int32 → Int32 → Option (Int32 × Sg)
  | 0 => fun _ _ _ => none
  | n + 1 => fun σ x1 x2 => fX7_spreadOf_b16 (fX7_spreadOf_b16_L n) σ x1 x2
def fX7_spreadOf (σ : Sg) : Option (Int32 × Sg) := (s_gd (s_in (((σ 0 15) - (1 : Int32)) / (2 : Int32)) 24) (s_lt (σ 5 (Int32.toNatClampNeg (((σ 0 15) - (1 : Int32)) / (2 : Int32)))) (fun t2 => (fX7_spreadOf_b16_L s_fu σ t2 (0 : Int32)))))
def fX7_middle_b18 (σ : Sg) : Option (Int32 × Sg) := (some ((100000000 : Int32), σ))
def fX7_middle (σ : Sg) (x1 : Int32) (x2 : Int32) : Option (Int32 × Sg) := (s_bi (fX7_isThere σ x1) (fun r3 σ1 => (if r3 = 0 then (fX7_middle_b18 σ1) else (s_bi (fX7_in σ1 (Int32.toInt64 x2) (0 : Int64) (1 : Int64)) (fun r7 σ5 => (if r7 = 0 then (fX7_middle_b18 σ5) else (s_bv (fX7_rowOf σ5 x1) (fun σ9 => (if (σ9 0 15) = 0 then (some ((100000000 : Int32), σ9)) else (if x2 = 0 then (s_gd (s_in (((σ9 0 15) - (1 : Int32)) / (2 : Int32)) 24) (some ((σ9 5 (Int32.toNatClampNeg (((σ9 0 15) - (1 : Int32)) / (2 : Int32)))), σ9))) else (s_bi (fX7_spreadOf σ9) (fun r15 σ13 => (some (r15, σ13))))))))))))))
def fX7_isFar (σ : Sg) (x1 : Int32) (x2 : Int32) : Option (Int32 × Sg) := (s_gd (s_in x1 515) (if (σ 1 (Int32.toNatClampNeg x1)) = (100000000 : Int32) then (some ((0 : Int32), σ)) else (s_bv (fX7_rowOf σ x1) (fun σ3 => (s_gd (s_in (((σ3 0 15) - (1 : Int32)) / (2 : Int32)) 24) (s_lt (σ3 5 (Int32.toNatClampNeg (((σ3 0 15) - (1 : Int32)) / (2 : Int32)))) (fun t6 => (s_gd (s_in x1 515) (s_bi (fX7_off σ3 (σ3 1 (Int32.toNatClampNeg x1)) t6) (fun r10 σ8 => (s_bi (fX7_spreadOf σ8) (fun r13 σ11 => (if (lg_cmp (Int32.toInt64 r10) ((Int32.toInt64 x2) * (Int32.toInt64 r13))) ≤ 0 then (some ((0 : Int32), σ11)) else (some ((1 : Int32), σ11)))))))))))))))
def fX7_far_b20 (σ : Sg) : Option (Int32 × Sg) := (some ((-1 : Int32), σ))
def fX7_far (σ : Sg) (x1 : Int32) (x2 : Int32) : Option (Int32 × Sg) := (s_bi (fX7_isThere σ x1) (fun r3 σ1 => (if r3 = 0 then (fX7_far_b20 σ1) else (s_bi (fX7_in σ1 (Int32.toInt64 x2) (1 : Int64) (20 : Int64)) (fun r7 σ5 => (if r7 = 0 then (fX7_far_b20 σ5) else (s_bi (fX7_isFar σ5 x1 x2) (fun r11 σ9 => (if r11 = 0 then (some ((0 : Int32), σ9)) else (some ((1 : Int32), σ9)))))))))))
def fX7_fars_b45 (k22 : Sg → Int32 → Int32 → Int32 → Option (Int32 × Sg)) (σ : Sg) (x1 : Int32) (x3 : Int32) (y0 : Int32) (y1 : Int32) : Option (Int32 × Sg) := (s_lt (y0 + y1) (fun t1 => (s_lt (x3 + 1) (fun t2 => (k22 σ x1 t1 t2)))))
def fX7_fars_b22 (k22 : Sg → Int32 → Int32 → Int32 → Option (Int32 × Sg)) (σ : Sg) (x1 : Int32) (x2 : Int32) (x3 : Int32) : Option (Int32 × Sg) := (s_bi (fX7_many σ) (fun r3 σ1 => (if r3 ≤ x3 then (some (x2, σ1)) else (s_bi (fX7_isFar σ1 x3 x1) (fun r7 σ5 => (if r7 = 0 then (fX7_fars_b45 k22 σ5 x1 x3 x2 (0 : Int32)) else (fX7_fars_b45 k22 σ5 x1 x3 x2 (1 : Int32))))))))
def fX7_fars_b22_L : Nat → Sg → Int32 → Int32 → Int32 → Option (Int32 × Sg)
  | 0 => fun _ _ _ _ => none
  | n + 1 => fun σ x1 x2 x3 => fX7_fars_b22 (fX7_fars_b22_L n) σ x1 x2 x3
def fX7_fars (σ : Sg) (x1 : Int32) : Option (Int32 × Sg) := (s_bv (fX7_starts σ) (fun σ1 => (s_bi (fX7_in σ1 (Int32.toInt64 x1) (1 : Int64) (20 : Int64)) (fun r5 σ3 => (if r5 = 0 then (some ((-1 : Int32), σ3)) else (fX7_fars_b22_L s_fu σ3 x1 (0 : Int32) (0 : Int32)))))))
def fX7_above_b156 (k37 : Sg → Int32 → Int32 → Int32 → Int32 → Int32 → Int32 → Int32 → Int32 → Option (Int32 × Sg)) (σ : Sg) (x1 : Int32) (x2 : Int32) (x3 : Int32) (x4 : Int32) (x6 : Int32) (x7 : Int32) (x8 : Int32) (y0 : Int32) : Option (Int32 × Sg) := (s_lt (x8 + 1) (fun t1 => (k37 σ x1 x2 x3 x4 y0 x6 x7 t1)))
def fX7_above_b142 (k37 : Sg → Int32 → Int32 → Int32 → Int32 → Int32 → Int32 → Int32 → Int32 → Option (Int32 × Sg)) (σ : Sg) (x1 : Int32) (x2 : Int32) (x3 : Int32) (x5 : Int32) (x6 : Int32) (x7 : Int32) (x8 : Int32) (x9 : Int32) (y0 : Int32) : Option (Int32 × Sg) := (if x9 = 0 then (fX7_above_b156 k37 σ x1 x2 x3 y0 x6 x7 x8 x5) else (fX7_above_b156 k37 σ x1 x2 x3 y0 x6 x7 x8 x8))
def fX7_above_b140 (k37 : Sg → Int32 → Int32 → Int32 → Int32 → Int32 → Int32 → Int32 → Int32 → Option (Int32 × Sg)) (σ : Sg) (x1 : Int32) (x2 : Int32) (x3 : Int32) (x4 : Int32) (x5 : Int32) (x6 : Int32) (x7 : Int32) (x8 : Int32) (x9 : Int32) : Option (Int32 × Sg) := (fX7_above_b142 k37 σ x1 x2 x3 x5 x6 x7 x8 x9 x4)
def fX7_above_b121 (k37 : Sg → Int32 → Int32 → Int32 → Int32 → Int32 → Int32 → Int32 → Int32 → Option (Int32 × Sg)) (σ : Sg) (x1 : Int32) (x2 : Int32) (x4 : Int32) (x5 : Int32) (x6 : Int32) (x7 : Int32) (x8 : Int32) (x9 : Int32) (y0 : Int32) (y1 : Int32) : Option (Int32 × Sg) := (s_lt (y0 + y1) (fun t1 => (if x9 = 0 then (fX7_above_b140 k37 σ x1 x2 t1 x4 x5 x6 x7 x8 x9) else (if x4 = (-4 : Int32) then (fX7_above_b142 k37 σ x1 x2 t1 x5 x6 x7 x8 x9 x8) else (fX7_above_b140 k37 σ x1 x2 t1 x4 x5 x6 x7 x8 x9)))))
def fX7_above_b108 (k37 : Sg → Int32 → Int32 → Int32 → Int32 → Int32 → Int32 → Int32 → Int32 → Option (Int32 × Sg)) (σ : Sg) (x1 : Int32) (x2 : Int32) (x3 : Int32) (x4 : Int32) (x5 : Int32) (x6 : Int32) (x8 : Int32) (x9 : Int32) (y0 : Int32) : Option (Int32 × Sg) := (if x9 = 0 then (fX7_above_b121 k37 σ x1 x2 x4 x5 x6 y0 x8 x9 x3 (0 : Int32)) else (fX7_above_b121 k37 σ x1 x2 x4 x5 x6 y0 x8 x9 x3 (1 : Int32)))
def fX7_above_b92 (k37 : Sg → Int32 → Int32 → Int32 → Int32 → Int32 → Int32 → Int32 → Int32 → Option (Int32 × Sg)) (σ : Sg) (x1 : Int32) (x2 : Int32) (x3 : Int32) (x4 : Int32) (x5 : Int32) (x7 : Int32) (x8 : Int32) (x9 : Int32) (y0 : Int32) : Option (Int32 × Sg) := (if y0 ≤ x7 then (fX7_above_b108 k37 σ x1 x2 x3 x4 x5 y0 x8 x9 x7) else (fX7_above_b108 k37 σ x1 x2 x3 x4 x5 y0 x8 x9 y0))
def fX7_above_b77 (k37 : Sg → Int32 → Int32 → Int32 → Int32 → Int32 → Int32 → Int32 → Int32 → Option (Int32 × Sg)) (σ : Sg) (x1 : Int32) (x2 : Int32) (x3 : Int32) (x4 : Int32) (x5 : Int32) (x6 : Int32) (x7 : Int32) (x8 : Int32) (y0 : Int32) : Option (Int32 × Sg) := (if y0 = 0 then (fX7_above_b92 k37 σ x1 x2 x3 x4 x5 x7 x8 y0 (0 : Int32)) else (fX7_above_b92 k37 σ x1 x2 x3 x4 x5 x7 x8 y0 (x6 + (1 : Int32))))
def fX7_above_b76 (k37 : Sg → Int32 → Int32 → Int32 → Int32 → Int32 → Int32 → Int32 → Int32 → Option (Int32 × Sg)) (σ : Sg) (x1 : Int32) (x2 : Int32) (x3 : Int32) (x4 : Int32) (x5 : Int32) (x6 : Int32) (x7 : Int32) (x8 : Int32) : Option (Int32 × Sg) := (fX7_above_b77 k37 σ x1 x2 x3 x4 x5 x6 x7 x8 (0 : Int32))
def fX7_above_b37 (k37 : Sg → Int32 → Int32 → Int32 → Int32 → Int32 → Int32 → Int32 → Int32 → Option (Int32 × Sg)) (σ : Sg) (x1 : Int32) (x2 : Int32) (x3 : Int32) (x4 : Int32) (x5 : Int32) (x6 : Int32) (x7 : Int32) (x8 : Int32) : Option (Int32 × Sg) := (s_bi (fX7_many σ) (fun r3 σ1 => (if r3 ≤ x8 then (if x2 = 0 then (some (x3, σ1)) else (if x2 = (1 : Int32) then (some (x4, σ1)) else (if x2 = (2 : Int32) then (some (x5, σ1)) else (some (x7, σ1))))) else (s_bi (fX7_isResult σ1 x8) (fun r10 σ8 => (if r10 = 0 then (fX7_above_b76 k37 σ8 x1 x2 x3 x4 x5 x6 x7 x8) else (if (lg_cmp (Int32.toInt64 (σ8 0 19)) ((Int32.toInt64 x1) * (Int32.toInt64 (σ8 0 20)))) ≤ 0 then (fX7_above_b76 k37 σ8 x1 x2 x3 x4 x5 x6 x7 x8) else (fX7_above_b77 k37 σ8 x1 x2 x3 x4 x5 x6 x7 x8 (1 : Int32)))))))))
def fX7_above_b37_L : Nat → Sg → Int32 → Int32 → Int32 → Int32 → Int32 → Int32 → Int32 → Int32 → Option (Int32 × Sg)
  | 0 => fun _ _ _ _ _ _ _ _ _ => none
  | n + 1 => fun σ x1 x2 x3 x4 x5 x6 x7 x8 => fX7_above_b37 (fX7_above_b37_L n) σ x1 x2 x3 x4 x5 x6 x7 x8
def fX7_above (σ : Sg) (x1 : Int32) (x2 : Int32) : Option (Int32 × Sg) := (s_bv (fX7_starts σ) (fun σ1 => (s_bi (fX7_in σ1 (Int32.toInt64 x2) (0 : Int64) (3 : Int64)) (fun r5 σ3 => (if r5 = 0 then (some ((-1 : Int32), σ3)) else (fX7_above_b37_L s_fu σ3 x1 x2 (0 : Int32) (-4 : Int32) (-4 : Int32) (0 : Int32) (0 : Int32) (0 : Int32)))))))
def fX7_most_b104 (k24 : Sg → Int32 → Int32 → Int32 → Int32 → Option (Int32 × Sg)) (σ : Sg) (x1 : Int32) (x2 : Int32) (x3 : Int32) (x4 : Int32) : Option (Int32 × Sg) := (s_lt (x4 + 1) (fun t1 => (k24 σ x1 x2 x3 t1)))
def fX7_most_b103 (k24 : Sg → Int32 → Int32 → Int32 → Int32 → Option (Int32 × Sg)) (σ : Sg) (x1 : Int32) (x2 : Int32) (x4 : Int32) (y0 : Int32) : Option (Int32 × Sg) := (fX7_most_b104 k24 σ x1 x2 y0 x4)
def fX7_most_b89 (k24 : Sg → Int32 → Int32 → Int32 → Int32 → Option (Int32 × Sg)) (σ : Sg) (x1 : Int32) (x3 : Int32) (x4 : Int32) (x5 : Int32) (y0 : Int32) : Option (Int32 × Sg) := (if x5 = 0 then (fX7_most_b103 k24 σ x1 y0 x4 x3) else (fX7_most_b103 k24 σ x1 y0 x4 (σ 0 19)))
def fX7_most_b76 (k24 : Sg → Int32 → Int32 → Int32 → Int32 → Option (Int32 × Sg)) (σ : Sg) (x1 : Int32) (x2 : Int32) (x3 : Int32) (x4 : Int32) (y0 : Int32) : Option (Int32 × Sg) := (if y0 = 0 then (fX7_most_b89 k24 σ x1 x3 x4 y0 x2) else (fX7_most_b89 k24 σ x1 x3 x4 y0 x4))
def fX7_most_b71 (k24 : Sg → Int32 → Int32 → Int32 → Int32 → Option (Int32 × Sg)) (σ : Sg) (x1 : Int32) (x2 : Int32) (x3 : Int32) (x4 : Int32) : Option (Int32 × Sg) := (fX7_most_b76 k24 σ x1 x2 x3 x4 (1 : Int32))
def fX7_most_b75 (k24 : Sg → Int32 → Int32 → Int32 → Int32 → Option (Int32 × Sg)) (σ : Sg) (x1 : Int32) (x2 : Int32) (x3 : Int32) (x4 : Int32) : Option (Int32 × Sg) := (fX7_most_b76 k24 σ x1 x2 x3 x4 (0 : Int32))
def fX7_most_b24 (k24 : Sg → Int32 → Int32 → Int32 → Int32 → Option (Int32 × Sg)) (σ : Sg) (x1 : Int32) (x2 : Int32) (x3 : Int32) (x4 : Int32) : Option (Int32 × Sg) := (s_bi (fX7_many σ) (fun r3 σ1 => (if r3 ≤ x4 then (some (x2, σ1)) else (s_bi (fX7_isResult σ1 x4) (fun r7 σ5 => (if r7 = 0 then (fX7_most_b104 k24 σ5 x1 x2 x3 x4) else (if x2 = (-4 : Int32) then (fX7_most_b71 k24 σ5 x1 x2 x3 x4) else (if x1 = 0 then (if x3 ≤ (σ5 0 19) then (fX7_most_b75 k24 σ5 x1 x2 x3 x4) else (fX7_most_b71 k24 σ5 x1 x2 x3 x4)) else (if (σ5 0 19) ≤ x3 then (fX7_most_b75 k24 σ5 x1 x2 x3 x4) else (fX7_most_b71 k24 σ5 x1 x2 x3 x4))))))))))
def fX7_most_b24_L : Nat → Sg → Int32 → Int32 → Int32 → Int32 → Option (Int32 × Sg)
  | 0 => fun _ _ _ _ _ => none
  | n + 1 => fun σ x1 x2 x3 x4 => fX7_most_b24 (fX7_most_b24_L n) σ x1 x2 x3 x4
def fX7_most (σ : Sg) (x1 : Int32) : Option (Int32 × Sg) := (s_bv (fX7_starts σ) (fun σ1 => (s_bi (fX7_in σ1 (Int32.toInt64 x1) (0 : Int64) (1 : Int64)) (fun r5 σ3 => (if r5 = 0 then (some ((-1 : Int32), σ3)) else (fX7_most_b24_L s_fu σ3 x1 (-4 : Int32) (0 : Int32) (0 : Int32)))))))
def fX7_comes (σ : Sg) (x1 : Int32) : Option (Int32 × Sg) := (s_bi (fX7_many σ) (fun r3 σ1 => (if r3 = (96 : Int32) then (some ((-3 : Int32), σ1)) else (s_bi (fX7_many σ1) (fun r7 σ5 => (s_gd (s_in r7 515) (s_lt (s_up σ5 1 (Int32.toNatClampNeg r7) x1) (fun σ9 => (s_lt (s_up σ9 1 102 ((σ9 1 102) + (1 : Int32))) (fun σ10 => (s_bi (fX7_many σ10) (fun r13 σ11 => (some (r13, σ11))))))))))))))
def fX7_isReading (σ : Sg) (x0 : Int32) : Option (Int32 × Sg) := (s_bi (fX7_in σ (Int32.toInt64 x0) (-999999 : Int64) (999999 : Int64)) (fun r3 σ1 => (s_gd (s_z r3) (some (r3, σ1)))))
def fX7_add (σ : Sg) (x1 : Int32) : Option (Int32 × Sg) := (s_bv (fX7_starts σ) (fun σ1 => (s_bi (fX7_isReading σ1 x1) (fun r5 σ3 => (if r5 = 0 then (some ((-1 : Int32), σ3)) else (s_bi (fX7_comes σ3 x1) (fun r9 σ7 => (some (r9, σ7)))))))))
def fX7_miss (σ : Sg) : Option (Int32 × Sg) := (s_bv (fX7_starts σ) (fun σ1 => (s_bi (fX7_comes σ1 (100000000 : Int32)) (fun r5 σ3 => (some (r5, σ3))))))
def fX7_set_b15 (σ : Sg) : Option (Int32 × Sg) := (some ((-1 : Int32), σ))
def fX7_set_b33 (σ : Sg) (x1 : Int32) (x2 : Int32) (y0 : Int32) : Option (Int32 × Sg) := (s_gd (s_in x1 515) (s_lt (s_up σ 1 (Int32.toNatClampNeg x1) x2) (fun σ2 => (some (y0, σ2)))))
def fX7_set (σ : Sg) (x1 : Int32) (x2 : Int32) : Option (Int32 × Sg) := (s_bi (fX7_isThere σ x1) (fun r3 σ1 => (if r3 = 0 then (fX7_set_b15 σ1) else (s_bi (fX7_isReading σ1 x2) (fun r7 σ5 => (if r7 = 0 then (fX7_set_b15 σ5) else (s_gd (s_in x1 515) (if (σ5 1 (Int32.toNatClampNeg x1)) = (100000000 : Int32) then (fX7_set_b33 σ5 x1 x2 (1 : Int32)) else (fX7_set_b33 σ5 x1 x2 (0 : Int32))))))))))
def fX7_lose_b26 (σ : Sg) (x1 : Int32) (y0 : Int32) : Option (Int32 × Sg) := (s_gd (s_in x1 515) (s_lt (s_up σ 1 (Int32.toNatClampNeg x1) (100000000 : Int32)) (fun σ2 => (some (y0, σ2)))))
def fX7_lose (σ : Sg) (x1 : Int32) : Option (Int32 × Sg) := (s_bi (fX7_isThere σ x1) (fun r3 σ1 => (if r3 = 0 then (some ((-1 : Int32), σ1)) else (s_gd (s_in x1 515) (if (σ1 1 (Int32.toNatClampNeg x1)) = (100000000 : Int32) then (fX7_lose_b26 σ1 x1 (1 : Int32)) else (fX7_lose_b26 σ1 x1 (0 : Int32)))))))
def fX7_drop_b33 (k33 : Sg → Int32 → Int32 → Option (Int32 × Sg)) (σ : Sg) (x1 : Int32) (x2 : Int32) : Option (Int32 × Sg) := (s_bi (fX7_many σ) (fun r3 σ1 => (if r3 ≤ x2 then (s_bi (fX7_many σ1) (fun r7 σ5 => (some (r7, σ5)))) else (s_gd (s_in (x2 + x1) 515) (s_gd (s_in x2 515) (s_lt (s_up σ1 1 (Int32.toNatClampNeg x2) (σ1 1 (Int32.toNatClampNeg (x2 + x1)))) (fun σ10 => (s_lt (x2 + 1) (fun t11 => (k33 σ10 x1 t11))))))))))
def fX7_drop_b33_L : Nat → Sg → Int32 → Int32 → Option (Int32 × Sg)
  | 0 => fun _ _ _ => none
  | n + 1 => fun σ x1 x2 => fX7_drop_b33 (fX7_drop_b33_L n) σ x1 x2
def fX7_drop (σ : Sg) (x1 : Int32) : Option (Int32 × Sg) := (s_bv (fX7_starts σ) (fun σ1 => (s_bi (fX7_many σ1) (fun r5 σ3 => (s_bi (fX7_in σ3 (Int32.toInt64 x1) (0 : Int64) (Int32.toInt64 r5)) (fun r8 σ6 => (if r8 = 0 then (some ((-1 : Int32), σ6)) else (s_lt (s_up σ6 1 102 ((σ6 1 102) - x1)) (fun σ10 => (fX7_drop_b33_L s_fu σ10 x1 (0 : Int32)))))))))))
def fX7_becomes (σ : Sg) (x1 : Int32) (x2 : Int32) (x3 : Int32) : Option (Int32 × Sg) := (s_bv (fX7_starts σ) (fun σ1 => (if x1 = 0 then (some ((-1 : Int32), σ1)) else (s_gd (s_in x2 515) (s_lt (σ1 1 (Int32.toNatClampNeg x2)) (fun t5 => (s_gd (s_in x2 515) (s_lt (s_up σ1 1 (Int32.toNatClampNeg x2) x3) (fun σ7 => (some (t5, σ7)))))))))))
def fX7_width (σ : Sg) (x1 : Int32) : Option (Int32 × Sg) := (s_bi (fX7_in σ (Int32.toInt64 x1) (1 : Int64) (24 : Int64)) (fun r3 σ1 => (s_bi (fX7_becomes σ1 r3 (96 : Int32) x1) (fun r6 σ4 => (some (r6, σ4))))))
def fX7_need (σ : Sg) (x1 : Int32) : Option (Int32 × Sg) := (s_bi (fX7_in σ (Int32.toInt64 x1) (1 : Int64) (24 : Int64)) (fun r3 σ1 => (s_bi (fX7_becomes σ1 r3 (97 : Int32) x1) (fun r6 σ4 => (some (r6, σ4))))))
def fX7_part_b23 (σ : Sg) : Option (Int32 × Sg) := (some ((-1 : Int32), σ))
def fX7_part (σ : Sg) (x1 : Int32) (x2 : Int32) : Option (Int32 × Sg) := (s_bi (fX7_in σ (Int32.toInt64 x2) (1 : Int64) (100 : Int64)) (fun r3 σ1 => (if r3 = 0 then (fX7_part_b23 σ1) else (s_bi (fX7_in σ1 (Int32.toInt64 x1) (0 : Int64) (Int32.toInt64 x2)) (fun r7 σ5 => (if r7 = 0 then (fX7_part_b23 σ5) else (s_bi (fX7_becomes σ5 (1 : Int32) (98 : Int32) x1) (fun r11 σ9 => (s_bi (fX7_becomes σ9 (1 : Int32) (99 : Int32) x2) (fun r14 σ12 => (some ((((1000 : Int32) * r11) + r14), σ12))))))))))))
def fX7_choose (σ : Sg) (x1 : Int32) : Option (Int32 × Sg) := (s_bi (fX7_in σ (Int32.toInt64 x1) (0 : Int64) (4 : Int64)) (fun r3 σ1 => (s_bi (fX7_becomes σ1 r3 (100 : Int32) x1) (fun r6 σ4 => (some (r6, σ4))))))
def fX7_form (σ : Sg) (x1 : Int32) : Option (Int32 × Sg) := (s_bi (fX7_in σ (Int32.toInt64 x1) (0 : Int64) (2 : Int64)) (fun r3 σ1 => (s_bi (fX7_becomes σ1 r3 (101 : Int32) x1) (fun r6 σ4 => (some (r6, σ4))))))
def fX7_latest_b7 (k7 : Sg → Int32 → Option (Int32 × Sg)) (σ : Sg) (x1 : Int32) : Option (Int32 × Sg) := (if x1 < 0 then (some ((0 : Int32), σ)) else (s_gd (s_in x1 515) (if (σ 1 (Int32.toNatClampNeg x1)) = (100000000 : Int32) then (s_lt (x1 + (-1)) (fun t4 => (k7 σ t4))) else (s_gd (s_in x1 515) (some ((σ 1 (Int32.toNatClampNeg x1)), σ))))))
def fX7_latest_b7_L : Nat → Sg → Int32 → Option (Int32 × Sg)
  | 0 => fun _ _ => none
  | n + 1 => fun σ x1 => fX7_latest_b7 (fX7_latest_b7_L n) σ x1
def fX7_latest (σ : Sg) : Option (Int32 × Sg) := (s_bi (fX7_many σ) (fun r3 σ1 => (s_lt (r3 - (1 : Int32)) (fun t4 => (fX7_latest_b7_L s_fu σ1 t4)))))
def fX7_drift_b131 (σ : Sg) (x4 : Int32) : Option (Int32 × Sg) := (some (x4, σ))
def fX7_drift_b121 (k23 : Sg → Int32 → Int32 → Int32 → Option (Int32 × Sg)) (σ : Sg) (x2 : Int32) (x3 : Int32) (x4 : Int32) (y1 : Int32) : Option (Int32 × Sg) := (s_bi (fX7_comes σ y1) (fun r3 σ1 => (s_lt (x4 + 1) (fun t4 => (k23 σ1 x2 x3 t4)))))
def fX7_drift_b103 (k23 : Sg → Int32 → Int32 → Int32 → Option (Int32 × Sg)) (σ : Sg) (x2 : Int32) (x3 : Int32) (x4 : Int32) (x5 : Int32) (y0 : Int32) : Option (Int32 × Sg) := (s_lt (s_rem x5 (9 : Int32)) (fun t1 => (if t1 = 0 then (fX7_drift_b121 k23 σ x2 x3 x4 (100000000 : Int32)) else (fX7_drift_b121 k23 σ x2 x3 x4 y0))))
def fX7_drift_b23 (k23 : Sg → Int32 → Int32 → Int32 → Option (Int32 × Sg)) (σ : Sg) (x2 : Int32) (x3 : Int32) (x4 : Int32) : Option (Int32 × Sg) := (if x2 ≤ x4 then (fX7_drift_b131 σ x4) else (s_bi (fX7_many σ) (fun r4 σ2 => (if (96 : Int32) ≤ r4 then (fX7_drift_b131 σ2 x4) else (s_lt ((x3 * (1103515245 : Int32)) + (12345 : Int32)) (fun t6 => (s_lt ((t6 >>> ((16 : Int32) &&& 31)) &&& (32767 : Int32)) (fun t7 => (s_bi (fX7_latest σ2) (fun r10 σ8 => (s_lt (s_rem (t7 / (16 : Int32)) (401 : Int32)) (fun t11 => (s_lt ((r10 + t11) - (200 : Int32)) (fun t12 => (if (-999999 : Int32) ≤ t12 then (if t12 ≤ (999999 : Int32) then (fX7_drift_b103 k23 σ8 x2 t6 x4 t7 t12) else (fX7_drift_b103 k23 σ8 x2 t6 x4 t7 (999999 : Int32))) else (fX7_drift_b103 k23 σ8 x2 t6 x4 t7 (-999999 : Int32)))))))))))))))))
def fX7_drift_b23_L : Nat → Sg → Int32 → Int32 → Int32 → Option (Int32 × Sg)
  | 0 => fun _ _ _ _ => none
  | n + 1 => fun σ x2 x3 x4 => fX7_drift_b23 (fX7_drift_b23_L n) σ x2 x3 x4
def fX7_drift (σ : Sg) (x1 : Int32) (x2 : Int32) : Option (Int32 × Sg) := (s_bv (fX7_starts σ) (fun σ1 => (s_bi (fX7_in σ1 (Int32.toInt64 x2) (1 : Int64) (48 : Int64)) (fun r5 σ3 => (if r5 = 0 then (some ((-1 : Int32), σ3)) else (fX7_drift_b23_L s_fu σ3 x2 x1 (0 : Int32)))))))
def fX7_keep_b30 (σ : Sg) (x1 : Int32) (y0 : Int32) : Option (Int32 × Sg) := (s_bv (fX7_copies σ (0 : Int32) (((103 : Int32) * x1) + (103 : Int32))) (fun σ1 => (s_gd (s_in x1 2) (s_lt (s_up σ1 8 (Int32.toNatClampNeg x1) (vp_nar .boolean (1 : Int32))) (fun σ4 => (some (y0, σ4)))))))
def fX7_keep (σ : Sg) (x1 : Int32) : Option (Int32 × Sg) := (s_bi (fX7_in σ (Int32.toInt64 x1) (0 : Int64) (1 : Int64)) (fun r3 σ1 => (if r3 = 0 then (some ((-1 : Int32), σ1)) else (s_bv (fX7_starts σ1) (fun σ5 => (s_gd (s_in x1 2) (if (σ5 8 (Int32.toNatClampNeg x1)) = 0 then (fX7_keep_b30 σ5 x1 (0 : Int32)) else (fX7_keep_b30 σ5 x1 (1 : Int32)))))))))
def fX7_back (σ : Sg) (x1 : Int32) : Option (Int32 × Sg) := (s_bi (fX7_in σ (Int32.toInt64 x1) (0 : Int64) (1 : Int64)) (fun r3 σ1 => (if r3 = 0 then (some ((-1 : Int32), σ1)) else (s_gd (s_in x1 2) (if (σ1 8 (Int32.toNatClampNeg x1)) = 0 then (some ((-2 : Int32), σ1)) else (s_bv (fX7_copies σ1 (((103 : Int32) * x1) + (103 : Int32)) (0 : Int32)) (fun σ7 => (s_bi (fX7_many σ7) (fun r11 σ9 => (some (r11, σ9)))))))))))
def fX7_sheet_b30 (σ : Sg) : Option (Int32 × Sg) := (some ((-1 : Int32), σ))
def fX7_sheet_b56 (k56 : Sg → Int32 → Int32 → Option (Int32 × Sg)) (σ : Sg) (x1 : Int32) (x4 : Int32) : Option (Int32 × Sg) := (if (40 : Int32) ≤ x4 then (some ((1 : Int32), σ)) else (s_gd (s_in (((40 : Int32) * x1) + x4) 160) (s_lt (s_up σ 11 (Int32.toNatClampNeg (((40 : Int32) * x1) + x4)) (0 : Int32)) (fun σ3 => (s_lt (x4 + 1) (fun t4 => (k56 σ3 x1 t4)))))))
def fX7_sheet_b56_L : Nat → Sg → Int32 → Int32 → Option (Int32 × Sg)
  | 0 => fun _ _ _ => none
  | n + 1 => fun σ x1 x4 => fX7_sheet_b56 (fX7_sheet_b56_L n) σ x1 x4
def fX7_sheet (σ : Sg) (x1 : Int32) (x2 : Int32) (x3 : Int32) : Option (Int32 × Sg) := (s_bi (fX7_in σ (Int32.toInt64 x1) (0 : Int64) (3 : Int64)) (fun r3 σ1 => (if r3 = 0 then (fX7_sheet_b30 σ1) else (s_bi (fX7_in σ1 (Int32.toInt64 x2) (0 : Int64) (2 : Int64)) (fun r7 σ5 => (if r7 = 0 then (fX7_sheet_b30 σ5) else (if x3 ≤ (40 : Int32) then (if 0 ≤ x3 then (s_gd (s_in x1 4) (s_lt (s_up σ5 9 (Int32.toNatClampNeg x1) x2) (fun σ12 => (s_gd (s_in x1 4) (s_lt (s_up σ12 10 (Int32.toNatClampNeg x1) x3) (fun σ14 => (fX7_sheet_b56_L s_fu σ14 x1 (0 : Int32)))))))) else (some ((-14 : Int32), σ5))) else (fX7_sheet_b30 σ5))))))))
def fX7_lay_b99 (σ : Sg) (y1 : Int32) (y2 : Int32) : Option (Int32 × Sg) := (s_gd (s_in y1 160) (s_lt (s_up σ 11 (Int32.toNatClampNeg y1) y2) (fun σ2 => (some ((1 : Int32), σ2)))))
def fX7_lay (σ : Sg) (x1 : Int32) (x2 : Int32) (x3 : Int32) : Option (Int32 × Sg) := (s_bi (fX7_in σ (Int32.toInt64 x1) (0 : Int64) (3 : Int64)) (fun r3 σ1 => (if r3 = 0 then (some ((-1 : Int32), σ1)) else (s_gd (s_in x1 4) (if (σ1 9 (Int32.toNatClampNeg x1)) = (-4 : Int32) then (some ((-11 : Int32), σ1)) else (s_gd (s_in x1 4) (s_bi (fX7_in σ1 (Int32.toInt64 x2) (0 : Int64) (Int32.toInt64 ((σ1 10 (Int32.toNatClampNeg x1)) - (1 : Int32)))) (fun r10 σ8 => (if r10 = 0 then (some ((-12 : Int32), σ8)) else (s_gd (s_in x1 4) (if (σ8 9 (Int32.toNatClampNeg x1)) = 0 then (fX7_lay_b99 σ8 (((40 : Int32) * x1) + x2) ((x3 <<< ((24 : Int32) &&& 31)) >>> ((24 : Int32) &&& 31))) else (s_gd (s_in x1 4) (if (σ8 9 (Int32.toNatClampNeg x1)) = (1 : Int32) then (fX7_lay_b99 σ8 (((40 : Int32) * x1) + x2) ((x3 <<< ((16 : Int32) &&& 31)) >>> ((16 : Int32) &&& 31))) else (fX7_lay_b99 σ8 (((40 : Int32) * x1) + x2) x3))))))))))))))
def fX7_read_b37 (σ : Sg) : Option (Int32 × Sg) := (some ((-1 : Int32), σ))
def fX7_read_b188 (σ : Sg) (x5 : Int32) (x6 : Int32) : Option (Int32 × Sg) := (s_lt (s_up σ 0 27 x5) (fun σ1 => (some (x6, σ1))))
def fX7_read_b185 (k57 : Sg → Int32 → Int32 → Int32 → Int32 → Int32 → Int32 → Option (Int32 × Sg)) (σ : Sg) (x1 : Int32) (x2 : Int32) (x3 : Int32) (x4 : Int32) (x5 : Int32) (x6 : Int32) : Option (Int32 × Sg) := (k57 σ x1 x2 x3 x4 x5 x6)
def fX7_read_b168 (σ : Sg) (x6 : Int32) : Option (Int32 × Sg) := (s_bv (fX7_copies σ (412 : Int32) (0 : Int32)) (fun σ1 => (some (((-20 : Int32) - x6), σ1))))
def fX7_read_b129 (k57 : Sg → Int32 → Int32 → Int32 → Int32 → Int32 → Int32 → Option (Int32 × Sg)) (σ : Sg) (x1 : Int32) (x2 : Int32) (x3 : Int32) (x4 : Int32) (x6 : Int32) (x7 : Int64) (y0 : Int32) : Option (Int32 × Sg) := (if y0 = 0 then (s_gd (s_in (((40 : Int32) * x1) + (Int64.toInt32 x7)) 160) (s_lt (σ 11 (Int32.toNatClampNeg (((40 : Int32) * x1) + (Int64.toInt32 x7)))) (fun t3 => (s_bi (fX7_isReading σ t3) (fun r6 σ4 => (if r6 = 0 then (fX7_read_b168 σ4 x6) else (s_bi (fX7_comes σ4 t3) (fun r10 σ8 => (if 0 ≤ r10 then (s_lt (x6 + 1) (fun t12 => (fX7_read_b185 k57 σ8 x1 x2 x3 x4 y0 t12))) else (fX7_read_b168 σ8 x6)))))))))) else (fX7_read_b185 k57 σ x1 x2 x3 x4 y0 x6))
def fX7_read_b57 (k57 : Sg → Int32 → Int32 → Int32 → Int32 → Int32 → Int32 → Option (Int32 × Sg)) (σ : Sg) (x1 : Int32) (x2 : Int32) (x3 : Int32) (x4 : Int32) (x5 : Int32) (x6 : Int32) : Option (Int32 × Sg) := (if x4 ≤ x6 then (fX7_read_b188 σ x5 x6) else (if x5 = 0 then (s_lt ((Int32.toInt64 x3) + (Int32.toInt64 x6)) (fun t3 => (s_gd (s_in x1 4) (if (σ 9 (Int32.toNatClampNeg x1)) = (-4 : Int32) then (fX7_read_b129 k57 σ x1 x2 x3 x4 x6 t3 (1 : Int32)) else (s_gd (s_in x1 4) (if (σ 9 (Int32.toNatClampNeg x1)) = x2 then (s_gd (s_in x1 4) (s_bi (fX7_in σ t3 (0 : Int64) (Int32.toInt64 ((σ 10 (Int32.toNatClampNeg x1)) - (1 : Int32)))) (fun r11 σ9 => (if r11 = 0 then (fX7_read_b129 k57 σ9 x1 x2 x3 x4 x6 t3 (2 : Int32)) else (fX7_read_b129 k57 σ9 x1 x2 x3 x4 x6 t3 (0 : Int32)))))) else (fX7_read_b129 k57 σ x1 x2 x3 x4 x6 t3 (3 : Int32)))))))) else (fX7_read_b188 σ x5 x6)))
def fX7_read_b57_L : Nat → Sg → Int32 → Int32 → Int32 → Int32 → Int32 → Int32 → Option (Int32 × Sg)
  | 0 => fun _ _ _ _ _ _ _ => none
  | n + 1 => fun σ x1 x2 x3 x4 x5 x6 => fX7_read_b57 (fX7_read_b57_L n) σ x1 x2 x3 x4 x5 x6
def fX7_read (σ : Sg) (x1 : Int32) (x2 : Int32) (x3 : Int32) (x4 : Int32) : Option (Int32 × Sg) := (s_bi (fX7_in σ (Int32.toInt64 x1) (0 : Int64) (3 : Int64)) (fun r3 σ1 => (if r3 = 0 then (fX7_read_b37 σ1) else (s_bi (fX7_in σ1 (Int32.toInt64 x2) (0 : Int64) (2 : Int64)) (fun r7 σ5 => (if r7 = 0 then (fX7_read_b37 σ5) else (s_bi (fX7_in σ5 (Int32.toInt64 x4) (0 : Int64) (40 : Int64)) (fun r11 σ9 => (if r11 = 0 then (fX7_read_b37 σ9) else (s_bv (fX7_starts σ9) (fun σ13 => (s_bv (fX7_copies σ13 (0 : Int32) (412 : Int32)) (fun σ15 => (fX7_read_b57_L s_fu σ15 x1 x2 x3 x4 (0 : Int32) (0 : Int32)))))))))))))))
def fX7_torn (σ : Sg) : Option (Int32 × Sg) := (some ((σ 0 27), σ))
def fX7_shownAll_b4 (k4 : Sg → Int32 → Int32 → Option (Int32 × Sg)) (σ : Sg) (x1 : Int32) (x2 : Int32) : Option (Int32 × Sg) := (s_bi (fX7_many σ) (fun r3 σ1 => (if r3 ≤ x2 then (some (x1, σ1)) else (s_bi (fX7_shownOf σ1 x2) (fun r7 σ5 => (s_lt (x1 + r7) (fun t8 => (s_lt (x2 + 1) (fun t9 => (k4 σ5 t8 t9))))))))))
def fX7_shownAll_b4_L : Nat → Sg → Int32 → Int32 → Option (Int32 × Sg)
  | 0 => fun _ _ _ => none
  | n + 1 => fun σ x1 x2 => fX7_shownAll_b4 (fX7_shownAll_b4_L n) σ x1 x2
def fX7_shownAll (σ : Sg) : Option (Int32 × Sg) := (fX7_shownAll_b4_L s_fu σ (0 : Int32) (0 : Int32))
def fX7_count_b64 (σ : Sg) (y0 : Int32) (y1 : Int32) : Option (Int32 × Sg) := (some ((y0 + y1), σ))
def fX7_count_b50 (σ : Sg) (y0 : Int32) : Option (Int32 × Sg) := (if (σ 8 1) = 0 then (fX7_count_b64 σ y0 (0 : Int32)) else (fX7_count_b64 σ y0 (1 : Int32)))
def fX7_count (σ : Sg) (x1 : Int32) : Option (Int32 × Sg) := (s_bv (fX7_starts σ) (fun σ1 => (if x1 = 0 then (if (σ1 8 0) = 0 then (fX7_count_b50 σ1 (0 : Int32)) else (fX7_count_b50 σ1 (1 : Int32))) else (if x1 = 1 then (some ((σ1 0 3), σ1)) else (if x1 = 2 then (if (σ1 9 0) = (-4 : Int32) then (some ((-4 : Int32), σ1)) else (some ((σ1 10 0), σ1))) else (if x1 = 3 then (s_bi (fX7_shownAll σ1) (fun r11 σ9 => (some (r11, σ9)))) else (some ((-1 : Int32), σ1))))))))
end
