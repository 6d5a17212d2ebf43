/-! words by their places, links, good lists: laid by gen.py -/
set_option maxRecDepth 100000 in
theorem kw_0 : (Jvm.Cond.selects "SlidingRanks$Teller" ({ cls := "SlidingRanks$Teller", name := "scan", desc := "(LSlidingRanks$Tape;)V" } : Jvm.MethodName) ({ cls := "SlidingRanks$Teller", name := "scan", desc := "(LSlidingRanks$Tape;)V" } : Jvm.MethodName)) ∈ kwL := kw_at 0 rfl rfl
set_option maxRecDepth 100000 in
theorem kw_1 : (Jvm.Cond.selects "SlidingRanks$Teller" ({ cls := "SlidingRanks$Teller", name := "scanName", desc := "(LSlidingRanks$Tape;)V" } : Jvm.MethodName) ({ cls := "SlidingRanks$Teller", name := "scanName", desc := "(LSlidingRanks$Tape;)V" } : Jvm.MethodName)) ∈ kwL := kw_at 1 rfl rfl
set_option maxRecDepth 100000 in
theorem kw_2 : (Jvm.Cond.selects "SlidingRanks$Teller" ({ cls := "SlidingRanks$Teller", name := "numberOfName", desc := "(LSlidingRanks$Tape;)I" } : Jvm.MethodName) ({ cls := "SlidingRanks$Teller", name := "numberOfName", desc := "(LSlidingRanks$Tape;)I" } : Jvm.MethodName)) ∈ kwL := kw_at 2 rfl rfl
set_option maxRecDepth 100000 in
theorem kw_3 : (Jvm.Cond.selects "SlidingRanks$Teller" ({ cls := "SlidingRanks$Teller", name := "scanNumber", desc := "(LSlidingRanks$Tape;)V" } : Jvm.MethodName) ({ cls := "SlidingRanks$Teller", name := "scanNumber", desc := "(LSlidingRanks$Tape;)V" } : Jvm.MethodName)) ∈ kwL := kw_at 3 rfl rfl
set_option maxRecDepth 100000 in
theorem kw_4 : (Jvm.Cond.selects "SlidingRanks$Teller" ({ cls := "SlidingRanks$Teller", name := "refuse", desc := "(I)V" } : Jvm.MethodName) ({ cls := "SlidingRanks$Teller", name := "refuse", desc := "(I)V" } : Jvm.MethodName)) ∈ kwL := kw_at 4 rfl rfl
set_option maxRecDepth 100000 in
theorem kw_5 : (Jvm.Cond.selects "SlidingRanks$Teller" ({ cls := "SlidingRanks$Teller", name := "takeToken", desc := "(I)V" } : Jvm.MethodName) ({ cls := "SlidingRanks$Teller", name := "takeToken", desc := "(I)V" } : Jvm.MethodName)) ∈ kwL := kw_at 5 rfl rfl
set_option maxRecDepth 100000 in
theorem kw_6 : (Jvm.Cond.selects "SlidingRanks$Teller" ({ cls := "SlidingRanks$Teller", name := "takeLineName", desc := "()V" } : Jvm.MethodName) ({ cls := "SlidingRanks$Teller", name := "takeLineName", desc := "()V" } : Jvm.MethodName)) ∈ kwL := kw_at 6 rfl rfl
set_option maxRecDepth 100000 in
theorem kw_7 : (Jvm.Cond.selects "SlidingRanks$Teller" ({ cls := "SlidingRanks$Teller", name := "takeNumber", desc := "(III)I" } : Jvm.MethodName) ({ cls := "SlidingRanks$Teller", name := "takeNumber", desc := "(III)I" } : Jvm.MethodName)) ∈ kwL := kw_at 7 rfl rfl
set_option maxRecDepth 100000 in
theorem kw_8 : (Jvm.Cond.selects "SlidingRanks$Teller" ({ cls := "SlidingRanks$Teller", name := "takeChoice", desc := "(II)I" } : Jvm.MethodName) ({ cls := "SlidingRanks$Teller", name := "takeChoice", desc := "(II)I" } : Jvm.MethodName)) ∈ kwL := kw_at 8 rfl rfl
set_option maxRecDepth 100000 in
theorem kw_9 : (Jvm.Cond.selects "SlidingRanks$Teller" ({ cls := "SlidingRanks$Teller", name := "takeLineEnd", desc := "(I)V" } : Jvm.MethodName) ({ cls := "SlidingRanks$Teller", name := "takeLineEnd", desc := "(I)V" } : Jvm.MethodName)) ∈ kwL := kw_at 9 rfl rfl
set_option maxRecDepth 100000 in
theorem kw_10 : (Jvm.Cond.selects "SlidingRanks$Teller" ({ cls := "SlidingRanks$Teller", name := "takeWhole", desc := "()V" } : Jvm.MethodName) ({ cls := "SlidingRanks$Teller", name := "takeWhole", desc := "()V" } : Jvm.MethodName)) ∈ kwL := kw_at 10 rfl rfl
set_option maxRecDepth 100000 in
theorem kw_11 : (Jvm.Cond.selects "SlidingRanks$Teller" ({ cls := "SlidingRanks$Teller", name := "takeFraction", desc := "()V" } : Jvm.MethodName) ({ cls := "SlidingRanks$Teller", name := "takeFraction", desc := "()V" } : Jvm.MethodName)) ∈ kwL := kw_at 11 rfl rfl
set_option maxRecDepth 100000 in
theorem kw_12 : (Jvm.Cond.selects "SlidingRanks$Teller" ({ cls := "SlidingRanks$Teller", name := "takeReadingOrMore", desc := "(I)V" } : Jvm.MethodName) ({ cls := "SlidingRanks$Teller", name := "takeReadingOrMore", desc := "(I)V" } : Jvm.MethodName)) ∈ kwL := kw_at 12 rfl rfl
set_option maxRecDepth 100000 in
theorem kw_13 : (Jvm.Cond.selects "SlidingRanks" ({ cls := "SlidingRanks", name := "countResults", desc := "()I" } : Jvm.MethodName) ({ cls := "SlidingRanks", name := "countResults", desc := "()I" } : Jvm.MethodName)) ∈ kwL := kw_at 13 rfl rfl
set_option maxRecDepth 100000 in
theorem kw_14 : (Jvm.Cond.selects "SlidingRanks$Row" ({ cls := "SlidingRanks$Row", name := "takeOut", desc := "(I)V" } : Jvm.MethodName) ({ cls := "SlidingRanks$Row", name := "takeOut", desc := "(I)V" } : Jvm.MethodName)) ∈ kwL := kw_at 14 rfl rfl
set_option maxRecDepth 100000 in
theorem kw_15 : (Jvm.Cond.selects "SlidingRanks$Row" ({ cls := "SlidingRanks$Row", name := "putIn", desc := "(I)V" } : Jvm.MethodName) ({ cls := "SlidingRanks$Row", name := "putIn", desc := "(I)V" } : Jvm.MethodName)) ∈ kwL := kw_at 15 rfl rfl
set_option maxRecDepth 100000 in
theorem kw_16 : (Jvm.Cond.selects "SlidingRanks$Row" ({ cls := "SlidingRanks$Row", name := "isNearLower", desc := "(II)Z" } : Jvm.MethodName) ({ cls := "SlidingRanks$Row", name := "isNearLower", desc := "(II)Z" } : Jvm.MethodName)) ∈ kwL := kw_at 16 rfl rfl
set_option maxRecDepth 100000 in
theorem kw_17 : (Jvm.Cond.selects "SlidingRanks" ({ cls := "SlidingRanks", name := "writeWords", desc := "()V" } : Jvm.MethodName) ({ cls := "SlidingRanks", name := "writeWords", desc := "()V" } : Jvm.MethodName)) ∈ kwL := kw_at 17 rfl rfl
set_option maxRecDepth 100000 in
theorem kw_18 : (Jvm.Cond.selects "SlidingRanks$Words" ({ cls := "SlidingRanks$Words", name := "push", desc := "(I)V" } : Jvm.MethodName) ({ cls := "SlidingRanks$Words", name := "push", desc := "(I)V" } : Jvm.MethodName)) ∈ kwL := kw_at 18 rfl rfl
set_option maxRecDepth 100000 in
theorem kw_19 : (Jvm.Cond.selects "SlidingRanks$Words" ({ cls := "SlidingRanks$Words", name := "writeWhole", desc := "(I)V" } : Jvm.MethodName) ({ cls := "SlidingRanks$Words", name := "writeWhole", desc := "(I)V" } : Jvm.MethodName)) ∈ kwL := kw_at 19 rfl rfl
set_option maxRecDepth 100000 in
theorem kw_20 : (Jvm.Cond.selects "SlidingRanks" ({ cls := "SlidingRanks", name := "putBehind", desc := "(I)I" } : Jvm.MethodName) ({ cls := "SlidingRanks", name := "putBehind", desc := "(I)I" } : Jvm.MethodName)) ∈ kwL := kw_at 20 rfl rfl
set_option maxRecDepth 100000 in
theorem kw_21 : (Jvm.Cond.selects "SlidingRanks" ({ cls := "SlidingRanks", name := "replace", desc := "(II)I" } : Jvm.MethodName) ({ cls := "SlidingRanks", name := "replace", desc := "(II)I" } : Jvm.MethodName)) ∈ kwL := kw_at 21 rfl rfl
set_option maxRecDepth 100000 in
theorem kw_22 : (Jvm.Cond.selects "SlidingRanks" ({ cls := "SlidingRanks", name := "isImage", desc := "(I)Z" } : Jvm.MethodName) ({ cls := "SlidingRanks", name := "isImage", desc := "(I)Z" } : Jvm.MethodName)) ∈ kwL := kw_at 22 rfl rfl
set_option maxRecDepth 100000 in
theorem kw_23 : (Jvm.Cond.selects "SlidingRanks" ({ cls := "SlidingRanks", name := "isSheet", desc := "(I)Z" } : Jvm.MethodName) ({ cls := "SlidingRanks", name := "isSheet", desc := "(I)Z" } : Jvm.MethodName)) ∈ kwL := kw_at 23 rfl rfl
set_option maxRecDepth 100000 in
theorem kw_24 : (Jvm.Cond.selects "SlidingRanks" ({ cls := "SlidingRanks", name := "countImages", desc := "()I" } : Jvm.MethodName) ({ cls := "SlidingRanks", name := "countImages", desc := "()I" } : Jvm.MethodName)) ∈ kwL := kw_at 24 rfl rfl
set_option maxRecDepth 100000 in
theorem kw_25 : (Jvm.Cond.selects "SlidingRanks" ({ cls := "SlidingRanks", name := "countShownBytes", desc := "()I" } : Jvm.MethodName) ({ cls := "SlidingRanks", name := "countShownBytes", desc := "()I" } : Jvm.MethodName)) ∈ kwL := kw_at 25 rfl rfl
set_option maxRecDepth 100000 in
theorem kw_26 : (Jvm.Cond.selects "SlidingRanksModel" ({ cls := "SlidingRanksModel", name := "starts", desc := "()V" } : Jvm.MethodName) ({ cls := "SlidingRanksModel", name := "starts", desc := "()V" } : Jvm.MethodName)) ∈ kwL := kw_at 26 rfl rfl
set_option maxRecDepth 100000 in
theorem kw_27 : (Jvm.Cond.selects "SlidingRanksModel" ({ cls := "SlidingRanksModel", name := "begins", desc := "(I)V" } : Jvm.MethodName) ({ cls := "SlidingRanksModel", name := "begins", desc := "(I)V" } : Jvm.MethodName)) ∈ kwL := kw_at 27 rfl rfl
set_option maxRecDepth 100000 in
theorem kw_28 : (Jvm.Cond.selects "SlidingRanksModel" ({ cls := "SlidingRanksModel", name := "readsOn", desc := "()V" } : Jvm.MethodName) ({ cls := "SlidingRanksModel", name := "readsOn", desc := "()V" } : Jvm.MethodName)) ∈ kwL := kw_at 28 rfl rfl
set_option maxRecDepth 100000 in
theorem kw_29 : (Jvm.Cond.selects "SlidingRanksModel" ({ cls := "SlidingRanksModel", name := "byteAt", desc := "(I)I" } : Jvm.MethodName) ({ cls := "SlidingRanksModel", name := "byteAt", desc := "(I)I" } : Jvm.MethodName)) ∈ kwL := kw_at 29 rfl rfl
set_option maxRecDepth 100000 in
theorem kw_30 : (Jvm.Cond.selects "SlidingRanksModel" ({ cls := "SlidingRanksModel", name := "fails", desc := "(I)V" } : Jvm.MethodName) ({ cls := "SlidingRanksModel", name := "fails", desc := "(I)V" } : Jvm.MethodName)) ∈ kwL := kw_at 30 rfl rfl
set_option maxRecDepth 100000 in
theorem kw_31 : (Jvm.Cond.selects "SlidingRanksModel" ({ cls := "SlidingRanksModel", name := "readLine", desc := "()V" } : Jvm.MethodName) ({ cls := "SlidingRanksModel", name := "readLine", desc := "()V" } : Jvm.MethodName)) ∈ kwL := kw_at 31 rfl rfl
set_option maxRecDepth 100000 in
theorem kw_32 : (Jvm.Cond.selects "SlidingRanksModel" ({ cls := "SlidingRanksModel", name := "nameHere", desc := "()I" } : Jvm.MethodName) ({ cls := "SlidingRanksModel", name := "nameHere", desc := "()I" } : Jvm.MethodName)) ∈ kwL := kw_at 32 rfl rfl
set_option maxRecDepth 100000 in
theorem kw_33 : (Jvm.Cond.selects "SlidingRanksModel" ({ cls := "SlidingRanksModel", name := "numberRead", desc := "(II)I" } : Jvm.MethodName) ({ cls := "SlidingRanksModel", name := "numberRead", desc := "(II)I" } : Jvm.MethodName)) ∈ kwL := kw_at 33 rfl rfl
set_option maxRecDepth 100000 in
theorem kw_34 : (Jvm.Cond.selects "SlidingRanksModel" ({ cls := "SlidingRanksModel", name := "wordRead", desc := "(II)I" } : Jvm.MethodName) ({ cls := "SlidingRanksModel", name := "wordRead", desc := "(II)I" } : Jvm.MethodName)) ∈ kwL := kw_at 34 rfl rfl
set_option maxRecDepth 100000 in
theorem kw_35 : (Jvm.Cond.selects "SlidingRanksModel" ({ cls := "SlidingRanksModel", name := "readPut", desc := "()V" } : Jvm.MethodName) ({ cls := "SlidingRanksModel", name := "readPut", desc := "()V" } : Jvm.MethodName)) ∈ kwL := kw_at 35 rfl rfl
set_option maxRecDepth 100000 in
theorem kw_36 : (Jvm.Cond.selects "SlidingRanksModel" ({ cls := "SlidingRanksModel", name := "readReading", desc := "()V" } : Jvm.MethodName) ({ cls := "SlidingRanksModel", name := "readReading", desc := "()V" } : Jvm.MethodName)) ∈ kwL := kw_at 36 rfl rfl
set_option maxRecDepth 100000 in
theorem kw_37 : (Jvm.Cond.selects "SlidingRanksModel" ({ cls := "SlidingRanksModel", name := "isReadingHere", desc := "()Z" } : Jvm.MethodName) ({ cls := "SlidingRanksModel", name := "isReadingHere", desc := "()Z" } : Jvm.MethodName)) ∈ kwL := kw_at 37 rfl rfl
set_option maxRecDepth 100000 in
theorem kw_38 : (Jvm.Cond.selects "SlidingRanksModel" ({ cls := "SlidingRanksModel", name := "hundredthsRead", desc := "()I" } : Jvm.MethodName) ({ cls := "SlidingRanksModel", name := "hundredthsRead", desc := "()I" } : Jvm.MethodName)) ∈ kwL := kw_at 38 rfl rfl
set_option maxRecDepth 100000 in
theorem kw_39 : (Jvm.Cond.selects "SlidingRanksModel" ({ cls := "SlidingRanksModel", name := "copies", desc := "(II)V" } : Jvm.MethodName) ({ cls := "SlidingRanksModel", name := "copies", desc := "(II)V" } : Jvm.MethodName)) ∈ kwL := kw_at 39 rfl rfl
set_option maxRecDepth 100000 in
theorem kw_40 : (Jvm.Cond.selects "SlidingRanksModel" ({ cls := "SlidingRanksModel", name := "many", desc := "()I" } : Jvm.MethodName) ({ cls := "SlidingRanksModel", name := "many", desc := "()I" } : Jvm.MethodName)) ∈ kwL := kw_at 40 rfl rfl
set_option maxRecDepth 100000 in
theorem kw_41 : (Jvm.Cond.selects "SlidingRanksModel" ({ cls := "SlidingRanksModel", name := "missing", desc := "()I" } : Jvm.MethodName) ({ cls := "SlidingRanksModel", name := "missing", desc := "()I" } : Jvm.MethodName)) ∈ kwL := kw_at 41 rfl rfl
set_option maxRecDepth 100000 in
theorem kw_42 : (Jvm.Cond.selects "SlidingRanksModel" ({ cls := "SlidingRanksModel", name := "results", desc := "()I" } : Jvm.MethodName) ({ cls := "SlidingRanksModel", name := "results", desc := "()I" } : Jvm.MethodName)) ∈ kwL := kw_at 42 rfl rfl
set_option maxRecDepth 100000 in
theorem kw_43 : (Jvm.Cond.selects "SlidingRanksModel" ({ cls := "SlidingRanksModel", name := "isResult", desc := "(I)Z" } : Jvm.MethodName) ({ cls := "SlidingRanksModel", name := "isResult", desc := "(I)Z" } : Jvm.MethodName)) ∈ kwL := kw_at 43 rfl rfl
set_option maxRecDepth 100000 in
theorem kw_44 : (Jvm.Cond.selects "SlidingRanksModel" ({ cls := "SlidingRanksModel", name := "rowOf", desc := "(I)V" } : Jvm.MethodName) ({ cls := "SlidingRanksModel", name := "rowOf", desc := "(I)V" } : Jvm.MethodName)) ∈ kwL := kw_at 44 rfl rfl
set_option maxRecDepth 100000 in
theorem kw_45 : (Jvm.Cond.selects "SlidingRanksModel" ({ cls := "SlidingRanksModel", name := "isThere", desc := "(I)Z" } : Jvm.MethodName) ({ cls := "SlidingRanksModel", name := "isThere", desc := "(I)Z" } : Jvm.MethodName)) ∈ kwL := kw_at 45 rfl rfl
set_option maxRecDepth 100000 in
theorem kw_46 : (Jvm.Cond.selects "SlidingRanksModel" ({ cls := "SlidingRanksModel", name := "rounded", desc := "()I" } : Jvm.MethodName) ({ cls := "SlidingRanksModel", name := "rounded", desc := "()I" } : Jvm.MethodName)) ∈ kwL := kw_at 46 rfl rfl
set_option maxRecDepth 100000 in
theorem kw_47 : (Jvm.Cond.selects "SlidingRanksModel" ({ cls := "SlidingRanksModel", name := "shownOf", desc := "(I)I" } : Jvm.MethodName) ({ cls := "SlidingRanksModel", name := "shownOf", desc := "(I)I" } : Jvm.MethodName)) ∈ kwL := kw_at 47 rfl rfl
set_option maxRecDepth 100000 in
theorem kw_48 : (Jvm.Cond.selects "SlidingRanksModel" ({ cls := "SlidingRanksModel", name := "shows", desc := "(I)V" } : Jvm.MethodName) ({ cls := "SlidingRanksModel", name := "shows", desc := "(I)V" } : Jvm.MethodName)) ∈ kwL := kw_at 48 rfl rfl
set_option maxRecDepth 100000 in
theorem kw_49 : (Jvm.Cond.selects "SlidingRanksModel" ({ cls := "SlidingRanksModel", name := "showsNumber", desc := "(I)V" } : Jvm.MethodName) ({ cls := "SlidingRanksModel", name := "showsNumber", desc := "(I)V" } : Jvm.MethodName)) ∈ kwL := kw_at 49 rfl rfl
set_option maxRecDepth 100000 in
theorem kw_50 : (Jvm.Cond.selects "SlidingRanksModel" ({ cls := "SlidingRanksModel", name := "spreadOf", desc := "()I" } : Jvm.MethodName) ({ cls := "SlidingRanksModel", name := "spreadOf", desc := "()I" } : Jvm.MethodName)) ∈ kwL := kw_at 50 rfl rfl
set_option maxRecDepth 100000 in
theorem kw_51 : (Jvm.Cond.selects "SlidingRanksModel" ({ cls := "SlidingRanksModel", name := "isFar", desc := "(II)Z" } : Jvm.MethodName) ({ cls := "SlidingRanksModel", name := "isFar", desc := "(II)Z" } : Jvm.MethodName)) ∈ kwL := kw_at 51 rfl rfl
set_option maxRecDepth 100000 in
theorem kw_52 : (Jvm.Cond.selects "SlidingRanksModel" ({ cls := "SlidingRanksModel", name := "comes", desc := "(I)I" } : Jvm.MethodName) ({ cls := "SlidingRanksModel", name := "comes", desc := "(I)I" } : Jvm.MethodName)) ∈ kwL := kw_at 52 rfl rfl
set_option maxRecDepth 100000 in
theorem kw_53 : (Jvm.Cond.selects "SlidingRanksModel" ({ cls := "SlidingRanksModel", name := "becomes", desc := "(ZII)I" } : Jvm.MethodName) ({ cls := "SlidingRanksModel", name := "becomes", desc := "(ZII)I" } : Jvm.MethodName)) ∈ kwL := kw_at 53 rfl rfl
set_option maxRecDepth 100000 in
theorem kw_54 : (Jvm.Cond.selects "SlidingRanksModel" ({ cls := "SlidingRanksModel", name := "latest", desc := "()I" } : Jvm.MethodName) ({ cls := "SlidingRanksModel", name := "latest", desc := "()I" } : Jvm.MethodName)) ∈ kwL := kw_at 54 rfl rfl
set_option maxRecDepth 100000 in
theorem kw_55 : (Jvm.Cond.selects "SlidingRanksModel" ({ cls := "SlidingRanksModel", name := "shownAll", desc := "()I" } : Jvm.MethodName) ({ cls := "SlidingRanksModel", name := "shownAll", desc := "()I" } : Jvm.MethodName)) ∈ kwL := kw_at 55 rfl rfl
set_option maxRecDepth 100000 in
theorem kw_57 : (Jvm.Cond.initialized "SlidingRanks") ∈ kwL := kw_at 57 rfl rfl
set_option maxRecDepth 100000 in
theorem kw_58 : (Jvm.Cond.initialized "SlidingRanks$Tape") ∈ kwL := kw_at 58 rfl rfl
set_option maxRecDepth 100000 in
theorem kw_59 : (Jvm.Cond.initialized "SlidingRanks$Teller") ∈ kwL := kw_at 59 rfl rfl
set_option maxRecDepth 100000 in
theorem kw_60 : (Jvm.Cond.initialized "SlidingRanks$Series") ∈ kwL := kw_at 60 rfl rfl
set_option maxRecDepth 100000 in
theorem kw_61 : (Jvm.Cond.initialized "SlidingRanks$Row") ∈ kwL := kw_at 61 rfl rfl
set_option maxRecDepth 100000 in
theorem kw_62 : (Jvm.Cond.initialized "SlidingRanks$Words") ∈ kwL := kw_at 62 rfl rfl
set_option maxRecDepth 100000 in
theorem kw_63 : (Jvm.Cond.initialized "SlidingRanks$Sheet") ∈ kwL := kw_at 63 rfl rfl
set_option maxRecDepth 100000 in
theorem kw_64 : (Jvm.Cond.initialized "SlidingRanksModel") ∈ kwL := kw_at 64 rfl rfl
set_option maxRecDepth 100000 in
theorem kw_65 : (Jvm.Cond.initialized "java/lang/String") ∈ kwL := kw_at 65 rfl rfl
set_option maxRecDepth 100000 in
theorem kw_66 : (Jvm.Cond.initialized "java/lang/StringLatin1") ∈ kwL := kw_at 66 rfl rfl
set_option maxRecDepth 100000 in
theorem kw_67 : (Jvm.Cond.initialized "jdk/internal/util/Preconditions") ∈ kwL := kw_at 67 rfl rfl
set_option maxRecDepth 100000 in
theorem kw_69 : (Jvm.Cond.initialized "java/lang/Math") ∈ kwL := kw_at 69 rfl rfl
set_option maxRecDepth 100000 in
theorem kw_70 : (Jvm.Cond.initialized "java/lang/System") ∈ kwL := kw_at 70 rfl rfl
set_option maxRecDepth 100000 in
theorem kw_71 : (Jvm.Cond.classLink "SlidingRanksLaw" (7 : Nat) "SlidingRanks") ∈ kwL := kw_at 71 rfl rfl
set_option maxRecDepth 100000 in
theorem kw_72 : (Jvm.Cond.instantiable "SlidingRanks" (9 : Nat)) ∈ kwL := kw_at 72 rfl rfl
set_option maxRecDepth 100000 in
theorem kw_73 : (Jvm.Cond.methodLink "SlidingRanksLaw" (9 : Nat) ({ cls := "SlidingRanks", name := "<init>", desc := "()V" } : Jvm.MethodName)) ∈ kwL := kw_at 73 rfl rfl
set_option maxRecDepth 100000 in
theorem kw_74 : (Jvm.Cond.instanceMethod ({ cls := "SlidingRanks", name := "<init>", desc := "()V" } : Jvm.MethodName)) ∈ kwL := kw_at 74 rfl rfl
set_option maxRecDepth 100000 in
theorem kw_75 : (Jvm.Cond.code ({ cls := "SlidingRanks", name := "<init>", desc := "()V" } : Jvm.MethodName) prog_1_method_1_code (1 : Nat) (Option.none : Option Jvm.ClassFile.FieldType)) ∈ kwL := kw_at 75 rfl rfl
set_option maxRecDepth 100000 in
theorem kw_76 : (Jvm.Cond.methodLink "SlidingRanks" (1 : Nat) ({ cls := "java/lang/Object", name := "<init>", desc := "()V" } : Jvm.MethodName)) ∈ kwL := kw_at 76 rfl rfl
set_option maxRecDepth 100000 in
theorem kw_77 : (Jvm.Cond.instanceMethod ({ cls := "java/lang/Object", name := "<init>", desc := "()V" } : Jvm.MethodName)) ∈ kwL := kw_at 77 rfl rfl
set_option maxRecDepth 100000 in
theorem kw_78 : (Jvm.Cond.code ({ cls := "java/lang/Object", name := "<init>", desc := "()V" } : Jvm.MethodName) object_method_1_code (1 : Nat) (Option.none : Option Jvm.ClassFile.FieldType)) ∈ kwL := kw_at 78 rfl rfl
set_option maxRecDepth 100000 in
theorem kw_79 : (Jvm.Cond.classLink "SlidingRanks" (7 : Nat) "SlidingRanks$Tape") ∈ kwL := kw_at 79 rfl rfl
set_option maxRecDepth 100000 in
theorem kw_80 : (Jvm.Cond.instantiable "SlidingRanks$Tape" (2 : Nat)) ∈ kwL := kw_at 80 rfl rfl
set_option maxRecDepth 100000 in
theorem kw_82 : (Jvm.Cond.instanceMethod ({ cls := "SlidingRanks$Tape", name := "<init>", desc := "()V" } : Jvm.MethodName)) ∈ kwL := kw_at 82 rfl rfl
set_option maxRecDepth 100000 in
theorem kw_83 : (Jvm.Cond.code ({ cls := "SlidingRanks$Tape", name := "<init>", desc := "()V" } : Jvm.MethodName) prog_5_method_1_code (1 : Nat) (Option.none : Option Jvm.ClassFile.FieldType)) ∈ kwL := kw_at 83 rfl rfl
set_option maxRecDepth 100000 in
theorem kw_84 : (Jvm.Cond.methodLink "SlidingRanks$Tape" (3 : Nat) ({ cls := "java/lang/Object", name := "<init>", desc := "()V" } : Jvm.MethodName)) ∈ kwL := kw_at 84 rfl rfl
set_option maxRecDepth 100000 in
theorem kw_85 : (Jvm.Cond.fieldLink "SlidingRanks$Tape" (9 : Nat) "SlidingRanks$Tape" "bytes" "[B") ∈ kwL := kw_at 85 rfl rfl
set_option maxRecDepth 100000 in
theorem kw_86 : (Jvm.Cond.fieldLink "SlidingRanks$Tape" (15 : Nat) "SlidingRanks$Tape" "length" "I") ∈ kwL := kw_at 86 rfl rfl
set_option maxRecDepth 100000 in
theorem kw_94 : (Jvm.Cond.arrayClass Jvm.ClassFile.FieldType.byte) ∈ kwL := kw_at 94 rfl rfl
set_option maxRecDepth 100000 in
theorem kw_95 : (Jvm.Cond.classLink "SlidingRanks" (16 : Nat) "SlidingRanks$Teller") ∈ kwL := kw_at 95 rfl rfl
set_option maxRecDepth 100000 in
theorem kw_96 : (Jvm.Cond.instantiable "SlidingRanks$Teller" (12 : Nat)) ∈ kwL := kw_at 96 rfl rfl
set_option maxRecDepth 100000 in
theorem kw_98 : (Jvm.Cond.instanceMethod ({ cls := "SlidingRanks$Teller", name := "<init>", desc := "()V" } : Jvm.MethodName)) ∈ kwL := kw_at 98 rfl rfl
set_option maxRecDepth 100000 in
theorem kw_99 : (Jvm.Cond.code ({ cls := "SlidingRanks$Teller", name := "<init>", desc := "()V" } : Jvm.MethodName) prog_6_method_1_code (1 : Nat) (Option.none : Option Jvm.ClassFile.FieldType)) ∈ kwL := kw_at 99 rfl rfl
set_option maxRecDepth 100000 in
theorem kw_100 : (Jvm.Cond.methodLink "SlidingRanks$Teller" (3 : Nat) ({ cls := "java/lang/Object", name := "<init>", desc := "()V" } : Jvm.MethodName)) ∈ kwL := kw_at 100 rfl rfl
set_option maxRecDepth 100000 in
theorem kw_101 : (Jvm.Cond.classLink "SlidingRanks$Teller" (9 : Nat) "SlidingRanks$Series") ∈ kwL := kw_at 101 rfl rfl
set_option maxRecDepth 100000 in
theorem kw_102 : (Jvm.Cond.instantiable "SlidingRanks$Series" (8 : Nat)) ∈ kwL := kw_at 102 rfl rfl
set_option maxRecDepth 100000 in
theorem kw_103 : (Jvm.Cond.methodLink "SlidingRanks$Teller" (11 : Nat) ({ cls := "SlidingRanks$Series", name := "<init>", desc := "()V" } : Jvm.MethodName)) ∈ kwL := kw_at 103 rfl rfl
set_option maxRecDepth 100000 in
theorem kw_104 : (Jvm.Cond.instanceMethod ({ cls := "SlidingRanks$Series", name := "<init>", desc := "()V" } : Jvm.MethodName)) ∈ kwL := kw_at 104 rfl rfl
set_option maxRecDepth 100000 in
theorem kw_105 : (Jvm.Cond.code ({ cls := "SlidingRanks$Series", name := "<init>", desc := "()V" } : Jvm.MethodName) prog_3_method_1_code (1 : Nat) (Option.none : Option Jvm.ClassFile.FieldType)) ∈ kwL := kw_at 105 rfl rfl
set_option maxRecDepth 100000 in
theorem kw_106 : (Jvm.Cond.methodLink "SlidingRanks$Series" (3 : Nat) ({ cls := "java/lang/Object", name := "<init>", desc := "()V" } : Jvm.MethodName)) ∈ kwL := kw_at 106 rfl rfl
set_option maxRecDepth 100000 in
theorem kw_107 : (Jvm.Cond.methodLink "SlidingRanks$Series" (15 : Nat) ({ cls := "SlidingRanks$Series", name := "reset", desc := "()V" } : Jvm.MethodName)) ∈ kwL := kw_at 107 rfl rfl
set_option maxRecDepth 100000 in
theorem kw_108 : (Jvm.Cond.instanceMethod ({ cls := "SlidingRanks$Series", name := "reset", desc := "()V" } : Jvm.MethodName)) ∈ kwL := kw_at 108 rfl rfl
set_option maxRecDepth 100000 in
theorem kw_109 : (Jvm.Cond.selects "SlidingRanks$Series" ({ cls := "SlidingRanks$Series", name := "reset", desc := "()V" } : Jvm.MethodName) ({ cls := "SlidingRanks$Series", name := "reset", desc := "()V" } : Jvm.MethodName)) ∈ kwL := kw_at 109 rfl rfl
set_option maxRecDepth 100000 in
theorem kw_110 : (Jvm.Cond.code ({ cls := "SlidingRanks$Series", name := "reset", desc := "()V" } : Jvm.MethodName) prog_3_method_2_code (1 : Nat) (Option.none : Option Jvm.ClassFile.FieldType)) ∈ kwL := kw_at 110 rfl rfl
set_option maxRecDepth 100000 in
theorem kw_111 : (Jvm.Cond.fieldLink "SlidingRanks$Series" (9 : Nat) "SlidingRanks$Series" "readings" "[I") ∈ kwL := kw_at 111 rfl rfl
set_option maxRecDepth 100000 in
theorem kw_112 : (Jvm.Cond.fieldLink "SlidingRanks$Series" (18 : Nat) "SlidingRanks$Series" "size" "I") ∈ kwL := kw_at 112 rfl rfl
set_option maxRecDepth 100000 in
theorem kw_115 : (Jvm.Cond.fieldLink "SlidingRanks$Series" (22 : Nat) "SlidingRanks$Series" "width" "I") ∈ kwL := kw_at 115 rfl rfl
set_option maxRecDepth 100000 in
theorem kw_119 : (Jvm.Cond.fieldLink "SlidingRanks$Series" (25 : Nat) "SlidingRanks$Series" "need" "I") ∈ kwL := kw_at 119 rfl rfl
set_option maxRecDepth 100000 in
theorem kw_123 : (Jvm.Cond.fieldLink "SlidingRanks$Series" (28 : Nat) "SlidingRanks$Series" "p" "I") ∈ kwL := kw_at 123 rfl rfl
set_option maxRecDepth 100000 in
theorem kw_127 : (Jvm.Cond.fieldLink "SlidingRanks$Series" (31 : Nat) "SlidingRanks$Series" "q" "I") ∈ kwL := kw_at 127 rfl rfl
set_option maxRecDepth 100000 in
theorem kw_131 : (Jvm.Cond.fieldLink "SlidingRanks$Series" (34 : Nat) "SlidingRanks$Series" "rule" "I") ∈ kwL := kw_at 131 rfl rfl
set_option maxRecDepth 100000 in
theorem kw_135 : (Jvm.Cond.fieldLink "SlidingRanks$Series" (37 : Nat) "SlidingRanks$Series" "form" "I") ∈ kwL := kw_at 135 rfl rfl
set_option maxRecDepth 100000 in
theorem kw_155 : (Jvm.Cond.arrayClass Jvm.ClassFile.FieldType.int) ∈ kwL := kw_at 155 rfl rfl
set_option maxRecDepth 100000 in
theorem kw_156 : (Jvm.Cond.fieldLink "SlidingRanks$Teller" (12 : Nat) "SlidingRanks$Teller" "draft" "LSlidingRanks$Series;") ∈ kwL := kw_at 156 rfl rfl
set_option maxRecDepth 100000 in
theorem kw_158 : (Jvm.Cond.fieldLink "SlidingRanks$Teller" (18 : Nat) "SlidingRanks$Teller" "wanted" "I") ∈ kwL := kw_at 158 rfl rfl
set_option maxRecDepth 100000 in
theorem kw_159 : (Jvm.Cond.fieldLink "SlidingRanks$Teller" (22 : Nat) "SlidingRanks$Teller" "told" "I") ∈ kwL := kw_at 159 rfl rfl
set_option maxRecDepth 100000 in
theorem kw_160 : (Jvm.Cond.fieldLink "SlidingRanks$Teller" (25 : Nat) "SlidingRanks$Teller" "negative" "Z") ∈ kwL := kw_at 160 rfl rfl
set_option maxRecDepth 100000 in
theorem kw_161 : (Jvm.Cond.fieldLink "SlidingRanks$Teller" (29 : Nat) "SlidingRanks$Teller" "hundredths" "I") ∈ kwL := kw_at 161 rfl rfl
set_option maxRecDepth 100000 in
theorem kw_162 : (Jvm.Cond.fieldLink "SlidingRanks$Teller" (32 : Nat) "SlidingRanks$Teller" "kind" "I") ∈ kwL := kw_at 162 rfl rfl
set_option maxRecDepth 100000 in
theorem kw_163 : (Jvm.Cond.fieldLink "SlidingRanks$Teller" (35 : Nat) "SlidingRanks$Teller" "start" "I") ∈ kwL := kw_at 163 rfl rfl
set_option maxRecDepth 100000 in
theorem kw_164 : (Jvm.Cond.fieldLink "SlidingRanks$Teller" (38 : Nat) "SlidingRanks$Teller" "next" "I") ∈ kwL := kw_at 164 rfl rfl
set_option maxRecDepth 100000 in
theorem kw_165 : (Jvm.Cond.fieldLink "SlidingRanks$Teller" (41 : Nat) "SlidingRanks$Teller" "name" "I") ∈ kwL := kw_at 165 rfl rfl
set_option maxRecDepth 100000 in
theorem kw_166 : (Jvm.Cond.fieldLink "SlidingRanks$Teller" (44 : Nat) "SlidingRanks$Teller" "value" "I") ∈ kwL := kw_at 166 rfl rfl
set_option maxRecDepth 100000 in
theorem kw_167 : (Jvm.Cond.fieldLink "SlidingRanks$Teller" (47 : Nat) "SlidingRanks$Teller" "fault" "I") ∈ kwL := kw_at 167 rfl rfl
set_option maxRecDepth 100000 in
theorem kw_169 : (Jvm.Cond.fieldLink "SlidingRanks$Teller" (50 : Nat) "SlidingRanks$Teller" "faultPlace" "I") ∈ kwL := kw_at 169 rfl rfl
set_option maxRecDepth 100000 in
theorem kw_196 : (Jvm.Cond.classLink "SlidingRanks" (23 : Nat) "SlidingRanks$Series") ∈ kwL := kw_at 196 rfl rfl
set_option maxRecDepth 100000 in
theorem kw_197 : (Jvm.Cond.methodLink "SlidingRanks" (25 : Nat) ({ cls := "SlidingRanks$Series", name := "<init>", desc := "()V" } : Jvm.MethodName)) ∈ kwL := kw_at 197 rfl rfl
set_option maxRecDepth 100000 in
theorem kw_198 : (Jvm.Cond.classLink "SlidingRanks" (30 : Nat) "SlidingRanks$Row") ∈ kwL := kw_at 198 rfl rfl
set_option maxRecDepth 100000 in
theorem kw_199 : (Jvm.Cond.instantiable "SlidingRanks$Row" (3 : Nat)) ∈ kwL := kw_at 199 rfl rfl
set_option maxRecDepth 100000 in
theorem kw_200 : (Jvm.Cond.methodLink "SlidingRanks" (32 : Nat) ({ cls := "SlidingRanks$Row", name := "<init>", desc := "(LSlidingRanks$Series;)V" } : Jvm.MethodName)) ∈ kwL := kw_at 200 rfl rfl
set_option maxRecDepth 100000 in
theorem kw_201 : (Jvm.Cond.instanceMethod ({ cls := "SlidingRanks$Row", name := "<init>", desc := "(LSlidingRanks$Series;)V" } : Jvm.MethodName)) ∈ kwL := kw_at 201 rfl rfl
set_option maxRecDepth 100000 in
theorem kw_202 : (Jvm.Cond.code ({ cls := "SlidingRanks$Row", name := "<init>", desc := "(LSlidingRanks$Series;)V" } : Jvm.MethodName) prog_2_method_1_code (2 : Nat) (Option.none : Option Jvm.ClassFile.FieldType)) ∈ kwL := kw_at 202 rfl rfl
set_option maxRecDepth 100000 in
theorem kw_203 : (Jvm.Cond.methodLink "SlidingRanks$Row" (3 : Nat) ({ cls := "java/lang/Object", name := "<init>", desc := "()V" } : Jvm.MethodName)) ∈ kwL := kw_at 203 rfl rfl
set_option maxRecDepth 100000 in
theorem kw_204 : (Jvm.Cond.fieldLink "SlidingRanks$Row" (19 : Nat) "SlidingRanks$Row" "series" "LSlidingRanks$Series;") ∈ kwL := kw_at 204 rfl rfl
set_option maxRecDepth 100000 in
theorem kw_205 : (Jvm.Cond.fieldLink "SlidingRanks$Row" (9 : Nat) "SlidingRanks$Row" "x" "[I") ∈ kwL := kw_at 205 rfl rfl
set_option maxRecDepth 100000 in
theorem kw_206 : (Jvm.Cond.fieldLink "SlidingRanks$Row" (15 : Nat) "SlidingRanks$Row" "n" "I") ∈ kwL := kw_at 206 rfl rfl
set_option maxRecDepth 100000 in
theorem kw_215 : (Jvm.Cond.classLink "SlidingRanks" (39 : Nat) "SlidingRanks$Words") ∈ kwL := kw_at 215 rfl rfl
set_option maxRecDepth 100000 in
theorem kw_216 : (Jvm.Cond.instantiable "SlidingRanks$Words" (2 : Nat)) ∈ kwL := kw_at 216 rfl rfl
set_option maxRecDepth 100000 in
theorem kw_218 : (Jvm.Cond.instanceMethod ({ cls := "SlidingRanks$Words", name := "<init>", desc := "()V" } : Jvm.MethodName)) ∈ kwL := kw_at 218 rfl rfl
set_option maxRecDepth 100000 in
theorem kw_219 : (Jvm.Cond.code ({ cls := "SlidingRanks$Words", name := "<init>", desc := "()V" } : Jvm.MethodName) prog_7_method_1_code (1 : Nat) (Option.none : Option Jvm.ClassFile.FieldType)) ∈ kwL := kw_at 219 rfl rfl
set_option maxRecDepth 100000 in
theorem kw_220 : (Jvm.Cond.methodLink "SlidingRanks$Words" (3 : Nat) ({ cls := "java/lang/Object", name := "<init>", desc := "()V" } : Jvm.MethodName)) ∈ kwL := kw_at 220 rfl rfl
set_option maxRecDepth 100000 in
theorem kw_221 : (Jvm.Cond.fieldLink "SlidingRanks$Words" (11 : Nat) "SlidingRanks$Words" "bytes" "[B") ∈ kwL := kw_at 221 rfl rfl
set_option maxRecDepth 100000 in
theorem kw_222 : (Jvm.Cond.fieldLink "SlidingRanks$Words" (15 : Nat) "SlidingRanks$Words" "length" "I") ∈ kwL := kw_at 222 rfl rfl
set_option maxRecDepth 100000 in
theorem kw_230 : (Jvm.Cond.classLink "SlidingRanks" (54 : Nat) "SlidingRanks$Sheet") ∈ kwL := kw_at 230 rfl rfl
set_option maxRecDepth 100000 in
theorem kw_232 : (Jvm.Cond.instantiable "SlidingRanks$Sheet" (3 : Nat)) ∈ kwL := kw_at 232 rfl rfl
set_option maxRecDepth 100000 in
theorem kw_234 : (Jvm.Cond.instanceMethod ({ cls := "SlidingRanks$Sheet", name := "<init>", desc := "()V" } : Jvm.MethodName)) ∈ kwL := kw_at 234 rfl rfl
set_option maxRecDepth 100000 in
theorem kw_235 : (Jvm.Cond.code ({ cls := "SlidingRanks$Sheet", name := "<init>", desc := "()V" } : Jvm.MethodName) prog_4_method_1_code (1 : Nat) (Option.none : Option Jvm.ClassFile.FieldType)) ∈ kwL := kw_at 235 rfl rfl
set_option maxRecDepth 100000 in
theorem kw_236 : (Jvm.Cond.methodLink "SlidingRanks$Sheet" (3 : Nat) ({ cls := "java/lang/Object", name := "<init>", desc := "()V" } : Jvm.MethodName)) ∈ kwL := kw_at 236 rfl rfl
set_option maxRecDepth 100000 in
theorem kw_237 : (Jvm.Cond.fieldLink "SlidingRanks$Sheet" (9 : Nat) "SlidingRanks$Sheet" "cells" "[I") ∈ kwL := kw_at 237 rfl rfl
set_option maxRecDepth 100000 in
theorem kw_238 : (Jvm.Cond.fieldLink "SlidingRanks$Sheet" (15 : Nat) "SlidingRanks$Sheet" "lane" "I") ∈ kwL := kw_at 238 rfl rfl
set_option maxRecDepth 100000 in
theorem kw_240 : (Jvm.Cond.fieldLink "SlidingRanks$Sheet" (19 : Nat) "SlidingRanks$Sheet" "size" "I") ∈ kwL := kw_at 240 rfl rfl
set_option maxRecDepth 100000 in
theorem kw_249 : (Jvm.Cond.arrayClass Jvm.ClassFile.FieldType.boolean) ∈ kwL := kw_at 249 rfl rfl
set_option maxRecDepth 100000 in
theorem kw_250 : (Jvm.Cond.fieldLink "SlidingRanks" (10 : Nat) "SlidingRanks" "tape" "LSlidingRanks$Tape;") ∈ kwL := kw_at 250 rfl rfl
set_option maxRecDepth 100000 in
theorem kw_251 : (Jvm.Cond.fieldLink "SlidingRanks" (19 : Nat) "SlidingRanks" "teller" "LSlidingRanks$Teller;") ∈ kwL := kw_at 251 rfl rfl
set_option maxRecDepth 100000 in
theorem kw_252 : (Jvm.Cond.fieldLink "SlidingRanks" (26 : Nat) "SlidingRanks" "now" "LSlidingRanks$Series;") ∈ kwL := kw_at 252 rfl rfl
set_option maxRecDepth 100000 in
theorem kw_253 : (Jvm.Cond.fieldLink "SlidingRanks" (35 : Nat) "SlidingRanks" "ordered" "LSlidingRanks$Row;") ∈ kwL := kw_at 253 rfl rfl
set_option maxRecDepth 100000 in
theorem kw_254 : (Jvm.Cond.fieldLink "SlidingRanks" (42 : Nat) "SlidingRanks" "words" "LSlidingRanks$Words;") ∈ kwL := kw_at 254 rfl rfl
set_option maxRecDepth 100000 in
theorem kw_255 : (Jvm.Cond.fieldLink "SlidingRanks" (46 : Nat) "SlidingRanks" "images" "[LSlidingRanks$Series;") ∈ kwL := kw_at 255 rfl rfl
set_option maxRecDepth 100000 in
theorem kw_256 : (Jvm.Cond.fieldLink "SlidingRanks" (50 : Nat) "SlidingRanks" "kept" "[Z") ∈ kwL := kw_at 256 rfl rfl
set_option maxRecDepth 100000 in
theorem kw_257 : (Jvm.Cond.fieldLink "SlidingRanks" (57 : Nat) "SlidingRanks" "sheets" "[LSlidingRanks$Sheet;") ∈ kwL := kw_at 257 rfl rfl
set_option maxRecDepth 100000 in
theorem kw_258 : (Jvm.Cond.fieldLink "SlidingRanks" (61 : Nat) "SlidingRanks" "latestTear" "I") ∈ kwL := kw_at 258 rfl rfl
set_option maxRecDepth 100000 in
theorem kw_278 : (Jvm.Cond.methodLink "SlidingRanksLaw" (13 : Nat) ({ cls := "SlidingRanks", name := "feed", desc := "(I)I" } : Jvm.MethodName)) ∈ kwL := kw_at 278 rfl rfl
set_option maxRecDepth 100000 in
theorem kw_279 : (Jvm.Cond.instanceMethod ({ cls := "SlidingRanks", name := "feed", desc := "(I)I" } : Jvm.MethodName)) ∈ kwL := kw_at 279 rfl rfl
set_option maxRecDepth 100000 in
theorem kw_280 : (Jvm.Cond.selects "SlidingRanks" ({ cls := "SlidingRanks", name := "feed", desc := "(I)I" } : Jvm.MethodName) ({ cls := "SlidingRanks", name := "feed", desc := "(I)I" } : Jvm.MethodName)) ∈ kwL := kw_at 280 rfl rfl
set_option maxRecDepth 100000 in
theorem kw_281 : (Jvm.Cond.code ({ cls := "SlidingRanks", name := "feed", desc := "(I)I" } : Jvm.MethodName) prog_1_method_2_code (2 : Nat) (Option.some Jvm.ClassFile.FieldType.int)) ∈ kwL := kw_at 281 rfl rfl
set_option maxRecDepth 100000 in
theorem kw_282 : (Jvm.Cond.methodLink "SlidingRanks" (65 : Nat) ({ cls := "SlidingRanks$Tape", name := "isFull", desc := "()Z" } : Jvm.MethodName)) ∈ kwL := kw_at 282 rfl rfl
set_option maxRecDepth 100000 in
theorem kw_283 : (Jvm.Cond.instanceMethod ({ cls := "SlidingRanks$Tape", name := "isFull", desc := "()Z" } : Jvm.MethodName)) ∈ kwL := kw_at 283 rfl rfl
set_option maxRecDepth 100000 in
theorem kw_284 : (Jvm.Cond.selects "SlidingRanks$Tape" ({ cls := "SlidingRanks$Tape", name := "isFull", desc := "()Z" } : Jvm.MethodName) ({ cls := "SlidingRanks$Tape", name := "isFull", desc := "()Z" } : Jvm.MethodName)) ∈ kwL := kw_at 284 rfl rfl
set_option maxRecDepth 100000 in
theorem kw_285 : (Jvm.Cond.code ({ cls := "SlidingRanks$Tape", name := "isFull", desc := "()Z" } : Jvm.MethodName) prog_5_method_2_code (1 : Nat) (Option.some Jvm.ClassFile.FieldType.boolean)) ∈ kwL := kw_at 285 rfl rfl
set_option maxRecDepth 100000 in
theorem kw_286 : (Jvm.Cond.methodLink "SlidingRanks" (69 : Nat) ({ cls := "SlidingRanks$Tape", name := "append", desc := "(I)V" } : Jvm.MethodName)) ∈ kwL := kw_at 286 rfl rfl
set_option maxRecDepth 100000 in
theorem kw_287 : (Jvm.Cond.instanceMethod ({ cls := "SlidingRanks$Tape", name := "append", desc := "(I)V" } : Jvm.MethodName)) ∈ kwL := kw_at 287 rfl rfl
set_option maxRecDepth 100000 in
theorem kw_288 : (Jvm.Cond.selects "SlidingRanks$Tape" ({ cls := "SlidingRanks$Tape", name := "append", desc := "(I)V" } : Jvm.MethodName) ({ cls := "SlidingRanks$Tape", name := "append", desc := "(I)V" } : Jvm.MethodName)) ∈ kwL := kw_at 288 rfl rfl
set_option maxRecDepth 100000 in
theorem kw_289 : (Jvm.Cond.code ({ cls := "SlidingRanks$Tape", name := "append", desc := "(I)V" } : Jvm.MethodName) prog_5_method_3_code (2 : Nat) (Option.none : Option Jvm.ClassFile.FieldType)) ∈ kwL := kw_at 289 rfl rfl
set_option maxRecDepth 100000 in
theorem kw_290 : (Jvm.Cond.methodLink "SlidingRanks$Tape" (19 : Nat) ({ cls := "SlidingRanks$Tape", name := "isFull", desc := "()Z" } : Jvm.MethodName)) ∈ kwL := kw_at 290 rfl rfl
set_option maxRecDepth 100000 in
theorem kw_291 : (Jvm.Cond.methodLink "SlidingRanksLaw" (18 : Nat) ({ cls := "SlidingRanks", name := "end", desc := "(I)I" } : Jvm.MethodName)) ∈ kwL := kw_at 291 rfl rfl
set_option maxRecDepth 100000 in
theorem kw_292 : (Jvm.Cond.instanceMethod ({ cls := "SlidingRanks", name := "end", desc := "(I)I" } : Jvm.MethodName)) ∈ kwL := kw_at 292 rfl rfl
set_option maxRecDepth 100000 in
theorem kw_293 : (Jvm.Cond.selects "SlidingRanks" ({ cls := "SlidingRanks", name := "end", desc := "(I)I" } : Jvm.MethodName) ({ cls := "SlidingRanks", name := "end", desc := "(I)I" } : Jvm.MethodName)) ∈ kwL := kw_at 293 rfl rfl
set_option maxRecDepth 100000 in
theorem kw_294 : (Jvm.Cond.code ({ cls := "SlidingRanks", name := "end", desc := "(I)I" } : Jvm.MethodName) prog_1_method_3_code (3 : Nat) (Option.some Jvm.ClassFile.FieldType.int)) ∈ kwL := kw_at 294 rfl rfl
set_option maxRecDepth 100000 in
theorem kw_295 : (Jvm.Cond.methodLink "SlidingRanksLaw" (22 : Nat) ({ cls := "SlidingRanks", name := "text", desc := "()I" } : Jvm.MethodName)) ∈ kwL := kw_at 295 rfl rfl
set_option maxRecDepth 100000 in
theorem kw_296 : (Jvm.Cond.instanceMethod ({ cls := "SlidingRanks", name := "text", desc := "()I" } : Jvm.MethodName)) ∈ kwL := kw_at 296 rfl rfl
set_option maxRecDepth 100000 in
theorem kw_297 : (Jvm.Cond.selects "SlidingRanks" ({ cls := "SlidingRanks", name := "text", desc := "()I" } : Jvm.MethodName) ({ cls := "SlidingRanks", name := "text", desc := "()I" } : Jvm.MethodName)) ∈ kwL := kw_at 297 rfl rfl
set_option maxRecDepth 100000 in
theorem kw_298 : (Jvm.Cond.code ({ cls := "SlidingRanks", name := "text", desc := "()I" } : Jvm.MethodName) prog_1_method_4_code (3 : Nat) (Option.some Jvm.ClassFile.FieldType.int)) ∈ kwL := kw_at 298 rfl rfl
set_option maxRecDepth 100000 in
theorem kw_299 : (Jvm.Cond.methodLink "SlidingRanks" (76 : Nat) ({ cls := "SlidingRanks$Teller", name := "tell", desc := "(LSlidingRanks$Tape;)Z" } : Jvm.MethodName)) ∈ kwL := kw_at 299 rfl rfl
set_option maxRecDepth 100000 in
theorem kw_300 : (Jvm.Cond.instanceMethod ({ cls := "SlidingRanks$Teller", name := "tell", desc := "(LSlidingRanks$Tape;)Z" } : Jvm.MethodName)) ∈ kwL := kw_at 300 rfl rfl
set_option maxRecDepth 100000 in
theorem kw_301 : (Jvm.Cond.selects "SlidingRanks$Teller" ({ cls := "SlidingRanks$Teller", name := "tell", desc := "(LSlidingRanks$Tape;)Z" } : Jvm.MethodName) ({ cls := "SlidingRanks$Teller", name := "tell", desc := "(LSlidingRanks$Tape;)Z" } : Jvm.MethodName)) ∈ kwL := kw_at 301 rfl rfl
set_option maxRecDepth 100000 in
theorem kw_302 : (Jvm.Cond.code ({ cls := "SlidingRanks$Teller", name := "tell", desc := "(LSlidingRanks$Tape;)Z" } : Jvm.MethodName) prog_6_method_2_code (3 : Nat) (Option.some Jvm.ClassFile.FieldType.boolean)) ∈ kwL := kw_at 302 rfl rfl
set_option maxRecDepth 100000 in
theorem kw_303 : (Jvm.Cond.methodLink "SlidingRanks$Teller" (53 : Nat) ({ cls := "SlidingRanks$Series", name := "reset", desc := "()V" } : Jvm.MethodName)) ∈ kwL := kw_at 303 rfl rfl
set_option maxRecDepth 100000 in
theorem kw_304 : (Jvm.Cond.methodLink "SlidingRanks$Teller" (56 : Nat) ({ cls := "SlidingRanks$Teller", name := "scan", desc := "(LSlidingRanks$Tape;)V" } : Jvm.MethodName)) ∈ kwL := kw_at 304 rfl rfl
set_option maxRecDepth 100000 in
theorem kw_306 : (Jvm.Cond.instanceMethod ({ cls := "SlidingRanks$Teller", name := "scan", desc := "(LSlidingRanks$Tape;)V" } : Jvm.MethodName)) ∈ kwL := kw_at 306 rfl rfl
set_option maxRecDepth 100000 in
theorem kw_307 : (Jvm.Cond.code ({ cls := "SlidingRanks$Teller", name := "scan", desc := "(LSlidingRanks$Tape;)V" } : Jvm.MethodName) prog_6_method_12_code (3 : Nat) (Option.none : Option Jvm.ClassFile.FieldType)) ∈ kwL := kw_at 307 rfl rfl
set_option maxRecDepth 100000 in
theorem kw_308 : (Jvm.Cond.methodLink "SlidingRanks$Teller" (60 : Nat) ({ cls := "SlidingRanks$Tape", name := "byteAt", desc := "(I)I" } : Jvm.MethodName)) ∈ kwL := kw_at 308 rfl rfl
set_option maxRecDepth 100000 in
theorem kw_309 : (Jvm.Cond.instanceMethod ({ cls := "SlidingRanks$Tape", name := "byteAt", desc := "(I)I" } : Jvm.MethodName)) ∈ kwL := kw_at 309 rfl rfl
set_option maxRecDepth 100000 in
theorem kw_310 : (Jvm.Cond.selects "SlidingRanks$Tape" ({ cls := "SlidingRanks$Tape", name := "byteAt", desc := "(I)I" } : Jvm.MethodName) ({ cls := "SlidingRanks$Tape", name := "byteAt", desc := "(I)I" } : Jvm.MethodName)) ∈ kwL := kw_at 310 rfl rfl
set_option maxRecDepth 100000 in
theorem kw_311 : (Jvm.Cond.code ({ cls := "SlidingRanks$Tape", name := "byteAt", desc := "(I)I" } : Jvm.MethodName) prog_5_method_4_code (2 : Nat) (Option.some Jvm.ClassFile.FieldType.int)) ∈ kwL := kw_at 311 rfl rfl
set_option maxRecDepth 100000 in
theorem kw_312 : (Jvm.Cond.methodLink "SlidingRanks$Teller" (137 : Nat) ({ cls := "SlidingRanks$Teller", name := "isLetter", desc := "(I)Z" } : Jvm.MethodName)) ∈ kwL := kw_at 312 rfl rfl
set_option maxRecDepth 100000 in
theorem kw_313 : (Jvm.Cond.static ({ cls := "SlidingRanks$Teller", name := "isLetter", desc := "(I)Z" } : Jvm.MethodName)) ∈ kwL := kw_at 313 rfl rfl
set_option maxRecDepth 100000 in
theorem kw_314 : (Jvm.Cond.code ({ cls := "SlidingRanks$Teller", name := "isLetter", desc := "(I)Z" } : Jvm.MethodName) prog_6_method_16_code (1 : Nat) (Option.some Jvm.ClassFile.FieldType.boolean)) ∈ kwL := kw_at 314 rfl rfl
set_option maxRecDepth 100000 in
theorem kw_315 : (Jvm.Cond.methodLink "SlidingRanks$Teller" (141 : Nat) ({ cls := "SlidingRanks$Teller", name := "scanName", desc := "(LSlidingRanks$Tape;)V" } : Jvm.MethodName)) ∈ kwL := kw_at 315 rfl rfl
set_option maxRecDepth 100000 in
theorem kw_317 : (Jvm.Cond.instanceMethod ({ cls := "SlidingRanks$Teller", name := "scanName", desc := "(LSlidingRanks$Tape;)V" } : Jvm.MethodName)) ∈ kwL := kw_at 317 rfl rfl
set_option maxRecDepth 100000 in
theorem kw_318 : (Jvm.Cond.code ({ cls := "SlidingRanks$Teller", name := "scanName", desc := "(LSlidingRanks$Tape;)V" } : Jvm.MethodName) prog_6_method_13_code (2 : Nat) (Option.none : Option Jvm.ClassFile.FieldType)) ∈ kwL := kw_at 318 rfl rfl
set_option maxRecDepth 100000 in
theorem kw_319 : (Jvm.Cond.methodLink "SlidingRanks$Teller" (150 : Nat) ({ cls := "SlidingRanks$Teller", name := "numberOfName", desc := "(LSlidingRanks$Tape;)I" } : Jvm.MethodName)) ∈ kwL := kw_at 319 rfl rfl
set_option maxRecDepth 100000 in
theorem kw_321 : (Jvm.Cond.instanceMethod ({ cls := "SlidingRanks$Teller", name := "numberOfName", desc := "(LSlidingRanks$Tape;)I" } : Jvm.MethodName)) ∈ kwL := kw_at 321 rfl rfl
set_option maxRecDepth 100000 in
theorem kw_322 : (Jvm.Cond.code ({ cls := "SlidingRanks$Teller", name := "numberOfName", desc := "(LSlidingRanks$Tape;)I" } : Jvm.MethodName) prog_6_method_14_code (7 : Nat) (Option.some Jvm.ClassFile.FieldType.int)) ∈ kwL := kw_at 322 rfl rfl
set_option maxRecDepth 100000 in
theorem kw_324 : (Jvm.Cond.methodLink "SlidingRanks$Teller" (156 : Nat) ({ cls := "java/lang/String", name := "length", desc := "()I" } : Jvm.MethodName)) ∈ kwL := kw_at 324 rfl rfl
set_option maxRecDepth 100000 in
theorem kw_325 : (Jvm.Cond.instanceMethod ({ cls := "java/lang/String", name := "length", desc := "()I" } : Jvm.MethodName)) ∈ kwL := kw_at 325 rfl rfl
set_option maxRecDepth 100000 in
theorem kw_326 : (Jvm.Cond.selects "java/lang/String" ({ cls := "java/lang/String", name := "length", desc := "()I" } : Jvm.MethodName) ({ cls := "java/lang/String", name := "length", desc := "()I" } : Jvm.MethodName)) ∈ kwL := kw_at 326 rfl rfl
set_option maxRecDepth 100000 in
theorem kw_327 : (Jvm.Cond.code ({ cls := "java/lang/String", name := "length", desc := "()I" } : Jvm.MethodName) prog_11_method_54_code (1 : Nat) (Option.some Jvm.ClassFile.FieldType.int)) ∈ kwL := kw_at 327 rfl rfl
set_option maxRecDepth 100000 in
theorem kw_328 : (Jvm.Cond.methodLink "java/lang/String" (335 : Nat) ({ cls := "java/lang/String", name := "coder", desc := "()B" } : Jvm.MethodName)) ∈ kwL := kw_at 328 rfl rfl
set_option maxRecDepth 100000 in
theorem kw_329 : (Jvm.Cond.instanceMethod ({ cls := "java/lang/String", name := "coder", desc := "()B" } : Jvm.MethodName)) ∈ kwL := kw_at 329 rfl rfl
set_option maxRecDepth 100000 in
theorem kw_330 : (Jvm.Cond.selects "java/lang/String" ({ cls := "java/lang/String", name := "coder", desc := "()B" } : Jvm.MethodName) ({ cls := "java/lang/String", name := "coder", desc := "()B" } : Jvm.MethodName)) ∈ kwL := kw_at 330 rfl rfl
set_option maxRecDepth 100000 in
theorem kw_331 : (Jvm.Cond.code ({ cls := "java/lang/String", name := "coder", desc := "()B" } : Jvm.MethodName) prog_11_method_152_code (1 : Nat) (Option.some Jvm.ClassFile.FieldType.byte)) ∈ kwL := kw_at 331 rfl rfl
set_option maxRecDepth 100000 in
theorem kw_332 : (Jvm.Cond.fieldLink "java/lang/String" (38 : Nat) "java/lang/String" "COMPACT_STRINGS" "Z") ∈ kwL := kw_at 332 rfl rfl
set_option maxRecDepth 100000 in
theorem kw_334 : (Jvm.Cond.methodLink "SlidingRanks$Teller" (161 : Nat) ({ cls := "java/lang/String", name := "charAt", desc := "(I)C" } : Jvm.MethodName)) ∈ kwL := kw_at 334 rfl rfl
set_option maxRecDepth 100000 in
theorem kw_335 : (Jvm.Cond.instanceMethod ({ cls := "java/lang/String", name := "charAt", desc := "(I)C" } : Jvm.MethodName)) ∈ kwL := kw_at 335 rfl rfl
set_option maxRecDepth 100000 in
theorem kw_336 : (Jvm.Cond.selects "java/lang/String" ({ cls := "java/lang/String", name := "charAt", desc := "(I)C" } : Jvm.MethodName) ({ cls := "java/lang/String", name := "charAt", desc := "(I)C" } : Jvm.MethodName)) ∈ kwL := kw_at 336 rfl rfl
set_option maxRecDepth 100000 in
theorem kw_337 : (Jvm.Cond.code ({ cls := "java/lang/String", name := "charAt", desc := "(I)C" } : Jvm.MethodName) prog_11_method_56_code (2 : Nat) (Option.some Jvm.ClassFile.FieldType.char)) ∈ kwL := kw_at 337 rfl rfl
set_option maxRecDepth 100000 in
theorem kw_338 : (Jvm.Cond.methodLink "java/lang/String" (492 : Nat) ({ cls := "java/lang/String", name := "isLatin1", desc := "()Z" } : Jvm.MethodName)) ∈ kwL := kw_at 338 rfl rfl
set_option maxRecDepth 100000 in
theorem kw_339 : (Jvm.Cond.instanceMethod ({ cls := "java/lang/String", name := "isLatin1", desc := "()Z" } : Jvm.MethodName)) ∈ kwL := kw_at 339 rfl rfl
set_option maxRecDepth 100000 in
theorem kw_340 : (Jvm.Cond.selects "java/lang/String" ({ cls := "java/lang/String", name := "isLatin1", desc := "()Z" } : Jvm.MethodName) ({ cls := "java/lang/String", name := "isLatin1", desc := "()Z" } : Jvm.MethodName)) ∈ kwL := kw_at 340 rfl rfl
set_option maxRecDepth 100000 in
theorem kw_341 : (Jvm.Cond.code ({ cls := "java/lang/String", name := "isLatin1", desc := "()Z" } : Jvm.MethodName) prog_11_method_154_code (1 : Nat) (Option.some Jvm.ClassFile.FieldType.boolean)) ∈ kwL := kw_at 341 rfl rfl
set_option maxRecDepth 100000 in
theorem kw_342 : (Jvm.Cond.methodLink "java/lang/String" (495 : Nat) ({ cls := "java/lang/StringLatin1", name := "charAt", desc := "([BI)C" } : Jvm.MethodName)) ∈ kwL := kw_at 342 rfl rfl
set_option maxRecDepth 100000 in
theorem kw_343 : (Jvm.Cond.static ({ cls := "java/lang/StringLatin1", name := "charAt", desc := "([BI)C" } : Jvm.MethodName)) ∈ kwL := kw_at 343 rfl rfl
set_option maxRecDepth 100000 in
theorem kw_344 : (Jvm.Cond.code ({ cls := "java/lang/StringLatin1", name := "charAt", desc := "([BI)C" } : Jvm.MethodName) prog_12_method_2_code (2 : Nat) (Option.some Jvm.ClassFile.FieldType.char)) ∈ kwL := kw_at 344 rfl rfl
set_option maxRecDepth 100000 in
theorem kw_345 : (Jvm.Cond.methodLink "java/lang/StringLatin1" (9 : Nat) ({ cls := "java/lang/String", name := "checkIndex", desc := "(II)V" } : Jvm.MethodName)) ∈ kwL := kw_at 345 rfl rfl
set_option maxRecDepth 100000 in
theorem kw_346 : (Jvm.Cond.static ({ cls := "java/lang/String", name := "checkIndex", desc := "(II)V" } : Jvm.MethodName)) ∈ kwL := kw_at 346 rfl rfl
set_option maxRecDepth 100000 in
theorem kw_347 : (Jvm.Cond.code ({ cls := "java/lang/String", name := "checkIndex", desc := "(II)V" } : Jvm.MethodName) prog_11_method_155_code (2 : Nat) (Option.none : Option Jvm.ClassFile.FieldType)) ∈ kwL := kw_at 347 rfl rfl
set_option maxRecDepth 100000 in
theorem kw_348 : (Jvm.Cond.fieldLink "java/lang/String" (1053 : Nat) "jdk/internal/util/Preconditions" "SIOOBE_FORMATTER" "Ljava/util/function/BiFunction;") ∈ kwL := kw_at 348 rfl rfl
set_option maxRecDepth 100000 in
theorem kw_350 : (Jvm.Cond.methodLink "java/lang/String" (1059 : Nat) ({ cls := "jdk/internal/util/Preconditions", name := "checkIndex", desc := "(IILjava/util/function/BiFunction;)I" } : Jvm.MethodName)) ∈ kwL := kw_at 350 rfl rfl
set_option maxRecDepth 100000 in
theorem kw_351 : (Jvm.Cond.static ({ cls := "jdk/internal/util/Preconditions", name := "checkIndex", desc := "(IILjava/util/function/BiFunction;)I" } : Jvm.MethodName)) ∈ kwL := kw_at 351 rfl rfl
set_option maxRecDepth 100000 in
theorem kw_352 : (Jvm.Cond.code ({ cls := "jdk/internal/util/Preconditions", name := "checkIndex", desc := "(IILjava/util/function/BiFunction;)I" } : Jvm.MethodName) prog_15_method_11_code (3 : Nat) (Option.some Jvm.ClassFile.FieldType.int)) ∈ kwL := kw_at 352 rfl rfl
set_option maxRecDepth 100000 in
theorem kw_372 : (Jvm.Cond.methodLink "SlidingRanks$Teller" (144 : Nat) ({ cls := "SlidingRanks$Teller", name := "isFigure", desc := "(I)Z" } : Jvm.MethodName)) ∈ kwL := kw_at 372 rfl rfl
set_option maxRecDepth 100000 in
theorem kw_373 : (Jvm.Cond.static ({ cls := "SlidingRanks$Teller", name := "isFigure", desc := "(I)Z" } : Jvm.MethodName)) ∈ kwL := kw_at 373 rfl rfl
set_option maxRecDepth 100000 in
theorem kw_374 : (Jvm.Cond.code ({ cls := "SlidingRanks$Teller", name := "isFigure", desc := "(I)Z" } : Jvm.MethodName) prog_6_method_17_code (1 : Nat) (Option.some Jvm.ClassFile.FieldType.boolean)) ∈ kwL := kw_at 374 rfl rfl
set_option maxRecDepth 100000 in
theorem kw_375 : (Jvm.Cond.methodLink "SlidingRanks$Teller" (147 : Nat) ({ cls := "SlidingRanks$Teller", name := "scanNumber", desc := "(LSlidingRanks$Tape;)V" } : Jvm.MethodName)) ∈ kwL := kw_at 375 rfl rfl
set_option maxRecDepth 100000 in
theorem kw_377 : (Jvm.Cond.instanceMethod ({ cls := "SlidingRanks$Teller", name := "scanNumber", desc := "(LSlidingRanks$Tape;)V" } : Jvm.MethodName)) ∈ kwL := kw_at 377 rfl rfl
set_option maxRecDepth 100000 in
theorem kw_378 : (Jvm.Cond.code ({ cls := "SlidingRanks$Teller", name := "scanNumber", desc := "(LSlidingRanks$Tape;)V" } : Jvm.MethodName) prog_6_method_15_code (2 : Nat) (Option.none : Option Jvm.ClassFile.FieldType)) ∈ kwL := kw_at 378 rfl rfl
set_option maxRecDepth 100000 in
theorem kw_379 : (Jvm.Cond.methodLink "SlidingRanks$Teller" (70 : Nat) ({ cls := "SlidingRanks$Teller", name := "refuse", desc := "(I)V" } : Jvm.MethodName)) ∈ kwL := kw_at 379 rfl rfl
set_option maxRecDepth 100000 in
theorem kw_381 : (Jvm.Cond.instanceMethod ({ cls := "SlidingRanks$Teller", name := "refuse", desc := "(I)V" } : Jvm.MethodName)) ∈ kwL := kw_at 381 rfl rfl
set_option maxRecDepth 100000 in
theorem kw_382 : (Jvm.Cond.code ({ cls := "SlidingRanks$Teller", name := "refuse", desc := "(I)V" } : Jvm.MethodName) prog_6_method_3_code (2 : Nat) (Option.none : Option Jvm.ClassFile.FieldType)) ∈ kwL := kw_at 382 rfl rfl
set_option maxRecDepth 100000 in
theorem kw_383 : (Jvm.Cond.methodLink "SlidingRanks$Teller" (66 : Nat) ({ cls := "SlidingRanks$Teller", name := "takeToken", desc := "(I)V" } : Jvm.MethodName)) ∈ kwL := kw_at 383 rfl rfl
set_option maxRecDepth 100000 in
theorem kw_385 : (Jvm.Cond.instanceMethod ({ cls := "SlidingRanks$Teller", name := "takeToken", desc := "(I)V" } : Jvm.MethodName)) ∈ kwL := kw_at 385 rfl rfl
set_option maxRecDepth 100000 in
theorem kw_386 : (Jvm.Cond.code ({ cls := "SlidingRanks$Teller", name := "takeToken", desc := "(I)V" } : Jvm.MethodName) prog_6_method_4_code (2 : Nat) (Option.none : Option Jvm.ClassFile.FieldType)) ∈ kwL := kw_at 386 rfl rfl
set_option maxRecDepth 100000 in
theorem kw_387 : (Jvm.Cond.methodLink "SlidingRanks$Teller" (73 : Nat) ({ cls := "SlidingRanks$Teller", name := "takeLineName", desc := "()V" } : Jvm.MethodName)) ∈ kwL := kw_at 387 rfl rfl
set_option maxRecDepth 100000 in
theorem kw_389 : (Jvm.Cond.instanceMethod ({ cls := "SlidingRanks$Teller", name := "takeLineName", desc := "()V" } : Jvm.MethodName)) ∈ kwL := kw_at 389 rfl rfl
set_option maxRecDepth 100000 in
theorem kw_390 : (Jvm.Cond.code ({ cls := "SlidingRanks$Teller", name := "takeLineName", desc := "()V" } : Jvm.MethodName) prog_6_method_8_code (1 : Nat) (Option.none : Option Jvm.ClassFile.FieldType)) ∈ kwL := kw_at 390 rfl rfl
set_option maxRecDepth 100000 in
theorem kw_391 : (Jvm.Cond.methodLink "SlidingRanks$Teller" (76 : Nat) ({ cls := "SlidingRanks$Teller", name := "takeNumber", desc := "(III)I" } : Jvm.MethodName)) ∈ kwL := kw_at 391 rfl rfl
set_option maxRecDepth 100000 in
theorem kw_393 : (Jvm.Cond.instanceMethod ({ cls := "SlidingRanks$Teller", name := "takeNumber", desc := "(III)I" } : Jvm.MethodName)) ∈ kwL := kw_at 393 rfl rfl
set_option maxRecDepth 100000 in
theorem kw_394 : (Jvm.Cond.code ({ cls := "SlidingRanks$Teller", name := "takeNumber", desc := "(III)I" } : Jvm.MethodName) prog_6_method_9_code (4 : Nat) (Option.some Jvm.ClassFile.FieldType.int)) ∈ kwL := kw_at 394 rfl rfl
set_option maxRecDepth 100000 in
theorem kw_395 : (Jvm.Cond.methodLink "SlidingRanks$Teller" (89 : Nat) ({ cls := "java/lang/Math", name := "max", desc := "(II)I" } : Jvm.MethodName)) ∈ kwL := kw_at 395 rfl rfl
set_option maxRecDepth 100000 in
theorem kw_396 : (Jvm.Cond.static ({ cls := "java/lang/Math", name := "max", desc := "(II)I" } : Jvm.MethodName)) ∈ kwL := kw_at 396 rfl rfl
set_option maxRecDepth 100000 in
theorem kw_397 : (Jvm.Cond.code ({ cls := "java/lang/Math", name := "max", desc := "(II)I" } : Jvm.MethodName) prog_10_method_65_code (2 : Nat) (Option.some Jvm.ClassFile.FieldType.int)) ∈ kwL := kw_at 397 rfl rfl
set_option maxRecDepth 100000 in
theorem kw_398 : (Jvm.Cond.methodLink "SlidingRanks$Teller" (98 : Nat) ({ cls := "SlidingRanks$Teller", name := "takeChoice", desc := "(II)I" } : Jvm.MethodName)) ∈ kwL := kw_at 398 rfl rfl
set_option maxRecDepth 100000 in
theorem kw_400 : (Jvm.Cond.instanceMethod ({ cls := "SlidingRanks$Teller", name := "takeChoice", desc := "(II)I" } : Jvm.MethodName)) ∈ kwL := kw_at 400 rfl rfl
set_option maxRecDepth 100000 in
theorem kw_401 : (Jvm.Cond.code ({ cls := "SlidingRanks$Teller", name := "takeChoice", desc := "(II)I" } : Jvm.MethodName) prog_6_method_10_code (3 : Nat) (Option.some Jvm.ClassFile.FieldType.int)) ∈ kwL := kw_at 401 rfl rfl
set_option maxRecDepth 100000 in
theorem kw_402 : (Jvm.Cond.methodLink "SlidingRanks$Teller" (107 : Nat) ({ cls := "SlidingRanks$Teller", name := "takeLineEnd", desc := "(I)V" } : Jvm.MethodName)) ∈ kwL := kw_at 402 rfl rfl
set_option maxRecDepth 100000 in
theorem kw_404 : (Jvm.Cond.instanceMethod ({ cls := "SlidingRanks$Teller", name := "takeLineEnd", desc := "(I)V" } : Jvm.MethodName)) ∈ kwL := kw_at 404 rfl rfl
set_option maxRecDepth 100000 in
theorem kw_405 : (Jvm.Cond.code ({ cls := "SlidingRanks$Teller", name := "takeLineEnd", desc := "(I)V" } : Jvm.MethodName) prog_6_method_11_code (2 : Nat) (Option.none : Option Jvm.ClassFile.FieldType)) ∈ kwL := kw_at 405 rfl rfl
set_option maxRecDepth 100000 in
theorem kw_406 : (Jvm.Cond.methodLink "SlidingRanks$Teller" (110 : Nat) ({ cls := "SlidingRanks$Teller", name := "takeWhole", desc := "()V" } : Jvm.MethodName)) ∈ kwL := kw_at 406 rfl rfl
set_option maxRecDepth 100000 in
theorem kw_408 : (Jvm.Cond.instanceMethod ({ cls := "SlidingRanks$Teller", name := "takeWhole", desc := "()V" } : Jvm.MethodName)) ∈ kwL := kw_at 408 rfl rfl
set_option maxRecDepth 100000 in
theorem kw_409 : (Jvm.Cond.code ({ cls := "SlidingRanks$Teller", name := "takeWhole", desc := "()V" } : Jvm.MethodName) prog_6_method_6_code (1 : Nat) (Option.none : Option Jvm.ClassFile.FieldType)) ∈ kwL := kw_at 409 rfl rfl
set_option maxRecDepth 100000 in
theorem kw_410 : (Jvm.Cond.methodLink "SlidingRanks$Teller" (124 : Nat) ({ cls := "SlidingRanks$Series", name := "append", desc := "(I)V" } : Jvm.MethodName)) ∈ kwL := kw_at 410 rfl rfl
set_option maxRecDepth 100000 in
theorem kw_411 : (Jvm.Cond.instanceMethod ({ cls := "SlidingRanks$Series", name := "append", desc := "(I)V" } : Jvm.MethodName)) ∈ kwL := kw_at 411 rfl rfl
set_option maxRecDepth 100000 in
theorem kw_412 : (Jvm.Cond.selects "SlidingRanks$Series" ({ cls := "SlidingRanks$Series", name := "append", desc := "(I)V" } : Jvm.MethodName) ({ cls := "SlidingRanks$Series", name := "append", desc := "(I)V" } : Jvm.MethodName)) ∈ kwL := kw_at 412 rfl rfl
set_option maxRecDepth 100000 in
theorem kw_413 : (Jvm.Cond.code ({ cls := "SlidingRanks$Series", name := "append", desc := "(I)V" } : Jvm.MethodName) prog_3_method_7_code (2 : Nat) (Option.none : Option Jvm.ClassFile.FieldType)) ∈ kwL := kw_at 413 rfl rfl
set_option maxRecDepth 100000 in
theorem kw_414 : (Jvm.Cond.methodLink "SlidingRanks$Series" (51 : Nat) ({ cls := "SlidingRanks$Series", name := "isFull", desc := "()Z" } : Jvm.MethodName)) ∈ kwL := kw_at 414 rfl rfl
set_option maxRecDepth 100000 in
theorem kw_415 : (Jvm.Cond.instanceMethod ({ cls := "SlidingRanks$Series", name := "isFull", desc := "()Z" } : Jvm.MethodName)) ∈ kwL := kw_at 415 rfl rfl
set_option maxRecDepth 100000 in
theorem kw_416 : (Jvm.Cond.selects "SlidingRanks$Series" ({ cls := "SlidingRanks$Series", name := "isFull", desc := "()Z" } : Jvm.MethodName) ({ cls := "SlidingRanks$Series", name := "isFull", desc := "()Z" } : Jvm.MethodName)) ∈ kwL := kw_at 416 rfl rfl
set_option maxRecDepth 100000 in
theorem kw_417 : (Jvm.Cond.code ({ cls := "SlidingRanks$Series", name := "isFull", desc := "()Z" } : Jvm.MethodName) prog_3_method_5_code (1 : Nat) (Option.some Jvm.ClassFile.FieldType.boolean)) ∈ kwL := kw_at 417 rfl rfl
set_option maxRecDepth 100000 in
theorem kw_418 : (Jvm.Cond.methodLink "SlidingRanks$Teller" (113 : Nat) ({ cls := "SlidingRanks$Teller", name := "takeFraction", desc := "()V" } : Jvm.MethodName)) ∈ kwL := kw_at 418 rfl rfl
set_option maxRecDepth 100000 in
theorem kw_420 : (Jvm.Cond.instanceMethod ({ cls := "SlidingRanks$Teller", name := "takeFraction", desc := "()V" } : Jvm.MethodName)) ∈ kwL := kw_at 420 rfl rfl
set_option maxRecDepth 100000 in
theorem kw_421 : (Jvm.Cond.code ({ cls := "SlidingRanks$Teller", name := "takeFraction", desc := "()V" } : Jvm.MethodName) prog_6_method_7_code (3 : Nat) (Option.none : Option Jvm.ClassFile.FieldType)) ∈ kwL := kw_at 421 rfl rfl
set_option maxRecDepth 100000 in
theorem kw_422 : (Jvm.Cond.methodLink "SlidingRanks$Teller" (130 : Nat) ({ cls := "SlidingRanks$Series", name := "change", desc := "(II)V" } : Jvm.MethodName)) ∈ kwL := kw_at 422 rfl rfl
set_option maxRecDepth 100000 in
theorem kw_423 : (Jvm.Cond.instanceMethod ({ cls := "SlidingRanks$Series", name := "change", desc := "(II)V" } : Jvm.MethodName)) ∈ kwL := kw_at 423 rfl rfl
set_option maxRecDepth 100000 in
theorem kw_424 : (Jvm.Cond.selects "SlidingRanks$Series" ({ cls := "SlidingRanks$Series", name := "change", desc := "(II)V" } : Jvm.MethodName) ({ cls := "SlidingRanks$Series", name := "change", desc := "(II)V" } : Jvm.MethodName)) ∈ kwL := kw_at 424 rfl rfl
set_option maxRecDepth 100000 in
theorem kw_425 : (Jvm.Cond.code ({ cls := "SlidingRanks$Series", name := "change", desc := "(II)V" } : Jvm.MethodName) prog_3_method_8_code (3 : Nat) (Option.none : Option Jvm.ClassFile.FieldType)) ∈ kwL := kw_at 425 rfl rfl
set_option maxRecDepth 100000 in
theorem kw_426 : (Jvm.Cond.methodLink "SlidingRanks$Series" (46 : Nat) ({ cls := "SlidingRanks$Series", name := "has", desc := "(I)Z" } : Jvm.MethodName)) ∈ kwL := kw_at 426 rfl rfl
set_option maxRecDepth 100000 in
theorem kw_427 : (Jvm.Cond.instanceMethod ({ cls := "SlidingRanks$Series", name := "has", desc := "(I)Z" } : Jvm.MethodName)) ∈ kwL := kw_at 427 rfl rfl
set_option maxRecDepth 100000 in
theorem kw_428 : (Jvm.Cond.selects "SlidingRanks$Series" ({ cls := "SlidingRanks$Series", name := "has", desc := "(I)Z" } : Jvm.MethodName) ({ cls := "SlidingRanks$Series", name := "has", desc := "(I)Z" } : Jvm.MethodName)) ∈ kwL := kw_at 428 rfl rfl
set_option maxRecDepth 100000 in
theorem kw_429 : (Jvm.Cond.code ({ cls := "SlidingRanks$Series", name := "has", desc := "(I)Z" } : Jvm.MethodName) prog_3_method_4_code (2 : Nat) (Option.some Jvm.ClassFile.FieldType.boolean)) ∈ kwL := kw_at 429 rfl rfl
set_option maxRecDepth 100000 in
theorem kw_430 : (Jvm.Cond.methodLink "SlidingRanks$Teller" (116 : Nat) ({ cls := "SlidingRanks$Teller", name := "takeReadingOrMore", desc := "(I)V" } : Jvm.MethodName)) ∈ kwL := kw_at 430 rfl rfl
set_option maxRecDepth 100000 in
theorem kw_432 : (Jvm.Cond.instanceMethod ({ cls := "SlidingRanks$Teller", name := "takeReadingOrMore", desc := "(I)V" } : Jvm.MethodName)) ∈ kwL := kw_at 432 rfl rfl
set_option maxRecDepth 100000 in
theorem kw_433 : (Jvm.Cond.code ({ cls := "SlidingRanks$Teller", name := "takeReadingOrMore", desc := "(I)V" } : Jvm.MethodName) prog_6_method_5_code (3 : Nat) (Option.none : Option Jvm.ClassFile.FieldType)) ∈ kwL := kw_at 433 rfl rfl
set_option maxRecDepth 100000 in
theorem kw_434 : (Jvm.Cond.methodLink "SlidingRanks$Teller" (119 : Nat) ({ cls := "SlidingRanks$Series", name := "isFull", desc := "()Z" } : Jvm.MethodName)) ∈ kwL := kw_at 434 rfl rfl
set_option maxRecDepth 100000 in
theorem kw_435 : (Jvm.Cond.constant "SlidingRanks$Teller" (123 : Nat) (100000000 : Int32)) ∈ kwL := kw_at 435 rfl rfl
set_option maxRecDepth 100000 in
theorem kw_436 : (Jvm.Cond.methodLink "SlidingRanks" (86 : Nat) ({ cls := "SlidingRanks$Series", name := "copyFrom", desc := "(LSlidingRanks$Series;)V" } : Jvm.MethodName)) ∈ kwL := kw_at 436 rfl rfl
set_option maxRecDepth 100000 in
theorem kw_437 : (Jvm.Cond.instanceMethod ({ cls := "SlidingRanks$Series", name := "copyFrom", desc := "(LSlidingRanks$Series;)V" } : Jvm.MethodName)) ∈ kwL := kw_at 437 rfl rfl
set_option maxRecDepth 100000 in
theorem kw_438 : (Jvm.Cond.selects "SlidingRanks$Series" ({ cls := "SlidingRanks$Series", name := "copyFrom", desc := "(LSlidingRanks$Series;)V" } : Jvm.MethodName) ({ cls := "SlidingRanks$Series", name := "copyFrom", desc := "(LSlidingRanks$Series;)V" } : Jvm.MethodName)) ∈ kwL := kw_at 438 rfl rfl
set_option maxRecDepth 100000 in
theorem kw_439 : (Jvm.Cond.code ({ cls := "SlidingRanks$Series", name := "copyFrom", desc := "(LSlidingRanks$Series;)V" } : Jvm.MethodName) prog_3_method_3_code (2 : Nat) (Option.none : Option Jvm.ClassFile.FieldType)) ∈ kwL := kw_at 439 rfl rfl
set_option maxRecDepth 100000 in
theorem kw_440 : (Jvm.Cond.methodLink "SlidingRanks$Series" (40 : Nat) ({ cls := "java/lang/System", name := "arraycopy", desc := "(Ljava/lang/Object;ILjava/lang/Object;II)V" } : Jvm.MethodName)) ∈ kwL := kw_at 440 rfl rfl
set_option maxRecDepth 100000 in
theorem kw_441 : (Jvm.Cond.static ({ cls := "java/lang/System", name := "arraycopy", desc := "(Ljava/lang/Object;ILjava/lang/Object;II)V" } : Jvm.MethodName)) ∈ kwL := kw_at 441 rfl rfl
set_option maxRecDepth 100000 in
theorem kw_442 : (Jvm.Cond.native ({ cls := "java/lang/System", name := "arraycopy", desc := "(Ljava/lang/Object;ILjava/lang/Object;II)V" } : Jvm.MethodName)) ∈ kwL := kw_at 442 rfl rfl
set_option maxRecDepth 100000 in
theorem kw_443 : (Jvm.Cond.methodLink "SlidingRanksLaw" (27 : Nat) ({ cls := "SlidingRanks", name := "fault", desc := "()I" } : Jvm.MethodName)) ∈ kwL := kw_at 443 rfl rfl
set_option maxRecDepth 100000 in
theorem kw_444 : (Jvm.Cond.instanceMethod ({ cls := "SlidingRanks", name := "fault", desc := "()I" } : Jvm.MethodName)) ∈ kwL := kw_at 444 rfl rfl
set_option maxRecDepth 100000 in
theorem kw_445 : (Jvm.Cond.selects "SlidingRanks" ({ cls := "SlidingRanks", name := "fault", desc := "()I" } : Jvm.MethodName) ({ cls := "SlidingRanks", name := "fault", desc := "()I" } : Jvm.MethodName)) ∈ kwL := kw_at 445 rfl rfl
set_option maxRecDepth 100000 in
theorem kw_446 : (Jvm.Cond.code ({ cls := "SlidingRanks", name := "fault", desc := "()I" } : Jvm.MethodName) prog_1_method_5_code (1 : Nat) (Option.some Jvm.ClassFile.FieldType.int)) ∈ kwL := kw_at 446 rfl rfl
set_option maxRecDepth 100000 in
theorem kw_447 : (Jvm.Cond.methodLink "SlidingRanksLaw" (31 : Nat) ({ cls := "SlidingRanks", name := "rule", desc := "(I)I" } : Jvm.MethodName)) ∈ kwL := kw_at 447 rfl rfl
set_option maxRecDepth 100000 in
theorem kw_448 : (Jvm.Cond.instanceMethod ({ cls := "SlidingRanks", name := "rule", desc := "(I)I" } : Jvm.MethodName)) ∈ kwL := kw_at 448 rfl rfl
set_option maxRecDepth 100000 in
theorem kw_449 : (Jvm.Cond.selects "SlidingRanks" ({ cls := "SlidingRanks", name := "rule", desc := "(I)I" } : Jvm.MethodName) ({ cls := "SlidingRanks", name := "rule", desc := "(I)I" } : Jvm.MethodName)) ∈ kwL := kw_at 449 rfl rfl
set_option maxRecDepth 100000 in
theorem kw_450 : (Jvm.Cond.code ({ cls := "SlidingRanks", name := "rule", desc := "(I)I" } : Jvm.MethodName) prog_1_method_6_code (2 : Nat) (Option.some Jvm.ClassFile.FieldType.int)) ∈ kwL := kw_at 450 rfl rfl
set_option maxRecDepth 100000 in
theorem kw_451 : (Jvm.Cond.methodLink "SlidingRanks" (95 : Nat) ({ cls := "SlidingRanks$Series", name := "countMissing", desc := "()I" } : Jvm.MethodName)) ∈ kwL := kw_at 451 rfl rfl
set_option maxRecDepth 100000 in
theorem kw_452 : (Jvm.Cond.instanceMethod ({ cls := "SlidingRanks$Series", name := "countMissing", desc := "()I" } : Jvm.MethodName)) ∈ kwL := kw_at 452 rfl rfl
set_option maxRecDepth 100000 in
theorem kw_453 : (Jvm.Cond.selects "SlidingRanks$Series" ({ cls := "SlidingRanks$Series", name := "countMissing", desc := "()I" } : Jvm.MethodName) ({ cls := "SlidingRanks$Series", name := "countMissing", desc := "()I" } : Jvm.MethodName)) ∈ kwL := kw_at 453 rfl rfl
set_option maxRecDepth 100000 in
theorem kw_454 : (Jvm.Cond.code ({ cls := "SlidingRanks$Series", name := "countMissing", desc := "()I" } : Jvm.MethodName) prog_3_method_10_code (3 : Nat) (Option.some Jvm.ClassFile.FieldType.int)) ∈ kwL := kw_at 454 rfl rfl
set_option maxRecDepth 100000 in
theorem kw_455 : (Jvm.Cond.constant "SlidingRanks$Series" (50 : Nat) (100000000 : Int32)) ∈ kwL := kw_at 455 rfl rfl
set_option maxRecDepth 100000 in
theorem kw_456 : (Jvm.Cond.methodLink "SlidingRanks" (117 : Nat) ({ cls := "SlidingRanks", name := "countResults", desc := "()I" } : Jvm.MethodName)) ∈ kwL := kw_at 456 rfl rfl
set_option maxRecDepth 100000 in
theorem kw_458 : (Jvm.Cond.instanceMethod ({ cls := "SlidingRanks", name := "countResults", desc := "()I" } : Jvm.MethodName)) ∈ kwL := kw_at 458 rfl rfl
set_option maxRecDepth 100000 in
theorem kw_459 : (Jvm.Cond.code ({ cls := "SlidingRanks", name := "countResults", desc := "()I" } : Jvm.MethodName) prog_1_method_43_code (3 : Nat) (Option.some Jvm.ClassFile.FieldType.int)) ∈ kwL := kw_at 459 rfl rfl
set_option maxRecDepth 100000 in
theorem kw_460 : (Jvm.Cond.methodLink "SlidingRanks" (182 : Nat) ({ cls := "SlidingRanks$Row", name := "clear", desc := "()V" } : Jvm.MethodName)) ∈ kwL := kw_at 460 rfl rfl
set_option maxRecDepth 100000 in
theorem kw_461 : (Jvm.Cond.instanceMethod ({ cls := "SlidingRanks$Row", name := "clear", desc := "()V" } : Jvm.MethodName)) ∈ kwL := kw_at 461 rfl rfl
set_option maxRecDepth 100000 in
theorem kw_462 : (Jvm.Cond.selects "SlidingRanks$Row" ({ cls := "SlidingRanks$Row", name := "clear", desc := "()V" } : Jvm.MethodName) ({ cls := "SlidingRanks$Row", name := "clear", desc := "()V" } : Jvm.MethodName)) ∈ kwL := kw_at 462 rfl rfl
set_option maxRecDepth 100000 in
theorem kw_463 : (Jvm.Cond.code ({ cls := "SlidingRanks$Row", name := "clear", desc := "()V" } : Jvm.MethodName) prog_2_method_2_code (1 : Nat) (Option.none : Option Jvm.ClassFile.FieldType)) ∈ kwL := kw_at 463 rfl rfl
set_option maxRecDepth 100000 in
theorem kw_464 : (Jvm.Cond.methodLink "SlidingRanks" (185 : Nat) ({ cls := "SlidingRanks$Row", name := "slideTo", desc := "(I)V" } : Jvm.MethodName)) ∈ kwL := kw_at 464 rfl rfl
set_option maxRecDepth 100000 in
theorem kw_465 : (Jvm.Cond.instanceMethod ({ cls := "SlidingRanks$Row", name := "slideTo", desc := "(I)V" } : Jvm.MethodName)) ∈ kwL := kw_at 465 rfl rfl
set_option maxRecDepth 100000 in
theorem kw_466 : (Jvm.Cond.selects "SlidingRanks$Row" ({ cls := "SlidingRanks$Row", name := "slideTo", desc := "(I)V" } : Jvm.MethodName) ({ cls := "SlidingRanks$Row", name := "slideTo", desc := "(I)V" } : Jvm.MethodName)) ∈ kwL := kw_at 466 rfl rfl
set_option maxRecDepth 100000 in
theorem kw_467 : (Jvm.Cond.code ({ cls := "SlidingRanks$Row", name := "slideTo", desc := "(I)V" } : Jvm.MethodName) prog_2_method_4_code (2 : Nat) (Option.none : Option Jvm.ClassFile.FieldType)) ∈ kwL := kw_at 467 rfl rfl
set_option maxRecDepth 100000 in
theorem kw_468 : (Jvm.Cond.methodLink "SlidingRanks$Row" (37 : Nat) ({ cls := "SlidingRanks$Series", name := "valueAt", desc := "(I)I" } : Jvm.MethodName)) ∈ kwL := kw_at 468 rfl rfl
set_option maxRecDepth 100000 in
theorem kw_469 : (Jvm.Cond.instanceMethod ({ cls := "SlidingRanks$Series", name := "valueAt", desc := "(I)I" } : Jvm.MethodName)) ∈ kwL := kw_at 469 rfl rfl
set_option maxRecDepth 100000 in
theorem kw_470 : (Jvm.Cond.selects "SlidingRanks$Series" ({ cls := "SlidingRanks$Series", name := "valueAt", desc := "(I)I" } : Jvm.MethodName) ({ cls := "SlidingRanks$Series", name := "valueAt", desc := "(I)I" } : Jvm.MethodName)) ∈ kwL := kw_at 470 rfl rfl
set_option maxRecDepth 100000 in
theorem kw_471 : (Jvm.Cond.code ({ cls := "SlidingRanks$Series", name := "valueAt", desc := "(I)I" } : Jvm.MethodName) prog_3_method_6_code (2 : Nat) (Option.some Jvm.ClassFile.FieldType.int)) ∈ kwL := kw_at 471 rfl rfl
set_option maxRecDepth 100000 in
theorem kw_472 : (Jvm.Cond.methodLink "SlidingRanks$Row" (45 : Nat) ({ cls := "SlidingRanks$Row", name := "takeOut", desc := "(I)V" } : Jvm.MethodName)) ∈ kwL := kw_at 472 rfl rfl
set_option maxRecDepth 100000 in
theorem kw_474 : (Jvm.Cond.instanceMethod ({ cls := "SlidingRanks$Row", name := "takeOut", desc := "(I)V" } : Jvm.MethodName)) ∈ kwL := kw_at 474 rfl rfl
set_option maxRecDepth 100000 in
theorem kw_475 : (Jvm.Cond.code ({ cls := "SlidingRanks$Row", name := "takeOut", desc := "(I)V" } : Jvm.MethodName) prog_2_method_6_code (3 : Nat) (Option.none : Option Jvm.ClassFile.FieldType)) ∈ kwL := kw_at 475 rfl rfl
set_option maxRecDepth 100000 in
theorem kw_476 : (Jvm.Cond.methodLink "SlidingRanks$Row" (49 : Nat) ({ cls := "SlidingRanks$Row", name := "countLess", desc := "(I)I" } : Jvm.MethodName)) ∈ kwL := kw_at 476 rfl rfl
set_option maxRecDepth 100000 in
theorem kw_477 : (Jvm.Cond.instanceMethod ({ cls := "SlidingRanks$Row", name := "countLess", desc := "(I)I" } : Jvm.MethodName)) ∈ kwL := kw_at 477 rfl rfl
set_option maxRecDepth 100000 in
theorem kw_478 : (Jvm.Cond.selects "SlidingRanks$Row" ({ cls := "SlidingRanks$Row", name := "countLess", desc := "(I)I" } : Jvm.MethodName) ({ cls := "SlidingRanks$Row", name := "countLess", desc := "(I)I" } : Jvm.MethodName)) ∈ kwL := kw_at 478 rfl rfl
set_option maxRecDepth 100000 in
theorem kw_479 : (Jvm.Cond.code ({ cls := "SlidingRanks$Row", name := "countLess", desc := "(I)I" } : Jvm.MethodName) prog_2_method_8_code (3 : Nat) (Option.some Jvm.ClassFile.FieldType.int)) ∈ kwL := kw_at 479 rfl rfl
set_option maxRecDepth 100000 in
theorem kw_480 : (Jvm.Cond.methodLink "SlidingRanks$Row" (41 : Nat) ({ cls := "SlidingRanks$Row", name := "putIn", desc := "(I)V" } : Jvm.MethodName)) ∈ kwL := kw_at 480 rfl rfl
set_option maxRecDepth 100000 in
theorem kw_482 : (Jvm.Cond.instanceMethod ({ cls := "SlidingRanks$Row", name := "putIn", desc := "(I)V" } : Jvm.MethodName)) ∈ kwL := kw_at 482 rfl rfl
set_option maxRecDepth 100000 in
theorem kw_483 : (Jvm.Cond.code ({ cls := "SlidingRanks$Row", name := "putIn", desc := "(I)V" } : Jvm.MethodName) prog_2_method_5_code (3 : Nat) (Option.none : Option Jvm.ClassFile.FieldType)) ∈ kwL := kw_at 483 rfl rfl
set_option maxRecDepth 100000 in
theorem kw_484 : (Jvm.Cond.constant "SlidingRanks$Row" (48 : Nat) (100000000 : Int32)) ∈ kwL := kw_at 484 rfl rfl
set_option maxRecDepth 100000 in
theorem kw_485 : (Jvm.Cond.methodLink "SlidingRanks" (134 : Nat) ({ cls := "SlidingRanks$Row", name := "hasResult", desc := "()Z" } : Jvm.MethodName)) ∈ kwL := kw_at 485 rfl rfl
set_option maxRecDepth 100000 in
theorem kw_486 : (Jvm.Cond.instanceMethod ({ cls := "SlidingRanks$Row", name := "hasResult", desc := "()Z" } : Jvm.MethodName)) ∈ kwL := kw_at 486 rfl rfl
set_option maxRecDepth 100000 in
theorem kw_487 : (Jvm.Cond.selects "SlidingRanks$Row" ({ cls := "SlidingRanks$Row", name := "hasResult", desc := "()Z" } : Jvm.MethodName) ({ cls := "SlidingRanks$Row", name := "hasResult", desc := "()Z" } : Jvm.MethodName)) ∈ kwL := kw_at 487 rfl rfl
set_option maxRecDepth 100000 in
theorem kw_488 : (Jvm.Cond.code ({ cls := "SlidingRanks$Row", name := "hasResult", desc := "()Z" } : Jvm.MethodName) prog_2_method_10_code (1 : Nat) (Option.some Jvm.ClassFile.FieldType.boolean)) ∈ kwL := kw_at 488 rfl rfl
set_option maxRecDepth 100000 in
theorem kw_489 : (Jvm.Cond.methodLink "SlidingRanksLaw" (35 : Nat) ({ cls := "SlidingRanks", name := "reading", desc := "(I)I" } : Jvm.MethodName)) ∈ kwL := kw_at 489 rfl rfl
set_option maxRecDepth 100000 in
theorem kw_490 : (Jvm.Cond.instanceMethod ({ cls := "SlidingRanks", name := "reading", desc := "(I)I" } : Jvm.MethodName)) ∈ kwL := kw_at 490 rfl rfl
set_option maxRecDepth 100000 in
theorem kw_491 : (Jvm.Cond.selects "SlidingRanks" ({ cls := "SlidingRanks", name := "reading", desc := "(I)I" } : Jvm.MethodName) ({ cls := "SlidingRanks", name := "reading", desc := "(I)I" } : Jvm.MethodName)) ∈ kwL := kw_at 491 rfl rfl
set_option maxRecDepth 100000 in
theorem kw_492 : (Jvm.Cond.code ({ cls := "SlidingRanks", name := "reading", desc := "(I)I" } : Jvm.MethodName) prog_1_method_7_code (2 : Nat) (Option.some Jvm.ClassFile.FieldType.int)) ∈ kwL := kw_at 492 rfl rfl
set_option maxRecDepth 100000 in
theorem kw_493 : (Jvm.Cond.methodLink "SlidingRanks" (120 : Nat) ({ cls := "SlidingRanks$Series", name := "valueAt", desc := "(I)I" } : Jvm.MethodName)) ∈ kwL := kw_at 493 rfl rfl
set_option maxRecDepth 100000 in
theorem kw_494 : (Jvm.Cond.methodLink "SlidingRanksLaw" (39 : Nat) ({ cls := "SlidingRanks", name := "row", desc := "(II)I" } : Jvm.MethodName)) ∈ kwL := kw_at 494 rfl rfl
set_option maxRecDepth 100000 in
theorem kw_495 : (Jvm.Cond.instanceMethod ({ cls := "SlidingRanks", name := "row", desc := "(II)I" } : Jvm.MethodName)) ∈ kwL := kw_at 495 rfl rfl
set_option maxRecDepth 100000 in
theorem kw_496 : (Jvm.Cond.selects "SlidingRanks" ({ cls := "SlidingRanks", name := "row", desc := "(II)I" } : Jvm.MethodName) ({ cls := "SlidingRanks", name := "row", desc := "(II)I" } : Jvm.MethodName)) ∈ kwL := kw_at 496 rfl rfl
set_option maxRecDepth 100000 in
theorem kw_497 : (Jvm.Cond.code ({ cls := "SlidingRanks", name := "row", desc := "(II)I" } : Jvm.MethodName) prog_1_method_8_code (3 : Nat) (Option.some Jvm.ClassFile.FieldType.int)) ∈ kwL := kw_at 497 rfl rfl
set_option maxRecDepth 100000 in
theorem kw_498 : (Jvm.Cond.methodLink "SlidingRanks" (124 : Nat) ({ cls := "SlidingRanks$Series", name := "has", desc := "(I)Z" } : Jvm.MethodName)) ∈ kwL := kw_at 498 rfl rfl
set_option maxRecDepth 100000 in
theorem kw_499 : (Jvm.Cond.methodLink "SlidingRanks" (128 : Nat) ({ cls := "SlidingRanks$Row", name := "load", desc := "(I)V" } : Jvm.MethodName)) ∈ kwL := kw_at 499 rfl rfl
set_option maxRecDepth 100000 in
theorem kw_500 : (Jvm.Cond.instanceMethod ({ cls := "SlidingRanks$Row", name := "load", desc := "(I)V" } : Jvm.MethodName)) ∈ kwL := kw_at 500 rfl rfl
set_option maxRecDepth 100000 in
theorem kw_501 : (Jvm.Cond.selects "SlidingRanks$Row" ({ cls := "SlidingRanks$Row", name := "load", desc := "(I)V" } : Jvm.MethodName) ({ cls := "SlidingRanks$Row", name := "load", desc := "(I)V" } : Jvm.MethodName)) ∈ kwL := kw_at 501 rfl rfl
set_option maxRecDepth 100000 in
theorem kw_502 : (Jvm.Cond.code ({ cls := "SlidingRanks$Row", name := "load", desc := "(I)V" } : Jvm.MethodName) prog_2_method_3_code (3 : Nat) (Option.none : Option Jvm.ClassFile.FieldType)) ∈ kwL := kw_at 502 rfl rfl
set_option maxRecDepth 100000 in
theorem kw_503 : (Jvm.Cond.methodLink "SlidingRanks$Row" (23 : Nat) ({ cls := "SlidingRanks$Row", name := "clear", desc := "()V" } : Jvm.MethodName)) ∈ kwL := kw_at 503 rfl rfl
set_option maxRecDepth 100000 in
theorem kw_504 : (Jvm.Cond.methodLink "SlidingRanks$Row" (31 : Nat) ({ cls := "java/lang/Math", name := "max", desc := "(II)I" } : Jvm.MethodName)) ∈ kwL := kw_at 504 rfl rfl
set_option maxRecDepth 100000 in
theorem kw_505 : (Jvm.Cond.methodLink "SlidingRanks" (137 : Nat) ({ cls := "SlidingRanks$Row", name := "placeWhole", desc := "()I" } : Jvm.MethodName)) ∈ kwL := kw_at 505 rfl rfl
set_option maxRecDepth 100000 in
theorem kw_506 : (Jvm.Cond.instanceMethod ({ cls := "SlidingRanks$Row", name := "placeWhole", desc := "()I" } : Jvm.MethodName)) ∈ kwL := kw_at 506 rfl rfl
set_option maxRecDepth 100000 in
theorem kw_507 : (Jvm.Cond.selects "SlidingRanks$Row" ({ cls := "SlidingRanks$Row", name := "placeWhole", desc := "()I" } : Jvm.MethodName) ({ cls := "SlidingRanks$Row", name := "placeWhole", desc := "()I" } : Jvm.MethodName)) ∈ kwL := kw_at 507 rfl rfl
set_option maxRecDepth 100000 in
theorem kw_508 : (Jvm.Cond.code ({ cls := "SlidingRanks$Row", name := "placeWhole", desc := "()I" } : Jvm.MethodName) prog_2_method_11_code (1 : Nat) (Option.some Jvm.ClassFile.FieldType.int)) ∈ kwL := kw_at 508 rfl rfl
set_option maxRecDepth 100000 in
theorem kw_509 : (Jvm.Cond.methodLink "SlidingRanks" (140 : Nat) ({ cls := "SlidingRanks$Row", name := "placeRest", desc := "()I" } : Jvm.MethodName)) ∈ kwL := kw_at 509 rfl rfl
set_option maxRecDepth 100000 in
theorem kw_510 : (Jvm.Cond.instanceMethod ({ cls := "SlidingRanks$Row", name := "placeRest", desc := "()I" } : Jvm.MethodName)) ∈ kwL := kw_at 510 rfl rfl
set_option maxRecDepth 100000 in
theorem kw_511 : (Jvm.Cond.selects "SlidingRanks$Row" ({ cls := "SlidingRanks$Row", name := "placeRest", desc := "()I" } : Jvm.MethodName) ({ cls := "SlidingRanks$Row", name := "placeRest", desc := "()I" } : Jvm.MethodName)) ∈ kwL := kw_at 511 rfl rfl
set_option maxRecDepth 100000 in
theorem kw_512 : (Jvm.Cond.code ({ cls := "SlidingRanks$Row", name := "placeRest", desc := "()I" } : Jvm.MethodName) prog_2_method_12_code (1 : Nat) (Option.some Jvm.ClassFile.FieldType.int)) ∈ kwL := kw_at 512 rfl rfl
set_option maxRecDepth 100000 in
theorem kw_513 : (Jvm.Cond.methodLink "SlidingRanksLaw" (44 : Nat) ({ cls := "SlidingRanks", name := "item", desc := "(II)I" } : Jvm.MethodName)) ∈ kwL := kw_at 513 rfl rfl
set_option maxRecDepth 100000 in
theorem kw_514 : (Jvm.Cond.instanceMethod ({ cls := "SlidingRanks", name := "item", desc := "(II)I" } : Jvm.MethodName)) ∈ kwL := kw_at 514 rfl rfl
set_option maxRecDepth 100000 in
theorem kw_515 : (Jvm.Cond.selects "SlidingRanks" ({ cls := "SlidingRanks", name := "item", desc := "(II)I" } : Jvm.MethodName) ({ cls := "SlidingRanks", name := "item", desc := "(II)I" } : Jvm.MethodName)) ∈ kwL := kw_at 515 rfl rfl
set_option maxRecDepth 100000 in
theorem kw_516 : (Jvm.Cond.code ({ cls := "SlidingRanks", name := "item", desc := "(II)I" } : Jvm.MethodName) prog_1_method_9_code (3 : Nat) (Option.some Jvm.ClassFile.FieldType.int)) ∈ kwL := kw_at 516 rfl rfl
set_option maxRecDepth 100000 in
theorem kw_517 : (Jvm.Cond.constant "SlidingRanks" (143 : Nat) (100000000 : Int32)) ∈ kwL := kw_at 517 rfl rfl
set_option maxRecDepth 100000 in
theorem kw_518 : (Jvm.Cond.methodLink "SlidingRanks" (144 : Nat) ({ cls := "SlidingRanks$Row", name := "at", desc := "(I)I" } : Jvm.MethodName)) ∈ kwL := kw_at 518 rfl rfl
set_option maxRecDepth 100000 in
theorem kw_519 : (Jvm.Cond.instanceMethod ({ cls := "SlidingRanks$Row", name := "at", desc := "(I)I" } : Jvm.MethodName)) ∈ kwL := kw_at 519 rfl rfl
set_option maxRecDepth 100000 in
theorem kw_520 : (Jvm.Cond.selects "SlidingRanks$Row" ({ cls := "SlidingRanks$Row", name := "at", desc := "(I)I" } : Jvm.MethodName) ({ cls := "SlidingRanks$Row", name := "at", desc := "(I)I" } : Jvm.MethodName)) ∈ kwL := kw_at 520 rfl rfl
set_option maxRecDepth 100000 in
theorem kw_521 : (Jvm.Cond.code ({ cls := "SlidingRanks$Row", name := "at", desc := "(I)I" } : Jvm.MethodName) prog_2_method_7_code (2 : Nat) (Option.some Jvm.ClassFile.FieldType.int)) ∈ kwL := kw_at 521 rfl rfl
set_option maxRecDepth 100000 in
theorem kw_522 : (Jvm.Cond.methodLink "SlidingRanksLaw" (48 : Nat) ({ cls := "SlidingRanks", name := "result", desc := "(II)I" } : Jvm.MethodName)) ∈ kwL := kw_at 522 rfl rfl
set_option maxRecDepth 100000 in
theorem kw_523 : (Jvm.Cond.instanceMethod ({ cls := "SlidingRanks", name := "result", desc := "(II)I" } : Jvm.MethodName)) ∈ kwL := kw_at 523 rfl rfl
set_option maxRecDepth 100000 in
theorem kw_524 : (Jvm.Cond.selects "SlidingRanks" ({ cls := "SlidingRanks", name := "result", desc := "(II)I" } : Jvm.MethodName) ({ cls := "SlidingRanks", name := "result", desc := "(II)I" } : Jvm.MethodName)) ∈ kwL := kw_at 524 rfl rfl
set_option maxRecDepth 100000 in
theorem kw_525 : (Jvm.Cond.code ({ cls := "SlidingRanks", name := "result", desc := "(II)I" } : Jvm.MethodName) prog_1_method_10_code (3 : Nat) (Option.some Jvm.ClassFile.FieldType.int)) ∈ kwL := kw_at 525 rfl rfl
set_option maxRecDepth 100000 in
theorem kw_526 : (Jvm.Cond.methodLink "SlidingRanks" (147 : Nat) ({ cls := "SlidingRanks$Row", name := "numerator", desc := "()I" } : Jvm.MethodName)) ∈ kwL := kw_at 526 rfl rfl
set_option maxRecDepth 100000 in
theorem kw_527 : (Jvm.Cond.instanceMethod ({ cls := "SlidingRanks$Row", name := "numerator", desc := "()I" } : Jvm.MethodName)) ∈ kwL := kw_at 527 rfl rfl
set_option maxRecDepth 100000 in
theorem kw_528 : (Jvm.Cond.selects "SlidingRanks$Row" ({ cls := "SlidingRanks$Row", name := "numerator", desc := "()I" } : Jvm.MethodName) ({ cls := "SlidingRanks$Row", name := "numerator", desc := "()I" } : Jvm.MethodName)) ∈ kwL := kw_at 528 rfl rfl
set_option maxRecDepth 100000 in
theorem kw_529 : (Jvm.Cond.code ({ cls := "SlidingRanks$Row", name := "numerator", desc := "()I" } : Jvm.MethodName) prog_2_method_13_code (5 : Nat) (Option.some Jvm.ClassFile.FieldType.int)) ∈ kwL := kw_at 529 rfl rfl
set_option maxRecDepth 100000 in
theorem kw_530 : (Jvm.Cond.methodLink "SlidingRanks$Row" (61 : Nat) ({ cls := "SlidingRanks$Row", name := "placeWhole", desc := "()I" } : Jvm.MethodName)) ∈ kwL := kw_at 530 rfl rfl
set_option maxRecDepth 100000 in
theorem kw_531 : (Jvm.Cond.methodLink "SlidingRanks$Row" (65 : Nat) ({ cls := "SlidingRanks$Row", name := "placeRest", desc := "()I" } : Jvm.MethodName)) ∈ kwL := kw_at 531 rfl rfl
set_option maxRecDepth 100000 in
theorem kw_532 : (Jvm.Cond.methodLink "SlidingRanks$Row" (68 : Nat) ({ cls := "SlidingRanks$Row", name := "at", desc := "(I)I" } : Jvm.MethodName)) ∈ kwL := kw_at 532 rfl rfl
set_option maxRecDepth 100000 in
theorem kw_533 : (Jvm.Cond.methodLink "SlidingRanks$Row" (74 : Nat) ({ cls := "SlidingRanks$Row", name := "isNearLower", desc := "(II)Z" } : Jvm.MethodName)) ∈ kwL := kw_at 533 rfl rfl
set_option maxRecDepth 100000 in
theorem kw_535 : (Jvm.Cond.instanceMethod ({ cls := "SlidingRanks$Row", name := "isNearLower", desc := "(II)Z" } : Jvm.MethodName)) ∈ kwL := kw_at 535 rfl rfl
set_option maxRecDepth 100000 in
theorem kw_536 : (Jvm.Cond.code ({ cls := "SlidingRanks$Row", name := "isNearLower", desc := "(II)Z" } : Jvm.MethodName) prog_2_method_14_code (3 : Nat) (Option.some Jvm.ClassFile.FieldType.boolean)) ∈ kwL := kw_at 536 rfl rfl
set_option maxRecDepth 100000 in
theorem kw_537 : (Jvm.Cond.methodLink "SlidingRanks" (150 : Nat) ({ cls := "SlidingRanks$Row", name := "denominator", desc := "()I" } : Jvm.MethodName)) ∈ kwL := kw_at 537 rfl rfl
set_option maxRecDepth 100000 in
theorem kw_538 : (Jvm.Cond.instanceMethod ({ cls := "SlidingRanks$Row", name := "denominator", desc := "()I" } : Jvm.MethodName)) ∈ kwL := kw_at 538 rfl rfl
set_option maxRecDepth 100000 in
theorem kw_539 : (Jvm.Cond.selects "SlidingRanks$Row" ({ cls := "SlidingRanks$Row", name := "denominator", desc := "()I" } : Jvm.MethodName) ({ cls := "SlidingRanks$Row", name := "denominator", desc := "()I" } : Jvm.MethodName)) ∈ kwL := kw_at 539 rfl rfl
set_option maxRecDepth 100000 in
theorem kw_540 : (Jvm.Cond.code ({ cls := "SlidingRanks$Row", name := "denominator", desc := "()I" } : Jvm.MethodName) prog_2_method_15_code (1 : Nat) (Option.some Jvm.ClassFile.FieldType.int)) ∈ kwL := kw_at 540 rfl rfl
set_option maxRecDepth 100000 in
theorem kw_541 : (Jvm.Cond.methodLink "SlidingRanks" (153 : Nat) ({ cls := "SlidingRanks$Row", name := "rounded", desc := "()I" } : Jvm.MethodName)) ∈ kwL := kw_at 541 rfl rfl
set_option maxRecDepth 100000 in
theorem kw_542 : (Jvm.Cond.instanceMethod ({ cls := "SlidingRanks$Row", name := "rounded", desc := "()I" } : Jvm.MethodName)) ∈ kwL := kw_at 542 rfl rfl
set_option maxRecDepth 100000 in
theorem kw_543 : (Jvm.Cond.selects "SlidingRanks$Row" ({ cls := "SlidingRanks$Row", name := "rounded", desc := "()I" } : Jvm.MethodName) ({ cls := "SlidingRanks$Row", name := "rounded", desc := "()I" } : Jvm.MethodName)) ∈ kwL := kw_at 543 rfl rfl
set_option maxRecDepth 100000 in
theorem kw_544 : (Jvm.Cond.code ({ cls := "SlidingRanks$Row", name := "rounded", desc := "()I" } : Jvm.MethodName) prog_2_method_16_code (4 : Nat) (Option.some Jvm.ClassFile.FieldType.int)) ∈ kwL := kw_at 544 rfl rfl
set_option maxRecDepth 100000 in
theorem kw_545 : (Jvm.Cond.methodLink "SlidingRanks$Row" (78 : Nat) ({ cls := "SlidingRanks$Row", name := "numerator", desc := "()I" } : Jvm.MethodName)) ∈ kwL := kw_at 545 rfl rfl
set_option maxRecDepth 100000 in
theorem kw_546 : (Jvm.Cond.methodLink "SlidingRanks$Row" (81 : Nat) ({ cls := "SlidingRanks$Row", name := "denominator", desc := "()I" } : Jvm.MethodName)) ∈ kwL := kw_at 546 rfl rfl
set_option maxRecDepth 100000 in
theorem kw_547 : (Jvm.Cond.methodLink "SlidingRanks$Row" (84 : Nat) ({ cls := "java/lang/Math", name := "abs", desc := "(I)I" } : Jvm.MethodName)) ∈ kwL := kw_at 547 rfl rfl
set_option maxRecDepth 100000 in
theorem kw_548 : (Jvm.Cond.static ({ cls := "java/lang/Math", name := "abs", desc := "(I)I" } : Jvm.MethodName)) ∈ kwL := kw_at 548 rfl rfl
set_option maxRecDepth 100000 in
theorem kw_549 : (Jvm.Cond.code ({ cls := "java/lang/Math", name := "abs", desc := "(I)I" } : Jvm.MethodName) prog_10_method_59_code (1 : Nat) (Option.some Jvm.ClassFile.FieldType.int)) ∈ kwL := kw_at 549 rfl rfl
set_option maxRecDepth 100000 in
theorem kw_550 : (Jvm.Cond.methodLink "SlidingRanksLaw" (52 : Nat) ({ cls := "SlidingRanks", name := "rank", desc := "(III)I" } : Jvm.MethodName)) ∈ kwL := kw_at 550 rfl rfl
set_option maxRecDepth 100000 in
theorem kw_551 : (Jvm.Cond.instanceMethod ({ cls := "SlidingRanks", name := "rank", desc := "(III)I" } : Jvm.MethodName)) ∈ kwL := kw_at 551 rfl rfl
set_option maxRecDepth 100000 in
theorem kw_552 : (Jvm.Cond.selects "SlidingRanks" ({ cls := "SlidingRanks", name := "rank", desc := "(III)I" } : Jvm.MethodName) ({ cls := "SlidingRanks", name := "rank", desc := "(III)I" } : Jvm.MethodName)) ∈ kwL := kw_at 552 rfl rfl
set_option maxRecDepth 100000 in
theorem kw_553 : (Jvm.Cond.code ({ cls := "SlidingRanks", name := "rank", desc := "(III)I" } : Jvm.MethodName) prog_1_method_11_code (4 : Nat) (Option.some Jvm.ClassFile.FieldType.int)) ∈ kwL := kw_at 553 rfl rfl
set_option maxRecDepth 100000 in
theorem kw_554 : (Jvm.Cond.methodLink "SlidingRanks" (156 : Nat) ({ cls := "SlidingRanks$Row", name := "countLess", desc := "(I)I" } : Jvm.MethodName)) ∈ kwL := kw_at 554 rfl rfl
set_option maxRecDepth 100000 in
theorem kw_555 : (Jvm.Cond.methodLink "SlidingRanks" (159 : Nat) ({ cls := "SlidingRanks$Row", name := "countSame", desc := "(I)I" } : Jvm.MethodName)) ∈ kwL := kw_at 555 rfl rfl
set_option maxRecDepth 100000 in
theorem kw_556 : (Jvm.Cond.instanceMethod ({ cls := "SlidingRanks$Row", name := "countSame", desc := "(I)I" } : Jvm.MethodName)) ∈ kwL := kw_at 556 rfl rfl
set_option maxRecDepth 100000 in
theorem kw_557 : (Jvm.Cond.selects "SlidingRanks$Row" ({ cls := "SlidingRanks$Row", name := "countSame", desc := "(I)I" } : Jvm.MethodName) ({ cls := "SlidingRanks$Row", name := "countSame", desc := "(I)I" } : Jvm.MethodName)) ∈ kwL := kw_at 557 rfl rfl
set_option maxRecDepth 100000 in
theorem kw_558 : (Jvm.Cond.code ({ cls := "SlidingRanks$Row", name := "countSame", desc := "(I)I" } : Jvm.MethodName) prog_2_method_9_code (4 : Nat) (Option.some Jvm.ClassFile.FieldType.int)) ∈ kwL := kw_at 558 rfl rfl
set_option maxRecDepth 100000 in
theorem kw_559 : (Jvm.Cond.methodLink "SlidingRanksLaw" (57 : Nat) ({ cls := "SlidingRanks", name := "shown", desc := "(II)I" } : Jvm.MethodName)) ∈ kwL := kw_at 559 rfl rfl
set_option maxRecDepth 100000 in
theorem kw_560 : (Jvm.Cond.instanceMethod ({ cls := "SlidingRanks", name := "shown", desc := "(II)I" } : Jvm.MethodName)) ∈ kwL := kw_at 560 rfl rfl
set_option maxRecDepth 100000 in
theorem kw_561 : (Jvm.Cond.selects "SlidingRanks" ({ cls := "SlidingRanks", name := "shown", desc := "(II)I" } : Jvm.MethodName) ({ cls := "SlidingRanks", name := "shown", desc := "(II)I" } : Jvm.MethodName)) ∈ kwL := kw_at 561 rfl rfl
set_option maxRecDepth 100000 in
theorem kw_562 : (Jvm.Cond.code ({ cls := "SlidingRanks", name := "shown", desc := "(II)I" } : Jvm.MethodName) prog_1_method_12_code (3 : Nat) (Option.some Jvm.ClassFile.FieldType.int)) ∈ kwL := kw_at 562 rfl rfl
set_option maxRecDepth 100000 in
theorem kw_563 : (Jvm.Cond.methodLink "SlidingRanks" (162 : Nat) ({ cls := "SlidingRanks", name := "writeWords", desc := "()V" } : Jvm.MethodName)) ∈ kwL := kw_at 563 rfl rfl
set_option maxRecDepth 100000 in
theorem kw_565 : (Jvm.Cond.instanceMethod ({ cls := "SlidingRanks", name := "writeWords", desc := "()V" } : Jvm.MethodName)) ∈ kwL := kw_at 565 rfl rfl
set_option maxRecDepth 100000 in
theorem kw_566 : (Jvm.Cond.code ({ cls := "SlidingRanks", name := "writeWords", desc := "()V" } : Jvm.MethodName) prog_1_method_46_code (1 : Nat) (Option.none : Option Jvm.ClassFile.FieldType)) ∈ kwL := kw_at 566 rfl rfl
set_option maxRecDepth 100000 in
theorem kw_567 : (Jvm.Cond.methodLink "SlidingRanks" (260 : Nat) ({ cls := "SlidingRanks$Words", name := "writeNumber", desc := "(II)V" } : Jvm.MethodName)) ∈ kwL := kw_at 567 rfl rfl
set_option maxRecDepth 100000 in
theorem kw_568 : (Jvm.Cond.instanceMethod ({ cls := "SlidingRanks$Words", name := "writeNumber", desc := "(II)V" } : Jvm.MethodName)) ∈ kwL := kw_at 568 rfl rfl
set_option maxRecDepth 100000 in
theorem kw_569 : (Jvm.Cond.selects "SlidingRanks$Words" ({ cls := "SlidingRanks$Words", name := "writeNumber", desc := "(II)V" } : Jvm.MethodName) ({ cls := "SlidingRanks$Words", name := "writeNumber", desc := "(II)V" } : Jvm.MethodName)) ∈ kwL := kw_at 569 rfl rfl
set_option maxRecDepth 100000 in
theorem kw_570 : (Jvm.Cond.code ({ cls := "SlidingRanks$Words", name := "writeNumber", desc := "(II)V" } : Jvm.MethodName) prog_7_method_4_code (7 : Nat) (Option.none : Option Jvm.ClassFile.FieldType)) ∈ kwL := kw_at 570 rfl rfl
set_option maxRecDepth 100000 in
theorem kw_571 : (Jvm.Cond.methodLink "SlidingRanks$Words" (19 : Nat) ({ cls := "SlidingRanks$Words", name := "push", desc := "(I)V" } : Jvm.MethodName)) ∈ kwL := kw_at 571 rfl rfl
set_option maxRecDepth 100000 in
theorem kw_573 : (Jvm.Cond.instanceMethod ({ cls := "SlidingRanks$Words", name := "push", desc := "(I)V" } : Jvm.MethodName)) ∈ kwL := kw_at 573 rfl rfl
set_option maxRecDepth 100000 in
theorem kw_574 : (Jvm.Cond.code ({ cls := "SlidingRanks$Words", name := "push", desc := "(I)V" } : Jvm.MethodName) prog_7_method_6_code (2 : Nat) (Option.none : Option Jvm.ClassFile.FieldType)) ∈ kwL := kw_at 574 rfl rfl
set_option maxRecDepth 100000 in
theorem kw_575 : (Jvm.Cond.methodLink "SlidingRanks$Words" (23 : Nat) ({ cls := "java/lang/Math", name := "abs", desc := "(I)I" } : Jvm.MethodName)) ∈ kwL := kw_at 575 rfl rfl
set_option maxRecDepth 100000 in
theorem kw_576 : (Jvm.Cond.methodLink "SlidingRanks$Words" (29 : Nat) ({ cls := "SlidingRanks$Words", name := "writeWhole", desc := "(I)V" } : Jvm.MethodName)) ∈ kwL := kw_at 576 rfl rfl
set_option maxRecDepth 100000 in
theorem kw_578 : (Jvm.Cond.instanceMethod ({ cls := "SlidingRanks$Words", name := "writeWhole", desc := "(I)V" } : Jvm.MethodName)) ∈ kwL := kw_at 578 rfl rfl
set_option maxRecDepth 100000 in
theorem kw_579 : (Jvm.Cond.code ({ cls := "SlidingRanks$Words", name := "writeWhole", desc := "(I)V" } : Jvm.MethodName) prog_7_method_5_code (3 : Nat) (Option.none : Option Jvm.ClassFile.FieldType)) ∈ kwL := kw_at 579 rfl rfl
set_option maxRecDepth 100000 in
theorem kw_580 : (Jvm.Cond.methodLink "SlidingRanks" (263 : Nat) ({ cls := "SlidingRanks$Words", name := "writeNone", desc := "()V" } : Jvm.MethodName)) ∈ kwL := kw_at 580 rfl rfl
set_option maxRecDepth 100000 in
theorem kw_581 : (Jvm.Cond.instanceMethod ({ cls := "SlidingRanks$Words", name := "writeNone", desc := "()V" } : Jvm.MethodName)) ∈ kwL := kw_at 581 rfl rfl
set_option maxRecDepth 100000 in
theorem kw_582 : (Jvm.Cond.selects "SlidingRanks$Words" ({ cls := "SlidingRanks$Words", name := "writeNone", desc := "()V" } : Jvm.MethodName) ({ cls := "SlidingRanks$Words", name := "writeNone", desc := "()V" } : Jvm.MethodName)) ∈ kwL := kw_at 582 rfl rfl
set_option maxRecDepth 100000 in
theorem kw_583 : (Jvm.Cond.code ({ cls := "SlidingRanks$Words", name := "writeNone", desc := "()V" } : Jvm.MethodName) prog_7_method_3_code (1 : Nat) (Option.none : Option Jvm.ClassFile.FieldType)) ∈ kwL := kw_at 583 rfl rfl
set_option maxRecDepth 100000 in
theorem kw_584 : (Jvm.Cond.methodLink "SlidingRanks" (166 : Nat) ({ cls := "SlidingRanks$Words", name := "byteAt", desc := "(I)I" } : Jvm.MethodName)) ∈ kwL := kw_at 584 rfl rfl
set_option maxRecDepth 100000 in
theorem kw_585 : (Jvm.Cond.instanceMethod ({ cls := "SlidingRanks$Words", name := "byteAt", desc := "(I)I" } : Jvm.MethodName)) ∈ kwL := kw_at 585 rfl rfl
set_option maxRecDepth 100000 in
theorem kw_586 : (Jvm.Cond.selects "SlidingRanks$Words" ({ cls := "SlidingRanks$Words", name := "byteAt", desc := "(I)I" } : Jvm.MethodName) ({ cls := "SlidingRanks$Words", name := "byteAt", desc := "(I)I" } : Jvm.MethodName)) ∈ kwL := kw_at 586 rfl rfl
set_option maxRecDepth 100000 in
theorem kw_587 : (Jvm.Cond.code ({ cls := "SlidingRanks$Words", name := "byteAt", desc := "(I)I" } : Jvm.MethodName) prog_7_method_2_code (2 : Nat) (Option.some Jvm.ClassFile.FieldType.int)) ∈ kwL := kw_at 587 rfl rfl
set_option maxRecDepth 100000 in
theorem kw_588 : (Jvm.Cond.methodLink "SlidingRanksLaw" (61 : Nat) ({ cls := "SlidingRanks", name := "middle", desc := "(II)I" } : Jvm.MethodName)) ∈ kwL := kw_at 588 rfl rfl
set_option maxRecDepth 100000 in
theorem kw_589 : (Jvm.Cond.instanceMethod ({ cls := "SlidingRanks", name := "middle", desc := "(II)I" } : Jvm.MethodName)) ∈ kwL := kw_at 589 rfl rfl
set_option maxRecDepth 100000 in
theorem kw_590 : (Jvm.Cond.selects "SlidingRanks" ({ cls := "SlidingRanks", name := "middle", desc := "(II)I" } : Jvm.MethodName) ({ cls := "SlidingRanks", name := "middle", desc := "(II)I" } : Jvm.MethodName)) ∈ kwL := kw_at 590 rfl rfl
set_option maxRecDepth 100000 in
theorem kw_591 : (Jvm.Cond.code ({ cls := "SlidingRanks", name := "middle", desc := "(II)I" } : Jvm.MethodName) prog_1_method_13_code (3 : Nat) (Option.some Jvm.ClassFile.FieldType.int)) ∈ kwL := kw_at 591 rfl rfl
set_option maxRecDepth 100000 in
theorem kw_592 : (Jvm.Cond.methodLink "SlidingRanks" (169 : Nat) ({ cls := "SlidingRanks$Row", name := "middleValue", desc := "()I" } : Jvm.MethodName)) ∈ kwL := kw_at 592 rfl rfl
set_option maxRecDepth 100000 in
theorem kw_593 : (Jvm.Cond.instanceMethod ({ cls := "SlidingRanks$Row", name := "middleValue", desc := "()I" } : Jvm.MethodName)) ∈ kwL := kw_at 593 rfl rfl
set_option maxRecDepth 100000 in
theorem kw_594 : (Jvm.Cond.selects "SlidingRanks$Row" ({ cls := "SlidingRanks$Row", name := "middleValue", desc := "()I" } : Jvm.MethodName) ({ cls := "SlidingRanks$Row", name := "middleValue", desc := "()I" } : Jvm.MethodName)) ∈ kwL := kw_at 594 rfl rfl
set_option maxRecDepth 100000 in
theorem kw_595 : (Jvm.Cond.code ({ cls := "SlidingRanks$Row", name := "middleValue", desc := "()I" } : Jvm.MethodName) prog_2_method_18_code (1 : Nat) (Option.some Jvm.ClassFile.FieldType.int)) ∈ kwL := kw_at 595 rfl rfl
set_option maxRecDepth 100000 in
theorem kw_596 : (Jvm.Cond.methodLink "SlidingRanks" (172 : Nat) ({ cls := "SlidingRanks$Row", name := "spread", desc := "()I" } : Jvm.MethodName)) ∈ kwL := kw_at 596 rfl rfl
set_option maxRecDepth 100000 in
theorem kw_597 : (Jvm.Cond.instanceMethod ({ cls := "SlidingRanks$Row", name := "spread", desc := "()I" } : Jvm.MethodName)) ∈ kwL := kw_at 597 rfl rfl
set_option maxRecDepth 100000 in
theorem kw_598 : (Jvm.Cond.selects "SlidingRanks$Row" ({ cls := "SlidingRanks$Row", name := "spread", desc := "()I" } : Jvm.MethodName) ({ cls := "SlidingRanks$Row", name := "spread", desc := "()I" } : Jvm.MethodName)) ∈ kwL := kw_at 598 rfl rfl
set_option maxRecDepth 100000 in
theorem kw_599 : (Jvm.Cond.code ({ cls := "SlidingRanks$Row", name := "spread", desc := "()I" } : Jvm.MethodName) prog_2_method_19_code (8 : Nat) (Option.some Jvm.ClassFile.FieldType.int)) ∈ kwL := kw_at 599 rfl rfl
set_option maxRecDepth 100000 in
theorem kw_600 : (Jvm.Cond.methodLink "SlidingRanksLaw" (65 : Nat) ({ cls := "SlidingRanks", name := "far", desc := "(II)I" } : Jvm.MethodName)) ∈ kwL := kw_at 600 rfl rfl
set_option maxRecDepth 100000 in
theorem kw_601 : (Jvm.Cond.instanceMethod ({ cls := "SlidingRanks", name := "far", desc := "(II)I" } : Jvm.MethodName)) ∈ kwL := kw_at 601 rfl rfl
set_option maxRecDepth 100000 in
theorem kw_602 : (Jvm.Cond.selects "SlidingRanks" ({ cls := "SlidingRanks", name := "far", desc := "(II)I" } : Jvm.MethodName) ({ cls := "SlidingRanks", name := "far", desc := "(II)I" } : Jvm.MethodName)) ∈ kwL := kw_at 602 rfl rfl
set_option maxRecDepth 100000 in
theorem kw_603 : (Jvm.Cond.code ({ cls := "SlidingRanks", name := "far", desc := "(II)I" } : Jvm.MethodName) prog_1_method_14_code (3 : Nat) (Option.some Jvm.ClassFile.FieldType.int)) ∈ kwL := kw_at 603 rfl rfl
set_option maxRecDepth 100000 in
theorem kw_604 : (Jvm.Cond.methodLink "SlidingRanks" (175 : Nat) ({ cls := "SlidingRanks", name := "isFactor", desc := "(I)Z" } : Jvm.MethodName)) ∈ kwL := kw_at 604 rfl rfl
set_option maxRecDepth 100000 in
theorem kw_605 : (Jvm.Cond.static ({ cls := "SlidingRanks", name := "isFactor", desc := "(I)Z" } : Jvm.MethodName)) ∈ kwL := kw_at 605 rfl rfl
set_option maxRecDepth 100000 in
theorem kw_606 : (Jvm.Cond.code ({ cls := "SlidingRanks", name := "isFactor", desc := "(I)Z" } : Jvm.MethodName) prog_1_method_37_code (1 : Nat) (Option.some Jvm.ClassFile.FieldType.boolean)) ∈ kwL := kw_at 606 rfl rfl
set_option maxRecDepth 100000 in
theorem kw_607 : (Jvm.Cond.methodLink "SlidingRanks" (178 : Nat) ({ cls := "SlidingRanks$Row", name := "isFar", desc := "(II)Z" } : Jvm.MethodName)) ∈ kwL := kw_at 607 rfl rfl
set_option maxRecDepth 100000 in
theorem kw_608 : (Jvm.Cond.instanceMethod ({ cls := "SlidingRanks$Row", name := "isFar", desc := "(II)Z" } : Jvm.MethodName)) ∈ kwL := kw_at 608 rfl rfl
set_option maxRecDepth 100000 in
theorem kw_609 : (Jvm.Cond.selects "SlidingRanks$Row" ({ cls := "SlidingRanks$Row", name := "isFar", desc := "(II)Z" } : Jvm.MethodName) ({ cls := "SlidingRanks$Row", name := "isFar", desc := "(II)Z" } : Jvm.MethodName)) ∈ kwL := kw_at 609 rfl rfl
set_option maxRecDepth 100000 in
theorem kw_610 : (Jvm.Cond.code ({ cls := "SlidingRanks$Row", name := "isFar", desc := "(II)Z" } : Jvm.MethodName) prog_2_method_20_code (3 : Nat) (Option.some Jvm.ClassFile.FieldType.boolean)) ∈ kwL := kw_at 610 rfl rfl
set_option maxRecDepth 100000 in
theorem kw_611 : (Jvm.Cond.methodLink "SlidingRanks$Row" (91 : Nat) ({ cls := "SlidingRanks$Row", name := "middleValue", desc := "()I" } : Jvm.MethodName)) ∈ kwL := kw_at 611 rfl rfl
set_option maxRecDepth 100000 in
theorem kw_612 : (Jvm.Cond.methodLink "SlidingRanks$Row" (94 : Nat) ({ cls := "SlidingRanks$Row", name := "spread", desc := "()I" } : Jvm.MethodName)) ∈ kwL := kw_at 612 rfl rfl
set_option maxRecDepth 100000 in
theorem kw_613 : (Jvm.Cond.methodLink "SlidingRanksLaw" (69 : Nat) ({ cls := "SlidingRanks", name := "fars", desc := "(I)I" } : Jvm.MethodName)) ∈ kwL := kw_at 613 rfl rfl
set_option maxRecDepth 100000 in
theorem kw_614 : (Jvm.Cond.instanceMethod ({ cls := "SlidingRanks", name := "fars", desc := "(I)I" } : Jvm.MethodName)) ∈ kwL := kw_at 614 rfl rfl
set_option maxRecDepth 100000 in
theorem kw_615 : (Jvm.Cond.selects "SlidingRanks" ({ cls := "SlidingRanks", name := "fars", desc := "(I)I" } : Jvm.MethodName) ({ cls := "SlidingRanks", name := "fars", desc := "(I)I" } : Jvm.MethodName)) ∈ kwL := kw_at 615 rfl rfl
set_option maxRecDepth 100000 in
theorem kw_616 : (Jvm.Cond.code ({ cls := "SlidingRanks", name := "fars", desc := "(I)I" } : Jvm.MethodName) prog_1_method_15_code (4 : Nat) (Option.some Jvm.ClassFile.FieldType.int)) ∈ kwL := kw_at 616 rfl rfl
set_option maxRecDepth 100000 in
theorem kw_617 : (Jvm.Cond.methodLink "SlidingRanksLaw" (73 : Nat) ({ cls := "SlidingRanks", name := "above", desc := "(II)I" } : Jvm.MethodName)) ∈ kwL := kw_at 617 rfl rfl
set_option maxRecDepth 100000 in
theorem kw_618 : (Jvm.Cond.instanceMethod ({ cls := "SlidingRanks", name := "above", desc := "(II)I" } : Jvm.MethodName)) ∈ kwL := kw_at 618 rfl rfl
set_option maxRecDepth 100000 in
theorem kw_619 : (Jvm.Cond.selects "SlidingRanks" ({ cls := "SlidingRanks", name := "above", desc := "(II)I" } : Jvm.MethodName) ({ cls := "SlidingRanks", name := "above", desc := "(II)I" } : Jvm.MethodName)) ∈ kwL := kw_at 619 rfl rfl
set_option maxRecDepth 100000 in
theorem kw_620 : (Jvm.Cond.code ({ cls := "SlidingRanks", name := "above", desc := "(II)I" } : Jvm.MethodName) prog_1_method_16_code (9 : Nat) (Option.some Jvm.ClassFile.FieldType.int)) ∈ kwL := kw_at 620 rfl rfl
set_option maxRecDepth 100000 in
theorem kw_621 : (Jvm.Cond.methodLink "SlidingRanks" (188 : Nat) ({ cls := "SlidingRanks$Row", name := "isAbove", desc := "(I)Z" } : Jvm.MethodName)) ∈ kwL := kw_at 621 rfl rfl
set_option maxRecDepth 100000 in
theorem kw_622 : (Jvm.Cond.instanceMethod ({ cls := "SlidingRanks$Row", name := "isAbove", desc := "(I)Z" } : Jvm.MethodName)) ∈ kwL := kw_at 622 rfl rfl
set_option maxRecDepth 100000 in
theorem kw_623 : (Jvm.Cond.selects "SlidingRanks$Row" ({ cls := "SlidingRanks$Row", name := "isAbove", desc := "(I)Z" } : Jvm.MethodName) ({ cls := "SlidingRanks$Row", name := "isAbove", desc := "(I)Z" } : Jvm.MethodName)) ∈ kwL := kw_at 623 rfl rfl
set_option maxRecDepth 100000 in
theorem kw_624 : (Jvm.Cond.code ({ cls := "SlidingRanks$Row", name := "isAbove", desc := "(I)Z" } : Jvm.MethodName) prog_2_method_17_code (2 : Nat) (Option.some Jvm.ClassFile.FieldType.boolean)) ∈ kwL := kw_at 624 rfl rfl
set_option maxRecDepth 100000 in
theorem kw_625 : (Jvm.Cond.methodLink "SlidingRanks$Row" (87 : Nat) ({ cls := "SlidingRanks$Row", name := "hasResult", desc := "()Z" } : Jvm.MethodName)) ∈ kwL := kw_at 625 rfl rfl
set_option maxRecDepth 100000 in
theorem kw_626 : (Jvm.Cond.methodLink "SlidingRanks" (191 : Nat) ({ cls := "java/lang/Math", name := "max", desc := "(II)I" } : Jvm.MethodName)) ∈ kwL := kw_at 626 rfl rfl
set_option maxRecDepth 100000 in
theorem kw_627 : (Jvm.Cond.methodLink "SlidingRanksLaw" (77 : Nat) ({ cls := "SlidingRanks", name := "most", desc := "(I)I" } : Jvm.MethodName)) ∈ kwL := kw_at 627 rfl rfl
set_option maxRecDepth 100000 in
theorem kw_628 : (Jvm.Cond.instanceMethod ({ cls := "SlidingRanks", name := "most", desc := "(I)I" } : Jvm.MethodName)) ∈ kwL := kw_at 628 rfl rfl
set_option maxRecDepth 100000 in
theorem kw_629 : (Jvm.Cond.selects "SlidingRanks" ({ cls := "SlidingRanks", name := "most", desc := "(I)I" } : Jvm.MethodName) ({ cls := "SlidingRanks", name := "most", desc := "(I)I" } : Jvm.MethodName)) ∈ kwL := kw_at 629 rfl rfl
set_option maxRecDepth 100000 in
theorem kw_630 : (Jvm.Cond.code ({ cls := "SlidingRanks", name := "most", desc := "(I)I" } : Jvm.MethodName) prog_1_method_17_code (7 : Nat) (Option.some Jvm.ClassFile.FieldType.int)) ∈ kwL := kw_at 630 rfl rfl
set_option maxRecDepth 100000 in
theorem kw_631 : (Jvm.Cond.methodLink "SlidingRanksLaw" (81 : Nat) ({ cls := "SlidingRanks", name := "add", desc := "(I)I" } : Jvm.MethodName)) ∈ kwL := kw_at 631 rfl rfl
set_option maxRecDepth 100000 in
theorem kw_632 : (Jvm.Cond.instanceMethod ({ cls := "SlidingRanks", name := "add", desc := "(I)I" } : Jvm.MethodName)) ∈ kwL := kw_at 632 rfl rfl
set_option maxRecDepth 100000 in
theorem kw_633 : (Jvm.Cond.selects "SlidingRanks" ({ cls := "SlidingRanks", name := "add", desc := "(I)I" } : Jvm.MethodName) ({ cls := "SlidingRanks", name := "add", desc := "(I)I" } : Jvm.MethodName)) ∈ kwL := kw_at 633 rfl rfl
set_option maxRecDepth 100000 in
theorem kw_634 : (Jvm.Cond.code ({ cls := "SlidingRanks", name := "add", desc := "(I)I" } : Jvm.MethodName) prog_1_method_18_code (2 : Nat) (Option.some Jvm.ClassFile.FieldType.int)) ∈ kwL := kw_at 634 rfl rfl
set_option maxRecDepth 100000 in
theorem kw_635 : (Jvm.Cond.methodLink "SlidingRanks" (197 : Nat) ({ cls := "SlidingRanks", name := "isHundredths", desc := "(I)Z" } : Jvm.MethodName)) ∈ kwL := kw_at 635 rfl rfl
set_option maxRecDepth 100000 in
theorem kw_636 : (Jvm.Cond.static ({ cls := "SlidingRanks", name := "isHundredths", desc := "(I)Z" } : Jvm.MethodName)) ∈ kwL := kw_at 636 rfl rfl
set_option maxRecDepth 100000 in
theorem kw_637 : (Jvm.Cond.code ({ cls := "SlidingRanks", name := "isHundredths", desc := "(I)Z" } : Jvm.MethodName) prog_1_method_36_code (1 : Nat) (Option.some Jvm.ClassFile.FieldType.boolean)) ∈ kwL := kw_at 637 rfl rfl
set_option maxRecDepth 100000 in
theorem kw_638 : (Jvm.Cond.constant "SlidingRanks" (215 : Nat) (-999999 : Int32)) ∈ kwL := kw_at 638 rfl rfl
set_option maxRecDepth 100000 in
theorem kw_639 : (Jvm.Cond.constant "SlidingRanks" (216 : Nat) (999999 : Int32)) ∈ kwL := kw_at 639 rfl rfl
set_option maxRecDepth 100000 in
theorem kw_640 : (Jvm.Cond.methodLink "SlidingRanks" (200 : Nat) ({ cls := "SlidingRanks", name := "putBehind", desc := "(I)I" } : Jvm.MethodName)) ∈ kwL := kw_at 640 rfl rfl
set_option maxRecDepth 100000 in
theorem kw_642 : (Jvm.Cond.instanceMethod ({ cls := "SlidingRanks", name := "putBehind", desc := "(I)I" } : Jvm.MethodName)) ∈ kwL := kw_at 642 rfl rfl
set_option maxRecDepth 100000 in
theorem kw_643 : (Jvm.Cond.code ({ cls := "SlidingRanks", name := "putBehind", desc := "(I)I" } : Jvm.MethodName) prog_1_method_41_code (2 : Nat) (Option.some Jvm.ClassFile.FieldType.int)) ∈ kwL := kw_at 643 rfl rfl
set_option maxRecDepth 100000 in
theorem kw_644 : (Jvm.Cond.methodLink "SlidingRanks" (212 : Nat) ({ cls := "SlidingRanks$Series", name := "isFull", desc := "()Z" } : Jvm.MethodName)) ∈ kwL := kw_at 644 rfl rfl
set_option maxRecDepth 100000 in
theorem kw_645 : (Jvm.Cond.methodLink "SlidingRanks" (214 : Nat) ({ cls := "SlidingRanks$Series", name := "append", desc := "(I)V" } : Jvm.MethodName)) ∈ kwL := kw_at 645 rfl rfl
set_option maxRecDepth 100000 in
theorem kw_646 : (Jvm.Cond.methodLink "SlidingRanksLaw" (85 : Nat) ({ cls := "SlidingRanks", name := "miss", desc := "()I" } : Jvm.MethodName)) ∈ kwL := kw_at 646 rfl rfl
set_option maxRecDepth 100000 in
theorem kw_647 : (Jvm.Cond.instanceMethod ({ cls := "SlidingRanks", name := "miss", desc := "()I" } : Jvm.MethodName)) ∈ kwL := kw_at 647 rfl rfl
set_option maxRecDepth 100000 in
theorem kw_648 : (Jvm.Cond.selects "SlidingRanks" ({ cls := "SlidingRanks", name := "miss", desc := "()I" } : Jvm.MethodName) ({ cls := "SlidingRanks", name := "miss", desc := "()I" } : Jvm.MethodName)) ∈ kwL := kw_at 648 rfl rfl
set_option maxRecDepth 100000 in
theorem kw_649 : (Jvm.Cond.code ({ cls := "SlidingRanks", name := "miss", desc := "()I" } : Jvm.MethodName) prog_1_method_19_code (1 : Nat) (Option.some Jvm.ClassFile.FieldType.int)) ∈ kwL := kw_at 649 rfl rfl
set_option maxRecDepth 100000 in
theorem kw_650 : (Jvm.Cond.methodLink "SlidingRanksLaw" (89 : Nat) ({ cls := "SlidingRanks", name := "set", desc := "(II)I" } : Jvm.MethodName)) ∈ kwL := kw_at 650 rfl rfl
set_option maxRecDepth 100000 in
theorem kw_651 : (Jvm.Cond.instanceMethod ({ cls := "SlidingRanks", name := "set", desc := "(II)I" } : Jvm.MethodName)) ∈ kwL := kw_at 651 rfl rfl
set_option maxRecDepth 100000 in
theorem kw_652 : (Jvm.Cond.selects "SlidingRanks" ({ cls := "SlidingRanks", name := "set", desc := "(II)I" } : Jvm.MethodName) ({ cls := "SlidingRanks", name := "set", desc := "(II)I" } : Jvm.MethodName)) ∈ kwL := kw_at 652 rfl rfl
set_option maxRecDepth 100000 in
theorem kw_653 : (Jvm.Cond.code ({ cls := "SlidingRanks", name := "set", desc := "(II)I" } : Jvm.MethodName) prog_1_method_20_code (3 : Nat) (Option.some Jvm.ClassFile.FieldType.int)) ∈ kwL := kw_at 653 rfl rfl
set_option maxRecDepth 100000 in
theorem kw_654 : (Jvm.Cond.methodLink "SlidingRanks" (203 : Nat) ({ cls := "SlidingRanks", name := "replace", desc := "(II)I" } : Jvm.MethodName)) ∈ kwL := kw_at 654 rfl rfl
set_option maxRecDepth 100000 in
theorem kw_656 : (Jvm.Cond.instanceMethod ({ cls := "SlidingRanks", name := "replace", desc := "(II)I" } : Jvm.MethodName)) ∈ kwL := kw_at 656 rfl rfl
set_option maxRecDepth 100000 in
theorem kw_657 : (Jvm.Cond.code ({ cls := "SlidingRanks", name := "replace", desc := "(II)I" } : Jvm.MethodName) prog_1_method_42_code (4 : Nat) (Option.some Jvm.ClassFile.FieldType.int)) ∈ kwL := kw_at 657 rfl rfl
set_option maxRecDepth 100000 in
theorem kw_658 : (Jvm.Cond.methodLink "SlidingRanks" (257 : Nat) ({ cls := "SlidingRanks$Series", name := "change", desc := "(II)V" } : Jvm.MethodName)) ∈ kwL := kw_at 658 rfl rfl
set_option maxRecDepth 100000 in
theorem kw_659 : (Jvm.Cond.methodLink "SlidingRanksLaw" (93 : Nat) ({ cls := "SlidingRanks", name := "lose", desc := "(I)I" } : Jvm.MethodName)) ∈ kwL := kw_at 659 rfl rfl
set_option maxRecDepth 100000 in
theorem kw_660 : (Jvm.Cond.instanceMethod ({ cls := "SlidingRanks", name := "lose", desc := "(I)I" } : Jvm.MethodName)) ∈ kwL := kw_at 660 rfl rfl
set_option maxRecDepth 100000 in
theorem kw_661 : (Jvm.Cond.selects "SlidingRanks" ({ cls := "SlidingRanks", name := "lose", desc := "(I)I" } : Jvm.MethodName) ({ cls := "SlidingRanks", name := "lose", desc := "(I)I" } : Jvm.MethodName)) ∈ kwL := kw_at 661 rfl rfl
set_option maxRecDepth 100000 in
theorem kw_662 : (Jvm.Cond.code ({ cls := "SlidingRanks", name := "lose", desc := "(I)I" } : Jvm.MethodName) prog_1_method_21_code (2 : Nat) (Option.some Jvm.ClassFile.FieldType.int)) ∈ kwL := kw_at 662 rfl rfl
set_option maxRecDepth 100000 in
theorem kw_663 : (Jvm.Cond.methodLink "SlidingRanksLaw" (97 : Nat) ({ cls := "SlidingRanks", name := "drop", desc := "(I)I" } : Jvm.MethodName)) ∈ kwL := kw_at 663 rfl rfl
set_option maxRecDepth 100000 in
theorem kw_664 : (Jvm.Cond.instanceMethod ({ cls := "SlidingRanks", name := "drop", desc := "(I)I" } : Jvm.MethodName)) ∈ kwL := kw_at 664 rfl rfl
set_option maxRecDepth 100000 in
theorem kw_665 : (Jvm.Cond.selects "SlidingRanks" ({ cls := "SlidingRanks", name := "drop", desc := "(I)I" } : Jvm.MethodName) ({ cls := "SlidingRanks", name := "drop", desc := "(I)I" } : Jvm.MethodName)) ∈ kwL := kw_at 665 rfl rfl
set_option maxRecDepth 100000 in
theorem kw_666 : (Jvm.Cond.code ({ cls := "SlidingRanks", name := "drop", desc := "(I)I" } : Jvm.MethodName) prog_1_method_22_code (2 : Nat) (Option.some Jvm.ClassFile.FieldType.int)) ∈ kwL := kw_at 666 rfl rfl
set_option maxRecDepth 100000 in
theorem kw_667 : (Jvm.Cond.methodLink "SlidingRanks" (206 : Nat) ({ cls := "SlidingRanks$Series", name := "dropFirst", desc := "(I)V" } : Jvm.MethodName)) ∈ kwL := kw_at 667 rfl rfl
set_option maxRecDepth 100000 in
theorem kw_668 : (Jvm.Cond.instanceMethod ({ cls := "SlidingRanks$Series", name := "dropFirst", desc := "(I)V" } : Jvm.MethodName)) ∈ kwL := kw_at 668 rfl rfl
set_option maxRecDepth 100000 in
theorem kw_669 : (Jvm.Cond.selects "SlidingRanks$Series" ({ cls := "SlidingRanks$Series", name := "dropFirst", desc := "(I)V" } : Jvm.MethodName) ({ cls := "SlidingRanks$Series", name := "dropFirst", desc := "(I)V" } : Jvm.MethodName)) ∈ kwL := kw_at 669 rfl rfl
set_option maxRecDepth 100000 in
theorem kw_670 : (Jvm.Cond.code ({ cls := "SlidingRanks$Series", name := "dropFirst", desc := "(I)V" } : Jvm.MethodName) prog_3_method_9_code (2 : Nat) (Option.none : Option Jvm.ClassFile.FieldType)) ∈ kwL := kw_at 670 rfl rfl
set_option maxRecDepth 100000 in
theorem kw_671 : (Jvm.Cond.methodLink "SlidingRanksLaw" (101 : Nat) ({ cls := "SlidingRanks", name := "width", desc := "(I)I" } : Jvm.MethodName)) ∈ kwL := kw_at 671 rfl rfl
set_option maxRecDepth 100000 in
theorem kw_672 : (Jvm.Cond.instanceMethod ({ cls := "SlidingRanks", name := "width", desc := "(I)I" } : Jvm.MethodName)) ∈ kwL := kw_at 672 rfl rfl
set_option maxRecDepth 100000 in
theorem kw_673 : (Jvm.Cond.selects "SlidingRanks" ({ cls := "SlidingRanks", name := "width", desc := "(I)I" } : Jvm.MethodName) ({ cls := "SlidingRanks", name := "width", desc := "(I)I" } : Jvm.MethodName)) ∈ kwL := kw_at 673 rfl rfl
set_option maxRecDepth 100000 in
theorem kw_674 : (Jvm.Cond.code ({ cls := "SlidingRanks", name := "width", desc := "(I)I" } : Jvm.MethodName) prog_1_method_23_code (3 : Nat) (Option.some Jvm.ClassFile.FieldType.int)) ∈ kwL := kw_at 674 rfl rfl
set_option maxRecDepth 100000 in
theorem kw_675 : (Jvm.Cond.methodLink "SlidingRanksLaw" (105 : Nat) ({ cls := "SlidingRanks", name := "need", desc := "(I)I" } : Jvm.MethodName)) ∈ kwL := kw_at 675 rfl rfl
set_option maxRecDepth 100000 in
theorem kw_676 : (Jvm.Cond.instanceMethod ({ cls := "SlidingRanks", name := "need", desc := "(I)I" } : Jvm.MethodName)) ∈ kwL := kw_at 676 rfl rfl
set_option maxRecDepth 100000 in
theorem kw_677 : (Jvm.Cond.selects "SlidingRanks" ({ cls := "SlidingRanks", name := "need", desc := "(I)I" } : Jvm.MethodName) ({ cls := "SlidingRanks", name := "need", desc := "(I)I" } : Jvm.MethodName)) ∈ kwL := kw_at 677 rfl rfl
set_option maxRecDepth 100000 in
theorem kw_678 : (Jvm.Cond.code ({ cls := "SlidingRanks", name := "need", desc := "(I)I" } : Jvm.MethodName) prog_1_method_24_code (3 : Nat) (Option.some Jvm.ClassFile.FieldType.int)) ∈ kwL := kw_at 678 rfl rfl
set_option maxRecDepth 100000 in
theorem kw_679 : (Jvm.Cond.methodLink "SlidingRanksLaw" (109 : Nat) ({ cls := "SlidingRanks", name := "part", desc := "(II)I" } : Jvm.MethodName)) ∈ kwL := kw_at 679 rfl rfl
set_option maxRecDepth 100000 in
theorem kw_680 : (Jvm.Cond.instanceMethod ({ cls := "SlidingRanks", name := "part", desc := "(II)I" } : Jvm.MethodName)) ∈ kwL := kw_at 680 rfl rfl
set_option maxRecDepth 100000 in
theorem kw_681 : (Jvm.Cond.selects "SlidingRanks" ({ cls := "SlidingRanks", name := "part", desc := "(II)I" } : Jvm.MethodName) ({ cls := "SlidingRanks", name := "part", desc := "(II)I" } : Jvm.MethodName)) ∈ kwL := kw_at 681 rfl rfl
set_option maxRecDepth 100000 in
theorem kw_682 : (Jvm.Cond.code ({ cls := "SlidingRanks", name := "part", desc := "(II)I" } : Jvm.MethodName) prog_1_method_25_code (4 : Nat) (Option.some Jvm.ClassFile.FieldType.int)) ∈ kwL := kw_at 682 rfl rfl
set_option maxRecDepth 100000 in
theorem kw_683 : (Jvm.Cond.methodLink "SlidingRanksLaw" (113 : Nat) ({ cls := "SlidingRanks", name := "choose", desc := "(I)I" } : Jvm.MethodName)) ∈ kwL := kw_at 683 rfl rfl
set_option maxRecDepth 100000 in
theorem kw_684 : (Jvm.Cond.instanceMethod ({ cls := "SlidingRanks", name := "choose", desc := "(I)I" } : Jvm.MethodName)) ∈ kwL := kw_at 684 rfl rfl
set_option maxRecDepth 100000 in
theorem kw_685 : (Jvm.Cond.selects "SlidingRanks" ({ cls := "SlidingRanks", name := "choose", desc := "(I)I" } : Jvm.MethodName) ({ cls := "SlidingRanks", name := "choose", desc := "(I)I" } : Jvm.MethodName)) ∈ kwL := kw_at 685 rfl rfl
set_option maxRecDepth 100000 in
theorem kw_686 : (Jvm.Cond.code ({ cls := "SlidingRanks", name := "choose", desc := "(I)I" } : Jvm.MethodName) prog_1_method_26_code (3 : Nat) (Option.some Jvm.ClassFile.FieldType.int)) ∈ kwL := kw_at 686 rfl rfl
set_option maxRecDepth 100000 in
theorem kw_687 : (Jvm.Cond.methodLink "SlidingRanksLaw" (117 : Nat) ({ cls := "SlidingRanks", name := "form", desc := "(I)I" } : Jvm.MethodName)) ∈ kwL := kw_at 687 rfl rfl
set_option maxRecDepth 100000 in
theorem kw_688 : (Jvm.Cond.instanceMethod ({ cls := "SlidingRanks", name := "form", desc := "(I)I" } : Jvm.MethodName)) ∈ kwL := kw_at 688 rfl rfl
set_option maxRecDepth 100000 in
theorem kw_689 : (Jvm.Cond.selects "SlidingRanks" ({ cls := "SlidingRanks", name := "form", desc := "(I)I" } : Jvm.MethodName) ({ cls := "SlidingRanks", name := "form", desc := "(I)I" } : Jvm.MethodName)) ∈ kwL := kw_at 689 rfl rfl
set_option maxRecDepth 100000 in
theorem kw_690 : (Jvm.Cond.code ({ cls := "SlidingRanks", name := "form", desc := "(I)I" } : Jvm.MethodName) prog_1_method_27_code (3 : Nat) (Option.some Jvm.ClassFile.FieldType.int)) ∈ kwL := kw_at 690 rfl rfl
set_option maxRecDepth 100000 in
theorem kw_691 : (Jvm.Cond.methodLink "SlidingRanksLaw" (121 : Nat) ({ cls := "SlidingRanks", name := "drift", desc := "(II)I" } : Jvm.MethodName)) ∈ kwL := kw_at 691 rfl rfl
set_option maxRecDepth 100000 in
theorem kw_692 : (Jvm.Cond.instanceMethod ({ cls := "SlidingRanks", name := "drift", desc := "(II)I" } : Jvm.MethodName)) ∈ kwL := kw_at 692 rfl rfl
set_option maxRecDepth 100000 in
theorem kw_693 : (Jvm.Cond.selects "SlidingRanks" ({ cls := "SlidingRanks", name := "drift", desc := "(II)I" } : Jvm.MethodName) ({ cls := "SlidingRanks", name := "drift", desc := "(II)I" } : Jvm.MethodName)) ∈ kwL := kw_at 693 rfl rfl
set_option maxRecDepth 100000 in
theorem kw_694 : (Jvm.Cond.code ({ cls := "SlidingRanks", name := "drift", desc := "(II)I" } : Jvm.MethodName) prog_1_method_28_code (8 : Nat) (Option.some Jvm.ClassFile.FieldType.int)) ∈ kwL := kw_at 694 rfl rfl
set_option maxRecDepth 100000 in
theorem kw_695 : (Jvm.Cond.methodLink "SlidingRanks" (209 : Nat) ({ cls := "SlidingRanks$Series", name := "latestValue", desc := "()I" } : Jvm.MethodName)) ∈ kwL := kw_at 695 rfl rfl
set_option maxRecDepth 100000 in
theorem kw_696 : (Jvm.Cond.instanceMethod ({ cls := "SlidingRanks$Series", name := "latestValue", desc := "()I" } : Jvm.MethodName)) ∈ kwL := kw_at 696 rfl rfl
set_option maxRecDepth 100000 in
theorem kw_697 : (Jvm.Cond.selects "SlidingRanks$Series" ({ cls := "SlidingRanks$Series", name := "latestValue", desc := "()I" } : Jvm.MethodName) ({ cls := "SlidingRanks$Series", name := "latestValue", desc := "()I" } : Jvm.MethodName)) ∈ kwL := kw_at 697 rfl rfl
set_option maxRecDepth 100000 in
theorem kw_698 : (Jvm.Cond.code ({ cls := "SlidingRanks$Series", name := "latestValue", desc := "()I" } : Jvm.MethodName) prog_3_method_11_code (2 : Nat) (Option.some Jvm.ClassFile.FieldType.int)) ∈ kwL := kw_at 698 rfl rfl
set_option maxRecDepth 100000 in
theorem kw_699 : (Jvm.Cond.constant "SlidingRanks" (213 : Nat) (1103515245 : Int32)) ∈ kwL := kw_at 699 rfl rfl
set_option maxRecDepth 100000 in
theorem kw_700 : (Jvm.Cond.methodLink "SlidingRanks" (217 : Nat) ({ cls := "java/lang/Math", name := "min", desc := "(II)I" } : Jvm.MethodName)) ∈ kwL := kw_at 700 rfl rfl
set_option maxRecDepth 100000 in
theorem kw_701 : (Jvm.Cond.static ({ cls := "java/lang/Math", name := "min", desc := "(II)I" } : Jvm.MethodName)) ∈ kwL := kw_at 701 rfl rfl
set_option maxRecDepth 100000 in
theorem kw_702 : (Jvm.Cond.code ({ cls := "java/lang/Math", name := "min", desc := "(II)I" } : Jvm.MethodName) prog_10_method_69_code (2 : Nat) (Option.some Jvm.ClassFile.FieldType.int)) ∈ kwL := kw_at 702 rfl rfl
set_option maxRecDepth 100000 in
theorem kw_703 : (Jvm.Cond.methodLink "SlidingRanksLaw" (125 : Nat) ({ cls := "SlidingRanks", name := "keep", desc := "(I)I" } : Jvm.MethodName)) ∈ kwL := kw_at 703 rfl rfl
set_option maxRecDepth 100000 in
theorem kw_704 : (Jvm.Cond.instanceMethod ({ cls := "SlidingRanks", name := "keep", desc := "(I)I" } : Jvm.MethodName)) ∈ kwL := kw_at 704 rfl rfl
set_option maxRecDepth 100000 in
theorem kw_705 : (Jvm.Cond.selects "SlidingRanks" ({ cls := "SlidingRanks", name := "keep", desc := "(I)I" } : Jvm.MethodName) ({ cls := "SlidingRanks", name := "keep", desc := "(I)I" } : Jvm.MethodName)) ∈ kwL := kw_at 705 rfl rfl
set_option maxRecDepth 100000 in
theorem kw_706 : (Jvm.Cond.code ({ cls := "SlidingRanks", name := "keep", desc := "(I)I" } : Jvm.MethodName) prog_1_method_29_code (3 : Nat) (Option.some Jvm.ClassFile.FieldType.int)) ∈ kwL := kw_at 706 rfl rfl
set_option maxRecDepth 100000 in
theorem kw_707 : (Jvm.Cond.methodLink "SlidingRanks" (220 : Nat) ({ cls := "SlidingRanks", name := "isImage", desc := "(I)Z" } : Jvm.MethodName)) ∈ kwL := kw_at 707 rfl rfl
set_option maxRecDepth 100000 in
theorem kw_709 : (Jvm.Cond.instanceMethod ({ cls := "SlidingRanks", name := "isImage", desc := "(I)Z" } : Jvm.MethodName)) ∈ kwL := kw_at 709 rfl rfl
set_option maxRecDepth 100000 in
theorem kw_710 : (Jvm.Cond.code ({ cls := "SlidingRanks", name := "isImage", desc := "(I)Z" } : Jvm.MethodName) prog_1_method_38_code (2 : Nat) (Option.some Jvm.ClassFile.FieldType.boolean)) ∈ kwL := kw_at 710 rfl rfl
set_option maxRecDepth 100000 in
theorem kw_711 : (Jvm.Cond.methodLink "SlidingRanksLaw" (129 : Nat) ({ cls := "SlidingRanks", name := "back", desc := "(I)I" } : Jvm.MethodName)) ∈ kwL := kw_at 711 rfl rfl
set_option maxRecDepth 100000 in
theorem kw_712 : (Jvm.Cond.instanceMethod ({ cls := "SlidingRanks", name := "back", desc := "(I)I" } : Jvm.MethodName)) ∈ kwL := kw_at 712 rfl rfl
set_option maxRecDepth 100000 in
theorem kw_713 : (Jvm.Cond.selects "SlidingRanks" ({ cls := "SlidingRanks", name := "back", desc := "(I)I" } : Jvm.MethodName) ({ cls := "SlidingRanks", name := "back", desc := "(I)I" } : Jvm.MethodName)) ∈ kwL := kw_at 713 rfl rfl
set_option maxRecDepth 100000 in
theorem kw_714 : (Jvm.Cond.code ({ cls := "SlidingRanks", name := "back", desc := "(I)I" } : Jvm.MethodName) prog_1_method_30_code (2 : Nat) (Option.some Jvm.ClassFile.FieldType.int)) ∈ kwL := kw_at 714 rfl rfl
set_option maxRecDepth 100000 in
theorem kw_715 : (Jvm.Cond.methodLink "SlidingRanksLaw" (133 : Nat) ({ cls := "SlidingRanks", name := "sheet", desc := "(III)I" } : Jvm.MethodName)) ∈ kwL := kw_at 715 rfl rfl
set_option maxRecDepth 100000 in
theorem kw_716 : (Jvm.Cond.instanceMethod ({ cls := "SlidingRanks", name := "sheet", desc := "(III)I" } : Jvm.MethodName)) ∈ kwL := kw_at 716 rfl rfl
set_option maxRecDepth 100000 in
theorem kw_717 : (Jvm.Cond.selects "SlidingRanks" ({ cls := "SlidingRanks", name := "sheet", desc := "(III)I" } : Jvm.MethodName) ({ cls := "SlidingRanks", name := "sheet", desc := "(III)I" } : Jvm.MethodName)) ∈ kwL := kw_at 717 rfl rfl
set_option maxRecDepth 100000 in
theorem kw_718 : (Jvm.Cond.code ({ cls := "SlidingRanks", name := "sheet", desc := "(III)I" } : Jvm.MethodName) prog_1_method_31_code (4 : Nat) (Option.some Jvm.ClassFile.FieldType.int)) ∈ kwL := kw_at 718 rfl rfl
set_option maxRecDepth 100000 in
theorem kw_719 : (Jvm.Cond.methodLink "SlidingRanks" (223 : Nat) ({ cls := "SlidingRanks", name := "isSheet", desc := "(I)Z" } : Jvm.MethodName)) ∈ kwL := kw_at 719 rfl rfl
set_option maxRecDepth 100000 in
theorem kw_721 : (Jvm.Cond.instanceMethod ({ cls := "SlidingRanks", name := "isSheet", desc := "(I)Z" } : Jvm.MethodName)) ∈ kwL := kw_at 721 rfl rfl
set_option maxRecDepth 100000 in
theorem kw_722 : (Jvm.Cond.code ({ cls := "SlidingRanks", name := "isSheet", desc := "(I)Z" } : Jvm.MethodName) prog_1_method_39_code (2 : Nat) (Option.some Jvm.ClassFile.FieldType.boolean)) ∈ kwL := kw_at 722 rfl rfl
set_option maxRecDepth 100000 in
theorem kw_723 : (Jvm.Cond.methodLink "SlidingRanks" (226 : Nat) ({ cls := "SlidingRanks", name := "isLane", desc := "(I)Z" } : Jvm.MethodName)) ∈ kwL := kw_at 723 rfl rfl
set_option maxRecDepth 100000 in
theorem kw_724 : (Jvm.Cond.static ({ cls := "SlidingRanks", name := "isLane", desc := "(I)Z" } : Jvm.MethodName)) ∈ kwL := kw_at 724 rfl rfl
set_option maxRecDepth 100000 in
theorem kw_725 : (Jvm.Cond.code ({ cls := "SlidingRanks", name := "isLane", desc := "(I)Z" } : Jvm.MethodName) prog_1_method_40_code (1 : Nat) (Option.some Jvm.ClassFile.FieldType.boolean)) ∈ kwL := kw_at 725 rfl rfl
set_option maxRecDepth 100000 in
theorem kw_726 : (Jvm.Cond.methodLink "SlidingRanks" (229 : Nat) ({ cls := "SlidingRanks$Sheet", name := "renew", desc := "(II)V" } : Jvm.MethodName)) ∈ kwL := kw_at 726 rfl rfl
set_option maxRecDepth 100000 in
theorem kw_727 : (Jvm.Cond.instanceMethod ({ cls := "SlidingRanks$Sheet", name := "renew", desc := "(II)V" } : Jvm.MethodName)) ∈ kwL := kw_at 727 rfl rfl
set_option maxRecDepth 100000 in
theorem kw_728 : (Jvm.Cond.selects "SlidingRanks$Sheet" ({ cls := "SlidingRanks$Sheet", name := "renew", desc := "(II)V" } : Jvm.MethodName) ({ cls := "SlidingRanks$Sheet", name := "renew", desc := "(II)V" } : Jvm.MethodName)) ∈ kwL := kw_at 728 rfl rfl
set_option maxRecDepth 100000 in
theorem kw_729 : (Jvm.Cond.code ({ cls := "SlidingRanks$Sheet", name := "renew", desc := "(II)V" } : Jvm.MethodName) prog_4_method_3_code (4 : Nat) (Option.none : Option Jvm.ClassFile.FieldType)) ∈ kwL := kw_at 729 rfl rfl
set_option maxRecDepth 100000 in
theorem kw_730 : (Jvm.Cond.methodLink "SlidingRanks$Sheet" (22 : Nat) ({ cls := "java/lang/Math", name := "min", desc := "(II)I" } : Jvm.MethodName)) ∈ kwL := kw_at 730 rfl rfl
set_option maxRecDepth 100000 in
theorem kw_731 : (Jvm.Cond.methodLink "SlidingRanksLaw" (137 : Nat) ({ cls := "SlidingRanks", name := "lay", desc := "(III)I" } : Jvm.MethodName)) ∈ kwL := kw_at 731 rfl rfl
set_option maxRecDepth 100000 in
theorem kw_732 : (Jvm.Cond.instanceMethod ({ cls := "SlidingRanks", name := "lay", desc := "(III)I" } : Jvm.MethodName)) ∈ kwL := kw_at 732 rfl rfl
set_option maxRecDepth 100000 in
theorem kw_733 : (Jvm.Cond.selects "SlidingRanks" ({ cls := "SlidingRanks", name := "lay", desc := "(III)I" } : Jvm.MethodName) ({ cls := "SlidingRanks", name := "lay", desc := "(III)I" } : Jvm.MethodName)) ∈ kwL := kw_at 733 rfl rfl
set_option maxRecDepth 100000 in
theorem kw_734 : (Jvm.Cond.code ({ cls := "SlidingRanks", name := "lay", desc := "(III)I" } : Jvm.MethodName) prog_1_method_32_code (5 : Nat) (Option.some Jvm.ClassFile.FieldType.int)) ∈ kwL := kw_at 734 rfl rfl
set_option maxRecDepth 100000 in
theorem kw_735 : (Jvm.Cond.methodLink "SlidingRanks" (233 : Nat) ({ cls := "SlidingRanks$Sheet", name := "isNothing", desc := "()Z" } : Jvm.MethodName)) ∈ kwL := kw_at 735 rfl rfl
set_option maxRecDepth 100000 in
theorem kw_736 : (Jvm.Cond.instanceMethod ({ cls := "SlidingRanks$Sheet", name := "isNothing", desc := "()Z" } : Jvm.MethodName)) ∈ kwL := kw_at 736 rfl rfl
set_option maxRecDepth 100000 in
theorem kw_737 : (Jvm.Cond.selects "SlidingRanks$Sheet" ({ cls := "SlidingRanks$Sheet", name := "isNothing", desc := "()Z" } : Jvm.MethodName) ({ cls := "SlidingRanks$Sheet", name := "isNothing", desc := "()Z" } : Jvm.MethodName)) ∈ kwL := kw_at 737 rfl rfl
set_option maxRecDepth 100000 in
theorem kw_738 : (Jvm.Cond.code ({ cls := "SlidingRanks$Sheet", name := "isNothing", desc := "()Z" } : Jvm.MethodName) prog_4_method_2_code (1 : Nat) (Option.some Jvm.ClassFile.FieldType.boolean)) ∈ kwL := kw_at 738 rfl rfl
set_option maxRecDepth 100000 in
theorem kw_739 : (Jvm.Cond.methodLink "SlidingRanks" (236 : Nat) ({ cls := "SlidingRanks$Sheet", name := "hasCell", desc := "(I)Z" } : Jvm.MethodName)) ∈ kwL := kw_at 739 rfl rfl
set_option maxRecDepth 100000 in
theorem kw_740 : (Jvm.Cond.instanceMethod ({ cls := "SlidingRanks$Sheet", name := "hasCell", desc := "(I)Z" } : Jvm.MethodName)) ∈ kwL := kw_at 740 rfl rfl
set_option maxRecDepth 100000 in
theorem kw_741 : (Jvm.Cond.selects "SlidingRanks$Sheet" ({ cls := "SlidingRanks$Sheet", name := "hasCell", desc := "(I)Z" } : Jvm.MethodName) ({ cls := "SlidingRanks$Sheet", name := "hasCell", desc := "(I)Z" } : Jvm.MethodName)) ∈ kwL := kw_at 741 rfl rfl
set_option maxRecDepth 100000 in
theorem kw_742 : (Jvm.Cond.code ({ cls := "SlidingRanks$Sheet", name := "hasCell", desc := "(I)Z" } : Jvm.MethodName) prog_4_method_4_code (2 : Nat) (Option.some Jvm.ClassFile.FieldType.boolean)) ∈ kwL := kw_at 742 rfl rfl
set_option maxRecDepth 100000 in
theorem kw_743 : (Jvm.Cond.methodLink "SlidingRanks" (239 : Nat) ({ cls := "SlidingRanks$Sheet", name := "write", desc := "(II)V" } : Jvm.MethodName)) ∈ kwL := kw_at 743 rfl rfl
set_option maxRecDepth 100000 in
theorem kw_744 : (Jvm.Cond.instanceMethod ({ cls := "SlidingRanks$Sheet", name := "write", desc := "(II)V" } : Jvm.MethodName)) ∈ kwL := kw_at 744 rfl rfl
set_option maxRecDepth 100000 in
theorem kw_745 : (Jvm.Cond.selects "SlidingRanks$Sheet" ({ cls := "SlidingRanks$Sheet", name := "write", desc := "(II)V" } : Jvm.MethodName) ({ cls := "SlidingRanks$Sheet", name := "write", desc := "(II)V" } : Jvm.MethodName)) ∈ kwL := kw_at 745 rfl rfl
set_option maxRecDepth 100000 in
theorem kw_746 : (Jvm.Cond.code ({ cls := "SlidingRanks$Sheet", name := "write", desc := "(II)V" } : Jvm.MethodName) prog_4_method_6_code (3 : Nat) (Option.none : Option Jvm.ClassFile.FieldType)) ∈ kwL := kw_at 746 rfl rfl
set_option maxRecDepth 100000 in
theorem kw_747 : (Jvm.Cond.methodLink "SlidingRanks$Sheet" (28 : Nat) ({ cls := "SlidingRanks$Sheet", name := "hasCell", desc := "(I)Z" } : Jvm.MethodName)) ∈ kwL := kw_at 747 rfl rfl
set_option maxRecDepth 100000 in
theorem kw_748 : (Jvm.Cond.methodLink "SlidingRanksLaw" (141 : Nat) ({ cls := "SlidingRanks", name := "read", desc := "(IIII)I" } : Jvm.MethodName)) ∈ kwL := kw_at 748 rfl rfl
set_option maxRecDepth 100000 in
theorem kw_749 : (Jvm.Cond.instanceMethod ({ cls := "SlidingRanks", name := "read", desc := "(IIII)I" } : Jvm.MethodName)) ∈ kwL := kw_at 749 rfl rfl
set_option maxRecDepth 100000 in
theorem kw_750 : (Jvm.Cond.selects "SlidingRanks" ({ cls := "SlidingRanks", name := "read", desc := "(IIII)I" } : Jvm.MethodName) ({ cls := "SlidingRanks", name := "read", desc := "(IIII)I" } : Jvm.MethodName)) ∈ kwL := kw_at 750 rfl rfl
set_option maxRecDepth 100000 in
theorem kw_751 : (Jvm.Cond.code ({ cls := "SlidingRanks", name := "read", desc := "(IIII)I" } : Jvm.MethodName) prog_1_method_33_code (8 : Nat) (Option.some Jvm.ClassFile.FieldType.int)) ∈ kwL := kw_at 751 rfl rfl
set_option maxRecDepth 100000 in
theorem kw_752 : (Jvm.Cond.methodLink "SlidingRanks" (242 : Nat) ({ cls := "SlidingRanks", name := "tearAt", desc := "(LSlidingRanks$Sheet;II)I" } : Jvm.MethodName)) ∈ kwL := kw_at 752 rfl rfl
set_option maxRecDepth 100000 in
theorem kw_753 : (Jvm.Cond.static ({ cls := "SlidingRanks", name := "tearAt", desc := "(LSlidingRanks$Sheet;II)I" } : Jvm.MethodName)) ∈ kwL := kw_at 753 rfl rfl
set_option maxRecDepth 100000 in
theorem kw_754 : (Jvm.Cond.code ({ cls := "SlidingRanks", name := "tearAt", desc := "(LSlidingRanks$Sheet;II)I" } : Jvm.MethodName) prog_1_method_47_code (3 : Nat) (Option.some Jvm.ClassFile.FieldType.int)) ∈ kwL := kw_at 754 rfl rfl
set_option maxRecDepth 100000 in
theorem kw_755 : (Jvm.Cond.methodLink "SlidingRanks" (246 : Nat) ({ cls := "SlidingRanks$Sheet", name := "valueAt", desc := "(I)I" } : Jvm.MethodName)) ∈ kwL := kw_at 755 rfl rfl
set_option maxRecDepth 100000 in
theorem kw_756 : (Jvm.Cond.instanceMethod ({ cls := "SlidingRanks$Sheet", name := "valueAt", desc := "(I)I" } : Jvm.MethodName)) ∈ kwL := kw_at 756 rfl rfl
set_option maxRecDepth 100000 in
theorem kw_757 : (Jvm.Cond.selects "SlidingRanks$Sheet" ({ cls := "SlidingRanks$Sheet", name := "valueAt", desc := "(I)I" } : Jvm.MethodName) ({ cls := "SlidingRanks$Sheet", name := "valueAt", desc := "(I)I" } : Jvm.MethodName)) ∈ kwL := kw_at 757 rfl rfl
set_option maxRecDepth 100000 in
theorem kw_758 : (Jvm.Cond.code ({ cls := "SlidingRanks$Sheet", name := "valueAt", desc := "(I)I" } : Jvm.MethodName) prog_4_method_5_code (2 : Nat) (Option.some Jvm.ClassFile.FieldType.int)) ∈ kwL := kw_at 758 rfl rfl
set_option maxRecDepth 100000 in
theorem kw_759 : (Jvm.Cond.methodLink "SlidingRanks" (247 : Nat) ({ cls := "SlidingRanks", name := "add", desc := "(I)I" } : Jvm.MethodName)) ∈ kwL := kw_at 759 rfl rfl
set_option maxRecDepth 100000 in
theorem kw_760 : (Jvm.Cond.methodLink "SlidingRanksLaw" (146 : Nat) ({ cls := "SlidingRanks", name := "torn", desc := "()I" } : Jvm.MethodName)) ∈ kwL := kw_at 760 rfl rfl
set_option maxRecDepth 100000 in
theorem kw_761 : (Jvm.Cond.instanceMethod ({ cls := "SlidingRanks", name := "torn", desc := "()I" } : Jvm.MethodName)) ∈ kwL := kw_at 761 rfl rfl
set_option maxRecDepth 100000 in
theorem kw_762 : (Jvm.Cond.selects "SlidingRanks" ({ cls := "SlidingRanks", name := "torn", desc := "()I" } : Jvm.MethodName) ({ cls := "SlidingRanks", name := "torn", desc := "()I" } : Jvm.MethodName)) ∈ kwL := kw_at 762 rfl rfl
set_option maxRecDepth 100000 in
theorem kw_763 : (Jvm.Cond.code ({ cls := "SlidingRanks", name := "torn", desc := "()I" } : Jvm.MethodName) prog_1_method_34_code (1 : Nat) (Option.some Jvm.ClassFile.FieldType.int)) ∈ kwL := kw_at 763 rfl rfl
set_option maxRecDepth 100000 in
theorem kw_764 : (Jvm.Cond.methodLink "SlidingRanksLaw" (150 : Nat) ({ cls := "SlidingRanks", name := "count", desc := "(I)I" } : Jvm.MethodName)) ∈ kwL := kw_at 764 rfl rfl
set_option maxRecDepth 100000 in
theorem kw_765 : (Jvm.Cond.instanceMethod ({ cls := "SlidingRanks", name := "count", desc := "(I)I" } : Jvm.MethodName)) ∈ kwL := kw_at 765 rfl rfl
set_option maxRecDepth 100000 in
theorem kw_766 : (Jvm.Cond.selects "SlidingRanks" ({ cls := "SlidingRanks", name := "count", desc := "(I)I" } : Jvm.MethodName) ({ cls := "SlidingRanks", name := "count", desc := "(I)I" } : Jvm.MethodName)) ∈ kwL := kw_at 766 rfl rfl
set_option maxRecDepth 100000 in
theorem kw_767 : (Jvm.Cond.code ({ cls := "SlidingRanks", name := "count", desc := "(I)I" } : Jvm.MethodName) prog_1_method_35_code (2 : Nat) (Option.some Jvm.ClassFile.FieldType.int)) ∈ kwL := kw_at 767 rfl rfl
set_option maxRecDepth 100000 in
theorem kw_768 : (Jvm.Cond.methodLink "SlidingRanks" (250 : Nat) ({ cls := "SlidingRanks", name := "countImages", desc := "()I" } : Jvm.MethodName)) ∈ kwL := kw_at 768 rfl rfl
set_option maxRecDepth 100000 in
theorem kw_770 : (Jvm.Cond.instanceMethod ({ cls := "SlidingRanks", name := "countImages", desc := "()I" } : Jvm.MethodName)) ∈ kwL := kw_at 770 rfl rfl
set_option maxRecDepth 100000 in
theorem kw_771 : (Jvm.Cond.code ({ cls := "SlidingRanks", name := "countImages", desc := "()I" } : Jvm.MethodName) prog_1_method_44_code (3 : Nat) (Option.some Jvm.ClassFile.FieldType.int)) ∈ kwL := kw_at 771 rfl rfl
set_option maxRecDepth 100000 in
theorem kw_772 : (Jvm.Cond.methodLink "SlidingRanks" (254 : Nat) ({ cls := "SlidingRanks", name := "countShownBytes", desc := "()I" } : Jvm.MethodName)) ∈ kwL := kw_at 772 rfl rfl
set_option maxRecDepth 100000 in
theorem kw_774 : (Jvm.Cond.instanceMethod ({ cls := "SlidingRanks", name := "countShownBytes", desc := "()I" } : Jvm.MethodName)) ∈ kwL := kw_at 774 rfl rfl
set_option maxRecDepth 100000 in
theorem kw_775 : (Jvm.Cond.code ({ cls := "SlidingRanks", name := "countShownBytes", desc := "()I" } : Jvm.MethodName) prog_1_method_45_code (3 : Nat) (Option.some Jvm.ClassFile.FieldType.int)) ∈ kwL := kw_at 775 rfl rfl
set_option maxRecDepth 100000 in
theorem kw_776 : (Jvm.Cond.classLink "SlidingRanksLaw" (10 : Nat) "SlidingRanksModel") ∈ kwL := kw_at 776 rfl rfl
set_option maxRecDepth 100000 in
theorem kw_777 : (Jvm.Cond.instantiable "SlidingRanksModel" (28 : Nat)) ∈ kwL := kw_at 777 rfl rfl
set_option maxRecDepth 100000 in
theorem kw_778 : (Jvm.Cond.methodLink "SlidingRanksLaw" (12 : Nat) ({ cls := "SlidingRanksModel", name := "<init>", desc := "()V" } : Jvm.MethodName)) ∈ kwL := kw_at 778 rfl rfl
set_option maxRecDepth 100000 in
theorem kw_779 : (Jvm.Cond.instanceMethod ({ cls := "SlidingRanksModel", name := "<init>", desc := "()V" } : Jvm.MethodName)) ∈ kwL := kw_at 779 rfl rfl
set_option maxRecDepth 100000 in
theorem kw_780 : (Jvm.Cond.code ({ cls := "SlidingRanksModel", name := "<init>", desc := "()V" } : Jvm.MethodName) prog_9_method_1_code (1 : Nat) (Option.none : Option Jvm.ClassFile.FieldType)) ∈ kwL := kw_at 780 rfl rfl
set_option maxRecDepth 100000 in
theorem kw_781 : (Jvm.Cond.methodLink "SlidingRanksModel" (1 : Nat) ({ cls := "java/lang/Object", name := "<init>", desc := "()V" } : Jvm.MethodName)) ∈ kwL := kw_at 781 rfl rfl
set_option maxRecDepth 100000 in
theorem kw_782 : (Jvm.Cond.fieldLink "SlidingRanksModel" (7 : Nat) "SlidingRanksModel" "state" "[I") ∈ kwL := kw_at 782 rfl rfl
set_option maxRecDepth 100000 in
theorem kw_783 : (Jvm.Cond.fieldLink "SlidingRanksModel" (44 : Nat) "SlidingRanksModel" "isBegun" "Z") ∈ kwL := kw_at 783 rfl rfl
set_option maxRecDepth 100000 in
theorem kw_784 : (Jvm.Cond.fieldLink "SlidingRanksModel" (13 : Nat) "SlidingRanksModel" "tape" "[I") ∈ kwL := kw_at 784 rfl rfl
set_option maxRecDepth 100000 in
theorem kw_785 : (Jvm.Cond.fieldLink "SlidingRanksModel" (58 : Nat) "SlidingRanksModel" "taped" "I") ∈ kwL := kw_at 785 rfl rfl
set_option maxRecDepth 100000 in
theorem kw_786 : (Jvm.Cond.fieldLink "SlidingRanksModel" (134 : Nat) "SlidingRanksModel" "fault" "I") ∈ kwL := kw_at 786 rfl rfl
set_option maxRecDepth 100000 in
theorem kw_787 : (Jvm.Cond.fieldLink "SlidingRanksModel" (62 : Nat) "SlidingRanksModel" "broken" "I") ∈ kwL := kw_at 787 rfl rfl
set_option maxRecDepth 100000 in
theorem kw_788 : (Jvm.Cond.fieldLink "SlidingRanksModel" (68 : Nat) "SlidingRanksModel" "brokenAt" "I") ∈ kwL := kw_at 788 rfl rfl
set_option maxRecDepth 100000 in
theorem kw_789 : (Jvm.Cond.fieldLink "SlidingRanksModel" (74 : Nat) "SlidingRanksModel" "spot" "I") ∈ kwL := kw_at 789 rfl rfl
set_option maxRecDepth 100000 in
theorem kw_790 : (Jvm.Cond.fieldLink "SlidingRanksModel" (65 : Nat) "SlidingRanksModel" "here" "I") ∈ kwL := kw_at 790 rfl rfl
set_option maxRecDepth 100000 in
theorem kw_791 : (Jvm.Cond.fieldLink "SlidingRanksModel" (71 : Nat) "SlidingRanksModel" "token" "I") ∈ kwL := kw_at 791 rfl rfl
set_option maxRecDepth 100000 in
theorem kw_792 : (Jvm.Cond.fieldLink "SlidingRanksModel" (81 : Nat) "SlidingRanksModel" "number" "I") ∈ kwL := kw_at 792 rfl rfl
set_option maxRecDepth 100000 in
theorem kw_793 : (Jvm.Cond.fieldLink "SlidingRanksModel" (119 : Nat) "SlidingRanksModel" "once" "I") ∈ kwL := kw_at 793 rfl rfl
set_option maxRecDepth 100000 in
theorem kw_794 : (Jvm.Cond.fieldLink "SlidingRanksModel" (16 : Nat) "SlidingRanksModel" "ends" "[I") ∈ kwL := kw_at 794 rfl rfl
set_option maxRecDepth 100000 in
theorem kw_795 : (Jvm.Cond.fieldLink "SlidingRanksModel" (19 : Nat) "SlidingRanksModel" "letters" "[I") ∈ kwL := kw_at 795 rfl rfl
set_option maxRecDepth 100000 in
theorem kw_796 : (Jvm.Cond.fieldLink "SlidingRanksModel" (22 : Nat) "SlidingRanksModel" "sorted" "[I") ∈ kwL := kw_at 796 rfl rfl
set_option maxRecDepth 100000 in
theorem kw_797 : (Jvm.Cond.fieldLink "SlidingRanksModel" (144 : Nat) "SlidingRanksModel" "rowMany" "I") ∈ kwL := kw_at 797 rfl rfl
set_option maxRecDepth 100000 in
theorem kw_798 : (Jvm.Cond.fieldLink "SlidingRanksModel" (25 : Nat) "SlidingRanksModel" "spread" "[I") ∈ kwL := kw_at 798 rfl rfl
set_option maxRecDepth 100000 in
theorem kw_799 : (Jvm.Cond.fieldLink "SlidingRanksModel" (154 : Nat) "SlidingRanksModel" "whole" "I") ∈ kwL := kw_at 799 rfl rfl
set_option maxRecDepth 100000 in
theorem kw_800 : (Jvm.Cond.fieldLink "SlidingRanksModel" (157 : Nat) "SlidingRanksModel" "rest" "I") ∈ kwL := kw_at 800 rfl rfl
set_option maxRecDepth 100000 in
theorem kw_801 : (Jvm.Cond.fieldLink "SlidingRanksModel" (163 : Nat) "SlidingRanksModel" "over" "I") ∈ kwL := kw_at 801 rfl rfl
set_option maxRecDepth 100000 in
theorem kw_802 : (Jvm.Cond.fieldLink "SlidingRanksModel" (160 : Nat) "SlidingRanksModel" "under" "I") ∈ kwL := kw_at 802 rfl rfl
set_option maxRecDepth 100000 in
theorem kw_803 : (Jvm.Cond.fieldLink "SlidingRanksModel" (28 : Nat) "SlidingRanksModel" "page" "[I") ∈ kwL := kw_at 803 rfl rfl
set_option maxRecDepth 100000 in
theorem kw_804 : (Jvm.Cond.fieldLink "SlidingRanksModel" (186 : Nat) "SlidingRanksModel" "paged" "I") ∈ kwL := kw_at 804 rfl rfl
set_option maxRecDepth 100000 in
theorem kw_805 : (Jvm.Cond.fieldLink "SlidingRanksModel" (31 : Nat) "SlidingRanksModel" "isKept" "[Z") ∈ kwL := kw_at 805 rfl rfl
set_option maxRecDepth 100000 in
theorem kw_806 : (Jvm.Cond.fieldLink "SlidingRanksModel" (35 : Nat) "SlidingRanksModel" "lanes" "[I") ∈ kwL := kw_at 806 rfl rfl
set_option maxRecDepth 100000 in
theorem kw_807 : (Jvm.Cond.fieldLink "SlidingRanksModel" (38 : Nat) "SlidingRanksModel" "lengths" "[I") ∈ kwL := kw_at 807 rfl rfl
set_option maxRecDepth 100000 in
theorem kw_808 : (Jvm.Cond.fieldLink "SlidingRanksModel" (41 : Nat) "SlidingRanksModel" "cells" "[I") ∈ kwL := kw_at 808 rfl rfl
set_option maxRecDepth 100000 in
theorem kw_809 : (Jvm.Cond.fieldLink "SlidingRanksModel" (240 : Nat) "SlidingRanksModel" "torn" "I") ∈ kwL := kw_at 809 rfl rfl
set_option maxRecDepth 100000 in
theorem kw_867 : (Jvm.Cond.methodLink "SlidingRanksLaw" (17 : Nat) ({ cls := "SlidingRanksModel", name := "feed", desc := "(I)I" } : Jvm.MethodName)) ∈ kwL := kw_at 867 rfl rfl
set_option maxRecDepth 100000 in
theorem kw_868 : (Jvm.Cond.instanceMethod ({ cls := "SlidingRanksModel", name := "feed", desc := "(I)I" } : Jvm.MethodName)) ∈ kwL := kw_at 868 rfl rfl
set_option maxRecDepth 100000 in
theorem kw_869 : (Jvm.Cond.selects "SlidingRanksModel" ({ cls := "SlidingRanksModel", name := "feed", desc := "(I)I" } : Jvm.MethodName) ({ cls := "SlidingRanksModel", name := "feed", desc := "(I)I" } : Jvm.MethodName)) ∈ kwL := kw_at 869 rfl rfl
set_option maxRecDepth 100000 in
theorem kw_870 : (Jvm.Cond.code ({ cls := "SlidingRanksModel", name := "feed", desc := "(I)I" } : Jvm.MethodName) prog_9_method_6_code (2 : Nat) (Option.some Jvm.ClassFile.FieldType.int)) ∈ kwL := kw_at 870 rfl rfl
set_option maxRecDepth 100000 in
theorem kw_871 : (Jvm.Cond.constantLong "SlidingRanksModel" (52 : Nat) (127 : Int64)) ∈ kwL := kw_at 871 rfl rfl
set_option maxRecDepth 100000 in
theorem kw_872 : (Jvm.Cond.methodLink "SlidingRanksModel" (54 : Nat) ({ cls := "SlidingRanksModel", name := "in", desc := "(JJJ)Z" } : Jvm.MethodName)) ∈ kwL := kw_at 872 rfl rfl
set_option maxRecDepth 100000 in
theorem kw_873 : (Jvm.Cond.static ({ cls := "SlidingRanksModel", name := "in", desc := "(JJJ)Z" } : Jvm.MethodName)) ∈ kwL := kw_at 873 rfl rfl
set_option maxRecDepth 100000 in
theorem kw_874 : (Jvm.Cond.code ({ cls := "SlidingRanksModel", name := "in", desc := "(JJJ)Z" } : Jvm.MethodName) prog_9_method_3_code (6 : Nat) (Option.some Jvm.ClassFile.FieldType.boolean)) ∈ kwL := kw_at 874 rfl rfl
set_option maxRecDepth 100000 in
theorem kw_875 : (Jvm.Cond.methodLink "SlidingRanksLaw" (21 : Nat) ({ cls := "SlidingRanksModel", name := "end", desc := "(I)I" } : Jvm.MethodName)) ∈ kwL := kw_at 875 rfl rfl
set_option maxRecDepth 100000 in
theorem kw_876 : (Jvm.Cond.instanceMethod ({ cls := "SlidingRanksModel", name := "end", desc := "(I)I" } : Jvm.MethodName)) ∈ kwL := kw_at 876 rfl rfl
set_option maxRecDepth 100000 in
theorem kw_877 : (Jvm.Cond.selects "SlidingRanksModel" ({ cls := "SlidingRanksModel", name := "end", desc := "(I)I" } : Jvm.MethodName) ({ cls := "SlidingRanksModel", name := "end", desc := "(I)I" } : Jvm.MethodName)) ∈ kwL := kw_at 877 rfl rfl
set_option maxRecDepth 100000 in
theorem kw_878 : (Jvm.Cond.code ({ cls := "SlidingRanksModel", name := "end", desc := "(I)I" } : Jvm.MethodName) prog_9_method_7_code (3 : Nat) (Option.some Jvm.ClassFile.FieldType.int)) ∈ kwL := kw_at 878 rfl rfl
set_option maxRecDepth 100000 in
theorem kw_879 : (Jvm.Cond.methodLink "SlidingRanksLaw" (26 : Nat) ({ cls := "SlidingRanksModel", name := "text", desc := "()I" } : Jvm.MethodName)) ∈ kwL := kw_at 879 rfl rfl
set_option maxRecDepth 100000 in
theorem kw_880 : (Jvm.Cond.instanceMethod ({ cls := "SlidingRanksModel", name := "text", desc := "()I" } : Jvm.MethodName)) ∈ kwL := kw_at 880 rfl rfl
set_option maxRecDepth 100000 in
theorem kw_881 : (Jvm.Cond.selects "SlidingRanksModel" ({ cls := "SlidingRanksModel", name := "text", desc := "()I" } : Jvm.MethodName) ({ cls := "SlidingRanksModel", name := "text", desc := "()I" } : Jvm.MethodName)) ∈ kwL := kw_at 881 rfl rfl
set_option maxRecDepth 100000 in
theorem kw_882 : (Jvm.Cond.code ({ cls := "SlidingRanksModel", name := "text", desc := "()I" } : Jvm.MethodName) prog_9_method_19_code (1 : Nat) (Option.some Jvm.ClassFile.FieldType.int)) ∈ kwL := kw_at 882 rfl rfl
set_option maxRecDepth 100000 in
theorem kw_883 : (Jvm.Cond.methodLink "SlidingRanksModel" (128 : Nat) ({ cls := "SlidingRanksModel", name := "starts", desc := "()V" } : Jvm.MethodName)) ∈ kwL := kw_at 883 rfl rfl
set_option maxRecDepth 100000 in
theorem kw_885 : (Jvm.Cond.instanceMethod ({ cls := "SlidingRanksModel", name := "starts", desc := "()V" } : Jvm.MethodName)) ∈ kwL := kw_at 885 rfl rfl
set_option maxRecDepth 100000 in
theorem kw_886 : (Jvm.Cond.code ({ cls := "SlidingRanksModel", name := "starts", desc := "()V" } : Jvm.MethodName) prog_9_method_5_code (1 : Nat) (Option.none : Option Jvm.ClassFile.FieldType)) ∈ kwL := kw_at 886 rfl rfl
set_option maxRecDepth 100000 in
theorem kw_887 : (Jvm.Cond.methodLink "SlidingRanksModel" (48 : Nat) ({ cls := "SlidingRanksModel", name := "begins", desc := "(I)V" } : Jvm.MethodName)) ∈ kwL := kw_at 887 rfl rfl
set_option maxRecDepth 100000 in
theorem kw_889 : (Jvm.Cond.instanceMethod ({ cls := "SlidingRanksModel", name := "begins", desc := "(I)V" } : Jvm.MethodName)) ∈ kwL := kw_at 889 rfl rfl
set_option maxRecDepth 100000 in
theorem kw_890 : (Jvm.Cond.code ({ cls := "SlidingRanksModel", name := "begins", desc := "(I)V" } : Jvm.MethodName) prog_9_method_4_code (2 : Nat) (Option.none : Option Jvm.ClassFile.FieldType)) ∈ kwL := kw_at 890 rfl rfl
set_option maxRecDepth 100000 in
theorem kw_891 : (Jvm.Cond.methodLink "SlidingRanksModel" (95 : Nat) ({ cls := "SlidingRanksModel", name := "readsOn", desc := "()V" } : Jvm.MethodName)) ∈ kwL := kw_at 891 rfl rfl
set_option maxRecDepth 100000 in
theorem kw_893 : (Jvm.Cond.instanceMethod ({ cls := "SlidingRanksModel", name := "readsOn", desc := "()V" } : Jvm.MethodName)) ∈ kwL := kw_at 893 rfl rfl
set_option maxRecDepth 100000 in
theorem kw_894 : (Jvm.Cond.code ({ cls := "SlidingRanksModel", name := "readsOn", desc := "()V" } : Jvm.MethodName) prog_9_method_11_code (2 : Nat) (Option.none : Option Jvm.ClassFile.FieldType)) ∈ kwL := kw_at 894 rfl rfl
set_option maxRecDepth 100000 in
theorem kw_895 : (Jvm.Cond.methodLink "SlidingRanksModel" (77 : Nat) ({ cls := "SlidingRanksModel", name := "byteAt", desc := "(I)I" } : Jvm.MethodName)) ∈ kwL := kw_at 895 rfl rfl
set_option maxRecDepth 100000 in
theorem kw_897 : (Jvm.Cond.instanceMethod ({ cls := "SlidingRanksModel", name := "byteAt", desc := "(I)I" } : Jvm.MethodName)) ∈ kwL := kw_at 897 rfl rfl
set_option maxRecDepth 100000 in
theorem kw_898 : (Jvm.Cond.code ({ cls := "SlidingRanksModel", name := "byteAt", desc := "(I)I" } : Jvm.MethodName) prog_9_method_8_code (2 : Nat) (Option.some Jvm.ClassFile.FieldType.int)) ∈ kwL := kw_at 898 rfl rfl
set_option maxRecDepth 100000 in
theorem kw_899 : (Jvm.Cond.constantLong "SlidingRanksModel" (84 : Nat) (97 : Int64)) ∈ kwL := kw_at 899 rfl rfl
set_option maxRecDepth 100000 in
theorem kw_900 : (Jvm.Cond.constantLong "SlidingRanksModel" (86 : Nat) (122 : Int64)) ∈ kwL := kw_at 900 rfl rfl
set_option maxRecDepth 100000 in
theorem kw_901 : (Jvm.Cond.constantLong "SlidingRanksModel" (88 : Nat) (48 : Int64)) ∈ kwL := kw_at 901 rfl rfl
set_option maxRecDepth 100000 in
theorem kw_902 : (Jvm.Cond.constantLong "SlidingRanksModel" (90 : Nat) (57 : Int64)) ∈ kwL := kw_at 902 rfl rfl
set_option maxRecDepth 100000 in
theorem kw_903 : (Jvm.Cond.methodLink "SlidingRanksModel" (92 : Nat) ({ cls := "SlidingRanksModel", name := "fails", desc := "(I)V" } : Jvm.MethodName)) ∈ kwL := kw_at 903 rfl rfl
set_option maxRecDepth 100000 in
theorem kw_905 : (Jvm.Cond.instanceMethod ({ cls := "SlidingRanksModel", name := "fails", desc := "(I)V" } : Jvm.MethodName)) ∈ kwL := kw_at 905 rfl rfl
set_option maxRecDepth 100000 in
theorem kw_906 : (Jvm.Cond.code ({ cls := "SlidingRanksModel", name := "fails", desc := "(I)V" } : Jvm.MethodName) prog_9_method_9_code (2 : Nat) (Option.none : Option Jvm.ClassFile.FieldType)) ∈ kwL := kw_at 906 rfl rfl
set_option maxRecDepth 100000 in
theorem kw_907 : (Jvm.Cond.methodLink "SlidingRanksModel" (131 : Nat) ({ cls := "SlidingRanksModel", name := "readLine", desc := "()V" } : Jvm.MethodName)) ∈ kwL := kw_at 907 rfl rfl
set_option maxRecDepth 100000 in
theorem kw_909 : (Jvm.Cond.instanceMethod ({ cls := "SlidingRanksModel", name := "readLine", desc := "()V" } : Jvm.MethodName)) ∈ kwL := kw_at 909 rfl rfl
set_option maxRecDepth 100000 in
theorem kw_910 : (Jvm.Cond.code ({ cls := "SlidingRanksModel", name := "readLine", desc := "()V" } : Jvm.MethodName) prog_9_method_18_code (2 : Nat) (Option.none : Option Jvm.ClassFile.FieldType)) ∈ kwL := kw_at 910 rfl rfl
set_option maxRecDepth 100000 in
theorem kw_911 : (Jvm.Cond.methodLink "SlidingRanksModel" (98 : Nat) ({ cls := "SlidingRanksModel", name := "nameHere", desc := "()I" } : Jvm.MethodName)) ∈ kwL := kw_at 911 rfl rfl
set_option maxRecDepth 100000 in
theorem kw_913 : (Jvm.Cond.instanceMethod ({ cls := "SlidingRanksModel", name := "nameHere", desc := "()I" } : Jvm.MethodName)) ∈ kwL := kw_at 913 rfl rfl
set_option maxRecDepth 100000 in
theorem kw_914 : (Jvm.Cond.code ({ cls := "SlidingRanksModel", name := "nameHere", desc := "()I" } : Jvm.MethodName) prog_9_method_10_code (4 : Nat) (Option.some Jvm.ClassFile.FieldType.int)) ∈ kwL := kw_at 914 rfl rfl
set_option maxRecDepth 100000 in
theorem kw_915 : (Jvm.Cond.constantLong "SlidingRanksModel" (117 : Nat) (5 : Int64)) ∈ kwL := kw_at 915 rfl rfl
set_option maxRecDepth 100000 in
theorem kw_916 : (Jvm.Cond.methodLink "SlidingRanksModel" (107 : Nat) ({ cls := "SlidingRanksModel", name := "numberRead", desc := "(II)I" } : Jvm.MethodName)) ∈ kwL := kw_at 916 rfl rfl
set_option maxRecDepth 100000 in
theorem kw_918 : (Jvm.Cond.instanceMethod ({ cls := "SlidingRanksModel", name := "numberRead", desc := "(II)I" } : Jvm.MethodName)) ∈ kwL := kw_at 918 rfl rfl
set_option maxRecDepth 100000 in
theorem kw_919 : (Jvm.Cond.code ({ cls := "SlidingRanksModel", name := "numberRead", desc := "(II)I" } : Jvm.MethodName) prog_9_method_12_code (4 : Nat) (Option.some Jvm.ClassFile.FieldType.int)) ∈ kwL := kw_at 919 rfl rfl
set_option maxRecDepth 100000 in
theorem kw_920 : (Jvm.Cond.methodLink "SlidingRanksModel" (122 : Nat) ({ cls := "SlidingRanksModel", name := "wordRead", desc := "(II)I" } : Jvm.MethodName)) ∈ kwL := kw_at 920 rfl rfl
set_option maxRecDepth 100000 in
theorem kw_922 : (Jvm.Cond.instanceMethod ({ cls := "SlidingRanksModel", name := "wordRead", desc := "(II)I" } : Jvm.MethodName)) ∈ kwL := kw_at 922 rfl rfl
set_option maxRecDepth 100000 in
theorem kw_923 : (Jvm.Cond.code ({ cls := "SlidingRanksModel", name := "wordRead", desc := "(II)I" } : Jvm.MethodName) prog_9_method_13_code (4 : Nat) (Option.some Jvm.ClassFile.FieldType.int)) ∈ kwL := kw_at 923 rfl rfl
set_option maxRecDepth 100000 in
theorem kw_924 : (Jvm.Cond.methodLink "SlidingRanksModel" (125 : Nat) ({ cls := "SlidingRanksModel", name := "readPut", desc := "()V" } : Jvm.MethodName)) ∈ kwL := kw_at 924 rfl rfl
set_option maxRecDepth 100000 in
theorem kw_926 : (Jvm.Cond.instanceMethod ({ cls := "SlidingRanksModel", name := "readPut", desc := "()V" } : Jvm.MethodName)) ∈ kwL := kw_at 926 rfl rfl
set_option maxRecDepth 100000 in
theorem kw_927 : (Jvm.Cond.code ({ cls := "SlidingRanksModel", name := "readPut", desc := "()V" } : Jvm.MethodName) prog_9_method_17_code (1 : Nat) (Option.none : Option Jvm.ClassFile.FieldType)) ∈ kwL := kw_at 927 rfl rfl
set_option maxRecDepth 100000 in
theorem kw_928 : (Jvm.Cond.methodLink "SlidingRanksModel" (114 : Nat) ({ cls := "SlidingRanksModel", name := "readReading", desc := "()V" } : Jvm.MethodName)) ∈ kwL := kw_at 928 rfl rfl
set_option maxRecDepth 100000 in
theorem kw_930 : (Jvm.Cond.instanceMethod ({ cls := "SlidingRanksModel", name := "readReading", desc := "()V" } : Jvm.MethodName)) ∈ kwL := kw_at 930 rfl rfl
set_option maxRecDepth 100000 in
theorem kw_931 : (Jvm.Cond.code ({ cls := "SlidingRanksModel", name := "readReading", desc := "()V" } : Jvm.MethodName) prog_9_method_16_code (4 : Nat) (Option.none : Option Jvm.ClassFile.FieldType)) ∈ kwL := kw_at 931 rfl rfl
set_option maxRecDepth 100000 in
theorem kw_932 : (Jvm.Cond.methodLink "SlidingRanksModel" (102 : Nat) ({ cls := "SlidingRanksModel", name := "isReadingHere", desc := "()Z" } : Jvm.MethodName)) ∈ kwL := kw_at 932 rfl rfl
set_option maxRecDepth 100000 in
theorem kw_934 : (Jvm.Cond.instanceMethod ({ cls := "SlidingRanksModel", name := "isReadingHere", desc := "()Z" } : Jvm.MethodName)) ∈ kwL := kw_at 934 rfl rfl
set_option maxRecDepth 100000 in
theorem kw_935 : (Jvm.Cond.code ({ cls := "SlidingRanksModel", name := "isReadingHere", desc := "()Z" } : Jvm.MethodName) prog_9_method_15_code (1 : Nat) (Option.some Jvm.ClassFile.FieldType.boolean)) ∈ kwL := kw_at 935 rfl rfl
set_option maxRecDepth 100000 in
theorem kw_936 : (Jvm.Cond.constant "SlidingRanksModel" (106 : Nat) (100000000 : Int32)) ∈ kwL := kw_at 936 rfl rfl
set_option maxRecDepth 100000 in
theorem kw_937 : (Jvm.Cond.methodLink "SlidingRanksModel" (111 : Nat) ({ cls := "SlidingRanksModel", name := "hundredthsRead", desc := "()I" } : Jvm.MethodName)) ∈ kwL := kw_at 937 rfl rfl
set_option maxRecDepth 100000 in
theorem kw_939 : (Jvm.Cond.instanceMethod ({ cls := "SlidingRanksModel", name := "hundredthsRead", desc := "()I" } : Jvm.MethodName)) ∈ kwL := kw_at 939 rfl rfl
set_option maxRecDepth 100000 in
theorem kw_940 : (Jvm.Cond.code ({ cls := "SlidingRanksModel", name := "hundredthsRead", desc := "()I" } : Jvm.MethodName) prog_9_method_14_code (3 : Nat) (Option.some Jvm.ClassFile.FieldType.int)) ∈ kwL := kw_at 940 rfl rfl
set_option maxRecDepth 100000 in
theorem kw_941 : (Jvm.Cond.methodLink "SlidingRanksModel" (137 : Nat) ({ cls := "SlidingRanksModel", name := "copies", desc := "(II)V" } : Jvm.MethodName)) ∈ kwL := kw_at 941 rfl rfl
set_option maxRecDepth 100000 in
theorem kw_943 : (Jvm.Cond.instanceMethod ({ cls := "SlidingRanksModel", name := "copies", desc := "(II)V" } : Jvm.MethodName)) ∈ kwL := kw_at 943 rfl rfl
set_option maxRecDepth 100000 in
theorem kw_944 : (Jvm.Cond.code ({ cls := "SlidingRanksModel", name := "copies", desc := "(II)V" } : Jvm.MethodName) prog_9_method_21_code (4 : Nat) (Option.none : Option Jvm.ClassFile.FieldType)) ∈ kwL := kw_at 944 rfl rfl
set_option maxRecDepth 100000 in
theorem kw_945 : (Jvm.Cond.methodLink "SlidingRanksModel" (141 : Nat) ({ cls := "SlidingRanksModel", name := "many", desc := "()I" } : Jvm.MethodName)) ∈ kwL := kw_at 945 rfl rfl
set_option maxRecDepth 100000 in
theorem kw_947 : (Jvm.Cond.instanceMethod ({ cls := "SlidingRanksModel", name := "many", desc := "()I" } : Jvm.MethodName)) ∈ kwL := kw_at 947 rfl rfl
set_option maxRecDepth 100000 in
theorem kw_948 : (Jvm.Cond.code ({ cls := "SlidingRanksModel", name := "many", desc := "()I" } : Jvm.MethodName) prog_9_method_22_code (1 : Nat) (Option.some Jvm.ClassFile.FieldType.int)) ∈ kwL := kw_at 948 rfl rfl
set_option maxRecDepth 100000 in
theorem kw_949 : (Jvm.Cond.methodLink "SlidingRanksLaw" (30 : Nat) ({ cls := "SlidingRanksModel", name := "fault", desc := "()I" } : Jvm.MethodName)) ∈ kwL := kw_at 949 rfl rfl
set_option maxRecDepth 100000 in
theorem kw_950 : (Jvm.Cond.instanceMethod ({ cls := "SlidingRanksModel", name := "fault", desc := "()I" } : Jvm.MethodName)) ∈ kwL := kw_at 950 rfl rfl
set_option maxRecDepth 100000 in
theorem kw_951 : (Jvm.Cond.selects "SlidingRanksModel" ({ cls := "SlidingRanksModel", name := "fault", desc := "()I" } : Jvm.MethodName) ({ cls := "SlidingRanksModel", name := "fault", desc := "()I" } : Jvm.MethodName)) ∈ kwL := kw_at 951 rfl rfl
set_option maxRecDepth 100000 in
theorem kw_952 : (Jvm.Cond.code ({ cls := "SlidingRanksModel", name := "fault", desc := "()I" } : Jvm.MethodName) prog_9_method_20_code (1 : Nat) (Option.some Jvm.ClassFile.FieldType.int)) ∈ kwL := kw_at 952 rfl rfl
set_option maxRecDepth 100000 in
theorem kw_953 : (Jvm.Cond.methodLink "SlidingRanksLaw" (34 : Nat) ({ cls := "SlidingRanksModel", name := "rule", desc := "(I)I" } : Jvm.MethodName)) ∈ kwL := kw_at 953 rfl rfl
set_option maxRecDepth 100000 in
theorem kw_954 : (Jvm.Cond.instanceMethod ({ cls := "SlidingRanksModel", name := "rule", desc := "(I)I" } : Jvm.MethodName)) ∈ kwL := kw_at 954 rfl rfl
set_option maxRecDepth 100000 in
theorem kw_955 : (Jvm.Cond.selects "SlidingRanksModel" ({ cls := "SlidingRanksModel", name := "rule", desc := "(I)I" } : Jvm.MethodName) ({ cls := "SlidingRanksModel", name := "rule", desc := "(I)I" } : Jvm.MethodName)) ∈ kwL := kw_at 955 rfl rfl
set_option maxRecDepth 100000 in
theorem kw_956 : (Jvm.Cond.code ({ cls := "SlidingRanksModel", name := "rule", desc := "(I)I" } : Jvm.MethodName) prog_9_method_30_code (2 : Nat) (Option.some Jvm.ClassFile.FieldType.int)) ∈ kwL := kw_at 956 rfl rfl
set_option maxRecDepth 100000 in
theorem kw_957 : (Jvm.Cond.methodLink "SlidingRanksModel" (172 : Nat) ({ cls := "SlidingRanksModel", name := "missing", desc := "()I" } : Jvm.MethodName)) ∈ kwL := kw_at 957 rfl rfl
set_option maxRecDepth 100000 in
theorem kw_959 : (Jvm.Cond.instanceMethod ({ cls := "SlidingRanksModel", name := "missing", desc := "()I" } : Jvm.MethodName)) ∈ kwL := kw_at 959 rfl rfl
set_option maxRecDepth 100000 in
theorem kw_960 : (Jvm.Cond.code ({ cls := "SlidingRanksModel", name := "missing", desc := "()I" } : Jvm.MethodName) prog_9_method_28_code (3 : Nat) (Option.some Jvm.ClassFile.FieldType.int)) ∈ kwL := kw_at 960 rfl rfl
set_option maxRecDepth 100000 in
theorem kw_961 : (Jvm.Cond.methodLink "SlidingRanksModel" (175 : Nat) ({ cls := "SlidingRanksModel", name := "results", desc := "()I" } : Jvm.MethodName)) ∈ kwL := kw_at 961 rfl rfl
set_option maxRecDepth 100000 in
theorem kw_963 : (Jvm.Cond.instanceMethod ({ cls := "SlidingRanksModel", name := "results", desc := "()I" } : Jvm.MethodName)) ∈ kwL := kw_at 963 rfl rfl
set_option maxRecDepth 100000 in
theorem kw_964 : (Jvm.Cond.code ({ cls := "SlidingRanksModel", name := "results", desc := "()I" } : Jvm.MethodName) prog_9_method_29_code (3 : Nat) (Option.some Jvm.ClassFile.FieldType.int)) ∈ kwL := kw_at 964 rfl rfl
set_option maxRecDepth 100000 in
theorem kw_965 : (Jvm.Cond.methodLink "SlidingRanksModel" (168 : Nat) ({ cls := "SlidingRanksModel", name := "isResult", desc := "(I)Z" } : Jvm.MethodName)) ∈ kwL := kw_at 965 rfl rfl
set_option maxRecDepth 100000 in
theorem kw_967 : (Jvm.Cond.instanceMethod ({ cls := "SlidingRanksModel", name := "isResult", desc := "(I)Z" } : Jvm.MethodName)) ∈ kwL := kw_at 967 rfl rfl
set_option maxRecDepth 100000 in
theorem kw_968 : (Jvm.Cond.code ({ cls := "SlidingRanksModel", name := "isResult", desc := "(I)Z" } : Jvm.MethodName) prog_9_method_26_code (7 : Nat) (Option.some Jvm.ClassFile.FieldType.boolean)) ∈ kwL := kw_at 968 rfl rfl
set_option maxRecDepth 100000 in
theorem kw_969 : (Jvm.Cond.methodLink "SlidingRanksModel" (151 : Nat) ({ cls := "SlidingRanksModel", name := "rowOf", desc := "(I)V" } : Jvm.MethodName)) ∈ kwL := kw_at 969 rfl rfl
set_option maxRecDepth 100000 in
theorem kw_971 : (Jvm.Cond.instanceMethod ({ cls := "SlidingRanksModel", name := "rowOf", desc := "(I)V" } : Jvm.MethodName)) ∈ kwL := kw_at 971 rfl rfl
set_option maxRecDepth 100000 in
theorem kw_972 : (Jvm.Cond.code ({ cls := "SlidingRanksModel", name := "rowOf", desc := "(I)V" } : Jvm.MethodName) prog_9_method_25_code (4 : Nat) (Option.none : Option Jvm.ClassFile.FieldType)) ∈ kwL := kw_at 972 rfl rfl
set_option maxRecDepth 100000 in
theorem kw_973 : (Jvm.Cond.methodLink "SlidingRanksModel" (147 : Nat) ({ cls := "SlidingRanksModel", name := "puts", desc := "([III)V" } : Jvm.MethodName)) ∈ kwL := kw_at 973 rfl rfl
set_option maxRecDepth 100000 in
theorem kw_974 : (Jvm.Cond.static ({ cls := "SlidingRanksModel", name := "puts", desc := "([III)V" } : Jvm.MethodName)) ∈ kwL := kw_at 974 rfl rfl
set_option maxRecDepth 100000 in
theorem kw_975 : (Jvm.Cond.code ({ cls := "SlidingRanksModel", name := "puts", desc := "([III)V" } : Jvm.MethodName) prog_9_method_24_code (4 : Nat) (Option.none : Option Jvm.ClassFile.FieldType)) ∈ kwL := kw_at 975 rfl rfl
set_option maxRecDepth 100000 in
theorem kw_976 : (Jvm.Cond.constantLong "SlidingRanksModel" (166 : Nat) (2 : Int64)) ∈ kwL := kw_at 976 rfl rfl
set_option maxRecDepth 100000 in
theorem kw_977 : (Jvm.Cond.constantLong "SlidingRanksModel" (178 : Nat) (7 : Int64)) ∈ kwL := kw_at 977 rfl rfl
set_option maxRecDepth 100000 in
theorem kw_978 : (Jvm.Cond.methodLink "SlidingRanksLaw" (38 : Nat) ({ cls := "SlidingRanksModel", name := "reading", desc := "(I)I" } : Jvm.MethodName)) ∈ kwL := kw_at 978 rfl rfl
set_option maxRecDepth 100000 in
theorem kw_979 : (Jvm.Cond.instanceMethod ({ cls := "SlidingRanksModel", name := "reading", desc := "(I)I" } : Jvm.MethodName)) ∈ kwL := kw_at 979 rfl rfl
set_option maxRecDepth 100000 in
theorem kw_980 : (Jvm.Cond.selects "SlidingRanksModel" ({ cls := "SlidingRanksModel", name := "reading", desc := "(I)I" } : Jvm.MethodName) ({ cls := "SlidingRanksModel", name := "reading", desc := "(I)I" } : Jvm.MethodName)) ∈ kwL := kw_at 980 rfl rfl
set_option maxRecDepth 100000 in
theorem kw_981 : (Jvm.Cond.code ({ cls := "SlidingRanksModel", name := "reading", desc := "(I)I" } : Jvm.MethodName) prog_9_method_31_code (2 : Nat) (Option.some Jvm.ClassFile.FieldType.int)) ∈ kwL := kw_at 981 rfl rfl
set_option maxRecDepth 100000 in
theorem kw_982 : (Jvm.Cond.methodLink "SlidingRanksModel" (180 : Nat) ({ cls := "SlidingRanksModel", name := "isThere", desc := "(I)Z" } : Jvm.MethodName)) ∈ kwL := kw_at 982 rfl rfl
set_option maxRecDepth 100000 in
theorem kw_984 : (Jvm.Cond.instanceMethod ({ cls := "SlidingRanksModel", name := "isThere", desc := "(I)Z" } : Jvm.MethodName)) ∈ kwL := kw_at 984 rfl rfl
set_option maxRecDepth 100000 in
theorem kw_985 : (Jvm.Cond.code ({ cls := "SlidingRanksModel", name := "isThere", desc := "(I)Z" } : Jvm.MethodName) prog_9_method_23_code (2 : Nat) (Option.some Jvm.ClassFile.FieldType.boolean)) ∈ kwL := kw_at 985 rfl rfl
set_option maxRecDepth 100000 in
theorem kw_986 : (Jvm.Cond.methodLink "SlidingRanksLaw" (43 : Nat) ({ cls := "SlidingRanksModel", name := "row", desc := "(II)I" } : Jvm.MethodName)) ∈ kwL := kw_at 986 rfl rfl
set_option maxRecDepth 100000 in
theorem kw_987 : (Jvm.Cond.instanceMethod ({ cls := "SlidingRanksModel", name := "row", desc := "(II)I" } : Jvm.MethodName)) ∈ kwL := kw_at 987 rfl rfl
set_option maxRecDepth 100000 in
theorem kw_988 : (Jvm.Cond.selects "SlidingRanksModel" ({ cls := "SlidingRanksModel", name := "row", desc := "(II)I" } : Jvm.MethodName) ({ cls := "SlidingRanksModel", name := "row", desc := "(II)I" } : Jvm.MethodName)) ∈ kwL := kw_at 988 rfl rfl
set_option maxRecDepth 100000 in
theorem kw_989 : (Jvm.Cond.code ({ cls := "SlidingRanksModel", name := "row", desc := "(II)I" } : Jvm.MethodName) prog_9_method_32_code (4 : Nat) (Option.some Jvm.ClassFile.FieldType.int)) ∈ kwL := kw_at 989 rfl rfl
set_option maxRecDepth 100000 in
theorem kw_990 : (Jvm.Cond.methodLink "SlidingRanksLaw" (47 : Nat) ({ cls := "SlidingRanksModel", name := "item", desc := "(II)I" } : Jvm.MethodName)) ∈ kwL := kw_at 990 rfl rfl
set_option maxRecDepth 100000 in
theorem kw_991 : (Jvm.Cond.instanceMethod ({ cls := "SlidingRanksModel", name := "item", desc := "(II)I" } : Jvm.MethodName)) ∈ kwL := kw_at 991 rfl rfl
set_option maxRecDepth 100000 in
theorem kw_992 : (Jvm.Cond.selects "SlidingRanksModel" ({ cls := "SlidingRanksModel", name := "item", desc := "(II)I" } : Jvm.MethodName) ({ cls := "SlidingRanksModel", name := "item", desc := "(II)I" } : Jvm.MethodName)) ∈ kwL := kw_at 992 rfl rfl
set_option maxRecDepth 100000 in
theorem kw_993 : (Jvm.Cond.code ({ cls := "SlidingRanksModel", name := "item", desc := "(II)I" } : Jvm.MethodName) prog_9_method_33_code (3 : Nat) (Option.some Jvm.ClassFile.FieldType.int)) ∈ kwL := kw_at 993 rfl rfl
set_option maxRecDepth 100000 in
theorem kw_994 : (Jvm.Cond.methodLink "SlidingRanksLaw" (51 : Nat) ({ cls := "SlidingRanksModel", name := "result", desc := "(II)I" } : Jvm.MethodName)) ∈ kwL := kw_at 994 rfl rfl
set_option maxRecDepth 100000 in
theorem kw_995 : (Jvm.Cond.instanceMethod ({ cls := "SlidingRanksModel", name := "result", desc := "(II)I" } : Jvm.MethodName)) ∈ kwL := kw_at 995 rfl rfl
set_option maxRecDepth 100000 in
theorem kw_996 : (Jvm.Cond.selects "SlidingRanksModel" ({ cls := "SlidingRanksModel", name := "result", desc := "(II)I" } : Jvm.MethodName) ({ cls := "SlidingRanksModel", name := "result", desc := "(II)I" } : Jvm.MethodName)) ∈ kwL := kw_at 996 rfl rfl
set_option maxRecDepth 100000 in
theorem kw_997 : (Jvm.Cond.code ({ cls := "SlidingRanksModel", name := "result", desc := "(II)I" } : Jvm.MethodName) prog_9_method_34_code (3 : Nat) (Option.some Jvm.ClassFile.FieldType.int)) ∈ kwL := kw_at 997 rfl rfl
set_option maxRecDepth 100000 in
theorem kw_998 : (Jvm.Cond.methodLink "SlidingRanksModel" (183 : Nat) ({ cls := "SlidingRanksModel", name := "rounded", desc := "()I" } : Jvm.MethodName)) ∈ kwL := kw_at 998 rfl rfl
set_option maxRecDepth 100000 in
theorem kw_1000 : (Jvm.Cond.instanceMethod ({ cls := "SlidingRanksModel", name := "rounded", desc := "()I" } : Jvm.MethodName)) ∈ kwL := kw_at 1000 rfl rfl
set_option maxRecDepth 100000 in
theorem kw_1001 : (Jvm.Cond.code ({ cls := "SlidingRanksModel", name := "rounded", desc := "()I" } : Jvm.MethodName) prog_9_method_27_code (4 : Nat) (Option.some Jvm.ClassFile.FieldType.int)) ∈ kwL := kw_at 1001 rfl rfl
set_option maxRecDepth 100000 in
theorem kw_1002 : (Jvm.Cond.methodLink "SlidingRanksLaw" (56 : Nat) ({ cls := "SlidingRanksModel", name := "rank", desc := "(III)I" } : Jvm.MethodName)) ∈ kwL := kw_at 1002 rfl rfl
set_option maxRecDepth 100000 in
theorem kw_1003 : (Jvm.Cond.instanceMethod ({ cls := "SlidingRanksModel", name := "rank", desc := "(III)I" } : Jvm.MethodName)) ∈ kwL := kw_at 1003 rfl rfl
set_option maxRecDepth 100000 in
theorem kw_1004 : (Jvm.Cond.selects "SlidingRanksModel" ({ cls := "SlidingRanksModel", name := "rank", desc := "(III)I" } : Jvm.MethodName) ({ cls := "SlidingRanksModel", name := "rank", desc := "(III)I" } : Jvm.MethodName)) ∈ kwL := kw_at 1004 rfl rfl
set_option maxRecDepth 100000 in
theorem kw_1005 : (Jvm.Cond.code ({ cls := "SlidingRanksModel", name := "rank", desc := "(III)I" } : Jvm.MethodName) prog_9_method_35_code (6 : Nat) (Option.some Jvm.ClassFile.FieldType.int)) ∈ kwL := kw_at 1005 rfl rfl
set_option maxRecDepth 100000 in
theorem kw_1006 : (Jvm.Cond.methodLink "SlidingRanksLaw" (60 : Nat) ({ cls := "SlidingRanksModel", name := "shown", desc := "(II)I" } : Jvm.MethodName)) ∈ kwL := kw_at 1006 rfl rfl
set_option maxRecDepth 100000 in
theorem kw_1007 : (Jvm.Cond.instanceMethod ({ cls := "SlidingRanksModel", name := "shown", desc := "(II)I" } : Jvm.MethodName)) ∈ kwL := kw_at 1007 rfl rfl
set_option maxRecDepth 100000 in
theorem kw_1008 : (Jvm.Cond.selects "SlidingRanksModel" ({ cls := "SlidingRanksModel", name := "shown", desc := "(II)I" } : Jvm.MethodName) ({ cls := "SlidingRanksModel", name := "shown", desc := "(II)I" } : Jvm.MethodName)) ∈ kwL := kw_at 1008 rfl rfl
set_option maxRecDepth 100000 in
theorem kw_1009 : (Jvm.Cond.code ({ cls := "SlidingRanksModel", name := "shown", desc := "(II)I" } : Jvm.MethodName) prog_9_method_39_code (3 : Nat) (Option.some Jvm.ClassFile.FieldType.int)) ∈ kwL := kw_at 1009 rfl rfl
set_option maxRecDepth 100000 in
theorem kw_1010 : (Jvm.Cond.methodLink "SlidingRanksModel" (195 : Nat) ({ cls := "SlidingRanksModel", name := "shownOf", desc := "(I)I" } : Jvm.MethodName)) ∈ kwL := kw_at 1010 rfl rfl
set_option maxRecDepth 100000 in
theorem kw_1012 : (Jvm.Cond.instanceMethod ({ cls := "SlidingRanksModel", name := "shownOf", desc := "(I)I" } : Jvm.MethodName)) ∈ kwL := kw_at 1012 rfl rfl
set_option maxRecDepth 100000 in
theorem kw_1013 : (Jvm.Cond.code ({ cls := "SlidingRanksModel", name := "shownOf", desc := "(I)I" } : Jvm.MethodName) prog_9_method_38_code (6 : Nat) (Option.some Jvm.ClassFile.FieldType.int)) ∈ kwL := kw_at 1013 rfl rfl
set_option maxRecDepth 100000 in
theorem kw_1014 : (Jvm.Cond.methodLink "SlidingRanksModel" (189 : Nat) ({ cls := "SlidingRanksModel", name := "shows", desc := "(I)V" } : Jvm.MethodName)) ∈ kwL := kw_at 1014 rfl rfl
set_option maxRecDepth 100000 in
theorem kw_1016 : (Jvm.Cond.instanceMethod ({ cls := "SlidingRanksModel", name := "shows", desc := "(I)V" } : Jvm.MethodName)) ∈ kwL := kw_at 1016 rfl rfl
set_option maxRecDepth 100000 in
theorem kw_1017 : (Jvm.Cond.code ({ cls := "SlidingRanksModel", name := "shows", desc := "(I)V" } : Jvm.MethodName) prog_9_method_36_code (2 : Nat) (Option.none : Option Jvm.ClassFile.FieldType)) ∈ kwL := kw_at 1017 rfl rfl
set_option maxRecDepth 100000 in
theorem kw_1018 : (Jvm.Cond.methodLink "SlidingRanksModel" (192 : Nat) ({ cls := "SlidingRanksModel", name := "showsNumber", desc := "(I)V" } : Jvm.MethodName)) ∈ kwL := kw_at 1018 rfl rfl
set_option maxRecDepth 100000 in
theorem kw_1020 : (Jvm.Cond.instanceMethod ({ cls := "SlidingRanksModel", name := "showsNumber", desc := "(I)V" } : Jvm.MethodName)) ∈ kwL := kw_at 1020 rfl rfl
set_option maxRecDepth 100000 in
theorem kw_1021 : (Jvm.Cond.code ({ cls := "SlidingRanksModel", name := "showsNumber", desc := "(I)V" } : Jvm.MethodName) prog_9_method_37_code (3 : Nat) (Option.none : Option Jvm.ClassFile.FieldType)) ∈ kwL := kw_at 1021 rfl rfl
set_option maxRecDepth 100000 in
theorem kw_1022 : (Jvm.Cond.methodLink "SlidingRanksLaw" (64 : Nat) ({ cls := "SlidingRanksModel", name := "middle", desc := "(II)I" } : Jvm.MethodName)) ∈ kwL := kw_at 1022 rfl rfl
set_option maxRecDepth 100000 in
theorem kw_1023 : (Jvm.Cond.instanceMethod ({ cls := "SlidingRanksModel", name := "middle", desc := "(II)I" } : Jvm.MethodName)) ∈ kwL := kw_at 1023 rfl rfl
set_option maxRecDepth 100000 in
theorem kw_1024 : (Jvm.Cond.selects "SlidingRanksModel" ({ cls := "SlidingRanksModel", name := "middle", desc := "(II)I" } : Jvm.MethodName) ({ cls := "SlidingRanksModel", name := "middle", desc := "(II)I" } : Jvm.MethodName)) ∈ kwL := kw_at 1024 rfl rfl
set_option maxRecDepth 100000 in
theorem kw_1025 : (Jvm.Cond.code ({ cls := "SlidingRanksModel", name := "middle", desc := "(II)I" } : Jvm.MethodName) prog_9_method_42_code (3 : Nat) (Option.some Jvm.ClassFile.FieldType.int)) ∈ kwL := kw_at 1025 rfl rfl
set_option maxRecDepth 100000 in
theorem kw_1026 : (Jvm.Cond.methodLink "SlidingRanksModel" (201 : Nat) ({ cls := "SlidingRanksModel", name := "spreadOf", desc := "()I" } : Jvm.MethodName)) ∈ kwL := kw_at 1026 rfl rfl
set_option maxRecDepth 100000 in
theorem kw_1028 : (Jvm.Cond.instanceMethod ({ cls := "SlidingRanksModel", name := "spreadOf", desc := "()I" } : Jvm.MethodName)) ∈ kwL := kw_at 1028 rfl rfl
set_option maxRecDepth 100000 in
theorem kw_1029 : (Jvm.Cond.code ({ cls := "SlidingRanksModel", name := "spreadOf", desc := "()I" } : Jvm.MethodName) prog_9_method_41_code (3 : Nat) (Option.some Jvm.ClassFile.FieldType.int)) ∈ kwL := kw_at 1029 rfl rfl
set_option maxRecDepth 100000 in
theorem kw_1030 : (Jvm.Cond.methodLink "SlidingRanksModel" (198 : Nat) ({ cls := "SlidingRanksModel", name := "off", desc := "(II)I" } : Jvm.MethodName)) ∈ kwL := kw_at 1030 rfl rfl
set_option maxRecDepth 100000 in
theorem kw_1031 : (Jvm.Cond.static ({ cls := "SlidingRanksModel", name := "off", desc := "(II)I" } : Jvm.MethodName)) ∈ kwL := kw_at 1031 rfl rfl
set_option maxRecDepth 100000 in
theorem kw_1032 : (Jvm.Cond.code ({ cls := "SlidingRanksModel", name := "off", desc := "(II)I" } : Jvm.MethodName) prog_9_method_40_code (2 : Nat) (Option.some Jvm.ClassFile.FieldType.int)) ∈ kwL := kw_at 1032 rfl rfl
set_option maxRecDepth 100000 in
theorem kw_1033 : (Jvm.Cond.methodLink "SlidingRanksLaw" (68 : Nat) ({ cls := "SlidingRanksModel", name := "far", desc := "(II)I" } : Jvm.MethodName)) ∈ kwL := kw_at 1033 rfl rfl
set_option maxRecDepth 100000 in
theorem kw_1034 : (Jvm.Cond.instanceMethod ({ cls := "SlidingRanksModel", name := "far", desc := "(II)I" } : Jvm.MethodName)) ∈ kwL := kw_at 1034 rfl rfl
set_option maxRecDepth 100000 in
theorem kw_1035 : (Jvm.Cond.selects "SlidingRanksModel" ({ cls := "SlidingRanksModel", name := "far", desc := "(II)I" } : Jvm.MethodName) ({ cls := "SlidingRanksModel", name := "far", desc := "(II)I" } : Jvm.MethodName)) ∈ kwL := kw_at 1035 rfl rfl
set_option maxRecDepth 100000 in
theorem kw_1036 : (Jvm.Cond.code ({ cls := "SlidingRanksModel", name := "far", desc := "(II)I" } : Jvm.MethodName) prog_9_method_44_code (3 : Nat) (Option.some Jvm.ClassFile.FieldType.int)) ∈ kwL := kw_at 1036 rfl rfl
set_option maxRecDepth 100000 in
theorem kw_1037 : (Jvm.Cond.constantLong "SlidingRanksModel" (204 : Nat) (20 : Int64)) ∈ kwL := kw_at 1037 rfl rfl
set_option maxRecDepth 100000 in
theorem kw_1038 : (Jvm.Cond.methodLink "SlidingRanksModel" (206 : Nat) ({ cls := "SlidingRanksModel", name := "isFar", desc := "(II)Z" } : Jvm.MethodName)) ∈ kwL := kw_at 1038 rfl rfl
set_option maxRecDepth 100000 in
theorem kw_1040 : (Jvm.Cond.instanceMethod ({ cls := "SlidingRanksModel", name := "isFar", desc := "(II)Z" } : Jvm.MethodName)) ∈ kwL := kw_at 1040 rfl rfl
set_option maxRecDepth 100000 in
theorem kw_1041 : (Jvm.Cond.code ({ cls := "SlidingRanksModel", name := "isFar", desc := "(II)Z" } : Jvm.MethodName) prog_9_method_43_code (4 : Nat) (Option.some Jvm.ClassFile.FieldType.boolean)) ∈ kwL := kw_at 1041 rfl rfl
set_option maxRecDepth 100000 in
theorem kw_1042 : (Jvm.Cond.methodLink "SlidingRanksLaw" (72 : Nat) ({ cls := "SlidingRanksModel", name := "fars", desc := "(I)I" } : Jvm.MethodName)) ∈ kwL := kw_at 1042 rfl rfl
set_option maxRecDepth 100000 in
theorem kw_1043 : (Jvm.Cond.instanceMethod ({ cls := "SlidingRanksModel", name := "fars", desc := "(I)I" } : Jvm.MethodName)) ∈ kwL := kw_at 1043 rfl rfl
set_option maxRecDepth 100000 in
theorem kw_1044 : (Jvm.Cond.selects "SlidingRanksModel" ({ cls := "SlidingRanksModel", name := "fars", desc := "(I)I" } : Jvm.MethodName) ({ cls := "SlidingRanksModel", name := "fars", desc := "(I)I" } : Jvm.MethodName)) ∈ kwL := kw_at 1044 rfl rfl
set_option maxRecDepth 100000 in
theorem kw_1045 : (Jvm.Cond.code ({ cls := "SlidingRanksModel", name := "fars", desc := "(I)I" } : Jvm.MethodName) prog_9_method_45_code (4 : Nat) (Option.some Jvm.ClassFile.FieldType.int)) ∈ kwL := kw_at 1045 rfl rfl
set_option maxRecDepth 100000 in
theorem kw_1046 : (Jvm.Cond.methodLink "SlidingRanksLaw" (76 : Nat) ({ cls := "SlidingRanksModel", name := "above", desc := "(II)I" } : Jvm.MethodName)) ∈ kwL := kw_at 1046 rfl rfl
set_option maxRecDepth 100000 in
theorem kw_1047 : (Jvm.Cond.instanceMethod ({ cls := "SlidingRanksModel", name := "above", desc := "(II)I" } : Jvm.MethodName)) ∈ kwL := kw_at 1047 rfl rfl
set_option maxRecDepth 100000 in
theorem kw_1048 : (Jvm.Cond.selects "SlidingRanksModel" ({ cls := "SlidingRanksModel", name := "above", desc := "(II)I" } : Jvm.MethodName) ({ cls := "SlidingRanksModel", name := "above", desc := "(II)I" } : Jvm.MethodName)) ∈ kwL := kw_at 1048 rfl rfl
set_option maxRecDepth 100000 in
theorem kw_1049 : (Jvm.Cond.code ({ cls := "SlidingRanksModel", name := "above", desc := "(II)I" } : Jvm.MethodName) prog_9_method_46_code (10 : Nat) (Option.some Jvm.ClassFile.FieldType.int)) ∈ kwL := kw_at 1049 rfl rfl
set_option maxRecDepth 100000 in
theorem kw_1050 : (Jvm.Cond.constantLong "SlidingRanksModel" (210 : Nat) (3 : Int64)) ∈ kwL := kw_at 1050 rfl rfl
set_option maxRecDepth 100000 in
theorem kw_1051 : (Jvm.Cond.methodLink "SlidingRanksLaw" (80 : Nat) ({ cls := "SlidingRanksModel", name := "most", desc := "(I)I" } : Jvm.MethodName)) ∈ kwL := kw_at 1051 rfl rfl
set_option maxRecDepth 100000 in
theorem kw_1052 : (Jvm.Cond.instanceMethod ({ cls := "SlidingRanksModel", name := "most", desc := "(I)I" } : Jvm.MethodName)) ∈ kwL := kw_at 1052 rfl rfl
set_option maxRecDepth 100000 in
theorem kw_1053 : (Jvm.Cond.selects "SlidingRanksModel" ({ cls := "SlidingRanksModel", name := "most", desc := "(I)I" } : Jvm.MethodName) ({ cls := "SlidingRanksModel", name := "most", desc := "(I)I" } : Jvm.MethodName)) ∈ kwL := kw_at 1053 rfl rfl
set_option maxRecDepth 100000 in
theorem kw_1054 : (Jvm.Cond.code ({ cls := "SlidingRanksModel", name := "most", desc := "(I)I" } : Jvm.MethodName) prog_9_method_47_code (6 : Nat) (Option.some Jvm.ClassFile.FieldType.int)) ∈ kwL := kw_at 1054 rfl rfl
set_option maxRecDepth 100000 in
theorem kw_1055 : (Jvm.Cond.methodLink "SlidingRanksLaw" (84 : Nat) ({ cls := "SlidingRanksModel", name := "add", desc := "(I)I" } : Jvm.MethodName)) ∈ kwL := kw_at 1055 rfl rfl
set_option maxRecDepth 100000 in
theorem kw_1056 : (Jvm.Cond.instanceMethod ({ cls := "SlidingRanksModel", name := "add", desc := "(I)I" } : Jvm.MethodName)) ∈ kwL := kw_at 1056 rfl rfl
set_option maxRecDepth 100000 in
theorem kw_1057 : (Jvm.Cond.selects "SlidingRanksModel" ({ cls := "SlidingRanksModel", name := "add", desc := "(I)I" } : Jvm.MethodName) ({ cls := "SlidingRanksModel", name := "add", desc := "(I)I" } : Jvm.MethodName)) ∈ kwL := kw_at 1057 rfl rfl
set_option maxRecDepth 100000 in
theorem kw_1058 : (Jvm.Cond.code ({ cls := "SlidingRanksModel", name := "add", desc := "(I)I" } : Jvm.MethodName) prog_9_method_50_code (2 : Nat) (Option.some Jvm.ClassFile.FieldType.int)) ∈ kwL := kw_at 1058 rfl rfl
set_option maxRecDepth 100000 in
theorem kw_1059 : (Jvm.Cond.methodLink "SlidingRanksModel" (216 : Nat) ({ cls := "SlidingRanksModel", name := "isReading", desc := "(I)Z" } : Jvm.MethodName)) ∈ kwL := kw_at 1059 rfl rfl
set_option maxRecDepth 100000 in
theorem kw_1060 : (Jvm.Cond.static ({ cls := "SlidingRanksModel", name := "isReading", desc := "(I)Z" } : Jvm.MethodName)) ∈ kwL := kw_at 1060 rfl rfl
set_option maxRecDepth 100000 in
theorem kw_1061 : (Jvm.Cond.code ({ cls := "SlidingRanksModel", name := "isReading", desc := "(I)Z" } : Jvm.MethodName) prog_9_method_49_code (1 : Nat) (Option.some Jvm.ClassFile.FieldType.boolean)) ∈ kwL := kw_at 1061 rfl rfl
set_option maxRecDepth 100000 in
theorem kw_1062 : (Jvm.Cond.constantLong "SlidingRanksModel" (212 : Nat) (-999999 : Int64)) ∈ kwL := kw_at 1062 rfl rfl
set_option maxRecDepth 100000 in
theorem kw_1063 : (Jvm.Cond.constantLong "SlidingRanksModel" (214 : Nat) (999999 : Int64)) ∈ kwL := kw_at 1063 rfl rfl
set_option maxRecDepth 100000 in
theorem kw_1064 : (Jvm.Cond.methodLink "SlidingRanksModel" (219 : Nat) ({ cls := "SlidingRanksModel", name := "comes", desc := "(I)I" } : Jvm.MethodName)) ∈ kwL := kw_at 1064 rfl rfl
set_option maxRecDepth 100000 in
theorem kw_1066 : (Jvm.Cond.instanceMethod ({ cls := "SlidingRanksModel", name := "comes", desc := "(I)I" } : Jvm.MethodName)) ∈ kwL := kw_at 1066 rfl rfl
set_option maxRecDepth 100000 in
theorem kw_1067 : (Jvm.Cond.code ({ cls := "SlidingRanksModel", name := "comes", desc := "(I)I" } : Jvm.MethodName) prog_9_method_48_code (2 : Nat) (Option.some Jvm.ClassFile.FieldType.int)) ∈ kwL := kw_at 1067 rfl rfl
set_option maxRecDepth 100000 in
theorem kw_1068 : (Jvm.Cond.methodLink "SlidingRanksLaw" (88 : Nat) ({ cls := "SlidingRanksModel", name := "miss", desc := "()I" } : Jvm.MethodName)) ∈ kwL := kw_at 1068 rfl rfl
set_option maxRecDepth 100000 in
theorem kw_1069 : (Jvm.Cond.instanceMethod ({ cls := "SlidingRanksModel", name := "miss", desc := "()I" } : Jvm.MethodName)) ∈ kwL := kw_at 1069 rfl rfl
set_option maxRecDepth 100000 in
theorem kw_1070 : (Jvm.Cond.selects "SlidingRanksModel" ({ cls := "SlidingRanksModel", name := "miss", desc := "()I" } : Jvm.MethodName) ({ cls := "SlidingRanksModel", name := "miss", desc := "()I" } : Jvm.MethodName)) ∈ kwL := kw_at 1070 rfl rfl
set_option maxRecDepth 100000 in
theorem kw_1071 : (Jvm.Cond.code ({ cls := "SlidingRanksModel", name := "miss", desc := "()I" } : Jvm.MethodName) prog_9_method_51_code (1 : Nat) (Option.some Jvm.ClassFile.FieldType.int)) ∈ kwL := kw_at 1071 rfl rfl
set_option maxRecDepth 100000 in
theorem kw_1072 : (Jvm.Cond.methodLink "SlidingRanksLaw" (92 : Nat) ({ cls := "SlidingRanksModel", name := "set", desc := "(II)I" } : Jvm.MethodName)) ∈ kwL := kw_at 1072 rfl rfl
set_option maxRecDepth 100000 in
theorem kw_1073 : (Jvm.Cond.instanceMethod ({ cls := "SlidingRanksModel", name := "set", desc := "(II)I" } : Jvm.MethodName)) ∈ kwL := kw_at 1073 rfl rfl
set_option maxRecDepth 100000 in
theorem kw_1074 : (Jvm.Cond.selects "SlidingRanksModel" ({ cls := "SlidingRanksModel", name := "set", desc := "(II)I" } : Jvm.MethodName) ({ cls := "SlidingRanksModel", name := "set", desc := "(II)I" } : Jvm.MethodName)) ∈ kwL := kw_at 1074 rfl rfl
set_option maxRecDepth 100000 in
theorem kw_1075 : (Jvm.Cond.code ({ cls := "SlidingRanksModel", name := "set", desc := "(II)I" } : Jvm.MethodName) prog_9_method_52_code (4 : Nat) (Option.some Jvm.ClassFile.FieldType.int)) ∈ kwL := kw_at 1075 rfl rfl
set_option maxRecDepth 100000 in
theorem kw_1076 : (Jvm.Cond.methodLink "SlidingRanksLaw" (96 : Nat) ({ cls := "SlidingRanksModel", name := "lose", desc := "(I)I" } : Jvm.MethodName)) ∈ kwL := kw_at 1076 rfl rfl
set_option maxRecDepth 100000 in
theorem kw_1077 : (Jvm.Cond.instanceMethod ({ cls := "SlidingRanksModel", name := "lose", desc := "(I)I" } : Jvm.MethodName)) ∈ kwL := kw_at 1077 rfl rfl
set_option maxRecDepth 100000 in
theorem kw_1078 : (Jvm.Cond.selects "SlidingRanksModel" ({ cls := "SlidingRanksModel", name := "lose", desc := "(I)I" } : Jvm.MethodName) ({ cls := "SlidingRanksModel", name := "lose", desc := "(I)I" } : Jvm.MethodName)) ∈ kwL := kw_at 1078 rfl rfl
set_option maxRecDepth 100000 in
theorem kw_1079 : (Jvm.Cond.code ({ cls := "SlidingRanksModel", name := "lose", desc := "(I)I" } : Jvm.MethodName) prog_9_method_53_code (3 : Nat) (Option.some Jvm.ClassFile.FieldType.int)) ∈ kwL := kw_at 1079 rfl rfl
set_option maxRecDepth 100000 in
theorem kw_1080 : (Jvm.Cond.methodLink "SlidingRanksLaw" (100 : Nat) ({ cls := "SlidingRanksModel", name := "drop", desc := "(I)I" } : Jvm.MethodName)) ∈ kwL := kw_at 1080 rfl rfl
set_option maxRecDepth 100000 in
theorem kw_1081 : (Jvm.Cond.instanceMethod ({ cls := "SlidingRanksModel", name := "drop", desc := "(I)I" } : Jvm.MethodName)) ∈ kwL := kw_at 1081 rfl rfl
set_option maxRecDepth 100000 in
theorem kw_1082 : (Jvm.Cond.selects "SlidingRanksModel" ({ cls := "SlidingRanksModel", name := "drop", desc := "(I)I" } : Jvm.MethodName) ({ cls := "SlidingRanksModel", name := "drop", desc := "(I)I" } : Jvm.MethodName)) ∈ kwL := kw_at 1082 rfl rfl
set_option maxRecDepth 100000 in
theorem kw_1083 : (Jvm.Cond.code ({ cls := "SlidingRanksModel", name := "drop", desc := "(I)I" } : Jvm.MethodName) prog_9_method_54_code (3 : Nat) (Option.some Jvm.ClassFile.FieldType.int)) ∈ kwL := kw_at 1083 rfl rfl
set_option maxRecDepth 100000 in
theorem kw_1084 : (Jvm.Cond.methodLink "SlidingRanksLaw" (104 : Nat) ({ cls := "SlidingRanksModel", name := "width", desc := "(I)I" } : Jvm.MethodName)) ∈ kwL := kw_at 1084 rfl rfl
set_option maxRecDepth 100000 in
theorem kw_1085 : (Jvm.Cond.instanceMethod ({ cls := "SlidingRanksModel", name := "width", desc := "(I)I" } : Jvm.MethodName)) ∈ kwL := kw_at 1085 rfl rfl
set_option maxRecDepth 100000 in
theorem kw_1086 : (Jvm.Cond.selects "SlidingRanksModel" ({ cls := "SlidingRanksModel", name := "width", desc := "(I)I" } : Jvm.MethodName) ({ cls := "SlidingRanksModel", name := "width", desc := "(I)I" } : Jvm.MethodName)) ∈ kwL := kw_at 1086 rfl rfl
set_option maxRecDepth 100000 in
theorem kw_1087 : (Jvm.Cond.code ({ cls := "SlidingRanksModel", name := "width", desc := "(I)I" } : Jvm.MethodName) prog_9_method_56_code (2 : Nat) (Option.some Jvm.ClassFile.FieldType.int)) ∈ kwL := kw_at 1087 rfl rfl
set_option maxRecDepth 100000 in
theorem kw_1088 : (Jvm.Cond.constantLong "SlidingRanksModel" (222 : Nat) (24 : Int64)) ∈ kwL := kw_at 1088 rfl rfl
set_option maxRecDepth 100000 in
theorem kw_1089 : (Jvm.Cond.methodLink "SlidingRanksModel" (224 : Nat) ({ cls := "SlidingRanksModel", name := "becomes", desc := "(ZII)I" } : Jvm.MethodName)) ∈ kwL := kw_at 1089 rfl rfl
set_option maxRecDepth 100000 in
theorem kw_1091 : (Jvm.Cond.instanceMethod ({ cls := "SlidingRanksModel", name := "becomes", desc := "(ZII)I" } : Jvm.MethodName)) ∈ kwL := kw_at 1091 rfl rfl
set_option maxRecDepth 100000 in
theorem kw_1092 : (Jvm.Cond.code ({ cls := "SlidingRanksModel", name := "becomes", desc := "(ZII)I" } : Jvm.MethodName) prog_9_method_55_code (5 : Nat) (Option.some Jvm.ClassFile.FieldType.int)) ∈ kwL := kw_at 1092 rfl rfl
set_option maxRecDepth 100000 in
theorem kw_1093 : (Jvm.Cond.methodLink "SlidingRanksLaw" (108 : Nat) ({ cls := "SlidingRanksModel", name := "need", desc := "(I)I" } : Jvm.MethodName)) ∈ kwL := kw_at 1093 rfl rfl
set_option maxRecDepth 100000 in
theorem kw_1094 : (Jvm.Cond.instanceMethod ({ cls := "SlidingRanksModel", name := "need", desc := "(I)I" } : Jvm.MethodName)) ∈ kwL := kw_at 1094 rfl rfl
set_option maxRecDepth 100000 in
theorem kw_1095 : (Jvm.Cond.selects "SlidingRanksModel" ({ cls := "SlidingRanksModel", name := "need", desc := "(I)I" } : Jvm.MethodName) ({ cls := "SlidingRanksModel", name := "need", desc := "(I)I" } : Jvm.MethodName)) ∈ kwL := kw_at 1095 rfl rfl
set_option maxRecDepth 100000 in
theorem kw_1096 : (Jvm.Cond.code ({ cls := "SlidingRanksModel", name := "need", desc := "(I)I" } : Jvm.MethodName) prog_9_method_57_code (2 : Nat) (Option.some Jvm.ClassFile.FieldType.int)) ∈ kwL := kw_at 1096 rfl rfl
set_option maxRecDepth 100000 in
theorem kw_1097 : (Jvm.Cond.methodLink "SlidingRanksLaw" (112 : Nat) ({ cls := "SlidingRanksModel", name := "part", desc := "(II)I" } : Jvm.MethodName)) ∈ kwL := kw_at 1097 rfl rfl
set_option maxRecDepth 100000 in
theorem kw_1098 : (Jvm.Cond.instanceMethod ({ cls := "SlidingRanksModel", name := "part", desc := "(II)I" } : Jvm.MethodName)) ∈ kwL := kw_at 1098 rfl rfl
set_option maxRecDepth 100000 in
theorem kw_1099 : (Jvm.Cond.selects "SlidingRanksModel" ({ cls := "SlidingRanksModel", name := "part", desc := "(II)I" } : Jvm.MethodName) ({ cls := "SlidingRanksModel", name := "part", desc := "(II)I" } : Jvm.MethodName)) ∈ kwL := kw_at 1099 rfl rfl
set_option maxRecDepth 100000 in
theorem kw_1100 : (Jvm.Cond.code ({ cls := "SlidingRanksModel", name := "part", desc := "(II)I" } : Jvm.MethodName) prog_9_method_58_code (4 : Nat) (Option.some Jvm.ClassFile.FieldType.int)) ∈ kwL := kw_at 1100 rfl rfl
set_option maxRecDepth 100000 in
theorem kw_1101 : (Jvm.Cond.constantLong "SlidingRanksModel" (228 : Nat) (100 : Int64)) ∈ kwL := kw_at 1101 rfl rfl
set_option maxRecDepth 100000 in
theorem kw_1102 : (Jvm.Cond.methodLink "SlidingRanksLaw" (116 : Nat) ({ cls := "SlidingRanksModel", name := "choose", desc := "(I)I" } : Jvm.MethodName)) ∈ kwL := kw_at 1102 rfl rfl
set_option maxRecDepth 100000 in
theorem kw_1103 : (Jvm.Cond.instanceMethod ({ cls := "SlidingRanksModel", name := "choose", desc := "(I)I" } : Jvm.MethodName)) ∈ kwL := kw_at 1103 rfl rfl
set_option maxRecDepth 100000 in
theorem kw_1104 : (Jvm.Cond.selects "SlidingRanksModel" ({ cls := "SlidingRanksModel", name := "choose", desc := "(I)I" } : Jvm.MethodName) ({ cls := "SlidingRanksModel", name := "choose", desc := "(I)I" } : Jvm.MethodName)) ∈ kwL := kw_at 1104 rfl rfl
set_option maxRecDepth 100000 in
theorem kw_1105 : (Jvm.Cond.code ({ cls := "SlidingRanksModel", name := "choose", desc := "(I)I" } : Jvm.MethodName) prog_9_method_59_code (2 : Nat) (Option.some Jvm.ClassFile.FieldType.int)) ∈ kwL := kw_at 1105 rfl rfl
set_option maxRecDepth 100000 in
theorem kw_1106 : (Jvm.Cond.constantLong "SlidingRanksModel" (230 : Nat) (4 : Int64)) ∈ kwL := kw_at 1106 rfl rfl
set_option maxRecDepth 100000 in
theorem kw_1107 : (Jvm.Cond.methodLink "SlidingRanksLaw" (120 : Nat) ({ cls := "SlidingRanksModel", name := "form", desc := "(I)I" } : Jvm.MethodName)) ∈ kwL := kw_at 1107 rfl rfl
set_option maxRecDepth 100000 in
theorem kw_1108 : (Jvm.Cond.instanceMethod ({ cls := "SlidingRanksModel", name := "form", desc := "(I)I" } : Jvm.MethodName)) ∈ kwL := kw_at 1108 rfl rfl
set_option maxRecDepth 100000 in
theorem kw_1109 : (Jvm.Cond.selects "SlidingRanksModel" ({ cls := "SlidingRanksModel", name := "form", desc := "(I)I" } : Jvm.MethodName) ({ cls := "SlidingRanksModel", name := "form", desc := "(I)I" } : Jvm.MethodName)) ∈ kwL := kw_at 1109 rfl rfl
set_option maxRecDepth 100000 in
theorem kw_1110 : (Jvm.Cond.code ({ cls := "SlidingRanksModel", name := "form", desc := "(I)I" } : Jvm.MethodName) prog_9_method_60_code (2 : Nat) (Option.some Jvm.ClassFile.FieldType.int)) ∈ kwL := kw_at 1110 rfl rfl
set_option maxRecDepth 100000 in
theorem kw_1111 : (Jvm.Cond.methodLink "SlidingRanksLaw" (124 : Nat) ({ cls := "SlidingRanksModel", name := "drift", desc := "(II)I" } : Jvm.MethodName)) ∈ kwL := kw_at 1111 rfl rfl
set_option maxRecDepth 100000 in
theorem kw_1112 : (Jvm.Cond.instanceMethod ({ cls := "SlidingRanksModel", name := "drift", desc := "(II)I" } : Jvm.MethodName)) ∈ kwL := kw_at 1112 rfl rfl
set_option maxRecDepth 100000 in
theorem kw_1113 : (Jvm.Cond.selects "SlidingRanksModel" ({ cls := "SlidingRanksModel", name := "drift", desc := "(II)I" } : Jvm.MethodName) ({ cls := "SlidingRanksModel", name := "drift", desc := "(II)I" } : Jvm.MethodName)) ∈ kwL := kw_at 1113 rfl rfl
set_option maxRecDepth 100000 in
theorem kw_1114 : (Jvm.Cond.code ({ cls := "SlidingRanksModel", name := "drift", desc := "(II)I" } : Jvm.MethodName) prog_9_method_62_code (7 : Nat) (Option.some Jvm.ClassFile.FieldType.int)) ∈ kwL := kw_at 1114 rfl rfl
set_option maxRecDepth 100000 in
theorem kw_1115 : (Jvm.Cond.constant "SlidingRanksModel" (232 : Nat) (1103515245 : Int32)) ∈ kwL := kw_at 1115 rfl rfl
set_option maxRecDepth 100000 in
theorem kw_1116 : (Jvm.Cond.methodLink "SlidingRanksModel" (233 : Nat) ({ cls := "SlidingRanksModel", name := "latest", desc := "()I" } : Jvm.MethodName)) ∈ kwL := kw_at 1116 rfl rfl
set_option maxRecDepth 100000 in
theorem kw_1118 : (Jvm.Cond.instanceMethod ({ cls := "SlidingRanksModel", name := "latest", desc := "()I" } : Jvm.MethodName)) ∈ kwL := kw_at 1118 rfl rfl
set_option maxRecDepth 100000 in
theorem kw_1119 : (Jvm.Cond.code ({ cls := "SlidingRanksModel", name := "latest", desc := "()I" } : Jvm.MethodName) prog_9_method_61_code (2 : Nat) (Option.some Jvm.ClassFile.FieldType.int)) ∈ kwL := kw_at 1119 rfl rfl
set_option maxRecDepth 100000 in
theorem kw_1120 : (Jvm.Cond.constant "SlidingRanksModel" (236 : Nat) (-999999 : Int32)) ∈ kwL := kw_at 1120 rfl rfl
set_option maxRecDepth 100000 in
theorem kw_1121 : (Jvm.Cond.constant "SlidingRanksModel" (237 : Nat) (999999 : Int32)) ∈ kwL := kw_at 1121 rfl rfl
set_option maxRecDepth 100000 in
theorem kw_1122 : (Jvm.Cond.methodLink "SlidingRanksLaw" (128 : Nat) ({ cls := "SlidingRanksModel", name := "keep", desc := "(I)I" } : Jvm.MethodName)) ∈ kwL := kw_at 1122 rfl rfl
set_option maxRecDepth 100000 in
theorem kw_1123 : (Jvm.Cond.instanceMethod ({ cls := "SlidingRanksModel", name := "keep", desc := "(I)I" } : Jvm.MethodName)) ∈ kwL := kw_at 1123 rfl rfl
set_option maxRecDepth 100000 in
theorem kw_1124 : (Jvm.Cond.selects "SlidingRanksModel" ({ cls := "SlidingRanksModel", name := "keep", desc := "(I)I" } : Jvm.MethodName) ({ cls := "SlidingRanksModel", name := "keep", desc := "(I)I" } : Jvm.MethodName)) ∈ kwL := kw_at 1124 rfl rfl
set_option maxRecDepth 100000 in
theorem kw_1125 : (Jvm.Cond.code ({ cls := "SlidingRanksModel", name := "keep", desc := "(I)I" } : Jvm.MethodName) prog_9_method_63_code (3 : Nat) (Option.some Jvm.ClassFile.FieldType.int)) ∈ kwL := kw_at 1125 rfl rfl
set_option maxRecDepth 100000 in
theorem kw_1126 : (Jvm.Cond.methodLink "SlidingRanksLaw" (132 : Nat) ({ cls := "SlidingRanksModel", name := "back", desc := "(I)I" } : Jvm.MethodName)) ∈ kwL := kw_at 1126 rfl rfl
set_option maxRecDepth 100000 in
theorem kw_1127 : (Jvm.Cond.instanceMethod ({ cls := "SlidingRanksModel", name := "back", desc := "(I)I" } : Jvm.MethodName)) ∈ kwL := kw_at 1127 rfl rfl
set_option maxRecDepth 100000 in
theorem kw_1128 : (Jvm.Cond.selects "SlidingRanksModel" ({ cls := "SlidingRanksModel", name := "back", desc := "(I)I" } : Jvm.MethodName) ({ cls := "SlidingRanksModel", name := "back", desc := "(I)I" } : Jvm.MethodName)) ∈ kwL := kw_at 1128 rfl rfl
set_option maxRecDepth 100000 in
theorem kw_1129 : (Jvm.Cond.code ({ cls := "SlidingRanksModel", name := "back", desc := "(I)I" } : Jvm.MethodName) prog_9_method_64_code (2 : Nat) (Option.some Jvm.ClassFile.FieldType.int)) ∈ kwL := kw_at 1129 rfl rfl
set_option maxRecDepth 100000 in
theorem kw_1130 : (Jvm.Cond.methodLink "SlidingRanksLaw" (136 : Nat) ({ cls := "SlidingRanksModel", name := "sheet", desc := "(III)I" } : Jvm.MethodName)) ∈ kwL := kw_at 1130 rfl rfl
set_option maxRecDepth 100000 in
theorem kw_1131 : (Jvm.Cond.instanceMethod ({ cls := "SlidingRanksModel", name := "sheet", desc := "(III)I" } : Jvm.MethodName)) ∈ kwL := kw_at 1131 rfl rfl
set_option maxRecDepth 100000 in
theorem kw_1132 : (Jvm.Cond.selects "SlidingRanksModel" ({ cls := "SlidingRanksModel", name := "sheet", desc := "(III)I" } : Jvm.MethodName) ({ cls := "SlidingRanksModel", name := "sheet", desc := "(III)I" } : Jvm.MethodName)) ∈ kwL := kw_at 1132 rfl rfl
set_option maxRecDepth 100000 in
theorem kw_1133 : (Jvm.Cond.code ({ cls := "SlidingRanksModel", name := "sheet", desc := "(III)I" } : Jvm.MethodName) prog_9_method_65_code (5 : Nat) (Option.some Jvm.ClassFile.FieldType.int)) ∈ kwL := kw_at 1133 rfl rfl
set_option maxRecDepth 100000 in
theorem kw_1134 : (Jvm.Cond.methodLink "SlidingRanksLaw" (140 : Nat) ({ cls := "SlidingRanksModel", name := "lay", desc := "(III)I" } : Jvm.MethodName)) ∈ kwL := kw_at 1134 rfl rfl
set_option maxRecDepth 100000 in
theorem kw_1135 : (Jvm.Cond.instanceMethod ({ cls := "SlidingRanksModel", name := "lay", desc := "(III)I" } : Jvm.MethodName)) ∈ kwL := kw_at 1135 rfl rfl
set_option maxRecDepth 100000 in
theorem kw_1136 : (Jvm.Cond.selects "SlidingRanksModel" ({ cls := "SlidingRanksModel", name := "lay", desc := "(III)I" } : Jvm.MethodName) ({ cls := "SlidingRanksModel", name := "lay", desc := "(III)I" } : Jvm.MethodName)) ∈ kwL := kw_at 1136 rfl rfl
set_option maxRecDepth 100000 in
theorem kw_1137 : (Jvm.Cond.code ({ cls := "SlidingRanksModel", name := "lay", desc := "(III)I" } : Jvm.MethodName) prog_9_method_66_code (4 : Nat) (Option.some Jvm.ClassFile.FieldType.int)) ∈ kwL := kw_at 1137 rfl rfl
set_option maxRecDepth 100000 in
theorem kw_1138 : (Jvm.Cond.methodLink "SlidingRanksLaw" (145 : Nat) ({ cls := "SlidingRanksModel", name := "read", desc := "(IIII)I" } : Jvm.MethodName)) ∈ kwL := kw_at 1138 rfl rfl
set_option maxRecDepth 100000 in
theorem kw_1139 : (Jvm.Cond.instanceMethod ({ cls := "SlidingRanksModel", name := "read", desc := "(IIII)I" } : Jvm.MethodName)) ∈ kwL := kw_at 1139 rfl rfl
set_option maxRecDepth 100000 in
theorem kw_1140 : (Jvm.Cond.selects "SlidingRanksModel" ({ cls := "SlidingRanksModel", name := "read", desc := "(IIII)I" } : Jvm.MethodName) ({ cls := "SlidingRanksModel", name := "read", desc := "(IIII)I" } : Jvm.MethodName)) ∈ kwL := kw_at 1140 rfl rfl
set_option maxRecDepth 100000 in
theorem kw_1141 : (Jvm.Cond.code ({ cls := "SlidingRanksModel", name := "read", desc := "(IIII)I" } : Jvm.MethodName) prog_9_method_67_code (10 : Nat) (Option.some Jvm.ClassFile.FieldType.int)) ∈ kwL := kw_at 1141 rfl rfl
set_option maxRecDepth 100000 in
theorem kw_1142 : (Jvm.Cond.constantLong "SlidingRanksModel" (238 : Nat) (40 : Int64)) ∈ kwL := kw_at 1142 rfl rfl
set_option maxRecDepth 100000 in
theorem kw_1143 : (Jvm.Cond.methodLink "SlidingRanksLaw" (149 : Nat) ({ cls := "SlidingRanksModel", name := "torn", desc := "()I" } : Jvm.MethodName)) ∈ kwL := kw_at 1143 rfl rfl
set_option maxRecDepth 100000 in
theorem kw_1144 : (Jvm.Cond.instanceMethod ({ cls := "SlidingRanksModel", name := "torn", desc := "()I" } : Jvm.MethodName)) ∈ kwL := kw_at 1144 rfl rfl
set_option maxRecDepth 100000 in
theorem kw_1145 : (Jvm.Cond.selects "SlidingRanksModel" ({ cls := "SlidingRanksModel", name := "torn", desc := "()I" } : Jvm.MethodName) ({ cls := "SlidingRanksModel", name := "torn", desc := "()I" } : Jvm.MethodName)) ∈ kwL := kw_at 1145 rfl rfl
set_option maxRecDepth 100000 in
theorem kw_1146 : (Jvm.Cond.code ({ cls := "SlidingRanksModel", name := "torn", desc := "()I" } : Jvm.MethodName) prog_9_method_68_code (1 : Nat) (Option.some Jvm.ClassFile.FieldType.int)) ∈ kwL := kw_at 1146 rfl rfl
set_option maxRecDepth 100000 in
theorem kw_1147 : (Jvm.Cond.methodLink "SlidingRanksLaw" (153 : Nat) ({ cls := "SlidingRanksModel", name := "count", desc := "(I)I" } : Jvm.MethodName)) ∈ kwL := kw_at 1147 rfl rfl
set_option maxRecDepth 100000 in
theorem kw_1148 : (Jvm.Cond.instanceMethod ({ cls := "SlidingRanksModel", name := "count", desc := "(I)I" } : Jvm.MethodName)) ∈ kwL := kw_at 1148 rfl rfl
set_option maxRecDepth 100000 in
theorem kw_1149 : (Jvm.Cond.selects "SlidingRanksModel" ({ cls := "SlidingRanksModel", name := "count", desc := "(I)I" } : Jvm.MethodName) ({ cls := "SlidingRanksModel", name := "count", desc := "(I)I" } : Jvm.MethodName)) ∈ kwL := kw_at 1149 rfl rfl
set_option maxRecDepth 100000 in
theorem kw_1150 : (Jvm.Cond.code ({ cls := "SlidingRanksModel", name := "count", desc := "(I)I" } : Jvm.MethodName) prog_9_method_70_code (2 : Nat) (Option.some Jvm.ClassFile.FieldType.int)) ∈ kwL := kw_at 1150 rfl rfl
set_option maxRecDepth 100000 in
theorem kw_1151 : (Jvm.Cond.methodLink "SlidingRanksModel" (243 : Nat) ({ cls := "SlidingRanksModel", name := "shownAll", desc := "()I" } : Jvm.MethodName)) ∈ kwL := kw_at 1151 rfl rfl
set_option maxRecDepth 100000 in
theorem kw_1153 : (Jvm.Cond.instanceMethod ({ cls := "SlidingRanksModel", name := "shownAll", desc := "()I" } : Jvm.MethodName)) ∈ kwL := kw_at 1153 rfl rfl
set_option maxRecDepth 100000 in
theorem kw_1154 : (Jvm.Cond.code ({ cls := "SlidingRanksModel", name := "shownAll", desc := "()I" } : Jvm.MethodName) prog_9_method_69_code (3 : Nat) (Option.some Jvm.ClassFile.FieldType.int)) ∈ kwL := kw_at 1154 rfl rfl
set_option maxRecDepth 100000 in
theorem kw_1155 : (Jvm.Cond.fieldLink "java/lang/String" (9 : Nat) "java/lang/String" "value" "[B") ∈ kwL := kw_at 1155 rfl rfl
set_option maxRecDepth 100000 in
theorem kw_1156 : (Jvm.Cond.fieldLink "java/lang/String" (15 : Nat) "java/lang/String" "coder" "B") ∈ kwL := kw_at 1156 rfl rfl
set_option maxRecDepth 100000 in
theorem inkX0 : ∀ w ∈ wsX00, w ∈ kwL := kw_sub [208, 210, 212] rfl rfl
set_option maxRecDepth 100000 in
theorem inkX1 : ∀ w ∈ wsX10, w ∈ kwL := kw_sub [138, 140, 142, 144, 146, 148, 150, 152] rfl rfl
set_option maxRecDepth 100000 in
theorem inkX2 : ∀ w ∈ wsX20, w ∈ kwL := kw_sub [242, 244, 246] rfl rfl
set_option maxRecDepth 100000 in
theorem inkX3 : ∀ w ∈ wsX30, w ∈ kwL := kw_sub [89, 91] rfl rfl
set_option maxRecDepth 100000 in
theorem inkX4 : ∀ w ∈ wsX40, w ∈ kwL := kw_sub [171, 173, 175, 177, 179, 181, 183, 185, 187, 189, 191, 193] rfl rfl
set_option maxRecDepth 100000 in
theorem inkX5 : ∀ w ∈ wsX50, w ∈ kwL := kw_sub [224, 226] rfl rfl
set_option maxRecDepth 100000 in
theorem inkX6 : ∀ w ∈ wsX60, w ∈ kwL := kw_sub [259, 261, 263, 265, 267, 269, 271, 273, 275] rfl rfl
set_option maxRecDepth 100000 in
theorem inkX7 : ∀ w ∈ wsX70, w ∈ kwL := kw_sub [810, 812, 814, 816, 818, 820, 822, 824, 826, 828, 830, 832, 834, 836, 838, 840, 842, 844, 846, 848, 850, 852, 854, 856, 858, 860, 862, 864] rfl rfl
theorem kn_X0_26 {sa : Nat × Nat} {A : Nat → Prop} {s : State} {H : Heap} {args : Array Value} (h : s_E sa A s H) : (Cond.fieldLinkNest "SlidingRanks$Row" 26 "SlidingRanks$Series" "width" "I" "SlidingRanks").before args s = true := va_Nw.use rfl (h.1 ("SlidingRanks$Row", 26, "SlidingRanks$Series", "width", "I", "SlidingRanks") (List.mem_of_getElem? (i := 4) rfl))
theorem kn_X0_52 {sa : Nat × Nat} {A : Nat → Prop} {s : State} {H : Heap} {args : Array Value} (h : s_E sa A s H) : (Cond.fieldLinkNest "SlidingRanks$Row" 52 "SlidingRanks$Series" "need" "I" "SlidingRanks").before args s = true := va_Nw.use rfl (h.1 ("SlidingRanks$Row", 52, "SlidingRanks$Series", "need", "I", "SlidingRanks") (List.mem_of_getElem? (i := 9) rfl))
theorem kn_X0_55 {sa : Nat × Nat} {A : Nat → Prop} {s : State} {H : Heap} {args : Array Value} (h : s_E sa A s H) : (Cond.fieldLinkNest "SlidingRanks$Row" 55 "SlidingRanks$Series" "q" "I" "SlidingRanks").before args s = true := va_Nw.use rfl (h.1 ("SlidingRanks$Row", 55, "SlidingRanks$Series", "q", "I", "SlidingRanks") (List.mem_of_getElem? (i := 15) rfl))
theorem kn_X0_58 {sa : Nat × Nat} {A : Nat → Prop} {s : State} {H : Heap} {args : Array Value} (h : s_E sa A s H) : (Cond.fieldLinkNest "SlidingRanks$Row" 58 "SlidingRanks$Series" "p" "I" "SlidingRanks").before args s = true := va_Nw.use rfl (h.1 ("SlidingRanks$Row", 58, "SlidingRanks$Series", "p", "I", "SlidingRanks") (List.mem_of_getElem? (i := 12) rfl))
theorem kn_X0_71 {sa : Nat × Nat} {A : Nat → Prop} {s : State} {H : Heap} {args : Array Value} (h : s_E sa A s H) : (Cond.fieldLinkNest "SlidingRanks$Row" 71 "SlidingRanks$Series" "rule" "I" "SlidingRanks").before args s = true := va_Nw.use rfl (h.1 ("SlidingRanks$Row", 71, "SlidingRanks$Series", "rule", "I", "SlidingRanks") (List.mem_of_getElem? (i := 18) rfl))
theorem kn_X4_101 {sa : Nat × Nat} {A : Nat → Prop} {s : State} {H : Heap} {args : Array Value} (h : s_E sa A s H) : (Cond.fieldLinkNest "SlidingRanks$Teller" 101 "SlidingRanks$Series" "rule" "I" "SlidingRanks").before args s = true := va_Nw.use rfl (h.1 ("SlidingRanks$Teller", 101, "SlidingRanks$Series", "rule", "I", "SlidingRanks") (List.mem_of_getElem? (i := 16) rfl))
theorem kn_X4_104 {sa : Nat × Nat} {A : Nat → Prop} {s : State} {H : Heap} {args : Array Value} (h : s_E sa A s H) : (Cond.fieldLinkNest "SlidingRanks$Teller" 104 "SlidingRanks$Series" "form" "I" "SlidingRanks").before args s = true := va_Nw.use rfl (h.1 ("SlidingRanks$Teller", 104, "SlidingRanks$Series", "form", "I", "SlidingRanks") (List.mem_of_getElem? (i := 19) rfl))
theorem kn_X4_127 {sa : Nat × Nat} {A : Nat → Prop} {s : State} {H : Heap} {args : Array Value} (h : s_E sa A s H) : (Cond.fieldLinkNest "SlidingRanks$Teller" 127 "SlidingRanks$Series" "size" "I" "SlidingRanks").before args s = true := va_Nw.use rfl (h.1 ("SlidingRanks$Teller", 127, "SlidingRanks$Series", "size", "I", "SlidingRanks") (List.mem_of_getElem? (i := 3) rfl))
theorem kn_X4_134 {sa : Nat × Nat} {A : Nat → Prop} {s : State} {H : Heap} {args : Array Value} (h : s_E sa A s H) : (Cond.fieldLinkNest "SlidingRanks$Teller" 134 "SlidingRanks$Tape" "length" "I" "SlidingRanks").before args s = true := va_Nw.use rfl (h.1 ("SlidingRanks$Teller", 134, "SlidingRanks$Tape", "length", "I", "SlidingRanks") (List.mem_of_getElem? (i := 1) rfl))
theorem kn_X4_80 {sa : Nat × Nat} {A : Nat → Prop} {s : State} {H : Heap} {args : Array Value} (h : s_E sa A s H) : (Cond.fieldLinkNest "SlidingRanks$Teller" 80 "SlidingRanks$Series" "width" "I" "SlidingRanks").before args s = true := va_Nw.use rfl (h.1 ("SlidingRanks$Teller", 80, "SlidingRanks$Series", "width", "I", "SlidingRanks") (List.mem_of_getElem? (i := 5) rfl))
theorem kn_X4_83 {sa : Nat × Nat} {A : Nat → Prop} {s : State} {H : Heap} {args : Array Value} (h : s_E sa A s H) : (Cond.fieldLinkNest "SlidingRanks$Teller" 83 "SlidingRanks$Series" "need" "I" "SlidingRanks").before args s = true := va_Nw.use rfl (h.1 ("SlidingRanks$Teller", 83, "SlidingRanks$Series", "need", "I", "SlidingRanks") (List.mem_of_getElem? (i := 7) rfl))
theorem kn_X4_86 {sa : Nat × Nat} {A : Nat → Prop} {s : State} {H : Heap} {args : Array Value} (h : s_E sa A s H) : (Cond.fieldLinkNest "SlidingRanks$Teller" 86 "SlidingRanks$Series" "p" "I" "SlidingRanks").before args s = true := va_Nw.use rfl (h.1 ("SlidingRanks$Teller", 86, "SlidingRanks$Series", "p", "I", "SlidingRanks") (List.mem_of_getElem? (i := 10) rfl))
theorem kn_X4_95 {sa : Nat × Nat} {A : Nat → Prop} {s : State} {H : Heap} {args : Array Value} (h : s_E sa A s H) : (Cond.fieldLinkNest "SlidingRanks$Teller" 95 "SlidingRanks$Series" "q" "I" "SlidingRanks").before args s = true := va_Nw.use rfl (h.1 ("SlidingRanks$Teller", 95, "SlidingRanks$Series", "q", "I", "SlidingRanks") (List.mem_of_getElem? (i := 13) rfl))
theorem kn_X6_102 {sa : Nat × Nat} {A : Nat → Prop} {s : State} {H : Heap} {args : Array Value} (h : s_E sa A s H) : (Cond.fieldLinkNest "SlidingRanks" 102 "SlidingRanks$Series" "need" "I" "SlidingRanks").before args s = true := va_Nw.use rfl (h.1 ("SlidingRanks", 102, "SlidingRanks$Series", "need", "I", "SlidingRanks") (List.mem_of_getElem? (i := 8) rfl))
theorem kn_X6_105 {sa : Nat × Nat} {A : Nat → Prop} {s : State} {H : Heap} {args : Array Value} (h : s_E sa A s H) : (Cond.fieldLinkNest "SlidingRanks" 105 "SlidingRanks$Series" "p" "I" "SlidingRanks").before args s = true := va_Nw.use rfl (h.1 ("SlidingRanks", 105, "SlidingRanks$Series", "p", "I", "SlidingRanks") (List.mem_of_getElem? (i := 11) rfl))
theorem kn_X6_108 {sa : Nat × Nat} {A : Nat → Prop} {s : State} {H : Heap} {args : Array Value} (h : s_E sa A s H) : (Cond.fieldLinkNest "SlidingRanks" 108 "SlidingRanks$Series" "q" "I" "SlidingRanks").before args s = true := va_Nw.use rfl (h.1 ("SlidingRanks", 108, "SlidingRanks$Series", "q", "I", "SlidingRanks") (List.mem_of_getElem? (i := 14) rfl))
theorem kn_X6_111 {sa : Nat × Nat} {A : Nat → Prop} {s : State} {H : Heap} {args : Array Value} (h : s_E sa A s H) : (Cond.fieldLinkNest "SlidingRanks" 111 "SlidingRanks$Series" "rule" "I" "SlidingRanks").before args s = true := va_Nw.use rfl (h.1 ("SlidingRanks", 111, "SlidingRanks$Series", "rule", "I", "SlidingRanks") (List.mem_of_getElem? (i := 17) rfl))
theorem kn_X6_114 {sa : Nat × Nat} {A : Nat → Prop} {s : State} {H : Heap} {args : Array Value} (h : s_E sa A s H) : (Cond.fieldLinkNest "SlidingRanks" 114 "SlidingRanks$Series" "form" "I" "SlidingRanks").before args s = true := va_Nw.use rfl (h.1 ("SlidingRanks", 114, "SlidingRanks$Series", "form", "I", "SlidingRanks") (List.mem_of_getElem? (i := 20) rfl))
theorem kn_X6_131 {sa : Nat × Nat} {A : Nat → Prop} {s : State} {H : Heap} {args : Array Value} (h : s_E sa A s H) : (Cond.fieldLinkNest "SlidingRanks" 131 "SlidingRanks$Row" "n" "I" "SlidingRanks").before args s = true := va_Nw.use rfl (h.1 ("SlidingRanks", 131, "SlidingRanks$Row", "n", "I", "SlidingRanks") (List.mem_of_getElem? (i := 24) rfl))
theorem kn_X6_165 {sa : Nat × Nat} {A : Nat → Prop} {s : State} {H : Heap} {args : Array Value} (h : s_E sa A s H) : (Cond.fieldLinkNest "SlidingRanks" 165 "SlidingRanks$Words" "length" "I" "SlidingRanks").before args s = true := va_Nw.use rfl (h.1 ("SlidingRanks", 165, "SlidingRanks$Words", "length", "I", "SlidingRanks") (List.mem_of_getElem? (i := 25) rfl))
theorem kn_X6_253 {sa : Nat × Nat} {A : Nat → Prop} {s : State} {H : Heap} {args : Array Value} (h : s_E sa A s H) : (Cond.fieldLinkNest "SlidingRanks" 253 "SlidingRanks$Sheet" "size" "I" "SlidingRanks").before args s = true := va_Nw.use rfl (h.1 ("SlidingRanks", 253, "SlidingRanks$Sheet", "size", "I", "SlidingRanks") (List.mem_of_getElem? (i := 27) rfl))
theorem kn_X6_266 {sa : Nat × Nat} {A : Nat → Prop} {s : State} {H : Heap} {args : Array Value} (h : s_E sa A s H) : (Cond.fieldLinkNest "SlidingRanks" 266 "SlidingRanks$Sheet" "lane" "I" "SlidingRanks").before args s = true := va_Nw.use rfl (h.1 ("SlidingRanks", 266, "SlidingRanks$Sheet", "lane", "I", "SlidingRanks") (List.mem_of_getElem? (i := 26) rfl))
theorem kn_X6_73 {sa : Nat × Nat} {A : Nat → Prop} {s : State} {H : Heap} {args : Array Value} (h : s_E sa A s H) : (Cond.fieldLinkNest "SlidingRanks" 73 "SlidingRanks$Tape" "length" "I" "SlidingRanks").before args s = true := va_Nw.use rfl (h.1 ("SlidingRanks", 73, "SlidingRanks$Tape", "length", "I", "SlidingRanks") (List.mem_of_getElem? (i := 0) rfl))
theorem kn_X6_80 {sa : Nat × Nat} {A : Nat → Prop} {s : State} {H : Heap} {args : Array Value} (h : s_E sa A s H) : (Cond.fieldLinkNest "SlidingRanks" 80 "SlidingRanks$Teller" "faultPlace" "I" "SlidingRanks").before args s = true := va_Nw.use rfl (h.1 ("SlidingRanks", 80, "SlidingRanks$Teller", "faultPlace", "I", "SlidingRanks") (List.mem_of_getElem? (i := 23) rfl))
theorem kn_X6_83 {sa : Nat × Nat} {A : Nat → Prop} {s : State} {H : Heap} {args : Array Value} (h : s_E sa A s H) : (Cond.fieldLinkNest "SlidingRanks" 83 "SlidingRanks$Teller" "draft" "LSlidingRanks$Series;" "SlidingRanks").before args s = true := va_Nw.use rfl (h.1 ("SlidingRanks", 83, "SlidingRanks$Teller", "draft", "LSlidingRanks$Series;", "SlidingRanks") (List.mem_of_getElem? (i := 21) rfl))
theorem kn_X6_89 {sa : Nat × Nat} {A : Nat → Prop} {s : State} {H : Heap} {args : Array Value} (h : s_E sa A s H) : (Cond.fieldLinkNest "SlidingRanks" 89 "SlidingRanks$Series" "size" "I" "SlidingRanks").before args s = true := va_Nw.use rfl (h.1 ("SlidingRanks", 89, "SlidingRanks$Series", "size", "I", "SlidingRanks") (List.mem_of_getElem? (i := 2) rfl))
theorem kn_X6_92 {sa : Nat × Nat} {A : Nat → Prop} {s : State} {H : Heap} {args : Array Value} (h : s_E sa A s H) : (Cond.fieldLinkNest "SlidingRanks" 92 "SlidingRanks$Teller" "fault" "I" "SlidingRanks").before args s = true := va_Nw.use rfl (h.1 ("SlidingRanks", 92, "SlidingRanks$Teller", "fault", "I", "SlidingRanks") (List.mem_of_getElem? (i := 22) rfl))
theorem kn_X6_99 {sa : Nat × Nat} {A : Nat → Prop} {s : State} {H : Heap} {args : Array Value} (h : s_E sa A s H) : (Cond.fieldLinkNest "SlidingRanks" 99 "SlidingRanks$Series" "width" "I" "SlidingRanks").before args s = true := va_Nw.use rfl (h.1 ("SlidingRanks", 99, "SlidingRanks$Series", "width", "I", "SlidingRanks") (List.mem_of_getElem? (i := 6) rfl))
theorem gk_J0_1059 : GoodIn kwL (va_wsS RJ0 1059 yJ3_checkIndex_8e157 (kW yJ3_checkIndex_8e157 cJ3_checkIndex_8e157 3 (some .int))) := kG_s kw_350 kw_351 kw_67 kw_352
theorem gk_J0_335 : GoodIn kwL (wsV RJ0 335 RJ0 yJ0_coder_7d493 (kW yJ0_coder_7d493 cJ0_coder_7d493 1 (some .byte))) := kG_v kw_328 kw_329 kw_330 kw_65 kw_331
theorem gk_J0_492 : GoodIn kwL (wsV RJ0 492 RJ0 yJ0_isLatin1_aae02 (kW yJ0_isLatin1_aae02 cJ0_isLatin1_aae02 1 (some .boolean))) := kG_v kw_338 kw_339 kw_340 kw_65 kw_341
theorem gk_J0_495 : GoodIn kwL (va_wsS RJ0 495 yJ1_charAt_3b067 (kW yJ1_charAt_3b067 cJ1_charAt_3b067 2 (some .char))) := kG_s kw_342 kw_343 kw_66 kw_344
theorem gk_J1_9 : GoodIn kwL (va_wsS RJ1 9 yJ0_checkIndex_df160 (kW yJ0_checkIndex_df160 cJ0_checkIndex_df160 2 none)) := kG_s kw_345 kw_346 kw_65 kw_347
theorem gk_L_100 : GoodIn kwL (wsV RL 100 RX7 yX7_drop (kW yX7_drop cX7_drop 3 (some .int))) := kG_v kw_1080 kw_1081 kw_1082 kw_64 kw_1083
theorem gk_L_101 : GoodIn kwL (wsV RL 101 RX6 yX6_width (kW yX6_width cX6_width 3 (some .int))) := kG_v kw_671 kw_672 kw_673 kw_57 kw_674
theorem gk_L_104 : GoodIn kwL (wsV RL 104 RX7 yX7_width (kW yX7_width cX7_width 2 (some .int))) := kG_v kw_1084 kw_1085 kw_1086 kw_64 kw_1087
theorem gk_L_105 : GoodIn kwL (wsV RL 105 RX6 yX6_need (kW yX6_need cX6_need 3 (some .int))) := kG_v kw_675 kw_676 kw_677 kw_57 kw_678
theorem gk_L_108 : GoodIn kwL (wsV RL 108 RX7 yX7_need (kW yX7_need cX7_need 2 (some .int))) := kG_v kw_1093 kw_1094 kw_1095 kw_64 kw_1096
theorem gk_L_109 : GoodIn kwL (wsV RL 109 RX6 yX6_part (kW yX6_part cX6_part 4 (some .int))) := kG_v kw_679 kw_680 kw_681 kw_57 kw_682
theorem gk_L_112 : GoodIn kwL (wsV RL 112 RX7 yX7_part (kW yX7_part cX7_part 4 (some .int))) := kG_v kw_1097 kw_1098 kw_1099 kw_64 kw_1100
theorem gk_L_113 : GoodIn kwL (wsV RL 113 RX6 yX6_choose (kW yX6_choose cX6_choose 3 (some .int))) := kG_v kw_683 kw_684 kw_685 kw_57 kw_686
theorem gk_L_116 : GoodIn kwL (wsV RL 116 RX7 yX7_choose (kW yX7_choose cX7_choose 2 (some .int))) := kG_v kw_1102 kw_1103 kw_1104 kw_64 kw_1105
theorem gk_L_117 : GoodIn kwL (wsV RL 117 RX6 yX6_form (kW yX6_form cX6_form 3 (some .int))) := kG_v kw_687 kw_688 kw_689 kw_57 kw_690
theorem gk_L_120 : GoodIn kwL (wsV RL 120 RX7 yX7_form (kW yX7_form cX7_form 2 (some .int))) := kG_v kw_1107 kw_1108 kw_1109 kw_64 kw_1110
theorem gk_L_121 : GoodIn kwL (wsV RL 121 RX6 yX6_drift (kW yX6_drift cX6_drift 8 (some .int))) := kG_v kw_691 kw_692 kw_693 kw_57 kw_694
theorem gk_L_124 : GoodIn kwL (wsV RL 124 RX7 yX7_drift (kW yX7_drift cX7_drift 7 (some .int))) := kG_v kw_1111 kw_1112 kw_1113 kw_64 kw_1114
theorem gk_L_125 : GoodIn kwL (wsV RL 125 RX6 yX6_keep (kW yX6_keep cX6_keep 3 (some .int))) := kG_v kw_703 kw_704 kw_705 kw_57 kw_706
theorem gk_L_128 : GoodIn kwL (wsV RL 128 RX7 yX7_keep (kW yX7_keep cX7_keep 3 (some .int))) := kG_v kw_1122 kw_1123 kw_1124 kw_64 kw_1125
theorem gk_L_129 : GoodIn kwL (wsV RL 129 RX6 yX6_back (kW yX6_back cX6_back 2 (some .int))) := kG_v kw_711 kw_712 kw_713 kw_57 kw_714
theorem gk_L_13 : GoodIn kwL (wsV RL 13 RX6 yX6_feed (kW yX6_feed cX6_feed 2 (some .int))) := kG_v kw_278 kw_279 kw_280 kw_57 kw_281
theorem gk_L_132 : GoodIn kwL (wsV RL 132 RX7 yX7_back (kW yX7_back cX7_back 2 (some .int))) := kG_v kw_1126 kw_1127 kw_1128 kw_64 kw_1129
theorem gk_L_133 : GoodIn kwL (wsV RL 133 RX6 yX6_sheet (kW yX6_sheet cX6_sheet 4 (some .int))) := kG_v kw_715 kw_716 kw_717 kw_57 kw_718
theorem gk_L_136 : GoodIn kwL (wsV RL 136 RX7 yX7_sheet (kW yX7_sheet cX7_sheet 5 (some .int))) := kG_v kw_1130 kw_1131 kw_1132 kw_64 kw_1133
theorem gk_L_137 : GoodIn kwL (wsV RL 137 RX6 yX6_lay (kW yX6_lay cX6_lay 5 (some .int))) := kG_v kw_731 kw_732 kw_733 kw_57 kw_734
theorem gk_L_140 : GoodIn kwL (wsV RL 140 RX7 yX7_lay (kW yX7_lay cX7_lay 4 (some .int))) := kG_v kw_1134 kw_1135 kw_1136 kw_64 kw_1137
theorem gk_L_141 : GoodIn kwL (wsV RL 141 RX6 yX6_read (kW yX6_read cX6_read 8 (some .int))) := kG_v kw_748 kw_749 kw_750 kw_57 kw_751
theorem gk_L_145 : GoodIn kwL (wsV RL 145 RX7 yX7_read (kW yX7_read cX7_read 10 (some .int))) := kG_v kw_1138 kw_1139 kw_1140 kw_64 kw_1141
theorem gk_L_146 : GoodIn kwL (wsV RL 146 RX6 yX6_torn (kW yX6_torn cX6_torn 1 (some .int))) := kG_v kw_760 kw_761 kw_762 kw_57 kw_763
theorem gk_L_149 : GoodIn kwL (wsV RL 149 RX7 yX7_torn (kW yX7_torn cX7_torn 1 (some .int))) := kG_v kw_1143 kw_1144 kw_1145 kw_64 kw_1146
theorem gk_L_150 : GoodIn kwL (wsV RL 150 RX6 yX6_count (kW yX6_count cX6_count 2 (some .int))) := kG_v kw_764 kw_765 kw_766 kw_57 kw_767
theorem gk_L_153 : GoodIn kwL (wsV RL 153 RX7 yX7_count (kW yX7_count cX7_count 2 (some .int))) := kG_v kw_1147 kw_1148 kw_1149 kw_64 kw_1150
theorem gk_L_17 : GoodIn kwL (wsV RL 17 RX7 yX7_feed (kW yX7_feed cX7_feed 2 (some .int))) := kG_v kw_867 kw_868 kw_869 kw_64 kw_870
theorem gk_L_18 : GoodIn kwL (wsV RL 18 RX6 yX6_end (kW yX6_end cX6_end 3 (some .int))) := kG_v kw_291 kw_292 kw_293 kw_57 kw_294
theorem gk_L_21 : GoodIn kwL (wsV RL 21 RX7 yX7_end (kW yX7_end cX7_end 3 (some .int))) := kG_v kw_875 kw_876 kw_877 kw_64 kw_878
theorem gk_L_22 : GoodIn kwL (wsV RL 22 RX6 yX6_text (kW yX6_text cX6_text 3 (some .int))) := kG_v kw_295 kw_296 kw_297 kw_57 kw_298
theorem gk_L_26 : GoodIn kwL (wsV RL 26 RX7 yX7_text (kW yX7_text cX7_text 1 (some .int))) := kG_v kw_879 kw_880 kw_881 kw_64 kw_882
theorem gk_L_27 : GoodIn kwL (wsV RL 27 RX6 yX6_fault (kW yX6_fault cX6_fault 1 (some .int))) := kG_v kw_443 kw_444 kw_445 kw_57 kw_446
theorem gk_L_30 : GoodIn kwL (wsV RL 30 RX7 yX7_fault (kW yX7_fault cX7_fault 1 (some .int))) := kG_v kw_949 kw_950 kw_951 kw_64 kw_952
theorem gk_L_31 : GoodIn kwL (wsV RL 31 RX6 yX6_rule (kW yX6_rule cX6_rule 2 (some .int))) := kG_v kw_447 kw_448 kw_449 kw_57 kw_450
theorem gk_L_34 : GoodIn kwL (wsV RL 34 RX7 yX7_rule (kW yX7_rule cX7_rule 2 (some .int))) := kG_v kw_953 kw_954 kw_955 kw_64 kw_956
theorem gk_L_35 : GoodIn kwL (wsV RL 35 RX6 yX6_reading (kW yX6_reading cX6_reading 2 (some .int))) := kG_v kw_489 kw_490 kw_491 kw_57 kw_492
theorem gk_L_38 : GoodIn kwL (wsV RL 38 RX7 yX7_reading (kW yX7_reading cX7_reading 2 (some .int))) := kG_v kw_978 kw_979 kw_980 kw_64 kw_981
theorem gk_L_39 : GoodIn kwL (wsV RL 39 RX6 yX6_row (kW yX6_row cX6_row 3 (some .int))) := kG_v kw_494 kw_495 kw_496 kw_57 kw_497
theorem gk_L_43 : GoodIn kwL (wsV RL 43 RX7 yX7_row (kW yX7_row cX7_row 4 (some .int))) := kG_v kw_986 kw_987 kw_988 kw_64 kw_989
theorem gk_L_44 : GoodIn kwL (wsV RL 44 RX6 yX6_item (kW yX6_item cX6_item 3 (some .int))) := kG_v kw_513 kw_514 kw_515 kw_57 kw_516
theorem gk_L_47 : GoodIn kwL (wsV RL 47 RX7 yX7_item (kW yX7_item cX7_item 3 (some .int))) := kG_v kw_990 kw_991 kw_992 kw_64 kw_993
theorem gk_L_48 : GoodIn kwL (wsV RL 48 RX6 yX6_result (kW yX6_result cX6_result 3 (some .int))) := kG_v kw_522 kw_523 kw_524 kw_57 kw_525
theorem gk_L_51 : GoodIn kwL (wsV RL 51 RX7 yX7_result (kW yX7_result cX7_result 3 (some .int))) := kG_v kw_994 kw_995 kw_996 kw_64 kw_997
theorem gk_L_52 : GoodIn kwL (wsV RL 52 RX6 yX6_rank (kW yX6_rank cX6_rank 4 (some .int))) := kG_v kw_550 kw_551 kw_552 kw_57 kw_553
theorem gk_L_56 : GoodIn kwL (wsV RL 56 RX7 yX7_rank (kW yX7_rank cX7_rank 6 (some .int))) := kG_v kw_1002 kw_1003 kw_1004 kw_64 kw_1005
theorem gk_L_57 : GoodIn kwL (wsV RL 57 RX6 yX6_shown (kW yX6_shown cX6_shown 3 (some .int))) := kG_v kw_559 kw_560 kw_561 kw_57 kw_562
theorem gk_L_60 : GoodIn kwL (wsV RL 60 RX7 yX7_shown (kW yX7_shown cX7_shown 3 (some .int))) := kG_v kw_1006 kw_1007 kw_1008 kw_64 kw_1009
theorem gk_L_61 : GoodIn kwL (wsV RL 61 RX6 yX6_middle (kW yX6_middle cX6_middle 3 (some .int))) := kG_v kw_588 kw_589 kw_590 kw_57 kw_591
theorem gk_L_64 : GoodIn kwL (wsV RL 64 RX7 yX7_middle (kW yX7_middle cX7_middle 3 (some .int))) := kG_v kw_1022 kw_1023 kw_1024 kw_64 kw_1025
theorem gk_L_65 : GoodIn kwL (wsV RL 65 RX6 yX6_far (kW yX6_far cX6_far 3 (some .int))) := kG_v kw_600 kw_601 kw_602 kw_57 kw_603
theorem gk_L_68 : GoodIn kwL (wsV RL 68 RX7 yX7_far (kW yX7_far cX7_far 3 (some .int))) := kG_v kw_1033 kw_1034 kw_1035 kw_64 kw_1036
theorem gk_L_69 : GoodIn kwL (wsV RL 69 RX6 yX6_fars (kW yX6_fars cX6_fars 4 (some .int))) := kG_v kw_613 kw_614 kw_615 kw_57 kw_616
theorem gk_L_72 : GoodIn kwL (wsV RL 72 RX7 yX7_fars (kW yX7_fars cX7_fars 4 (some .int))) := kG_v kw_1042 kw_1043 kw_1044 kw_64 kw_1045
theorem gk_L_73 : GoodIn kwL (wsV RL 73 RX6 yX6_above (kW yX6_above cX6_above 9 (some .int))) := kG_v kw_617 kw_618 kw_619 kw_57 kw_620
theorem gk_L_76 : GoodIn kwL (wsV RL 76 RX7 yX7_above (kW yX7_above cX7_above 10 (some .int))) := kG_v kw_1046 kw_1047 kw_1048 kw_64 kw_1049
theorem gk_L_77 : GoodIn kwL (wsV RL 77 RX6 yX6_most (kW yX6_most cX6_most 7 (some .int))) := kG_v kw_627 kw_628 kw_629 kw_57 kw_630
theorem gk_L_80 : GoodIn kwL (wsV RL 80 RX7 yX7_most (kW yX7_most cX7_most 6 (some .int))) := kG_v kw_1051 kw_1052 kw_1053 kw_64 kw_1054
theorem gk_L_81 : GoodIn kwL (wsV RL 81 RX6 yX6_add (kW yX6_add cX6_add 2 (some .int))) := kG_v kw_631 kw_632 kw_633 kw_57 kw_634
theorem gk_L_84 : GoodIn kwL (wsV RL 84 RX7 yX7_add (kW yX7_add cX7_add 2 (some .int))) := kG_v kw_1055 kw_1056 kw_1057 kw_64 kw_1058
theorem gk_L_85 : GoodIn kwL (wsV RL 85 RX6 yX6_miss (kW yX6_miss cX6_miss 1 (some .int))) := kG_v kw_646 kw_647 kw_648 kw_57 kw_649
theorem gk_L_88 : GoodIn kwL (wsV RL 88 RX7 yX7_miss (kW yX7_miss cX7_miss 1 (some .int))) := kG_v kw_1068 kw_1069 kw_1070 kw_64 kw_1071
theorem gk_L_89 : GoodIn kwL (wsV RL 89 RX6 yX6_set (kW yX6_set cX6_set 3 (some .int))) := kG_v kw_650 kw_651 kw_652 kw_57 kw_653
theorem gk_L_92 : GoodIn kwL (wsV RL 92 RX7 yX7_set (kW yX7_set cX7_set 4 (some .int))) := kG_v kw_1072 kw_1073 kw_1074 kw_64 kw_1075
theorem gk_L_93 : GoodIn kwL (wsV RL 93 RX6 yX6_lose (kW yX6_lose cX6_lose 2 (some .int))) := kG_v kw_659 kw_660 kw_661 kw_57 kw_662
theorem gk_L_96 : GoodIn kwL (wsV RL 96 RX7 yX7_lose (kW yX7_lose cX7_lose 3 (some .int))) := kG_v kw_1076 kw_1077 kw_1078 kw_64 kw_1079
theorem gk_L_97 : GoodIn kwL (wsV RL 97 RX6 yX6_drop (kW yX6_drop cX6_drop 2 (some .int))) := kG_v kw_663 kw_664 kw_665 kw_57 kw_666
theorem gk_X0_23 : GoodIn kwL (wsV RX0 23 RX0 yX0_clear (kW yX0_clear cX0_clear 1 none)) := kG_v kw_503 kw_461 kw_462 kw_61 kw_463
theorem gk_X0_37 : GoodIn kwL (wsV RX0 37 RX1 yX1_valueAt (kW yX1_valueAt cX1_valueAt 2 (some .int))) := kG_v kw_468 kw_469 kw_470 kw_60 kw_471
theorem gk_X0_41 : GoodIn kwL (wsV RX0 41 RX0 yX0_putIn (kW yX0_putIn cX0_putIn 3 none)) := kG_v kw_480 kw_482 kw_15 kw_61 kw_483
theorem gk_X0_45 : GoodIn kwL (wsV RX0 45 RX0 yX0_takeOut (kW yX0_takeOut cX0_takeOut 3 none)) := kG_v kw_472 kw_474 kw_14 kw_61 kw_475
theorem gk_X0_49 : GoodIn kwL (wsV RX0 49 RX0 yX0_countLess (kW yX0_countLess cX0_countLess 3 (some .int))) := kG_v kw_476 kw_477 kw_478 kw_61 kw_479
theorem gk_X0_61 : GoodIn kwL (wsV RX0 61 RX0 yX0_placeWhole (kW yX0_placeWhole cX0_placeWhole 1 (some .int))) := kG_v kw_530 kw_506 kw_507 kw_61 kw_508
theorem gk_X0_65 : GoodIn kwL (wsV RX0 65 RX0 yX0_placeRest (kW yX0_placeRest cX0_placeRest 1 (some .int))) := kG_v kw_531 kw_510 kw_511 kw_61 kw_512
theorem gk_X0_68 : GoodIn kwL (wsV RX0 68 RX0 yX0_at (kW yX0_at cX0_at 2 (some .int))) := kG_v kw_532 kw_519 kw_520 kw_61 kw_521
theorem gk_X0_74 : GoodIn kwL (wsV RX0 74 RX0 yX0_isNearLower (kW yX0_isNearLower cX0_isNearLower 3 (some .boolean))) := kG_v kw_533 kw_535 kw_16 kw_61 kw_536
theorem gk_X0_78 : GoodIn kwL (wsV RX0 78 RX0 yX0_numerator (kW yX0_numerator cX0_numerator 5 (some .int))) := kG_v kw_545 kw_527 kw_528 kw_61 kw_529
theorem gk_X0_81 : GoodIn kwL (wsV RX0 81 RX0 yX0_denominator (kW yX0_denominator cX0_denominator 1 (some .int))) := kG_v kw_546 kw_538 kw_539 kw_61 kw_540
theorem gk_X0_87 : GoodIn kwL (wsV RX0 87 RX0 yX0_hasResult (kW yX0_hasResult cX0_hasResult 1 (some .boolean))) := kG_v kw_625 kw_486 kw_487 kw_61 kw_488
theorem gk_X0_91 : GoodIn kwL (wsV RX0 91 RX0 yX0_middleValue (kW yX0_middleValue cX0_middleValue 1 (some .int))) := kG_v kw_611 kw_593 kw_594 kw_61 kw_595
theorem gk_X0_94 : GoodIn kwL (wsV RX0 94 RX0 yX0_spread (kW yX0_spread cX0_spread 8 (some .int))) := kG_v kw_612 kw_597 kw_598 kw_61 kw_599
theorem gk_X1_15 : GoodIn kwL (wsV RX1 15 RX1 yX1_reset (kW yX1_reset cX1_reset 1 none)) := kG_v kw_107 kw_108 kw_109 kw_60 kw_110
theorem gk_X1_46 : GoodIn kwL (wsV RX1 46 RX1 yX1_has (kW yX1_has cX1_has 2 (some .boolean))) := kG_v kw_426 kw_427 kw_428 kw_60 kw_429
theorem gk_X1_51 : GoodIn kwL (wsV RX1 51 RX1 yX1_isFull (kW yX1_isFull cX1_isFull 1 (some .boolean))) := kG_v kw_414 kw_415 kw_416 kw_60 kw_417
theorem gk_X2_28 : GoodIn kwL (wsV RX2 28 RX2 yX2_hasCell (kW yX2_hasCell cX2_hasCell 2 (some .boolean))) := kG_v kw_747 kw_740 kw_741 kw_63 kw_742
theorem gk_X3_19 : GoodIn kwL (wsV RX3 19 RX3 yX3_isFull (kW yX3_isFull cX3_isFull 1 (some .boolean))) := kG_v kw_290 kw_283 kw_284 kw_58 kw_285
theorem gk_X4_107 : GoodIn kwL (wsV RX4 107 RX4 yX4_takeLineEnd (kW yX4_takeLineEnd cX4_takeLineEnd 2 none)) := kG_v kw_402 kw_404 kw_9 kw_59 kw_405
theorem gk_X4_110 : GoodIn kwL (wsV RX4 110 RX4 yX4_takeWhole (kW yX4_takeWhole cX4_takeWhole 1 none)) := kG_v kw_406 kw_408 kw_10 kw_59 kw_409
theorem gk_X4_113 : GoodIn kwL (wsV RX4 113 RX4 yX4_takeFraction (kW yX4_takeFraction cX4_takeFraction 3 none)) := kG_v kw_418 kw_420 kw_11 kw_59 kw_421
theorem gk_X4_116 : GoodIn kwL (wsV RX4 116 RX4 yX4_takeReadingOrMore (kW yX4_takeReadingOrMore cX4_takeReadingOrMore 3 none)) := kG_v kw_430 kw_432 kw_12 kw_59 kw_433
theorem gk_X4_119 : GoodIn kwL (wsV RX4 119 RX1 yX1_isFull (kW yX1_isFull cX1_isFull 1 (some .boolean))) := kG_v kw_434 kw_415 kw_416 kw_60 kw_417
theorem gk_X4_124 : GoodIn kwL (wsV RX4 124 RX1 yX1_append (kW yX1_append cX1_append 2 none)) := kG_v kw_410 kw_411 kw_412 kw_60 kw_413
theorem gk_X4_130 : GoodIn kwL (wsV RX4 130 RX1 yX1_change (kW yX1_change cX1_change 3 none)) := kG_v kw_422 kw_423 kw_424 kw_60 kw_425
theorem gk_X4_137 : GoodIn kwL (va_wsS RX4 137 yX4_isLetter (kW yX4_isLetter cX4_isLetter 1 (some .boolean))) := kG_s kw_312 kw_313 kw_59 kw_314
theorem gk_X4_141 : GoodIn kwL (wsV RX4 141 RX4 yX4_scanName (kW yX4_scanName cX4_scanName 2 none)) := kG_v kw_315 kw_317 kw_1 kw_59 kw_318
theorem gk_X4_144 : GoodIn kwL (va_wsS RX4 144 yX4_isFigure (kW yX4_isFigure cX4_isFigure 1 (some .boolean))) := kG_s kw_372 kw_373 kw_59 kw_374
theorem gk_X4_147 : GoodIn kwL (wsV RX4 147 RX4 yX4_scanNumber (kW yX4_scanNumber cX4_scanNumber 2 none)) := kG_v kw_375 kw_377 kw_3 kw_59 kw_378
theorem gk_X4_150 : GoodIn kwL (wsV RX4 150 RX4 yX4_numberOfName (kW yX4_numberOfName cX4_numberOfName 7 (some .int))) := kG_v kw_319 kw_321 kw_2 kw_59 kw_322
theorem gk_X4_156 : GoodIn kwL (wsV RX4 156 RJ0 yJ0_length_8abf5 (kW yJ0_length_8abf5 cJ0_length_8abf5 1 (some .int))) := kG_v kw_324 kw_325 kw_326 kw_65 kw_327
theorem gk_X4_161 : GoodIn kwL (wsV RX4 161 RJ0 yJ0_charAt_5068e (kW yJ0_charAt_5068e cJ0_charAt_5068e 2 (some .char))) := kG_v kw_334 kw_335 kw_336 kw_65 kw_337
theorem gk_X4_53 : GoodIn kwL (wsV RX4 53 RX1 yX1_reset (kW yX1_reset cX1_reset 1 none)) := kG_v kw_303 kw_108 kw_109 kw_60 kw_110
theorem gk_X4_56 : GoodIn kwL (wsV RX4 56 RX4 yX4_scan (kW yX4_scan cX4_scan 3 none)) := kG_v kw_304 kw_306 kw_0 kw_59 kw_307
theorem gk_X4_60 : GoodIn kwL (wsV RX4 60 RX3 yX3_byteAt (kW yX3_byteAt cX3_byteAt 2 (some .int))) := kG_v kw_308 kw_309 kw_310 kw_58 kw_311
theorem gk_X4_66 : GoodIn kwL (wsV RX4 66 RX4 yX4_takeToken (kW yX4_takeToken cX4_takeToken 2 none)) := kG_v kw_383 kw_385 kw_5 kw_59 kw_386
theorem gk_X4_70 : GoodIn kwL (wsV RX4 70 RX4 yX4_refuse (kW yX4_refuse cX4_refuse 2 none)) := kG_v kw_379 kw_381 kw_4 kw_59 kw_382
theorem gk_X4_73 : GoodIn kwL (wsV RX4 73 RX4 yX4_takeLineName (kW yX4_takeLineName cX4_takeLineName 1 none)) := kG_v kw_387 kw_389 kw_6 kw_59 kw_390
theorem gk_X4_76 : GoodIn kwL (wsV RX4 76 RX4 yX4_takeNumber (kW yX4_takeNumber cX4_takeNumber 4 (some .int))) := kG_v kw_391 kw_393 kw_7 kw_59 kw_394
theorem gk_X4_98 : GoodIn kwL (wsV RX4 98 RX4 yX4_takeChoice (kW yX4_takeChoice cX4_takeChoice 3 (some .int))) := kG_v kw_398 kw_400 kw_8 kw_59 kw_401
theorem gk_X5_19 : GoodIn kwL (wsV RX5 19 RX5 yX5_push (kW yX5_push cX5_push 2 none)) := kG_v kw_571 kw_573 kw_18 kw_62 kw_574
theorem gk_X5_29 : GoodIn kwL (wsV RX5 29 RX5 yX5_writeWhole (kW yX5_writeWhole cX5_writeWhole 3 none)) := kG_v kw_576 kw_578 kw_19 kw_62 kw_579
theorem gk_X6_117 : GoodIn kwL (wsV RX6 117 RX6 yX6_countResults (kW yX6_countResults cX6_countResults 3 (some .int))) := kG_v kw_456 kw_458 kw_13 kw_57 kw_459
theorem gk_X6_120 : GoodIn kwL (wsV RX6 120 RX1 yX1_valueAt (kW yX1_valueAt cX1_valueAt 2 (some .int))) := kG_v kw_493 kw_469 kw_470 kw_60 kw_471
theorem gk_X6_124 : GoodIn kwL (wsV RX6 124 RX1 yX1_has (kW yX1_has cX1_has 2 (some .boolean))) := kG_v kw_498 kw_427 kw_428 kw_60 kw_429
theorem gk_X6_128 : GoodIn kwL (wsV RX6 128 RX0 yX0_load (kW yX0_load cX0_load 3 none)) := kG_v kw_499 kw_500 kw_501 kw_61 kw_502
theorem gk_X6_134 : GoodIn kwL (wsV RX6 134 RX0 yX0_hasResult (kW yX0_hasResult cX0_hasResult 1 (some .boolean))) := kG_v kw_485 kw_486 kw_487 kw_61 kw_488
theorem gk_X6_137 : GoodIn kwL (wsV RX6 137 RX0 yX0_placeWhole (kW yX0_placeWhole cX0_placeWhole 1 (some .int))) := kG_v kw_505 kw_506 kw_507 kw_61 kw_508
theorem gk_X6_140 : GoodIn kwL (wsV RX6 140 RX0 yX0_placeRest (kW yX0_placeRest cX0_placeRest 1 (some .int))) := kG_v kw_509 kw_510 kw_511 kw_61 kw_512
theorem gk_X6_144 : GoodIn kwL (wsV RX6 144 RX0 yX0_at (kW yX0_at cX0_at 2 (some .int))) := kG_v kw_518 kw_519 kw_520 kw_61 kw_521
theorem gk_X6_147 : GoodIn kwL (wsV RX6 147 RX0 yX0_numerator (kW yX0_numerator cX0_numerator 5 (some .int))) := kG_v kw_526 kw_527 kw_528 kw_61 kw_529
theorem gk_X6_150 : GoodIn kwL (wsV RX6 150 RX0 yX0_denominator (kW yX0_denominator cX0_denominator 1 (some .int))) := kG_v kw_537 kw_538 kw_539 kw_61 kw_540
theorem gk_X6_153 : GoodIn kwL (wsV RX6 153 RX0 yX0_rounded (kW yX0_rounded cX0_rounded 4 (some .int))) := kG_v kw_541 kw_542 kw_543 kw_61 kw_544
theorem gk_X6_156 : GoodIn kwL (wsV RX6 156 RX0 yX0_countLess (kW yX0_countLess cX0_countLess 3 (some .int))) := kG_v kw_554 kw_477 kw_478 kw_61 kw_479
theorem gk_X6_159 : GoodIn kwL (wsV RX6 159 RX0 yX0_countSame (kW yX0_countSame cX0_countSame 4 (some .int))) := kG_v kw_555 kw_556 kw_557 kw_61 kw_558
theorem gk_X6_162 : GoodIn kwL (wsV RX6 162 RX6 yX6_writeWords (kW yX6_writeWords cX6_writeWords 1 none)) := kG_v kw_563 kw_565 kw_17 kw_57 kw_566
theorem gk_X6_166 : GoodIn kwL (wsV RX6 166 RX5 yX5_byteAt (kW yX5_byteAt cX5_byteAt 2 (some .int))) := kG_v kw_584 kw_585 kw_586 kw_62 kw_587
theorem gk_X6_169 : GoodIn kwL (wsV RX6 169 RX0 yX0_middleValue (kW yX0_middleValue cX0_middleValue 1 (some .int))) := kG_v kw_592 kw_593 kw_594 kw_61 kw_595
theorem gk_X6_172 : GoodIn kwL (wsV RX6 172 RX0 yX0_spread (kW yX0_spread cX0_spread 8 (some .int))) := kG_v kw_596 kw_597 kw_598 kw_61 kw_599
theorem gk_X6_175 : GoodIn kwL (va_wsS RX6 175 yX6_isFactor (kW yX6_isFactor cX6_isFactor 1 (some .boolean))) := kG_s kw_604 kw_605 kw_57 kw_606
theorem gk_X6_178 : GoodIn kwL (wsV RX6 178 RX0 yX0_isFar (kW yX0_isFar cX0_isFar 3 (some .boolean))) := kG_v kw_607 kw_608 kw_609 kw_61 kw_610
theorem gk_X6_182 : GoodIn kwL (wsV RX6 182 RX0 yX0_clear (kW yX0_clear cX0_clear 1 none)) := kG_v kw_460 kw_461 kw_462 kw_61 kw_463
theorem gk_X6_185 : GoodIn kwL (wsV RX6 185 RX0 yX0_slideTo (kW yX0_slideTo cX0_slideTo 2 none)) := kG_v kw_464 kw_465 kw_466 kw_61 kw_467
theorem gk_X6_188 : GoodIn kwL (wsV RX6 188 RX0 yX0_isAbove (kW yX0_isAbove cX0_isAbove 2 (some .boolean))) := kG_v kw_621 kw_622 kw_623 kw_61 kw_624
theorem gk_X6_197 : GoodIn kwL (va_wsS RX6 197 yX6_isHundredths (kW yX6_isHundredths cX6_isHundredths 1 (some .boolean))) := kG_s kw_635 kw_636 kw_57 kw_637
theorem gk_X6_200 : GoodIn kwL (wsV RX6 200 RX6 yX6_putBehind (kW yX6_putBehind cX6_putBehind 2 (some .int))) := kG_v kw_640 kw_642 kw_20 kw_57 kw_643
theorem gk_X6_203 : GoodIn kwL (wsV RX6 203 RX6 yX6_replace (kW yX6_replace cX6_replace 4 (some .int))) := kG_v kw_654 kw_656 kw_21 kw_57 kw_657
theorem gk_X6_206 : GoodIn kwL (wsV RX6 206 RX1 yX1_dropFirst (kW yX1_dropFirst cX1_dropFirst 2 none)) := kG_v kw_667 kw_668 kw_669 kw_60 kw_670
theorem gk_X6_209 : GoodIn kwL (wsV RX6 209 RX1 yX1_latestValue (kW yX1_latestValue cX1_latestValue 2 (some .int))) := kG_v kw_695 kw_696 kw_697 kw_60 kw_698
theorem gk_X6_212 : GoodIn kwL (wsV RX6 212 RX1 yX1_isFull (kW yX1_isFull cX1_isFull 1 (some .boolean))) := kG_v kw_644 kw_415 kw_416 kw_60 kw_417
theorem gk_X6_214 : GoodIn kwL (wsV RX6 214 RX1 yX1_append (kW yX1_append cX1_append 2 none)) := kG_v kw_645 kw_411 kw_412 kw_60 kw_413
theorem gk_X6_220 : GoodIn kwL (wsV RX6 220 RX6 yX6_isImage (kW yX6_isImage cX6_isImage 2 (some .boolean))) := kG_v kw_707 kw_709 kw_22 kw_57 kw_710
theorem gk_X6_223 : GoodIn kwL (wsV RX6 223 RX6 yX6_isSheet (kW yX6_isSheet cX6_isSheet 2 (some .boolean))) := kG_v kw_719 kw_721 kw_23 kw_57 kw_722
theorem gk_X6_226 : GoodIn kwL (va_wsS RX6 226 yX6_isLane (kW yX6_isLane cX6_isLane 1 (some .boolean))) := kG_s kw_723 kw_724 kw_57 kw_725
theorem gk_X6_229 : GoodIn kwL (wsV RX6 229 RX2 yX2_renew (kW yX2_renew cX2_renew 4 none)) := kG_v kw_726 kw_727 kw_728 kw_63 kw_729
theorem gk_X6_233 : GoodIn kwL (wsV RX6 233 RX2 yX2_isNothing (kW yX2_isNothing cX2_isNothing 1 (some .boolean))) := kG_v kw_735 kw_736 kw_737 kw_63 kw_738
theorem gk_X6_236 : GoodIn kwL (wsV RX6 236 RX2 yX2_hasCell (kW yX2_hasCell cX2_hasCell 2 (some .boolean))) := kG_v kw_739 kw_740 kw_741 kw_63 kw_742
theorem gk_X6_239 : GoodIn kwL (wsV RX6 239 RX2 yX2_write (kW yX2_write cX2_write 3 none)) := kG_v kw_743 kw_744 kw_745 kw_63 kw_746
theorem gk_X6_242 : GoodIn kwL (va_wsS RX6 242 yX6_tearAt (kW yX6_tearAt cX6_tearAt 3 (some .int))) := kG_s kw_752 kw_753 kw_57 kw_754
theorem gk_X6_246 : GoodIn kwL (wsV RX6 246 RX2 yX2_valueAt (kW yX2_valueAt cX2_valueAt 2 (some .int))) := kG_v kw_755 kw_756 kw_757 kw_63 kw_758
theorem gk_X6_247 : GoodIn kwL (wsV RX6 247 RX6 yX6_add (kW yX6_add cX6_add 2 (some .int))) := kG_v kw_759 kw_632 kw_633 kw_57 kw_634
theorem gk_X6_250 : GoodIn kwL (wsV RX6 250 RX6 yX6_countImages (kW yX6_countImages cX6_countImages 3 (some .int))) := kG_v kw_768 kw_770 kw_24 kw_57 kw_771
theorem gk_X6_254 : GoodIn kwL (wsV RX6 254 RX6 yX6_countShownBytes (kW yX6_countShownBytes cX6_countShownBytes 3 (some .int))) := kG_v kw_772 kw_774 kw_25 kw_57 kw_775
theorem gk_X6_257 : GoodIn kwL (wsV RX6 257 RX1 yX1_change (kW yX1_change cX1_change 3 none)) := kG_v kw_658 kw_423 kw_424 kw_60 kw_425
theorem gk_X6_260 : GoodIn kwL (wsV RX6 260 RX5 yX5_writeNumber (kW yX5_writeNumber cX5_writeNumber 7 none)) := kG_v kw_567 kw_568 kw_569 kw_62 kw_570
theorem gk_X6_263 : GoodIn kwL (wsV RX6 263 RX5 yX5_writeNone (kW yX5_writeNone cX5_writeNone 1 none)) := kG_v kw_580 kw_581 kw_582 kw_62 kw_583
theorem gk_X6_65 : GoodIn kwL (wsV RX6 65 RX3 yX3_isFull (kW yX3_isFull cX3_isFull 1 (some .boolean))) := kG_v kw_282 kw_283 kw_284 kw_58 kw_285
theorem gk_X6_69 : GoodIn kwL (wsV RX6 69 RX3 yX3_append (kW yX3_append cX3_append 2 none)) := kG_v kw_286 kw_287 kw_288 kw_58 kw_289
theorem gk_X6_76 : GoodIn kwL (wsV RX6 76 RX4 yX4_tell (kW yX4_tell cX4_tell 3 (some .boolean))) := kG_v kw_299 kw_300 kw_301 kw_59 kw_302
theorem gk_X6_86 : GoodIn kwL (wsV RX6 86 RX1 yX1_copyFrom (kW yX1_copyFrom cX1_copyFrom 2 none)) := kG_v kw_436 kw_437 kw_438 kw_60 kw_439
theorem gk_X6_95 : GoodIn kwL (wsV RX6 95 RX1 yX1_countMissing (kW yX1_countMissing cX1_countMissing 3 (some .int))) := kG_v kw_451 kw_452 kw_453 kw_60 kw_454
theorem gk_X7_102 : GoodIn kwL (wsV RX7 102 RX7 yX7_isReadingHere (kW yX7_isReadingHere cX7_isReadingHere 1 (some .boolean))) := kG_v kw_932 kw_934 kw_37 kw_64 kw_935
theorem gk_X7_107 : GoodIn kwL (wsV RX7 107 RX7 yX7_numberRead (kW yX7_numberRead cX7_numberRead 4 (some .int))) := kG_v kw_916 kw_918 kw_33 kw_64 kw_919
theorem gk_X7_111 : GoodIn kwL (wsV RX7 111 RX7 yX7_hundredthsRead (kW yX7_hundredthsRead cX7_hundredthsRead 3 (some .int))) := kG_v kw_937 kw_939 kw_38 kw_64 kw_940
theorem gk_X7_114 : GoodIn kwL (wsV RX7 114 RX7 yX7_readReading (kW yX7_readReading cX7_readReading 4 none)) := kG_v kw_928 kw_930 kw_36 kw_64 kw_931
theorem gk_X7_122 : GoodIn kwL (wsV RX7 122 RX7 yX7_wordRead (kW yX7_wordRead cX7_wordRead 4 (some .int))) := kG_v kw_920 kw_922 kw_34 kw_64 kw_923
theorem gk_X7_125 : GoodIn kwL (wsV RX7 125 RX7 yX7_readPut (kW yX7_readPut cX7_readPut 1 none)) := kG_v kw_924 kw_926 kw_35 kw_64 kw_927
theorem gk_X7_128 : GoodIn kwL (wsV RX7 128 RX7 yX7_starts (kW yX7_starts cX7_starts 1 none)) := kG_v kw_883 kw_885 kw_26 kw_64 kw_886
theorem gk_X7_131 : GoodIn kwL (wsV RX7 131 RX7 yX7_readLine (kW yX7_readLine cX7_readLine 2 none)) := kG_v kw_907 kw_909 kw_31 kw_64 kw_910
theorem gk_X7_137 : GoodIn kwL (wsV RX7 137 RX7 yX7_copies (kW yX7_copies cX7_copies 4 none)) := kG_v kw_941 kw_943 kw_39 kw_64 kw_944
theorem gk_X7_141 : GoodIn kwL (wsV RX7 141 RX7 yX7_many (kW yX7_many cX7_many 1 (some .int))) := kG_v kw_945 kw_947 kw_40 kw_64 kw_948
theorem gk_X7_147 : GoodIn kwL (va_wsS RX7 147 yX7_puts (kW yX7_puts cX7_puts 4 none)) := kG_s kw_973 kw_974 kw_64 kw_975
theorem gk_X7_151 : GoodIn kwL (wsV RX7 151 RX7 yX7_rowOf (kW yX7_rowOf cX7_rowOf 4 none)) := kG_v kw_969 kw_971 kw_44 kw_64 kw_972
theorem gk_X7_168 : GoodIn kwL (wsV RX7 168 RX7 yX7_isResult (kW yX7_isResult cX7_isResult 7 (some .boolean))) := kG_v kw_965 kw_967 kw_43 kw_64 kw_968
theorem gk_X7_172 : GoodIn kwL (wsV RX7 172 RX7 yX7_missing (kW yX7_missing cX7_missing 3 (some .int))) := kG_v kw_957 kw_959 kw_41 kw_64 kw_960
theorem gk_X7_175 : GoodIn kwL (wsV RX7 175 RX7 yX7_results (kW yX7_results cX7_results 3 (some .int))) := kG_v kw_961 kw_963 kw_42 kw_64 kw_964
theorem gk_X7_180 : GoodIn kwL (wsV RX7 180 RX7 yX7_isThere (kW yX7_isThere cX7_isThere 2 (some .boolean))) := kG_v kw_982 kw_984 kw_45 kw_64 kw_985
theorem gk_X7_183 : GoodIn kwL (wsV RX7 183 RX7 yX7_rounded (kW yX7_rounded cX7_rounded 4 (some .int))) := kG_v kw_998 kw_1000 kw_46 kw_64 kw_1001
theorem gk_X7_189 : GoodIn kwL (wsV RX7 189 RX7 yX7_shows (kW yX7_shows cX7_shows 2 none)) := kG_v kw_1014 kw_1016 kw_48 kw_64 kw_1017
theorem gk_X7_192 : GoodIn kwL (wsV RX7 192 RX7 yX7_showsNumber (kW yX7_showsNumber cX7_showsNumber 3 none)) := kG_v kw_1018 kw_1020 kw_49 kw_64 kw_1021
theorem gk_X7_195 : GoodIn kwL (wsV RX7 195 RX7 yX7_shownOf (kW yX7_shownOf cX7_shownOf 6 (some .int))) := kG_v kw_1010 kw_1012 kw_47 kw_64 kw_1013
theorem gk_X7_198 : GoodIn kwL (va_wsS RX7 198 yX7_off (kW yX7_off cX7_off 2 (some .int))) := kG_s kw_1030 kw_1031 kw_64 kw_1032
theorem gk_X7_201 : GoodIn kwL (wsV RX7 201 RX7 yX7_spreadOf (kW yX7_spreadOf cX7_spreadOf 3 (some .int))) := kG_v kw_1026 kw_1028 kw_50 kw_64 kw_1029
theorem gk_X7_206 : GoodIn kwL (wsV RX7 206 RX7 yX7_isFar (kW yX7_isFar cX7_isFar 4 (some .boolean))) := kG_v kw_1038 kw_1040 kw_51 kw_64 kw_1041
theorem gk_X7_216 : GoodIn kwL (va_wsS RX7 216 yX7_isReading (kW yX7_isReading cX7_isReading 1 (some .boolean))) := kG_s kw_1059 kw_1060 kw_64 kw_1061
theorem gk_X7_219 : GoodIn kwL (wsV RX7 219 RX7 yX7_comes (kW yX7_comes cX7_comes 2 (some .int))) := kG_v kw_1064 kw_1066 kw_52 kw_64 kw_1067
theorem gk_X7_224 : GoodIn kwL (wsV RX7 224 RX7 yX7_becomes (kW yX7_becomes cX7_becomes 5 (some .int))) := kG_v kw_1089 kw_1091 kw_53 kw_64 kw_1092
theorem gk_X7_233 : GoodIn kwL (wsV RX7 233 RX7 yX7_latest (kW yX7_latest cX7_latest 2 (some .int))) := kG_v kw_1116 kw_1118 kw_54 kw_64 kw_1119
theorem gk_X7_243 : GoodIn kwL (wsV RX7 243 RX7 yX7_shownAll (kW yX7_shownAll cX7_shownAll 3 (some .int))) := kG_v kw_1151 kw_1153 kw_55 kw_64 kw_1154
theorem gk_X7_48 : GoodIn kwL (wsV RX7 48 RX7 yX7_begins (kW yX7_begins cX7_begins 2 none)) := kG_v kw_887 kw_889 kw_27 kw_64 kw_890
theorem gk_X7_54 : GoodIn kwL (va_wsS RX7 54 yX7_in (kW yX7_in cX7_in 6 (some .boolean))) := kG_s kw_872 kw_873 kw_64 kw_874
theorem gk_X7_77 : GoodIn kwL (wsV RX7 77 RX7 yX7_byteAt (kW yX7_byteAt cX7_byteAt 2 (some .int))) := kG_v kw_895 kw_897 kw_29 kw_64 kw_898
theorem gk_X7_92 : GoodIn kwL (wsV RX7 92 RX7 yX7_fails (kW yX7_fails cX7_fails 2 none)) := kG_v kw_903 kw_905 kw_30 kw_64 kw_906
theorem gk_X7_95 : GoodIn kwL (wsV RX7 95 RX7 yX7_readsOn (kW yX7_readsOn cX7_readsOn 2 none)) := kG_v kw_891 kw_893 kw_28 kw_64 kw_894
theorem gk_X7_98 : GoodIn kwL (wsV RX7 98 RX7 yX7_nameHere (kW yX7_nameHere cX7_nameHere 4 (some .int))) := kG_v kw_911 kw_913 kw_32 kw_64 kw_914
theorem cl_0 : (0 : Int32).toNatClampNeg = 0 := by decide +kernel
theorem cl_1 : (1 : Int32).toNatClampNeg = 1 := by decide +kernel
theorem cl_2 : (2 : Int32).toNatClampNeg = 2 := by decide +kernel
theorem cl_3 : (3 : Int32).toNatClampNeg = 3 := by decide +kernel
theorem cl_4 : (4 : Int32).toNatClampNeg = 4 := by decide +kernel
theorem cl_5 : (5 : Int32).toNatClampNeg = 5 := by decide +kernel
theorem cl_6 : (6 : Int32).toNatClampNeg = 6 := by decide +kernel
theorem cl_7 : (7 : Int32).toNatClampNeg = 7 := by decide +kernel
theorem cl_8 : (8 : Int32).toNatClampNeg = 8 := by decide +kernel
theorem cl_9 : (9 : Int32).toNatClampNeg = 9 := by decide +kernel
theorem cl_10 : (10 : Int32).toNatClampNeg = 10 := by decide +kernel
theorem cl_11 : (11 : Int32).toNatClampNeg = 11 := by decide +kernel
theorem cl_12 : (12 : Int32).toNatClampNeg = 12 := by decide +kernel
theorem cl_13 : (13 : Int32).toNatClampNeg = 13 := by decide +kernel
theorem cl_14 : (14 : Int32).toNatClampNeg = 14 := by decide +kernel
theorem cl_15 : (15 : Int32).toNatClampNeg = 15 := by decide +kernel
theorem cl_16 : (16 : Int32).toNatClampNeg = 16 := by decide +kernel
theorem cl_17 : (17 : Int32).toNatClampNeg = 17 := by decide +kernel
theorem cl_18 : (18 : Int32).toNatClampNeg = 18 := by decide +kernel
theorem cl_19 : (19 : Int32).toNatClampNeg = 19 := by decide +kernel
theorem cl_20 : (20 : Int32).toNatClampNeg = 20 := by decide +kernel
theorem cl_21 : (21 : Int32).toNatClampNeg = 21 := by decide +kernel
theorem cl_22 : (22 : Int32).toNatClampNeg = 22 := by decide +kernel
theorem cl_23 : (23 : Int32).toNatClampNeg = 23 := by decide +kernel
theorem cl_24 : (24 : Int32).toNatClampNeg = 24 := by decide +kernel
theorem cl_25 : (25 : Int32).toNatClampNeg = 25 := by decide +kernel
theorem cl_26 : (26 : Int32).toNatClampNeg = 26 := by decide +kernel
theorem cl_27 : (27 : Int32).toNatClampNeg = 27 := by decide +kernel
theorem cl_28 : (28 : Int32).toNatClampNeg = 28 := by decide +kernel
theorem cl_29 : (29 : Int32).toNatClampNeg = 29 := by decide +kernel
theorem cl_30 : (30 : Int32).toNatClampNeg = 30 := by decide +kernel
theorem cl_31 : (31 : Int32).toNatClampNeg = 31 := by decide +kernel
theorem cl_32 : (32 : Int32).toNatClampNeg = 32 := by decide +kernel
theorem cl_33 : (33 : Int32).toNatClampNeg = 33 := by decide +kernel
theorem cl_34 : (34 : Int32).toNatClampNeg = 34 := by decide +kernel
theorem cl_35 : (35 : Int32).toNatClampNeg = 35 := by decide +kernel
theorem cl_36 : (36 : Int32).toNatClampNeg = 36 := by decide +kernel
theorem cl_37 : (37 : Int32).toNatClampNeg = 37 := by decide +kernel
theorem cl_38 : (38 : Int32).toNatClampNeg = 38 := by decide +kernel
theorem cl_39 : (39 : Int32).toNatClampNeg = 39 := by decide +kernel
theorem cl_40 : (40 : Int32).toNatClampNeg = 40 := by decide +kernel
theorem cl_41 : (41 : Int32).toNatClampNeg = 41 := by decide +kernel
theorem cl_42 : (42 : Int32).toNatClampNeg = 42 := by decide +kernel
theorem cl_43 : (43 : Int32).toNatClampNeg = 43 := by decide +kernel
theorem cl_44 : (44 : Int32).toNatClampNeg = 44 := by decide +kernel
theorem cl_45 : (45 : Int32).toNatClampNeg = 45 := by decide +kernel
theorem cl_46 : (46 : Int32).toNatClampNeg = 46 := by decide +kernel
theorem cl_47 : (47 : Int32).toNatClampNeg = 47 := by decide +kernel
theorem cl_48 : (48 : Int32).toNatClampNeg = 48 := by decide +kernel
theorem cl_49 : (49 : Int32).toNatClampNeg = 49 := by decide +kernel
theorem cl_50 : (50 : Int32).toNatClampNeg = 50 := by decide +kernel
theorem cl_51 : (51 : Int32).toNatClampNeg = 51 := by decide +kernel
theorem cl_52 : (52 : Int32).toNatClampNeg = 52 := by decide +kernel
theorem cl_53 : (53 : Int32).toNatClampNeg = 53 := by decide +kernel
theorem cl_54 : (54 : Int32).toNatClampNeg = 54 := by decide +kernel
theorem cl_55 : (55 : Int32).toNatClampNeg = 55 := by decide +kernel
theorem cl_56 : (56 : Int32).toNatClampNeg = 56 := by decide +kernel
theorem cl_57 : (57 : Int32).toNatClampNeg = 57 := by decide +kernel
theorem cl_58 : (58 : Int32).toNatClampNeg = 58 := by decide +kernel
theorem cl_59 : (59 : Int32).toNatClampNeg = 59 := by decide +kernel
theorem cl_60 : (60 : Int32).toNatClampNeg = 60 := by decide +kernel
theorem cl_96 : (96 : Int32).toNatClampNeg = 96 := by decide +kernel
theorem cl_97 : (97 : Int32).toNatClampNeg = 97 := by decide +kernel
theorem cl_98 : (98 : Int32).toNatClampNeg = 98 := by decide +kernel
theorem cl_99 : (99 : Int32).toNatClampNeg = 99 := by decide +kernel
theorem cl_100 : (100 : Int32).toNatClampNeg = 100 := by decide +kernel
theorem cl_101 : (101 : Int32).toNatClampNeg = 101 := by decide +kernel
theorem cl_102 : (102 : Int32).toNatClampNeg = 102 := by decide +kernel
theorem cl_405 : (405 : Int32).toNatClampNeg = 405 := by decide +kernel
theorem cl_406 : (406 : Int32).toNatClampNeg = 406 := by decide +kernel
theorem cl_407 : (407 : Int32).toNatClampNeg = 407 := by decide +kernel
theorem cl_409 : (409 : Int32).toNatClampNeg = 409 := by decide +kernel
theorem cl_410 : (410 : Int32).toNatClampNeg = 410 := by decide +kernel
theorem cl_411 : (411 : Int32).toNatClampNeg = 411 := by decide +kernel
