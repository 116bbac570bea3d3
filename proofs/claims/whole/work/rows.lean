section
-- ===== PART A: goes FIRST, ahead of the names: the tables' words, and 'selects' of the private methods out of them =====
/-- a private method of a class that the tables say can be made, by its rows of tables_1 -/
def lw_okq (q : MethodName × Nat) : Prop := (q.1.cls ≠ "java/lang/invoke/MethodHandle" ∧ q.1.cls ≠ "java/lang/invoke/VarHandle") ∧ Cond.instantiable q.1.cls q.2 ∈ tables_1 ∧ Cond.privateMethod q.1 ∈ tables_1 ∧ Cond.instanceMethod q.1 ∈ tables_1
theorem lw_p0 : lw_okq (⟨"PathPatcher", "noteNewText", "()V"⟩, 9) := ⟨⟨by decide +kernel, by decide +kernel⟩, List.mem_of_getElem? (i := 23) (by decide +kernel), List.mem_of_getElem? (i := 359) (by decide +kernel), List.mem_of_getElem? (i := 360) (by decide +kernel)⟩
theorem lw_p1 : lw_okq (⟨"PathPatcher", "isWellFormed", "()Z"⟩, 9) := ⟨⟨by decide +kernel, by decide +kernel⟩, List.mem_of_getElem? (i := 23) (by decide +kernel), List.mem_of_getElem? (i := 396) (by decide +kernel), List.mem_of_getElem? (i := 397) (by decide +kernel)⟩
theorem lw_p2 : lw_okq (⟨"PathPatcher$Tokens", "append", "(CI)V"⟩, 3) := ⟨⟨by decide +kernel, by decide +kernel⟩, List.mem_of_getElem? (i := 130) (by decide +kernel), List.mem_of_getElem? (i := 414) (by decide +kernel), List.mem_of_getElem? (i := 415) (by decide +kernel)⟩
theorem lw_p3 : lw_okq (⟨"PathPatcher$Parser", "ahead", "(I)C"⟩, 7) := ⟨⟨by decide +kernel, by decide +kernel⟩, List.mem_of_getElem? (i := 124) (by decide +kernel), List.mem_of_getElem? (i := 422) (by decide +kernel), List.mem_of_getElem? (i := 423) (by decide +kernel)⟩
theorem lw_p4 : lw_okq (⟨"PathPatcher$Parser", "closeRow", "()Z"⟩, 7) := ⟨⟨by decide +kernel, by decide +kernel⟩, List.mem_of_getElem? (i := 124) (by decide +kernel), List.mem_of_getElem? (i := 430) (by decide +kernel), List.mem_of_getElem? (i := 431) (by decide +kernel)⟩
theorem lw_p5 : lw_okq (⟨"PathPatcher$Parser", "openRow", "(II)Z"⟩, 7) := ⟨⟨by decide +kernel, by decide +kernel⟩, List.mem_of_getElem? (i := 124) (by decide +kernel), List.mem_of_getElem? (i := 438) (by decide +kernel), List.mem_of_getElem? (i := 439) (by decide +kernel)⟩
theorem lw_p6 : lw_okq (⟨"PathPatcher$Parser", "readTest", "(Z)Z"⟩, 7) := ⟨⟨by decide +kernel, by decide +kernel⟩, List.mem_of_getElem? (i := 124) (by decide +kernel), List.mem_of_getElem? (i := 446) (by decide +kernel), List.mem_of_getElem? (i := 447) (by decide +kernel)⟩
theorem lw_p7 : lw_okq (⟨"PathPatcher$Parser", "addNode", "(I)LPathPatcher$Node;"⟩, 7) := ⟨⟨by decide +kernel, by decide +kernel⟩, List.mem_of_getElem? (i := 124) (by decide +kernel), List.mem_of_getElem? (i := 537) (by decide +kernel), List.mem_of_getElem? (i := 538) (by decide +kernel)⟩
theorem lw_p8 : lw_okq (⟨"PathPatcher$Parser", "readReturn", "()Z"⟩, 7) := ⟨⟨by decide +kernel, by decide +kernel⟩, List.mem_of_getElem? (i := 124) (by decide +kernel), List.mem_of_getElem? (i := 557) (by decide +kernel), List.mem_of_getElem? (i := 558) (by decide +kernel)⟩
theorem lw_p9 : lw_okq (⟨"PathPatcher$Parser", "readAssignment", "()Z"⟩, 7) := ⟨⟨by decide +kernel, by decide +kernel⟩, List.mem_of_getElem? (i := 124) (by decide +kernel), List.mem_of_getElem? (i := 562) (by decide +kernel), List.mem_of_getElem? (i := 563) (by decide +kernel)⟩
theorem lw_p10 : lw_okq (⟨"PathPatcher$Parser", "readCall", "()Z"⟩, 7) := ⟨⟨by decide +kernel, by decide +kernel⟩, List.mem_of_getElem? (i := 124) (by decide +kernel), List.mem_of_getElem? (i := 566) (by decide +kernel), List.mem_of_getElem? (i := 567) (by decide +kernel)⟩
theorem lw_p11 : lw_okq (⟨"PathPatcher$Program", "connectNode", "(I)V"⟩, 2) := ⟨⟨by decide +kernel, by decide +kernel⟩, List.mem_of_getElem? (i := 45) (by decide +kernel), List.mem_of_getElem? (i := 574) (by decide +kernel), List.mem_of_getElem? (i := 575) (by decide +kernel)⟩
theorem lw_p12 : lw_okq (⟨"PathPatcher$Program", "after", "(I)I"⟩, 2) := ⟨⟨by decide +kernel, by decide +kernel⟩, List.mem_of_getElem? (i := 45) (by decide +kernel), List.mem_of_getElem? (i := 578) (by decide +kernel), List.mem_of_getElem? (i := 579) (by decide +kernel)⟩
theorem lw_p13 : lw_okq (⟨"PathPatcher", "refusalOfSearch", "()I"⟩, 9) := ⟨⟨by decide +kernel, by decide +kernel⟩, List.mem_of_getElem? (i := 23) (by decide +kernel), List.mem_of_getElem? (i := 702) (by decide +kernel), List.mem_of_getElem? (i := 703) (by decide +kernel)⟩
theorem lw_p14 : lw_okq (⟨"PathPatcher", "ensureSearched", "()V"⟩, 9) := ⟨⟨by decide +kernel, by decide +kernel⟩, List.mem_of_getElem? (i := 23) (by decide +kernel), List.mem_of_getElem? (i := 706) (by decide +kernel), List.mem_of_getElem? (i := 707) (by decide +kernel)⟩
theorem lw_p15 : lw_okq (⟨"PathPatcher$Search", "reset", "()V"⟩, 8) := ⟨⟨by decide +kernel, by decide +kernel⟩, List.mem_of_getElem? (i := 243) (by decide +kernel), List.mem_of_getElem? (i := 714) (by decide +kernel), List.mem_of_getElem? (i := 715) (by decide +kernel)⟩
def lw_privs_1 : List (MethodName × Nat) := [(⟨"PathPatcher", "noteNewText", "()V"⟩, 9), (⟨"PathPatcher", "isWellFormed", "()Z"⟩, 9), (⟨"PathPatcher$Tokens", "append", "(CI)V"⟩, 3), (⟨"PathPatcher$Parser", "ahead", "(I)C"⟩, 7), (⟨"PathPatcher$Parser", "closeRow", "()Z"⟩, 7), (⟨"PathPatcher$Parser", "openRow", "(II)Z"⟩, 7), (⟨"PathPatcher$Parser", "readTest", "(Z)Z"⟩, 7), (⟨"PathPatcher$Parser", "addNode", "(I)LPathPatcher$Node;"⟩, 7), (⟨"PathPatcher$Parser", "readReturn", "()Z"⟩, 7), (⟨"PathPatcher$Parser", "readAssignment", "()Z"⟩, 7), (⟨"PathPatcher$Parser", "readCall", "()Z"⟩, 7), (⟨"PathPatcher$Program", "connectNode", "(I)V"⟩, 2), (⟨"PathPatcher$Program", "after", "(I)I"⟩, 2), (⟨"PathPatcher", "refusalOfSearch", "()I"⟩, 9), (⟨"PathPatcher", "ensureSearched", "()V"⟩, 9), (⟨"PathPatcher$Search", "reset", "()V"⟩, 8)]
theorem lw_r1 : ∀ q ∈ lw_privs_1, lw_okq q := List.forall_mem_cons.mpr ⟨lw_p0, List.forall_mem_cons.mpr ⟨lw_p1, List.forall_mem_cons.mpr ⟨lw_p2, List.forall_mem_cons.mpr ⟨lw_p3, List.forall_mem_cons.mpr ⟨lw_p4, List.forall_mem_cons.mpr ⟨lw_p5, List.forall_mem_cons.mpr ⟨lw_p6, List.forall_mem_cons.mpr ⟨lw_p7, List.forall_mem_cons.mpr ⟨lw_p8, List.forall_mem_cons.mpr ⟨lw_p9, List.forall_mem_cons.mpr ⟨lw_p10, List.forall_mem_cons.mpr ⟨lw_p11, List.forall_mem_cons.mpr ⟨lw_p12, List.forall_mem_cons.mpr ⟨lw_p13, List.forall_mem_cons.mpr ⟨lw_p14, List.forall_mem_cons.mpr ⟨lw_p15, fun _ h => absurd h List.not_mem_nil⟩⟩⟩⟩⟩⟩⟩⟩⟩⟩⟩⟩⟩⟩⟩⟩
theorem lw_p16 : lw_okq (⟨"PathPatcher$Search", "findTaken", "(I)V"⟩, 8) := ⟨⟨by decide +kernel, by decide +kernel⟩, List.mem_of_getElem? (i := 243) (by decide +kernel), List.mem_of_getElem? (i := 726) (by decide +kernel), List.mem_of_getElem? (i := 727) (by decide +kernel)⟩
theorem lw_p17 : lw_okq (⟨"PathPatcher$Search", "ruinousStarts", "(LPathPatcher$Item;II)I"⟩, 8) := ⟨⟨by decide +kernel, by decide +kernel⟩, List.mem_of_getElem? (i := 243) (by decide +kernel), List.mem_of_getElem? (i := 741) (by decide +kernel), List.mem_of_getElem? (i := 742) (by decide +kernel)⟩
theorem lw_p18 : lw_okq (⟨"PathPatcher$Search", "followHits", "(I)V"⟩, 8) := ⟨⟨by decide +kernel, by decide +kernel⟩, List.mem_of_getElem? (i := 243) (by decide +kernel), List.mem_of_getElem? (i := 757) (by decide +kernel), List.mem_of_getElem? (i := 758) (by decide +kernel)⟩
theorem lw_p19 : lw_okq (⟨"PathPatcher$Edit", "write", "(LPathPatcher$Pattern;I)V"⟩, 4) := ⟨⟨by decide +kernel, by decide +kernel⟩, List.mem_of_getElem? (i := 250) (by decide +kernel), List.mem_of_getElem? (i := 770) (by decide +kernel), List.mem_of_getElem? (i := 771) (by decide +kernel)⟩
theorem lw_p20 : lw_okq (⟨"PathPatcher$Edit", "write", "(C)V"⟩, 4) := ⟨⟨by decide +kernel, by decide +kernel⟩, List.mem_of_getElem? (i := 250) (by decide +kernel), List.mem_of_getElem? (i := 802) (by decide +kernel), List.mem_of_getElem? (i := 803) (by decide +kernel)⟩
theorem lw_p21 : lw_okq (⟨"PathPatcher$Search", "noteEdits", "(I)V"⟩, 8) := ⟨⟨by decide +kernel, by decide +kernel⟩, List.mem_of_getElem? (i := 243) (by decide +kernel), List.mem_of_getElem? (i := 806) (by decide +kernel), List.mem_of_getElem? (i := 807) (by decide +kernel)⟩
theorem lw_p22 : lw_okq (⟨"PathPatcher$Search", "firstTaken", "(II)I"⟩, 8) := ⟨⟨by decide +kernel, by decide +kernel⟩, List.mem_of_getElem? (i := 243) (by decide +kernel), List.mem_of_getElem? (i := 826) (by decide +kernel), List.mem_of_getElem? (i := 827) (by decide +kernel)⟩
theorem lw_p23 : lw_okq (⟨"PathPatcher$Rewriter", "copyOld", "(LPathPatcher$Source;II)V"⟩, 6) := ⟨⟨by decide +kernel, by decide +kernel⟩, List.mem_of_getElem? (i := 298) (by decide +kernel), List.mem_of_getElem? (i := 901) (by decide +kernel), List.mem_of_getElem? (i := 902) (by decide +kernel)⟩
theorem lw_p24 : lw_okq (⟨"PathPatcherModel", "read", "()Z"⟩, 46) := ⟨⟨by decide +kernel, by decide +kernel⟩, List.mem_of_getElem? (i := 914) (by decide +kernel), List.mem_of_getElem? (i := 1080) (by decide +kernel), List.mem_of_getElem? (i := 1081) (by decide +kernel)⟩
theorem lw_p25 : lw_okq (⟨"PathPatcherModel", "tokenize", "()Z"⟩, 46) := ⟨⟨by decide +kernel, by decide +kernel⟩, List.mem_of_getElem? (i := 914) (by decide +kernel), List.mem_of_getElem? (i := 1084) (by decide +kernel), List.mem_of_getElem? (i := 1085) (by decide +kernel)⟩
theorem lw_p26 : lw_okq (⟨"PathPatcherModel", "close", "(I)I"⟩, 46) := ⟨⟨by decide +kernel, by decide +kernel⟩, List.mem_of_getElem? (i := 914) (by decide +kernel), List.mem_of_getElem? (i := 1088) (by decide +kernel), List.mem_of_getElem? (i := 1089) (by decide +kernel)⟩
theorem lw_p27 : lw_okq (⟨"PathPatcherModel", "look", "(I)I"⟩, 46) := ⟨⟨by decide +kernel, by decide +kernel⟩, List.mem_of_getElem? (i := 914) (by decide +kernel), List.mem_of_getElem? (i := 1092) (by decide +kernel), List.mem_of_getElem? (i := 1093) (by decide +kernel)⟩
theorem lw_p28 : lw_okq (⟨"PathPatcherModel", "open", "(II)Z"⟩, 46) := ⟨⟨by decide +kernel, by decide +kernel⟩, List.mem_of_getElem? (i := 914) (by decide +kernel), List.mem_of_getElem? (i := 1096) (by decide +kernel), List.mem_of_getElem? (i := 1097) (by decide +kernel)⟩
theorem lw_p29 : lw_okq (⟨"PathPatcherModel", "statement", "(I)I"⟩, 46) := ⟨⟨by decide +kernel, by decide +kernel⟩, List.mem_of_getElem? (i := 914) (by decide +kernel), List.mem_of_getElem? (i := 1100) (by decide +kernel), List.mem_of_getElem? (i := 1101) (by decide +kernel)⟩
theorem lw_p30 : lw_okq (⟨"PathPatcherModel", "variable", "(I)Z"⟩, 46) := ⟨⟨by decide +kernel, by decide +kernel⟩, List.mem_of_getElem? (i := 914) (by decide +kernel), List.mem_of_getElem? (i := 1104) (by decide +kernel), List.mem_of_getElem? (i := 1105) (by decide +kernel)⟩
theorem lw_p31 : lw_okq (⟨"PathPatcherModel", "node", "(IIIIII)Z"⟩, 46) := ⟨⟨by decide +kernel, by decide +kernel⟩, List.mem_of_getElem? (i := 914) (by decide +kernel), List.mem_of_getElem? (i := 1108) (by decide +kernel), List.mem_of_getElem? (i := 1109) (by decide +kernel)⟩
def lw_privs_2 : List (MethodName × Nat) := [(⟨"PathPatcher$Search", "findTaken", "(I)V"⟩, 8), (⟨"PathPatcher$Search", "ruinousStarts", "(LPathPatcher$Item;II)I"⟩, 8), (⟨"PathPatcher$Search", "followHits", "(I)V"⟩, 8), (⟨"PathPatcher$Edit", "write", "(LPathPatcher$Pattern;I)V"⟩, 4), (⟨"PathPatcher$Edit", "write", "(C)V"⟩, 4), (⟨"PathPatcher$Search", "noteEdits", "(I)V"⟩, 8), (⟨"PathPatcher$Search", "firstTaken", "(II)I"⟩, 8), (⟨"PathPatcher$Rewriter", "copyOld", "(LPathPatcher$Source;II)V"⟩, 6), (⟨"PathPatcherModel", "read", "()Z"⟩, 46), (⟨"PathPatcherModel", "tokenize", "()Z"⟩, 46), (⟨"PathPatcherModel", "close", "(I)I"⟩, 46), (⟨"PathPatcherModel", "look", "(I)I"⟩, 46), (⟨"PathPatcherModel", "open", "(II)Z"⟩, 46), (⟨"PathPatcherModel", "statement", "(I)I"⟩, 46), (⟨"PathPatcherModel", "variable", "(I)Z"⟩, 46), (⟨"PathPatcherModel", "node", "(IIIIII)Z"⟩, 46)]
theorem lw_r2 : ∀ q ∈ lw_privs_2, lw_okq q := List.forall_mem_cons.mpr ⟨lw_p16, List.forall_mem_cons.mpr ⟨lw_p17, List.forall_mem_cons.mpr ⟨lw_p18, List.forall_mem_cons.mpr ⟨lw_p19, List.forall_mem_cons.mpr ⟨lw_p20, List.forall_mem_cons.mpr ⟨lw_p21, List.forall_mem_cons.mpr ⟨lw_p22, List.forall_mem_cons.mpr ⟨lw_p23, List.forall_mem_cons.mpr ⟨lw_p24, List.forall_mem_cons.mpr ⟨lw_p25, List.forall_mem_cons.mpr ⟨lw_p26, List.forall_mem_cons.mpr ⟨lw_p27, List.forall_mem_cons.mpr ⟨lw_p28, List.forall_mem_cons.mpr ⟨lw_p29, List.forall_mem_cons.mpr ⟨lw_p30, List.forall_mem_cons.mpr ⟨lw_p31, fun _ h => absurd h List.not_mem_nil⟩⟩⟩⟩⟩⟩⟩⟩⟩⟩⟩⟩⟩⟩⟩⟩
theorem lw_p32 : lw_okq (⟨"PathPatcherModel", "function", "(I)Z"⟩, 46) := ⟨⟨by decide +kernel, by decide +kernel⟩, List.mem_of_getElem? (i := 914) (by decide +kernel), List.mem_of_getElem? (i := 1112) (by decide +kernel), List.mem_of_getElem? (i := 1113) (by decide +kernel)⟩
theorem lw_p33 : lw_okq (⟨"PathPatcherModel", "link", "(I)V"⟩, 46) := ⟨⟨by decide +kernel, by decide +kernel⟩, List.mem_of_getElem? (i := 914) (by decide +kernel), List.mem_of_getElem? (i := 1116) (by decide +kernel), List.mem_of_getElem? (i := 1117) (by decide +kernel)⟩
theorem lw_p34 : lw_okq (⟨"PathPatcherModel", "after", "(I)I"⟩, 46) := ⟨⟨by decide +kernel, by decide +kernel⟩, List.mem_of_getElem? (i := 914) (by decide +kernel), List.mem_of_getElem? (i := 1120) (by decide +kernel), List.mem_of_getElem? (i := 1121) (by decide +kernel)⟩
theorem lw_p35 : lw_okq (⟨"PathPatcherModel", "valid", "(IIII)Z"⟩, 46) := ⟨⟨by decide +kernel, by decide +kernel⟩, List.mem_of_getElem? (i := 914) (by decide +kernel), List.mem_of_getElem? (i := 1136) (by decide +kernel), List.mem_of_getElem? (i := 1137) (by decide +kernel)⟩
theorem lw_p36 : lw_okq (⟨"PathPatcherModel", "noLast", "()Z"⟩, 46) := ⟨⟨by decide +kernel, by decide +kernel⟩, List.mem_of_getElem? (i := 914) (by decide +kernel), List.mem_of_getElem? (i := 1144) (by decide +kernel), List.mem_of_getElem? (i := 1145) (by decide +kernel)⟩
theorem lw_p37 : lw_okq (⟨"PathPatcherModel", "names", "(III)I"⟩, 46) := ⟨⟨by decide +kernel, by decide +kernel⟩, List.mem_of_getElem? (i := 914) (by decide +kernel), List.mem_of_getElem? (i := 1148) (by decide +kernel), List.mem_of_getElem? (i := 1149) (by decide +kernel)⟩
theorem lw_p38 : lw_okq (⟨"PathPatcherModel", "mark", "(I)I"⟩, 46) := ⟨⟨by decide +kernel, by decide +kernel⟩, List.mem_of_getElem? (i := 914) (by decide +kernel), List.mem_of_getElem? (i := 1152) (by decide +kernel), List.mem_of_getElem? (i := 1153) (by decide +kernel)⟩
theorem lw_p39 : lw_okq (⟨"PathPatcherModel", "named", "()I"⟩, 46) := ⟨⟨by decide +kernel, by decide +kernel⟩, List.mem_of_getElem? (i := 914) (by decide +kernel), List.mem_of_getElem? (i := 1156) (by decide +kernel), List.mem_of_getElem? (i := 1157) (by decide +kernel)⟩
theorem lw_p40 : lw_okq (⟨"PathPatcherModel", "state", "()I"⟩, 46) := ⟨⟨by decide +kernel, by decide +kernel⟩, List.mem_of_getElem? (i := 914) (by decide +kernel), List.mem_of_getElem? (i := 1172) (by decide +kernel), List.mem_of_getElem? (i := 1173) (by decide +kernel)⟩
theorem lw_p41 : lw_okq (⟨"PathPatcherModel", "findStarts", "()V"⟩, 46) := ⟨⟨by decide +kernel, by decide +kernel⟩, List.mem_of_getElem? (i := 914) (by decide +kernel), List.mem_of_getElem? (i := 1176) (by decide +kernel), List.mem_of_getElem? (i := 1177) (by decide +kernel)⟩
theorem lw_p42 : lw_okq (⟨"PathPatcherModel", "possible", "(I)Z"⟩, 46) := ⟨⟨by decide +kernel, by decide +kernel⟩, List.mem_of_getElem? (i := 914) (by decide +kernel), List.mem_of_getElem? (i := 1180) (by decide +kernel), List.mem_of_getElem? (i := 1181) (by decide +kernel)⟩
theorem lw_p43 : lw_okq (⟨"PathPatcherModel", "findTakes", "(I)V"⟩, 46) := ⟨⟨by decide +kernel, by decide +kernel⟩, List.mem_of_getElem? (i := 914) (by decide +kernel), List.mem_of_getElem? (i := 1184) (by decide +kernel), List.mem_of_getElem? (i := 1185) (by decide +kernel)⟩
theorem lw_p44 : lw_okq (⟨"PathPatcherModel", "findBad", "(II)V"⟩, 46) := ⟨⟨by decide +kernel, by decide +kernel⟩, List.mem_of_getElem? (i := 914) (by decide +kernel), List.mem_of_getElem? (i := 1188) (by decide +kernel), List.mem_of_getElem? (i := 1189) (by decide +kernel)⟩
theorem lw_p45 : lw_okq (⟨"PathPatcherModel", "like", "(IIIIII)Z"⟩, 46) := ⟨⟨by decide +kernel, by decide +kernel⟩, List.mem_of_getElem? (i := 914) (by decide +kernel), List.mem_of_getElem? (i := 1192) (by decide +kernel), List.mem_of_getElem? (i := 1193) (by decide +kernel)⟩
theorem lw_p46 : lw_okq (⟨"PathPatcherModel", "value", "(II)I"⟩, 46) := ⟨⟨by decide +kernel, by decide +kernel⟩, List.mem_of_getElem? (i := 914) (by decide +kernel), List.mem_of_getElem? (i := 1196) (by decide +kernel), List.mem_of_getElem? (i := 1197) (by decide +kernel)⟩
theorem lw_p47 : lw_okq (⟨"PathPatcherModel", "has", "(II)Z"⟩, 46) := ⟨⟨by decide +kernel, by decide +kernel⟩, List.mem_of_getElem? (i := 914) (by decide +kernel), List.mem_of_getElem? (i := 1200) (by decide +kernel), List.mem_of_getElem? (i := 1201) (by decide +kernel)⟩
def lw_privs_3 : List (MethodName × Nat) := [(⟨"PathPatcherModel", "function", "(I)Z"⟩, 46), (⟨"PathPatcherModel", "link", "(I)V"⟩, 46), (⟨"PathPatcherModel", "after", "(I)I"⟩, 46), (⟨"PathPatcherModel", "valid", "(IIII)Z"⟩, 46), (⟨"PathPatcherModel", "noLast", "()Z"⟩, 46), (⟨"PathPatcherModel", "names", "(III)I"⟩, 46), (⟨"PathPatcherModel", "mark", "(I)I"⟩, 46), (⟨"PathPatcherModel", "named", "()I"⟩, 46), (⟨"PathPatcherModel", "state", "()I"⟩, 46), (⟨"PathPatcherModel", "findStarts", "()V"⟩, 46), (⟨"PathPatcherModel", "possible", "(I)Z"⟩, 46), (⟨"PathPatcherModel", "findTakes", "(I)V"⟩, 46), (⟨"PathPatcherModel", "findBad", "(II)V"⟩, 46), (⟨"PathPatcherModel", "like", "(IIIIII)Z"⟩, 46), (⟨"PathPatcherModel", "value", "(II)I"⟩, 46), (⟨"PathPatcherModel", "has", "(II)Z"⟩, 46)]
theorem lw_r3 : ∀ q ∈ lw_privs_3, lw_okq q := List.forall_mem_cons.mpr ⟨lw_p32, List.forall_mem_cons.mpr ⟨lw_p33, List.forall_mem_cons.mpr ⟨lw_p34, List.forall_mem_cons.mpr ⟨lw_p35, List.forall_mem_cons.mpr ⟨lw_p36, List.forall_mem_cons.mpr ⟨lw_p37, List.forall_mem_cons.mpr ⟨lw_p38, List.forall_mem_cons.mpr ⟨lw_p39, List.forall_mem_cons.mpr ⟨lw_p40, List.forall_mem_cons.mpr ⟨lw_p41, List.forall_mem_cons.mpr ⟨lw_p42, List.forall_mem_cons.mpr ⟨lw_p43, List.forall_mem_cons.mpr ⟨lw_p44, List.forall_mem_cons.mpr ⟨lw_p45, List.forall_mem_cons.mpr ⟨lw_p46, List.forall_mem_cons.mpr ⟨lw_p47, fun _ h => absurd h List.not_mem_nil⟩⟩⟩⟩⟩⟩⟩⟩⟩⟩⟩⟩⟩⟩⟩⟩
theorem lw_p48 : lw_okq (⟨"PathPatcherModel", "follows", "(II)Z"⟩, 46) := ⟨⟨by decide +kernel, by decide +kernel⟩, List.mem_of_getElem? (i := 914) (by decide +kernel), List.mem_of_getElem? (i := 1204) (by decide +kernel), List.mem_of_getElem? (i := 1205) (by decide +kernel)⟩
theorem lw_p49 : lw_okq (⟨"PathPatcherModel", "findHits", "()V"⟩, 46) := ⟨⟨by decide +kernel, by decide +kernel⟩, List.mem_of_getElem? (i := 914) (by decide +kernel), List.mem_of_getElem? (i := 1216) (by decide +kernel), List.mem_of_getElem? (i := 1217) (by decide +kernel)⟩
theorem lw_p50 : lw_okq (⟨"PathPatcherModel", "behind", "(I)I"⟩, 46) := ⟨⟨by decide +kernel, by decide +kernel⟩, List.mem_of_getElem? (i := 914) (by decide +kernel), List.mem_of_getElem? (i := 1220) (by decide +kernel), List.mem_of_getElem? (i := 1221) (by decide +kernel)⟩
theorem lw_p51 : lw_okq (⟨"PathPatcherModel", "note", "(I)Z"⟩, 46) := ⟨⟨by decide +kernel, by decide +kernel⟩, List.mem_of_getElem? (i := 914) (by decide +kernel), List.mem_of_getElem? (i := 1228) (by decide +kernel), List.mem_of_getElem? (i := 1229) (by decide +kernel)⟩
theorem lw_p52 : lw_okq (⟨"PathPatcherModel", "alike", "(IIII)Z"⟩, 46) := ⟨⟨by decide +kernel, by decide +kernel⟩, List.mem_of_getElem? (i := 914) (by decide +kernel), List.mem_of_getElem? (i := 1232) (by decide +kernel), List.mem_of_getElem? (i := 1233) (by decide +kernel)⟩
theorem lw_p53 : lw_okq (⟨"PathPatcherModel", "write", "([III)I"⟩, 46) := ⟨⟨by decide +kernel, by decide +kernel⟩, List.mem_of_getElem? (i := 914) (by decide +kernel), List.mem_of_getElem? (i := 1236) (by decide +kernel), List.mem_of_getElem? (i := 1237) (by decide +kernel)⟩
theorem lw_p54 : lw_okq (⟨"PathPatcherModel", "letter", "(III)I"⟩, 46) := ⟨⟨by decide +kernel, by decide +kernel⟩, List.mem_of_getElem? (i := 914) (by decide +kernel), List.mem_of_getElem? (i := 1240) (by decide +kernel), List.mem_of_getElem? (i := 1241) (by decide +kernel)⟩
theorem lw_p55 : lw_okq (⟨"PathPatcherModel", "edit", "()I"⟩, 46) := ⟨⟨by decide +kernel, by decide +kernel⟩, List.mem_of_getElem? (i := 914) (by decide +kernel), List.mem_of_getElem? (i := 1244) (by decide +kernel), List.mem_of_getElem? (i := 1245) (by decide +kernel)⟩
def lw_privs_4 : List (MethodName × Nat) := [(⟨"PathPatcherModel", "follows", "(II)Z"⟩, 46), (⟨"PathPatcherModel", "findHits", "()V"⟩, 46), (⟨"PathPatcherModel", "behind", "(I)I"⟩, 46), (⟨"PathPatcherModel", "note", "(I)Z"⟩, 46), (⟨"PathPatcherModel", "alike", "(IIII)Z"⟩, 46), (⟨"PathPatcherModel", "write", "([III)I"⟩, 46), (⟨"PathPatcherModel", "letter", "(III)I"⟩, 46), (⟨"PathPatcherModel", "edit", "()I"⟩, 46)]
theorem lw_r4 : ∀ q ∈ lw_privs_4, lw_okq q := List.forall_mem_cons.mpr ⟨lw_p48, List.forall_mem_cons.mpr ⟨lw_p49, List.forall_mem_cons.mpr ⟨lw_p50, List.forall_mem_cons.mpr ⟨lw_p51, List.forall_mem_cons.mpr ⟨lw_p52, List.forall_mem_cons.mpr ⟨lw_p53, List.forall_mem_cons.mpr ⟨lw_p54, List.forall_mem_cons.mpr ⟨lw_p55, fun _ h => absurd h List.not_mem_nil⟩⟩⟩⟩⟩⟩⟩⟩
def lw_privs : List (MethodName × Nat) := lw_privs_1 ++ (lw_privs_2 ++ (lw_privs_3 ++ (lw_privs_4)))
def lw_tbl : List Cond := k2_sels lw_privs ++ tables_1
theorem lw_privs_ok : ∀ q ∈ lw_privs, lw_okq q := by
  show ∀ q ∈ lw_privs_1 ++ (lw_privs_2 ++ (lw_privs_3 ++ (lw_privs_4))), lw_okq q
  exact List.forall_mem_append.mpr ⟨lw_r1, List.forall_mem_append.mpr ⟨lw_r2, List.forall_mem_append.mpr ⟨lw_r3, lw_r4⟩⟩⟩
end
section
/-! tables of the claim, by program: object kinds, methods, instructions, links -/
def jt_F : List (List (String × String × String × Bool)) := [
  [("PathPatcher", "source", "LPathPatcher$Source;", true), ("PathPatcher", "program", "LPathPatcher$Program;", true), ("PathPatcher", "parser", "LPathPatcher$Parser;", true), ("PathPatcher", "script", "LPathPatcher$Script;", true), ("PathPatcher", "search", "LPathPatcher$Search;", true), ("PathPatcher", "rewriter", "LPathPatcher$Rewriter;", true), ("PathPatcher", "wellFormed", "Z", false), ("PathPatcher", "parsed", "Z", false), ("PathPatcher", "searched", "Z", false)],
  [("PathPatcher$Source", "chars", "[C", true), ("PathPatcher$Source", "count", "I", false)],
  [("PathPatcher$Program", "all", "[LPathPatcher$Node;", true), ("PathPatcher$Program", "count", "I", false)],
  [("PathPatcher$Node", "kind", "I", false), ("PathPatcher$Node", "function", "I", false), ("PathPatcher$Node", "x", "I", false), ("PathPatcher$Node", "y", "I", false), ("PathPatcher$Node", "loop", "Z", false), ("PathPatcher$Node", "begin", "I", false), ("PathPatcher$Node", "end", "I", false), ("PathPatcher$Node", "parent", "I", false), ("PathPatcher$Node", "following", "I", false), ("PathPatcher$Node", "firstOfRow0", "I", false), ("PathPatcher$Node", "firstOfRow1", "I", false), ("PathPatcher$Node", "edge0", "I", false), ("PathPatcher$Node", "edge1", "I", false)],
  [("PathPatcher$Parser", "program", "LPathPatcher$Program;", true), ("PathPatcher$Parser", "tokens", "LPathPatcher$Tokens;", true), ("PathPatcher$Parser", "rowOwner", "[I", true), ("PathPatcher$Parser", "rowSide", "[I", true), ("PathPatcher$Parser", "rowLast", "[I", true), ("PathPatcher$Parser", "depth", "I", false), ("PathPatcher$Parser", "next", "I", false)],
  [("PathPatcher$Tokens", "signs", "[C", true), ("PathPatcher$Tokens", "places", "[I", true), ("PathPatcher$Tokens", "count", "I", false)],
  [("PathPatcher$Script", "items", "[LPathPatcher$Item;", true), ("PathPatcher$Script", "count", "I", false), ("PathPatcher$Script", "unknowns", "I", false)],
  [("PathPatcher$Item", "pattern", "LPathPatcher$Pattern;", true), ("PathPatcher$Item", "forbidden", "LPathPatcher$Pattern;", true), ("PathPatcher$Item", "added", "[LPathPatcher$Pattern;", true), ("PathPatcher$Item", "addedCount", "I", false), ("PathPatcher$Item", "out", "Z", false), ("PathPatcher$Item", "dotted", "Z", false)],
  [("PathPatcher$Pattern", "kind", "I", false), ("PathPatcher$Pattern", "function", "I", false), ("PathPatcher$Pattern", "x", "I", false), ("PathPatcher$Pattern", "y", "I", false)],
  [("PathPatcher$Search", "program", "LPathPatcher$Program;", true), ("PathPatcher$Search", "script", "LPathPatcher$Script;", true), ("PathPatcher$Search", "matched", "[I", true), ("PathPatcher$Search", "hits", "[I", true), ("PathPatcher$Search", "takes", "[I", true), ("PathPatcher$Search", "edits", "[LPathPatcher$Edit;", true), ("PathPatcher$Search", "wanted", "LPathPatcher$Edit;", true), ("PathPatcher$Search", "conflict", "Z", false)],
  [("PathPatcher$Edit", "put", "[C", true), ("PathPatcher$Edit", "size", "I", false), ("PathPatcher$Edit", "statements", "I", false), ("PathPatcher$Edit", "out", "Z", false)],
  [("PathPatcher$Rewriter", "program", "LPathPatcher$Program;", true), ("PathPatcher$Rewriter", "search", "LPathPatcher$Search;", true), ("PathPatcher$Rewriter", "old", "[C", true), ("PathPatcher$Rewriter", "length", "I", false), ("PathPatcher$Rewriter", "nodeCount", "I", false), ("PathPatcher$Rewriter", "edited", "I", false)],
  [("PathPatcherModel", "size", "I", false), ("PathPatcherModel", "text", "[I", false), ("PathPatcherModel", "tokens", "I", false), ("PathPatcherModel", "token", "[I", false), ("PathPatcherModel", "spot", "[I", false), ("PathPatcherModel", "count", "I", false), ("PathPatcherModel", "kind", "[I", false), ("PathPatcherModel", "fun", "[I", false), ("PathPatcherModel", "left", "[I", false), ("PathPatcherModel", "right", "[I", false), ("PathPatcherModel", "begin", "[I", false), ("PathPatcherModel", "end", "[I", false), ("PathPatcherModel", "owner", "[I", false), ("PathPatcherModel", "next", "[I", false), ("PathPatcherModel", "loop", "[Z", false), ("PathPatcherModel", "first", "[I", false), ("PathPatcherModel", "edges", "[I", false), ("PathPatcherModel", "rowOwner", "[I", false), ("PathPatcherModel", "rowWhich", "[I", false), ("PathPatcherModel", "rowLast", "[I", false), ("PathPatcherModel", "depth", "I", false), ("PathPatcherModel", "items", "I", false), ("PathPatcherModel", "op", "[I", false), ("PathPatcherModel", "fn", "[I", false), ("PathPatcherModel", "one", "[I", false), ("PathPatcherModel", "two", "[I", false), ("PathPatcherModel", "gone", "[Z", false), ("PathPatcherModel", "gap", "[Z", false), ("PathPatcherModel", "banOp", "[I", false), ("PathPatcherModel", "banFn", "[I", false), ("PathPatcherModel", "banOne", "[I", false), ("PathPatcherModel", "banTwo", "[I", false), ("PathPatcherModel", "fresh", "[I", false), ("PathPatcherModel", "newOp", "[I", false), ("PathPatcherModel", "newFn", "[I", false), ("PathPatcherModel", "newOne", "[I", false), ("PathPatcherModel", "newTwo", "[I", false), ("PathPatcherModel", "take", "[I", false), ("PathPatcherModel", "struck", "[I", false), ("PathPatcherModel", "start", "[I", false), ("PathPatcherModel", "bad", "I", false), ("PathPatcherModel", "byItem", "[I", false), ("PathPatcherModel", "byBinding", "[I", false), ("PathPatcherModel", "some", "[I", false), ("PathPatcherModel", "other", "[I", false), ("PathPatcherModel", "made", "[I", false)]]
def jt_T (ci : Nat) : u_T := fun k => (jt_F.getD ci []).getD k ("", "", "", false)
def jt_n (ci : Nat) : Nat := (jt_F.getD ci []).length
def jt_C : List String := ["PathPatcher", "PathPatcher$Source", "PathPatcher$Program", "PathPatcher$Node", "PathPatcher$Parser", "PathPatcher$Tokens", "PathPatcher$Script", "PathPatcher$Item", "PathPatcher$Pattern", "PathPatcher$Search", "PathPatcher$Edit", "PathPatcher$Rewriter", "PathPatcherModel"]
def jt_cl : List vw_C := (List.range 13).map fun i => (jt_C.getD i "", jt_T i, jt_n i)
def jt_rfL : List (List Bool) := [[true, true, true, true, true, true, false, false, false], [true, false], [true, false], [false, false, false, false, false, false, false, false, false, false, false, false, false], [true, true, true, true, true, false, false], [true, true, false], [true, false, false], [true, true, true, false, false, false], [false, false, false, false], [true, true, true, true, true, true, true, false], [true, false, false, false], [true, true, true, false, false, false], [false, true, false, true, true, false, true, true, true, true, true, true, true, true, true, true, true, true, true, true, false, false, true, true, true, true, true, true, true, true, true, true, true, true, true, true, true, true, true, true, false, true, true, true, true, true]]
def jt_rf (ci k : Nat) : Bool := (jt_rfL.getD ci []).getD k false
def jt_ftL : List (List FieldType) := [[.object "PathPatcher$Source", .object "PathPatcher$Program", .object "PathPatcher$Parser", .object "PathPatcher$Script", .object "PathPatcher$Search", .object "PathPatcher$Rewriter", .boolean, .boolean, .boolean], [.array .char, .int], [.array (.object "PathPatcher$Node"), .int], [.int, .int, .int, .int, .boolean, .int, .int, .int, .int, .int, .int, .int, .int], [.object "PathPatcher$Program", .object "PathPatcher$Tokens", .array .int, .array .int, .array .int, .int, .int], [.array .char, .array .int, .int], [.array (.object "PathPatcher$Item"), .int, .int], [.object "PathPatcher$Pattern", .object "PathPatcher$Pattern", .array (.object "PathPatcher$Pattern"), .int, .boolean, .boolean], [.int, .int, .int, .int], [.object "PathPatcher$Program", .object "PathPatcher$Script", .array .int, .array .int, .array .int, .array (.object "PathPatcher$Edit"), .object "PathPatcher$Edit", .boolean], [.array .char, .int, .int, .boolean], [.object "PathPatcher$Program", .object "PathPatcher$Search", .array .char, .int, .int, .int], [.int, .array .int, .int, .array .int, .array .int, .int, .array .int, .array .int, .array .int, .array .int, .array .int, .array .int, .array .int, .array .int, .array .boolean, .array .int, .array .int, .array .int, .array .int, .array .int, .int, .int, .array .int, .array .int, .array .int, .array .int, .array .boolean, .array .boolean, .array .int, .array .int, .array .int, .array .int, .array .int, .array .int, .array .int, .array .int, .array .int, .array .int, .array .int, .array .int, .int, .array .int, .array .int, .array .int, .array .int, .array .int]]
def jt_ft (ci k : Nat) : FieldType := (jt_ftL.getD ci []).getD k .int
def jt_ty : List FieldType := [.int, .char, .boolean, .object "PathPatcher$Node", .object "PathPatcher$Item", .object "PathPatcher$Pattern", .object "PathPatcher$Edit"]
def jt_on : List String := ["PathPatcher$Source", "PathPatcher$Node", "PathPatcher$Program", "PathPatcher$Tokens", "PathPatcher$Parser", "PathPatcher$Pattern", "PathPatcher$Item", "PathPatcher$Script", "PathPatcher$Edit", "PathPatcher$Search", "PathPatcher$Rewriter", "PathPatcher", "PathPatcherModel", "java/lang/String", "java/lang/StringLatin1", "jdk/internal/util/Preconditions", "java/lang/Integer", "PathPatcherLaw"]
def jt_cy : List Nat := [0, 1, 2, 3, 4, 5, 6, 7, 8, 9, 10, 11, 12, 0, 11, 11, 12, 0, 11, 12, 0, 11, 12, 0, 0, 11, 12, 2, 3, 3, 3, 3, 4, 2, 4, 4, 2, 13, 13, 13, 14, 14, 14, 13, 13, 2, 3, 1, 4, 1, 4, 4, 4, 4, 4, 2, 2, 2, 11, 2, 11, 12, 12, 12, 12, 12, 12, 12, 12, 12, 12, 12, 12, 2, 1, 11, 12, 11, 12, 5, 5, 5, 5, 6, 5, 5, 5, 7, 7, 11, 12, 12, 7, 7, 7, 7, 7, 7, 6, 11, 12, 12, 12, 12, 12, 6, 6, 11, 12, 7, 11, 12, 11, 8, 9, 7, 5, 5, 2, 1, 2, 9, 9, 6, 15, 13, 14, 13, 5, 8, 8, 8, 8, 8, 8, 9, 2, 9, 9, 9, 11, 16, 9, 11, 12, 12, 12, 12, 12, 12, 12, 12, 12, 12, 9, 11, 12, 9, 11, 12, 12, 12, 9, 9, 1, 10, 10, 10, 10, 10, 10, 10, 11, 12, 12, 12, 12, 12, 12, 17]
abbrev jt_Row : Type := String × String × ByteArray × Nat × Option FieldType × Room
def jt_tab : List jt_Row := [
  ("<init>", "()V", prog_11_method_1_code, 1, none, { frames := 1, cells := 0, slots := 0, locals := 20 }),
  ("<init>", "()V", prog_4_method_1_code, 1, none, { frames := 1, cells := 0, slots := 0, locals := 20 }),
  ("<init>", "()V", prog_7_method_1_code, 2, none, { frames := 2, cells := 0, slots := 0, locals := 40 }),
  ("<init>", "()V", prog_12_method_1_code, 1, none, { frames := 1, cells := 0, slots := 0, locals := 20 }),
  ("<init>", "(LPathPatcher$Program;)V", prog_5_method_1_code, 2, none, { frames := 2, cells := 0, slots := 0, locals := 40 }),
  ("<init>", "()V", prog_6_method_1_code, 1, none, { frames := 1, cells := 0, slots := 0, locals := 20 }),
  ("<init>", "()V", prog_3_method_1_code, 2, none, { frames := 2, cells := 0, slots := 0, locals := 40 }),
  ("<init>", "()V", prog_9_method_1_code, 2, none, { frames := 3, cells := 0, slots := 0, locals := 61 }),
  ("<init>", "()V", prog_2_method_1_code, 1, none, { frames := 1, cells := 0, slots := 0, locals := 20 }),
  ("<init>", "(LPathPatcher$Program;LPathPatcher$Script;)V", prog_10_method_1_code, 4, none, { frames := 2, cells := 0, slots := 0, locals := 40 }),
  ("<init>", "(LPathPatcher$Program;LPathPatcher$Search;)V", prog_8_method_1_code, 3, none, { frames := 1, cells := 0, slots := 0, locals := 20 }),
  ("<init>", "()V", prog_1_method_1_code, 1, none, { frames := 4, cells := 0, slots := 0, locals := 82 }),
  ("<init>", "()V", prog_14_method_1_code, 1, none, { frames := 1, cells := 0, slots := 0, locals := 20 }),
  ("append", "(C)Z", prog_11_method_6_code, 2, some .boolean, { frames := 0, cells := 0, slots := 0, locals := 0 }),
  ("noteNewText", "()V", prog_1_method_17_code, 1, none, { frames := 0, cells := 0, slots := 0, locals := 0 }),
  ("type", "(C)Z", prog_1_method_2_code, 2, some .boolean, { frames := 1, cells := 0, slots := 0, locals := 21 }),
  ("type", "(C)Z", prog_14_method_2_code, 2, some .boolean, { frames := 0, cells := 0, slots := 0, locals := 0 }),
  ("empty", "()V", prog_11_method_5_code, 1, none, { frames := 0, cells := 0, slots := 0, locals := 0 }),
  ("clear", "()V", prog_1_method_3_code, 1, none, { frames := 1, cells := 0, slots := 0, locals := 20 }),
  ("clear", "()V", prog_14_method_3_code, 1, none, { frames := 0, cells := 0, slots := 0, locals := 0 }),
  ("size", "()I", prog_11_method_2_code, 1, some .int, { frames := 0, cells := 0, slots := 0, locals := 0 }),
  ("length", "()I", prog_1_method_4_code, 1, some .int, { frames := 1, cells := 0, slots := 0, locals := 20 }),
  ("length", "()I", prog_14_method_4_code, 1, some .int, { frames := 0, cells := 0, slots := 0, locals := 0 }),
  ("holds", "(I)Z", prog_11_method_3_code, 2, some .boolean, { frames := 0, cells := 0, slots := 0, locals := 0 }),
  ("charOf", "(I)C", prog_11_method_4_code, 2, some .char, { frames := 1, cells := 0, slots := 0, locals := 21 }),
  ("at", "(I)I", prog_1_method_5_code, 2, some .int, { frames := 2, cells := 0, slots := 0, locals := 42 }),
  ("at", "(I)I", prog_14_method_5_code, 2, some .int, { frames := 0, cells := 0, slots := 0, locals := 0 }),
  ("empty", "()V", prog_7_method_5_code, 1, none, { frames := 0, cells := 0, slots := 0, locals := 0 }),
  ("append", "(CI)V", prog_12_method_4_code, 3, none, { frames := 0, cells := 0, slots := 0, locals := 0 }),
  ("scan", "(LPathPatcher$Source;)Z", prog_12_method_3_code, 5, some .boolean, { frames := 2, cells := 0, slots := 0, locals := 42 }),
  ("size", "()I", prog_12_method_2_code, 1, some .int, { frames := 0, cells := 0, slots := 0, locals := 0 }),
  ("sign", "(I)C", prog_12_method_5_code, 2, some .char, { frames := 0, cells := 0, slots := 0, locals := 0 }),
  ("ahead", "(I)C", prog_5_method_3_code, 2, some .char, { frames := 1, cells := 0, slots := 0, locals := 21 }),
  ("node", "(I)LPathPatcher$Node;", prog_7_method_4_code, 2, some (.object "PathPatcher$Node"), { frames := 0, cells := 0, slots := 0, locals := 0 }),
  ("openRow", "(II)Z", prog_5_method_9_code, 3, some .boolean, { frames := 2, cells := 0, slots := 0, locals := 42 }),
  ("closeRow", "()Z", prog_5_method_10_code, 3, some .boolean, { frames := 3, cells := 0, slots := 0, locals := 64 }),
  ("isFull", "()Z", prog_7_method_6_code, 1, some .boolean, { frames := 0, cells := 0, slots := 0, locals := 0 }),
  ("isLatin1", "()Z", prog_18_method_154_code, 1, some .boolean, { frames := 0, cells := 0, slots := 0, locals := 0 }),
  ("coder", "()B", prog_18_method_152_code, 1, some .byte, { frames := 0, cells := 0, slots := 0, locals := 0 }),
  ("length", "()I", prog_18_method_54_code, 1, some .int, { frames := 1, cells := 0, slots := 0, locals := 20 }),
  ("canEncode", "(I)Z", prog_19_method_4_code, 1, some .boolean, { frames := 0, cells := 0, slots := 0, locals := 0 }),
  ("indexOfChar", "([BIII)I", prog_19_method_23_code, 6, some .int, { frames := 0, cells := 0, slots := 0, locals := 0 }),
  ("indexOf", "([BIII)I", prog_19_method_22_code, 4, some .int, { frames := 1, cells := 0, slots := 0, locals := 25 }),
  ("indexOf", "(II)I", prog_18_method_80_code, 3, some .int, { frames := 2, cells := 0, slots := 0, locals := 48 }),
  ("indexOf", "(I)I", prog_18_method_79_code, 2, some .int, { frames := 3, cells := 0, slots := 0, locals := 70 }),
  ("append", "()I", prog_7_method_7_code, 1, some .int, { frames := 0, cells := 0, slots := 0, locals := 0 }),
  ("place", "(I)I", prog_12_method_6_code, 2, some .int, { frames := 0, cells := 0, slots := 0, locals := 0 }),
  ("standAt", "(III)V", prog_4_method_3_code, 4, none, { frames := 0, cells := 0, slots := 0, locals := 0 }),
  ("addNode", "(I)LPathPatcher$Node;", prog_5_method_8_code, 5, some (.object "PathPatcher$Node"), { frames := 1, cells := 0, slots := 0, locals := 23 }),
  ("describe", "(IIII)V", prog_4_method_2_code, 5, none, { frames := 0, cells := 0, slots := 0, locals := 0 }),
  ("readTest", "(Z)Z", prog_5_method_7_code, 4, some .boolean, { frames := 4, cells := 0, slots := 0, locals := 91 }),
  ("readReturn", "()Z", prog_5_method_6_code, 2, some .boolean, { frames := 4, cells := 0, slots := 0, locals := 91 }),
  ("readAssignment", "()Z", prog_5_method_4_code, 3, some .boolean, { frames := 4, cells := 0, slots := 0, locals := 91 }),
  ("readCall", "()Z", prog_5_method_5_code, 3, some .boolean, { frames := 4, cells := 0, slots := 0, locals := 91 }),
  ("read", "(LPathPatcher$Source;)Z", prog_5_method_2_code, 5, some .boolean, { frames := 5, cells := 0, slots := 0, locals := 114 }),
  ("after", "(I)I", prog_7_method_11_code, 5, some .int, { frames := 1, cells := 0, slots := 0, locals := 21 }),
  ("connectNode", "(I)V", prog_7_method_10_code, 4, none, { frames := 2, cells := 0, slots := 0, locals := 45 }),
  ("connect", "()V", prog_7_method_9_code, 2, none, { frames := 3, cells := 0, slots := 0, locals := 68 }),
  ("isWellFormed", "()Z", prog_1_method_18_code, 1, some .boolean, { frames := 6, cells := 0, slots := 0, locals := 138 }),
  ("size", "()I", prog_7_method_2_code, 1, some .int, { frames := 0, cells := 0, slots := 0, locals := 0 }),
  ("nodes", "()I", prog_1_method_6_code, 1, some .int, { frames := 7, cells := 0, slots := 0, locals := 158 }),
  ("tokenize", "()Z", prog_14_method_6_code, 3, some .boolean, { frames := 0, cells := 0, slots := 0, locals := 0 }),
  ("look", "(I)I", prog_14_method_7_code, 2, some .int, { frames := 0, cells := 0, slots := 0, locals := 0 }),
  ("open", "(II)Z", prog_14_method_11_code, 3, some .boolean, { frames := 0, cells := 0, slots := 0, locals := 0 }),
  ("close", "(I)I", prog_14_method_12_code, 4, some .int, { frames := 1, cells := 0, slots := 0, locals := 22 }),
  ("variable", "(I)Z", prog_14_method_8_code, 2, some .boolean, { frames := 1, cells := 0, slots := 0, locals := 21 }),
  ("node", "(IIIIII)Z", prog_14_method_10_code, 8, some .boolean, { frames := 0, cells := 0, slots := 0, locals := 0 }),
  ("function", "(I)Z", prog_14_method_9_code, 2, some .boolean, { frames := 1, cells := 0, slots := 0, locals := 21 }),
  ("statement", "(I)I", prog_14_method_13_code, 4, some .int, { frames := 2, cells := 0, slots := 0, locals := 42 }),
  ("after", "(I)I", prog_14_method_15_code, 4, some .int, { frames := 0, cells := 0, slots := 0, locals := 0 }),
  ("link", "(I)V", prog_14_method_16_code, 5, none, { frames := 1, cells := 0, slots := 0, locals := 23 }),
  ("read", "()Z", prog_14_method_14_code, 3, some .boolean, { frames := 3, cells := 0, slots := 0, locals := 65 }),
  ("nodes", "()I", prog_14_method_17_code, 1, some .int, { frames := 4, cells := 0, slots := 0, locals := 87 }),
  ("holds", "(I)Z", prog_7_method_3_code, 2, some .boolean, { frames := 0, cells := 0, slots := 0, locals := 0 }),
  ("successor", "(I)I", prog_4_method_4_code, 2, some .int, { frames := 0, cells := 0, slots := 0, locals := 0 }),
  ("edge", "(II)I", prog_1_method_7_code, 3, some .int, { frames := 7, cells := 0, slots := 0, locals := 158 }),
  ("edge", "(II)I", prog_14_method_18_code, 3, some .int, { frames := 4, cells := 0, slots := 0, locals := 87 }),
  ("begins", "(I)I", prog_1_method_8_code, 2, some .int, { frames := 7, cells := 0, slots := 0, locals := 158 }),
  ("begins", "(I)I", prog_14_method_19_code, 2, some .int, { frames := 4, cells := 0, slots := 0, locals := 87 }),
  ("isFunction", "(I)Z", prog_6_method_3_code, 1, some .boolean, { frames := 0, cells := 0, slots := 0, locals := 0 }),
  ("isOperand", "(I)Z", prog_6_method_4_code, 1, some .boolean, { frames := 0, cells := 0, slots := 0, locals := 0 }),
  ("isSound", "(IIII)Z", prog_6_method_2_code, 4, some .boolean, { frames := 1, cells := 0, slots := 0, locals := 20 }),
  ("describe", "(IIII)V", prog_6_method_8_code, 5, none, { frames := 0, cells := 0, slots := 0, locals := 0 }),
  ("begin", "(ZIIII)V", prog_3_method_2_code, 6, none, { frames := 1, cells := 0, slots := 0, locals := 24 }),
  ("unknownBit", "(I)I", prog_6_method_6_code, 1, some .int, { frames := 0, cells := 0, slots := 0, locals := 0 }),
  ("unknownsIn", "(III)I", prog_6_method_5_code, 3, some .int, { frames := 1, cells := 0, slots := 0, locals := 20 }),
  ("unknowns", "()I", prog_6_method_9_code, 1, some .int, { frames := 2, cells := 0, slots := 0, locals := 42 }),
  ("append", "(ZIIII)Z", prog_9_method_9_code, 6, some .boolean, { frames := 3, cells := 0, slots := 0, locals := 62 }),
  ("size", "()I", prog_9_method_2_code, 1, some .int, { frames := 0, cells := 0, slots := 0, locals := 0 }),
  ("item", "(ZIIII)I", prog_1_method_9_code, 6, some .int, { frames := 4, cells := 0, slots := 0, locals := 87 }),
  ("valid", "(IIII)Z", prog_14_method_20_code, 6, some .boolean, { frames := 0, cells := 0, slots := 0, locals := 0 }),
  ("item", "(ZIIII)I", prog_14_method_24_code, 6, some .int, { frames := 1, cells := 0, slots := 0, locals := 25 }),
  ("isEmpty", "()Z", prog_9_method_3_code, 1, some .boolean, { frames := 0, cells := 0, slots := 0, locals := 0 }),
  ("holds", "(I)Z", prog_9_method_4_code, 2, some .boolean, { frames := 0, cells := 0, slots := 0, locals := 0 }),
  ("itemOf", "(I)LPathPatcher$Item;", prog_9_method_5_code, 2, some (.object "PathPatcher$Item"), { frames := 1, cells := 0, slots := 0, locals := 21 }),
  ("last", "()LPathPatcher$Item;", prog_9_method_6_code, 1, some (.object "PathPatcher$Item"), { frames := 2, cells := 0, slots := 0, locals := 42 }),
  ("endsInDots", "()Z", prog_9_method_7_code, 1, some .boolean, { frames := 3, cells := 0, slots := 0, locals := 62 }),
  ("knowsUnknowns", "(III)Z", prog_9_method_10_code, 4, some .boolean, { frames := 2, cells := 0, slots := 0, locals := 42 }),
  ("follow", "(IIII)V", prog_3_method_3_code, 5, none, { frames := 1, cells := 0, slots := 0, locals := 24 }),
  ("dots", "(IIII)Z", prog_1_method_10_code, 5, some .boolean, { frames := 4, cells := 0, slots := 0, locals := 82 }),
  ("noLast", "()Z", prog_14_method_25_code, 1, some .boolean, { frames := 0, cells := 0, slots := 0, locals := 0 }),
  ("mark", "(I)I", prog_14_method_21_code, 2, some .int, { frames := 0, cells := 0, slots := 0, locals := 0 }),
  ("names", "(III)I", prog_14_method_22_code, 4, some .int, { frames := 1, cells := 0, slots := 0, locals := 21 }),
  ("named", "()I", prog_14_method_23_code, 3, some .int, { frames := 2, cells := 0, slots := 0, locals := 44 }),
  ("dots", "(IIII)Z", prog_14_method_26_code, 6, some .boolean, { frames := 3, cells := 0, slots := 0, locals := 66 }),
  ("takesNew", "()Z", prog_3_method_4_code, 1, some .boolean, { frames := 0, cells := 0, slots := 0, locals := 0 }),
  ("append", "(IIII)V", prog_3_method_5_code, 5, none, { frames := 1, cells := 0, slots := 0, locals := 24 }),
  ("plus", "(IIII)Z", prog_1_method_11_code, 5, some .boolean, { frames := 4, cells := 0, slots := 0, locals := 82 }),
  ("plus", "(IIII)Z", prog_14_method_27_code, 6, some .boolean, { frames := 3, cells := 0, slots := 0, locals := 66 }),
  ("empty", "()V", prog_9_method_8_code, 1, none, { frames := 0, cells := 0, slots := 0, locals := 0 }),
  ("forget", "()V", prog_1_method_12_code, 1, none, { frames := 1, cells := 0, slots := 0, locals := 20 }),
  ("forget", "()V", prog_14_method_28_code, 1, none, { frames := 0, cells := 0, slots := 0, locals := 0 }),
  ("refusalOfSearch", "()I", prog_1_method_19_code, 1, some .int, { frames := 7, cells := 0, slots := 0, locals := 158 }),
  ("reset", "()V", prog_2_method_3_code, 1, none, { frames := 0, cells := 0, slots := 0, locals := 0 }),
  ("reset", "()V", prog_10_method_3_code, 2, none, { frames := 1, cells := 0, slots := 0, locals := 20 }),
  ("allows", "(I)Z", prog_9_method_11_code, 4, some .boolean, { frames := 0, cells := 0, slots := 0, locals := 0 }),
  ("bound", "(II)I", prog_6_method_7_code, 3, some .int, { frames := 0, cells := 0, slots := 0, locals := 0 }),
  ("likeIn", "(LPathPatcher$Program;I)I", prog_6_method_11_code, 9, some .int, { frames := 1, cells := 0, slots := 0, locals := 22 }),
  ("exitBit", "()I", prog_7_method_8_code, 1, some .int, { frames := 0, cells := 0, slots := 0, locals := 0 }),
  ("successorSet", "()I", prog_4_method_5_code, 2, some .int, { frames := 0, cells := 0, slots := 0, locals := 0 }),
  ("leadingInto", "(I)I", prog_7_method_12_code, 4, some .int, { frames := 1, cells := 0, slots := 0, locals := 21 }),
  ("ruinousStarts", "(LPathPatcher$Item;II)I", prog_10_method_5_code, 8, some .int, { frames := 2, cells := 0, slots := 0, locals := 50 }),
  ("findTaken", "(I)V", prog_10_method_4_code, 6, none, { frames := 3, cells := 0, slots := 0, locals := 77 }),
  ("edits", "()Z", prog_3_method_6_code, 1, some .boolean, { frames := 0, cells := 0, slots := 0, locals := 0 }),
  ("checkIndex", "(IILjava/util/function/BiFunction;)I", prog_22_method_11_code, 3, some .int, { frames := 0, cells := 0, slots := 0, locals := 0 }),
  ("checkIndex", "(II)V", prog_18_method_155_code, 2, none, { frames := 1, cells := 0, slots := 0, locals := 22 }),
  ("charAt", "([BI)C", prog_19_method_2_code, 2, some .char, { frames := 2, cells := 0, slots := 0, locals := 43 }),
  ("charAt", "(I)C", prog_18_method_56_code, 2, some .char, { frames := 3, cells := 0, slots := 0, locals := 64 }),
  ("functionSign", "()C", prog_6_method_10_code, 1, some .char, { frames := 4, cells := 0, slots := 0, locals := 85 }),
  ("write", "(C)V", prog_2_method_6_code, 2, none, { frames := 0, cells := 0, slots := 0, locals := 0 }),
  ("write", "(LPathPatcher$Pattern;I)V", prog_2_method_5_code, 4, none, { frames := 5, cells := 0, slots := 0, locals := 105 }),
  ("build", "(LPathPatcher$Item;I)V", prog_2_method_4_code, 4, none, { frames := 6, cells := 0, slots := 0, locals := 128 }),
  ("isNothing", "()Z", prog_2_method_2_code, 1, some .boolean, { frames := 0, cells := 0, slots := 0, locals := 0 }),
  ("copyFrom", "(LPathPatcher$Edit;)V", prog_2_method_8_code, 2, none, { frames := 1, cells := 0, slots := 0, locals := 60 }),
  ("isSame", "(LPathPatcher$Edit;)Z", prog_2_method_7_code, 3, some .boolean, { frames := 0, cells := 0, slots := 0, locals := 0 }),
  ("noteEdits", "(I)V", prog_10_method_8_code, 3, none, { frames := 2, cells := 0, slots := 0, locals := 81 }),
  ("successorsOf", "(I)I", prog_7_method_13_code, 4, some .int, { frames := 1, cells := 0, slots := 0, locals := 21 }),
  ("firstTaken", "(II)I", prog_10_method_7_code, 7, some .int, { frames := 2, cells := 0, slots := 0, locals := 44 }),
  ("followHits", "(I)V", prog_10_method_6_code, 5, none, { frames := 7, cells := 0, slots := 0, locals := 151 }),
  ("run", "()V", prog_10_method_2_code, 2, none, { frames := 8, cells := 0, slots := 0, locals := 175 }),
  ("ensureSearched", "()V", prog_1_method_20_code, 1, none, { frames := 9, cells := 0, slots := 0, locals := 196 }),
  ("bitCount", "(I)I", prog_16_method_49_code, 1, some .int, { frames := 0, cells := 0, slots := 0, locals := 0 }),
  ("matchCount", "()I", prog_10_method_10_code, 3, some .int, { frames := 1, cells := 0, slots := 0, locals := 20 }),
  ("matches", "()I", prog_1_method_13_code, 2, some .int, { frames := 10, cells := 0, slots := 0, locals := 216 }),
  ("state", "()I", prog_14_method_38_code, 1, some .int, { frames := 4, cells := 0, slots := 0, locals := 87 }),
  ("possible", "(I)Z", prog_14_method_30_code, 5, some .boolean, { frames := 3, cells := 0, slots := 0, locals := 66 }),
  ("value", "(II)I", prog_14_method_29_code, 3, some .int, { frames := 0, cells := 0, slots := 0, locals := 0 }),
  ("like", "(IIIIII)Z", prog_14_method_31_code, 7, some .boolean, { frames := 1, cells := 0, slots := 0, locals := 22 }),
  ("has", "(II)Z", prog_14_method_32_code, 3, some .boolean, { frames := 0, cells := 0, slots := 0, locals := 0 }),
  ("findBad", "(II)V", prog_14_method_33_code, 8, none, { frames := 2, cells := 0, slots := 0, locals := 48 }),
  ("follows", "(II)Z", prog_14_method_34_code, 6, some .boolean, { frames := 1, cells := 0, slots := 0, locals := 22 }),
  ("findTakes", "(I)V", prog_14_method_35_code, 7, none, { frames := 3, cells := 0, slots := 0, locals := 75 }),
  ("findStarts", "()V", prog_14_method_39_code, 2, none, { frames := 4, cells := 0, slots := 0, locals := 101 }),
  ("matches", "()I", prog_14_method_40_code, 5, some .int, { frames := 5, cells := 0, slots := 0, locals := 122 }),
  ("matchNumber", "(I)I", prog_10_method_11_code, 5, some .int, { frames := 1, cells := 0, slots := 0, locals := 20 }),
  ("match", "(I)I", prog_1_method_14_code, 2, some .int, { frames := 10, cells := 0, slots := 0, locals := 216 }),
  ("match", "(I)I", prog_14_method_41_code, 6, some .int, { frames := 5, cells := 0, slots := 0, locals := 122 }),
  ("isHit", "(II)Z", prog_10_method_12_code, 3, some .boolean, { frames := 1, cells := 0, slots := 0, locals := 21 }),
  ("hit", "(II)Z", prog_1_method_15_code, 3, some .boolean, { frames := 10, cells := 0, slots := 0, locals := 216 }),
  ("behind", "(I)I", prog_14_method_36_code, 6, some .int, { frames := 1, cells := 0, slots := 0, locals := 22 }),
  ("findHits", "()V", prog_14_method_37_code, 4, none, { frames := 2, cells := 0, slots := 0, locals := 47 }),
  ("hit", "(II)Z", prog_14_method_42_code, 6, some .boolean, { frames := 5, cells := 0, slots := 0, locals := 107 }),
  ("hasConflict", "()Z", prog_10_method_9_code, 1, some .boolean, { frames := 0, cells := 0, slots := 0, locals := 0 }),
  ("editOf", "(I)LPathPatcher$Edit;", prog_10_method_13_code, 2, some (.object "PathPatcher$Edit"), { frames := 1, cells := 0, slots := 0, locals := 21 }),
  ("spanLength", "()I", prog_4_method_6_code, 1, some .int, { frames := 0, cells := 0, slots := 0, locals := 0 }),
  ("measure", "(LPathPatcher$Source;)V", prog_8_method_2_code, 4, none, { frames := 2, cells := 0, slots := 0, locals := 42 }),
  ("lengthAfter", "()I", prog_8_method_3_code, 1, some .int, { frames := 0, cells := 0, slots := 0, locals := 0 }),
  ("nodesAfter", "()I", prog_8_method_4_code, 1, some .int, { frames := 0, cells := 0, slots := 0, locals := 0 }),
  ("copyOld", "(LPathPatcher$Source;II)V", prog_8_method_7_code, 5, none, { frames := 1, cells := 0, slots := 0, locals := 21 }),
  ("copyNew", "(LPathPatcher$Source;LPathPatcher$Edit;)V", prog_8_method_8_code, 3, none, { frames := 1, cells := 0, slots := 0, locals := 21 }),
  ("rewrite", "(LPathPatcher$Source;)V", prog_8_method_6_code, 7, none, { frames := 2, cells := 0, slots := 0, locals := 45 }),
  ("editCount", "()I", prog_8_method_5_code, 1, some .int, { frames := 0, cells := 0, slots := 0, locals := 0 }),
  ("apply", "()I", prog_1_method_16_code, 2, some .int, { frames := 10, cells := 0, slots := 0, locals := 216 }),
  ("letter", "(III)I", prog_14_method_43_code, 5, some .int, { frames := 1, cells := 0, slots := 0, locals := 22 }),
  ("write", "([III)I", prog_14_method_44_code, 8, some .int, { frames := 2, cells := 0, slots := 0, locals := 46 }),
  ("alike", "(IIII)Z", prog_14_method_45_code, 9, some .boolean, { frames := 3, cells := 0, slots := 0, locals := 73 }),
  ("note", "(I)Z", prog_14_method_46_code, 5, some .boolean, { frames := 4, cells := 0, slots := 0, locals := 101 }),
  ("edit", "()I", prog_14_method_48_code, 10, some .int, { frames := 3, cells := 0, slots := 0, locals := 73 }),
  ("apply", "()I", prog_14_method_47_code, 5, some .int, { frames := 5, cells := 0, slots := 0, locals := 125 }),
  ("law", "([I)Z", code, 4, some .boolean, { frames := 11, cells := 0, slots := 0, locals := 238 })]
def jt_row (y : Nat) : jt_Row := jt_tab.getD y ("", "", ⟨#[]⟩, 0, none, { frames := 0, cells := 0, slots := 0, locals := 0 })
def jt_N (y : Nat) : MethodName := ⟨jt_on.getD (jt_cy.getD y 0) "", (jt_row y).1, (jt_row y).2.1⟩
def jt_B (y : Nat) : ByteArray := (jt_row y).2.2.1
def jt_L (y : Nat) : Nat := (jt_row y).2.2.2.1
def jt_R (y : Nat) : Option FieldType := (jt_row y).2.2.2.2.1
def jt_M (y : Nat) : Room := (jt_row y).2.2.2.2.2
def jt_law : Nat := 179
def jt_np : List Nat := [0, 0, 0, 0, 1, 0, 0, 0, 0, 2, 2, 0, 0, 1, 0, 1, 1, 0, 0, 0, 0, 0, 0, 1, 1, 1, 1, 0, 2, 1, 0, 1, 1, 1, 2, 0, 0, 0, 0, 0, 1, 4, 4, 2, 1, 0, 1, 3, 1, 4, 1, 0, 0, 0, 1, 1, 1, 0, 0, 0, 0, 0, 1, 2, 1, 1, 6, 1, 1, 1, 1, 0, 0, 1, 1, 2, 2, 1, 1, 1, 1, 4, 4, 5, 1, 3, 0, 5, 0, 5, 4, 5, 0, 1, 1, 0, 0, 3, 4, 4, 0, 1, 3, 0, 4, 0, 4, 4, 4, 0, 0, 0, 0, 0, 0, 1, 2, 2, 0, 0, 1, 3, 1, 0, 3, 2, 2, 1, 0, 1, 2, 2, 0, 1, 1, 1, 1, 2, 1, 0, 0, 1, 0, 0, 0, 1, 2, 6, 2, 2, 2, 1, 0, 0, 1, 1, 1, 2, 2, 1, 0, 2, 0, 1, 0, 1, 0, 0, 3, 2, 1, 0, 0, 3, 3, 4, 1, 0, 0, 1]
def jt_rc : List Nat := [1, 3, 2, 5, 4, 8, 7, 6, 10, 9, 11, 0, 12, 1, 0, 0, 12, 1, 0, 12, 1, 0, 12, 1, 1, 0, 12, 2, 5, 5, 5, 5, 4, 2, 4, 4, 2, 99, 99, 99, 99, 99, 99, 99, 99, 2, 5, 3, 4, 3, 4, 4, 4, 4, 4, 2, 2, 2, 0, 2, 0, 12, 12, 12, 12, 12, 12, 12, 12, 12, 12, 12, 12, 2, 3, 0, 12, 0, 12, 8, 8, 8, 8, 7, 8, 8, 8, 6, 6, 0, 12, 12, 6, 6, 6, 6, 6, 6, 7, 0, 12, 12, 12, 12, 12, 7, 7, 0, 12, 6, 0, 12, 0, 10, 9, 6, 8, 8, 2, 3, 2, 9, 9, 7, 99, 99, 99, 99, 8, 10, 10, 10, 10, 10, 10, 9, 2, 9, 9, 9, 0, 99, 9, 0, 12, 12, 12, 12, 12, 12, 12, 12, 12, 12, 9, 0, 12, 9, 0, 12, 12, 12, 9, 9, 3, 11, 11, 11, 11, 11, 11, 11, 0, 12, 12, 12, 12, 12, 12, 99]
def jt_ini : List Bool := [true, true, true, true, true, true, true, true, true, true, true, true, true, false, false, false, false, false, false, false, false, false, false, false, false, false, false, false, false, false, false, false, false, false, false, false, false, false, false, false, false, false, false, false, false, false, false, false, false, false, false, false, false, false, false, false, false, false, false, false, false, false, false, false, false, false, false, false, false, false, false, false, false, false, false, false, false, false, false, false, false, false, false, false, false, false, false, false, false, false, false, false, false, false, false, false, false, false, false, false, false, false, false, false, false, false, false, false, false, false, false, false, false, false, false, false, false, false, false, false, false, false, false, false, false, false, false, false, false, false, false, false, false, false, false, false, false, false, false, false, false, false, false, false, false, false, false, false, false, false, false, false, false, false, false, false, false, false, false, false, false, false, false, false, false, false, false, false, false, false, false, false, false, false, false, false, false, false, false, false]
def jt_lf : List (Nat × Nat × Nat × Nat) := [(0, 9, 1, 0), (2, 11, 2, 0), (3, 9, 5, 0), (3, 15, 5, 1), (4, 12, 4, 1), (4, 18, 4, 2), (4, 22, 4, 3), (4, 25, 4, 4), (4, 28, 4, 0), (5, 9, 8, 0), (6, 12, 7, 0), (6, 18, 7, 1), (6, 21, 7, 2), (7, 11, 6, 0), (8, 9, 10, 0), (9, 9, 9, 2), (9, 15, 9, 3), (9, 18, 9, 4), (9, 23, 9, 5), (9, 28, 9, 6), (9, 32, 9, 0), (9, 36, 9, 1), (10, 9, 11, 2), (10, 15, 11, 0), (10, 19, 11, 1), (11, 10, 0, 0), (11, 19, 0, 1), (11, 28, 0, 2), (11, 35, 0, 3), (11, 44, 0, 4), (11, 53, 0, 5), (12, 7, 12, 1), (12, 13, 12, 3), (12, 16, 12, 4), (12, 19, 12, 6), (12, 22, 12, 7), (12, 25, 12, 8), (12, 28, 12, 9), (12, 31, 12, 10), (12, 34, 12, 11), (12, 37, 12, 12), (12, 40, 12, 13), (12, 43, 12, 14), (12, 47, 12, 15), (12, 50, 12, 16), (12, 53, 12, 17), (12, 56, 12, 18), (12, 59, 12, 19), (12, 62, 12, 22), (12, 65, 12, 23), (12, 68, 12, 24), (12, 71, 12, 25), (12, 74, 12, 26), (12, 77, 12, 27), (12, 80, 12, 28), (12, 83, 12, 29), (12, 86, 12, 30), (12, 89, 12, 31), (12, 92, 12, 32), (12, 95, 12, 33), (12, 98, 12, 34), (12, 101, 12, 35), (12, 104, 12, 36), (12, 107, 12, 37), (12, 110, 12, 38), (12, 113, 12, 39), (12, 116, 12, 41), (12, 119, 12, 42), (12, 122, 12, 43), (12, 125, 12, 44), (12, 128, 12, 45), (0, 15, 1, 1), (11, 175, 0, 7), (11, 108, 0, 8), (12, 131, 12, 0), (2, 18, 2, 1), (3, 19, 5, 2), (4, 37, 4, 6), (4, 41, 4, 5), (1, 24, 3, 5), (1, 27, 3, 6), (1, 30, 3, 7), (1, 33, 3, 4), (1, 37, 3, 8), (1, 40, 3, 9), (1, 43, 3, 10), (1, 9, 3, 0), (1, 15, 3, 1), (1, 18, 3, 2), (1, 21, 3, 3), (11, 182, 0, 6), (12, 135, 12, 2), (12, 145, 12, 20), (12, 142, 12, 5), (1, 46, 3, 11), (1, 49, 3, 12), (5, 26, 8, 1), (5, 29, 8, 2), (5, 32, 8, 3), (6, 29, 7, 3), (6, 33, 7, 4), (6, 37, 7, 5), (7, 18, 6, 1), (7, 38, 6, 2), (12, 186, 12, 21), (8, 23, 10, 1), (8, 19, 10, 2), (8, 15, 10, 3), (9, 56, 9, 7), (12, 208, 12, 40), (10, 29, 11, 3), (10, 36, 11, 4), (10, 39, 11, 5)]
def jt_ln : List (Nat × Nat × Nat × Nat) := [(4, 99, 3, 4), (4, 120, 3, 8), (4, 123, 3, 9), (4, 126, 3, 10), (2, 53, 3, 8), (2, 56, 3, 7), (2, 39, 3, 4), (2, 30, 3, 12), (2, 33, 3, 0), (2, 36, 3, 11), (2, 43, 3, 9), (2, 46, 3, 10), (11, 95, 3, 5), (7, 45, 7, 0), (7, 34, 7, 5), (6, 40, 8, 0), (5, 61, 3, 0), (5, 64, 3, 1), (5, 65, 3, 2), (5, 66, 3, 3), (9, 91, 7, 5), (9, 97, 7, 1), (9, 69, 7, 0), (8, 45, 8, 2), (8, 60, 8, 0), (8, 70, 8, 3), (8, 29, 7, 4), (8, 32, 7, 3), (8, 35, 7, 2), (10, 48, 10, 1), (10, 52, 10, 2), (10, 55, 10, 3), (10, 103, 10, 0), (10, 79, 3, 5), (10, 82, 3, 6)]
def jt_la : List (Nat × Nat × Nat × Nat) := [(2, 9, 3, 3), (6, 9, 5, 8), (7, 9, 4, 7), (9, 21, 6, 10)]
def jt_lc : List (Nat × Nat × Int32) := [(16, 265, 1431655765), (16, 266, 858993459), (16, 267, 252645135)]
def jt_lm : List (Nat × Nat × Nat) := [(7, 17, 6), (11, 18, 2), (11, 25, 4), (11, 34, 7), (11, 41, 9), (11, 50, 10), (11, 57, 13), (11, 61, 14), (11, 64, 17), (11, 67, 20), (0, 19, 23), (11, 71, 23), (11, 75, 24), (3, 23, 20), (3, 29, 24), (3, 33, 28), (4, 84, 31), (4, 52, 32), (4, 110, 33), (4, 103, 34), (13, 335, 38), (14, 88, 40), (14, 95, 41), (13, 492, 37), (13, 505, 39), (13, 637, 42), (13, 633, 43), (4, 107, 45), (4, 113, 46), (4, 116, 47), (4, 72, 44), (4, 89, 48), (4, 93, 49), (4, 32, 27), (4, 44, 29), (4, 48, 30), (4, 56, 35), (4, 60, 36), (4, 63, 50), (4, 67, 51), (4, 78, 52), (4, 81, 53), (2, 49, 33), (2, 26, 55), (2, 22, 56), (11, 178, 54), (11, 185, 57), (11, 79, 58), (11, 83, 59), (12, 138, 62), (12, 148, 63), (12, 152, 65), (12, 156, 66), (12, 160, 67), (12, 177, 69), (12, 163, 61), (12, 167, 64), (12, 170, 68), (12, 173, 70), (12, 180, 71), (11, 84, 73), (11, 85, 33), (11, 89, 74), (5, 15, 79), (5, 19, 80), (6, 25, 82), (5, 22, 84), (5, 35, 85), (7, 41, 83), (7, 49, 86), (11, 99, 81), (11, 105, 87), (11, 112, 88), (12, 193, 90), (7, 22, 93), (7, 26, 94), (7, 30, 95), (7, 54, 85), (11, 113, 92), (11, 116, 96), (11, 119, 97), (11, 123, 95), (11, 127, 98), (12, 183, 101), (12, 189, 102), (12, 197, 100), (12, 200, 103), (11, 133, 105), (11, 136, 106), (11, 138, 109), (9, 60, 113), (5, 47, 116), (5, 51, 59), (5, 57, 33), (2, 59, 119), (9, 94, 118), (9, 75, 117), (9, 85, 120), (9, 61, 88), (9, 65, 94), (9, 81, 121), (13, 1059, 124), (14, 9, 125), (13, 495, 126), (5, 41, 127), (8, 50, 116), (8, 54, 127), (8, 63, 128), (8, 67, 129), (8, 26, 113), (8, 39, 130), (9, 117, 59), (9, 118, 132), (9, 121, 133), (9, 125, 134), (9, 114, 136), (9, 100, 123), (9, 103, 131), (9, 107, 135), (9, 110, 137), (9, 40, 114), (9, 43, 115), (9, 49, 122), (9, 53, 138), (11, 188, 139), (9, 129, 141), (11, 139, 112), (11, 142, 140), (11, 145, 142), (12, 204, 146), (12, 211, 147), (12, 214, 148), (12, 217, 149), (12, 221, 150), (12, 227, 145), (12, 230, 151), (12, 233, 144), (12, 236, 152), (11, 148, 154), (9, 134, 73), (9, 137, 93), (11, 151, 93), (11, 152, 157), (12, 224, 159), (12, 239, 160), (10, 23, 20), (10, 33, 59), (10, 42, 163), (10, 59, 33), (10, 63, 164), (10, 68, 132), (10, 99, 13), (10, 72, 24), (10, 76, 17), (10, 85, 168), (10, 89, 169), (11, 156, 162), (11, 159, 165), (11, 163, 166), (11, 166, 167), (11, 169, 170), (11, 172, 171), (12, 242, 173), (12, 245, 174), (12, 249, 175), (12, 252, 176), (12, 255, 177), (17, 9, 11), (17, 12, 12), (17, 13, 15), (17, 17, 16), (17, 18, 18), (17, 21, 19), (17, 22, 21), (17, 26, 22), (17, 27, 25), (17, 31, 26), (17, 32, 60), (17, 35, 72), (17, 36, 75), (17, 40, 76), (17, 41, 77), (17, 44, 78), (17, 45, 89), (17, 49, 91), (17, 50, 99), (17, 54, 104), (17, 55, 107), (17, 58, 108), (17, 59, 110), (17, 62, 111), (17, 63, 143), (17, 66, 153), (17, 67, 155), (17, 70, 156), (17, 71, 158), (17, 75, 161), (17, 76, 172), (17, 79, 178)]
def jt_lmn : List (Nat × Nat × Nat) := [(2, 17, 1), (4, 11, 3), (6, 11, 5), (9, 27, 8), (11, 9, 0)]
def jt_lk : List (Nat × Nat × Nat) := [(2, 9, 3), (4, 9, 5), (6, 9, 8), (7, 9, 7), (9, 21, 10), (11, 7, 1), (11, 16, 2), (11, 23, 4), (11, 32, 6), (11, 39, 9), (11, 48, 11), (17, 7, 0), (17, 10, 12)]
def jt_ls : List (Nat × Nat × Nat) := [(4, 87, 0), (4, 70, 1), (5, 39, 1), (8, 43, 0)]
def jt_lo1 : List (Nat × Nat) := [(0, 3), (1, 3), (2, 3), (3, 3), (4, 3), (5, 3), (6, 3), (7, 3), (8, 3), (9, 3), (10, 3), (11, 1), (12, 1)]
def jt_lg0 : List (Nat × Nat) := [(13, 38)]
def jt_lg1 : List (Nat × Nat) := [(13, 1053)]
def jt_lv0 : List (Nat × Nat) := [(13, 15)]
def jt_lv1 : List (Nat × Nat) := [(13, 9)]
def jt_lcp : List (Nat × Nat) := [(8, 73)]
def jt_lx0 : List (Nat × Nat) := [(14, 92), (10, 93)]
def jt_lx1 : List (Nat × Nat) := [(14, 38)]
def jt_iv : List Nat := [13, 14, 15, 16, 17, 18, 19, 20, 21, 22, 23, 24, 25, 26, 27, 28, 29, 30, 31, 32, 33, 34, 35, 36, 45, 46, 47, 48, 49, 50, 51, 52, 53, 54, 55, 56, 57, 58, 59, 60, 61, 62, 63, 64, 65, 66, 67, 68, 69, 70, 71, 72, 73, 74, 75, 76, 77, 78, 82, 83, 86, 87, 88, 89, 90, 91, 92, 93, 94, 95, 96, 97, 98, 99, 100, 101, 102, 103, 104, 105, 106, 107, 108, 109, 110, 111, 112, 113, 114, 115, 117, 118, 119, 120, 121, 122, 123, 128, 129, 130, 131, 132, 133, 134, 135, 136, 137, 138, 139, 140, 142, 143, 144, 145, 146, 147, 148, 149, 150, 151, 152, 153, 154, 155, 156, 157, 158, 159, 160, 161, 162, 163, 164, 165, 166, 167, 168, 170, 171, 172, 173, 174, 175, 176, 177, 178]
def jt_is : List Nat := [40, 41, 42, 79, 80, 81, 84, 85, 116, 124, 125, 126, 141, 169]
def jt_ii : List Nat := [0, 1, 2, 3, 4, 5, 6, 7, 8, 9, 10, 11, 12]
def jt_it : List Nat := [37, 38, 39, 43, 44, 127]
def jt_ao : List String := ["PathPatcher$Node", "PathPatcher$Item", "PathPatcher$Pattern", "PathPatcher$Edit"]
def jt_host : String := "PathPatcher"
def jt_z0 : String × String × String := ("java/lang/String", "COMPACT_STRINGS", "Z")
def jt_z1 : String × String × String := ("jdk/internal/util/Preconditions", "SIOOBE_FORMATTER", "Ljava/util/function/BiFunction;")
def jt_st : List String := ["abcd", "fgh"]
def jt_sb : List (List Int32) := [[97, 98, 99, 100], [102, 103, 104]]
def jt_sw : List (Nat × Int × Int × List Nat) := [(527, 0, 14, [108, 133, 144, 157, 180, 193, 226, 249, 328, 381, 434, 445, 458, 481, 514])]
/-- Source_init -/
def jo_0 : List (Nat × Nat × Nat × Nat × Nat × Int32) := [(0, 7, 0, 0, 0, 0), (1, 69, 3, 0, 0, 0), (4, 7, 0, 0, 0, 0), (5, 2, 0, 0, 0, 160), (8, 73, 0, 1, 0, 0), (10, 48, 9, 1, 0, 0), (13, 91, 0, 0, 0, 0)]
/-- Node_init -/
def jo_1 : List (Nat × Nat × Nat × Nat × Nat × Int32) := [(0, 7, 0, 0, 0, 0), (1, 69, 3, 0, 0, 0), (4, 91, 0, 0, 0, 0)]
/-- Program_init -/
def jo_2 : List (Nat × Nat × Nat × Nat × Nat × Int32) := [(0, 7, 0, 0, 0, 0), (1, 69, 3, 0, 0, 0), (4, 7, 0, 0, 0, 0), (5, 1, 0, 0, 0, 24), (7, 74, 9, 3, 3, 0), (10, 48, 11, 2, 0, 0), (13, 0, 0, 0, 0, 0), (14, 9, 1, 0, 0, 0), (15, 5, 1, 0, 0, 0), (16, 1, 0, 0, 0, 24), (18, 39, 40, 0, 0, 0), (21, 7, 0, 0, 0, 0), (22, 45, 11, 2, 0, 0), (25, 5, 1, 0, 0, 0), (26, 72, 9, 3, 0, 0), (29, 26, 0, 0, 0, 0), (30, 85, 17, 1, 1, 0), (33, 58, 0, 3, 3, 0), (34, 13, 1, 0, 0, 1), (37, 42, 15, 0, 0, 0), (40, 91, 0, 0, 0, 0)]
/-- Tokens_init -/
def jo_3 : List (Nat × Nat × Nat × Nat × Nat × Int32) := [(0, 7, 0, 0, 0, 0), (1, 69, 3, 0, 0, 0), (4, 7, 0, 0, 0, 0), (5, 2, 0, 0, 0, 160), (8, 73, 0, 1, 0, 0), (10, 48, 9, 5, 0, 0), (13, 7, 0, 0, 0, 0), (14, 2, 0, 0, 0, 160), (17, 73, 0, 0, 0, 0), (19, 48, 15, 5, 1, 0), (22, 91, 0, 0, 0, 0)]
/-- Parser_init -/
def jo_4 : List (Nat × Nat × Nat × Nat × Nat × Int32) := [(0, 7, 0, 0, 0, 0), (1, 69, 3, 0, 0, 0), (4, 7, 0, 0, 0, 0), (5, 72, 9, 5, 0, 0), (8, 26, 0, 0, 0, 0), (9, 85, 11, 3, 1, 0), (12, 48, 12, 4, 1, 0), (15, 7, 0, 0, 0, 0), (16, 1, 0, 0, 0, 7), (18, 73, 0, 0, 0, 0), (20, 48, 18, 4, 2, 0), (23, 7, 0, 0, 0, 0), (24, 1, 0, 0, 0, 7), (26, 73, 0, 0, 0, 0), (28, 48, 22, 4, 3, 0), (31, 7, 0, 0, 0, 0), (32, 1, 0, 0, 0, 7), (34, 73, 0, 0, 0, 0), (36, 48, 25, 4, 4, 0), (39, 7, 0, 0, 0, 0), (40, 7, 1, 0, 0, 0), (41, 48, 28, 4, 0, 0), (44, 91, 0, 0, 0, 0)]
/-- Pattern_init -/
def jo_5 : List (Nat × Nat × Nat × Nat × Nat × Int32) := [(0, 7, 0, 0, 0, 0), (1, 69, 3, 0, 0, 0), (4, 7, 0, 0, 0, 0), (5, 0, 0, 0, 0, (-1)), (6, 47, 9, 8, 0, 0), (9, 91, 0, 0, 0, 0)]
/-- Item_init -/
def jo_6 : List (Nat × Nat × Nat × Nat × Nat × Int32) := [(0, 7, 0, 0, 0, 0), (1, 69, 3, 0, 0, 0), (4, 7, 0, 0, 0, 0), (5, 72, 9, 8, 0, 0), (8, 26, 0, 0, 0, 0), (9, 85, 11, 5, 1, 0), (12, 48, 12, 7, 0, 0), (15, 7, 0, 0, 0, 0), (16, 72, 9, 8, 0, 0), (19, 26, 0, 0, 0, 0), (20, 85, 11, 5, 1, 0), (23, 48, 18, 7, 1, 0), (26, 7, 0, 0, 0, 0), (27, 0, 0, 0, 0, 2), (28, 74, 9, 5, 8, 0), (31, 48, 21, 7, 2, 0), (34, 0, 0, 0, 0, 0), (35, 9, 1, 0, 0, 0), (36, 5, 1, 0, 0, 0), (37, 0, 0, 0, 0, 2), (38, 39, 60, 0, 0, 0), (41, 7, 0, 0, 0, 0), (42, 45, 21, 7, 2, 0), (45, 5, 1, 0, 0, 0), (46, 72, 9, 8, 0, 0), (49, 26, 0, 0, 0, 0), (50, 85, 11, 5, 1, 0), (53, 58, 0, 5, 8, 0), (54, 13, 1, 0, 0, 1), (57, 42, 36, 0, 0, 0), (60, 91, 0, 0, 0, 0)]
/-- Script_init -/
def jo_7 : List (Nat × Nat × Nat × Nat × Nat × Int32) := [(0, 7, 0, 0, 0, 0), (1, 69, 3, 0, 0, 0), (4, 7, 0, 0, 0, 0), (5, 1, 0, 0, 0, 6), (7, 74, 9, 4, 7, 0), (10, 48, 11, 6, 0, 0), (13, 0, 0, 0, 0, 0), (14, 9, 1, 0, 0, 0), (15, 5, 1, 0, 0, 0), (16, 1, 0, 0, 0, 6), (18, 39, 40, 0, 0, 0), (21, 7, 0, 0, 0, 0), (22, 45, 11, 6, 0, 0), (25, 5, 1, 0, 0, 0), (26, 72, 9, 7, 0, 0), (29, 26, 0, 0, 0, 0), (30, 82, 17, 6, 1, 0), (33, 58, 0, 4, 7, 0), (34, 13, 1, 0, 0, 1), (37, 42, 15, 0, 0, 0), (40, 91, 0, 0, 0, 0)]
/-- Edit_init -/
def jo_8 : List (Nat × Nat × Nat × Nat × Nat × Int32) := [(0, 7, 0, 0, 0, 0), (1, 69, 3, 0, 0, 0), (4, 7, 0, 0, 0, 0), (5, 1, 0, 0, 0, 10), (7, 73, 0, 1, 0, 0), (9, 48, 9, 10, 0, 0), (12, 91, 0, 0, 0, 0)]
/-- Search_init -/
def jo_9 : List (Nat × Nat × Nat × Nat × Nat × Int32) := [(0, 7, 0, 0, 0, 0), (1, 69, 3, 0, 0, 0), (4, 7, 0, 0, 0, 0), (5, 1, 0, 0, 0, 64), (7, 73, 0, 0, 0, 0), (9, 48, 9, 9, 2, 0), (12, 7, 0, 0, 0, 0), (13, 1, 0, 0, 0, 6), (15, 73, 0, 0, 0, 0), (17, 48, 15, 9, 3, 0), (20, 7, 0, 0, 0, 0), (21, 1, 0, 0, 0, 6), (23, 73, 0, 0, 0, 0), (25, 48, 18, 9, 4, 0), (28, 7, 0, 0, 0, 0), (29, 1, 0, 0, 0, 24), (31, 74, 21, 6, 10, 0), (34, 48, 23, 9, 5, 0), (37, 7, 0, 0, 0, 0), (38, 72, 21, 10, 0, 0), (41, 26, 0, 0, 0, 0), (42, 85, 27, 8, 1, 0), (45, 48, 28, 9, 6, 0), (48, 7, 0, 0, 0, 0), (49, 7, 1, 0, 0, 0), (50, 48, 32, 9, 0, 0), (53, 7, 0, 0, 0, 0), (54, 7, 2, 0, 0, 0), (55, 48, 36, 9, 1, 0), (58, 0, 0, 0, 0, 0), (59, 9, 3, 0, 0, 0), (60, 5, 3, 0, 0, 0), (61, 1, 0, 0, 0, 24), (63, 39, 85, 0, 0, 0), (66, 7, 0, 0, 0, 0), (67, 45, 23, 9, 5, 0), (70, 5, 3, 0, 0, 0), (71, 72, 21, 10, 0, 0), (74, 26, 0, 0, 0, 0), (75, 85, 27, 8, 1, 0), (78, 58, 0, 6, 10, 0), (79, 13, 3, 0, 0, 1), (82, 42, 60, 0, 0, 0), (85, 91, 0, 0, 0, 0)]
/-- Rewriter_init -/
def jo_10 : List (Nat × Nat × Nat × Nat × Nat × Int32) := [(0, 7, 0, 0, 0, 0), (1, 69, 3, 0, 0, 0), (4, 7, 0, 0, 0, 0), (5, 2, 0, 0, 0, 160), (8, 73, 0, 1, 0, 0), (10, 48, 9, 11, 2, 0), (13, 7, 0, 0, 0, 0), (14, 7, 1, 0, 0, 0), (15, 48, 15, 11, 0, 0), (18, 7, 0, 0, 0, 0), (19, 7, 2, 0, 0, 0), (20, 48, 19, 11, 1, 0), (23, 91, 0, 0, 0, 0)]
/-- PathPatcher_init -/
def jo_11 : List (Nat × Nat × Nat × Nat × Nat × Int32) := [(0, 7, 0, 0, 0, 0), (1, 69, 1, 0, 0, 0), (4, 7, 0, 0, 0, 0), (5, 72, 7, 1, 0, 0), (8, 26, 0, 0, 0, 0), (9, 85, 9, 0, 1, 0), (12, 48, 10, 0, 0, 0), (15, 7, 0, 0, 0, 0), (16, 72, 16, 2, 0, 0), (19, 26, 0, 0, 0, 0), (20, 82, 18, 2, 1, 0), (23, 48, 19, 0, 1, 0), (26, 7, 0, 0, 0, 0), (27, 72, 23, 4, 0, 0), (30, 26, 0, 0, 0, 0), (31, 7, 0, 0, 0, 0), (32, 45, 19, 0, 1, 0), (35, 82, 25, 4, 2, 0), (38, 48, 28, 0, 2, 0), (41, 7, 0, 0, 0, 0), (42, 72, 32, 6, 0, 0), (45, 26, 0, 0, 0, 0), (46, 82, 34, 7, 1, 0), (49, 48, 35, 0, 3, 0), (52, 7, 0, 0, 0, 0), (53, 72, 39, 9, 0, 0), (56, 26, 0, 0, 0, 0), (57, 7, 0, 0, 0, 0), (58, 45, 19, 0, 1, 0), (61, 7, 0, 0, 0, 0), (62, 45, 35, 0, 3, 0), (65, 82, 41, 9, 3, 0), (68, 48, 44, 0, 4, 0), (71, 7, 0, 0, 0, 0), (72, 72, 48, 11, 0, 0), (75, 26, 0, 0, 0, 0), (76, 7, 0, 0, 0, 0), (77, 45, 19, 0, 1, 0), (80, 7, 0, 0, 0, 0), (81, 45, 44, 0, 4, 0), (84, 82, 50, 10, 3, 0), (87, 48, 53, 0, 5, 0), (90, 91, 0, 0, 0, 0)]
/-- M_init -/
def jo_12 : List (Nat × Nat × Nat × Nat × Nat × Int32) := [(0, 7, 0, 0, 0, 0), (1, 69, 1, 0, 0, 0), (4, 7, 0, 0, 0, 0), (5, 2, 0, 0, 0, 160), (8, 73, 0, 0, 0, 0), (10, 47, 7, 12, 1, 0), (13, 7, 0, 0, 0, 0), (14, 2, 0, 0, 0, 160), (17, 73, 0, 0, 0, 0), (19, 47, 13, 12, 3, 0), (22, 7, 0, 0, 0, 0), (23, 2, 0, 0, 0, 160), (26, 73, 0, 0, 0, 0), (28, 47, 16, 12, 4, 0), (31, 7, 0, 0, 0, 0), (32, 1, 0, 0, 0, 24), (34, 73, 0, 0, 0, 0), (36, 47, 19, 12, 6, 0), (39, 7, 0, 0, 0, 0), (40, 1, 0, 0, 0, 24), (42, 73, 0, 0, 0, 0), (44, 47, 22, 12, 7, 0), (47, 7, 0, 0, 0, 0), (48, 1, 0, 0, 0, 24), (50, 73, 0, 0, 0, 0), (52, 47, 25, 12, 8, 0), (55, 7, 0, 0, 0, 0), (56, 1, 0, 0, 0, 24), (58, 73, 0, 0, 0, 0), (60, 47, 28, 12, 9, 0), (63, 7, 0, 0, 0, 0), (64, 1, 0, 0, 0, 24), (66, 73, 0, 0, 0, 0), (68, 47, 31, 12, 10, 0), (71, 7, 0, 0, 0, 0), (72, 1, 0, 0, 0, 24), (74, 73, 0, 0, 0, 0), (76, 47, 34, 12, 11, 0), (79, 7, 0, 0, 0, 0), (80, 1, 0, 0, 0, 24), (82, 73, 0, 0, 0, 0), (84, 47, 37, 12, 12, 0), (87, 7, 0, 0, 0, 0), (88, 1, 0, 0, 0, 24), (90, 73, 0, 0, 0, 0), (92, 47, 40, 12, 13, 0), (95, 7, 0, 0, 0, 0), (96, 1, 0, 0, 0, 24), (98, 73, 0, 2, 0, 0), (100, 47, 43, 12, 14, 0), (103, 7, 0, 0, 0, 0), (104, 1, 0, 0, 0, 48), (106, 73, 0, 0, 0, 0), (108, 47, 47, 12, 15, 0), (111, 7, 0, 0, 0, 0), (112, 1, 0, 0, 0, 48), (114, 73, 0, 0, 0, 0), (116, 47, 50, 12, 16, 0), (119, 7, 0, 0, 0, 0), (120, 1, 0, 0, 0, 7), (122, 73, 0, 0, 0, 0), (124, 47, 53, 12, 17, 0), (127, 7, 0, 0, 0, 0), (128, 1, 0, 0, 0, 7), (130, 73, 0, 0, 0, 0), (132, 47, 56, 12, 18, 0), (135, 7, 0, 0, 0, 0), (136, 1, 0, 0, 0, 7), (138, 73, 0, 0, 0, 0), (140, 47, 59, 12, 19, 0), (143, 7, 0, 0, 0, 0), (144, 1, 0, 0, 0, 6), (146, 73, 0, 0, 0, 0), (148, 47, 62, 12, 22, 0), (151, 7, 0, 0, 0, 0), (152, 1, 0, 0, 0, 6), (154, 73, 0, 0, 0, 0), (156, 47, 65, 12, 23, 0), (159, 7, 0, 0, 0, 0), (160, 1, 0, 0, 0, 6), (162, 73, 0, 0, 0, 0), (164, 47, 68, 12, 24, 0), (167, 7, 0, 0, 0, 0), (168, 1, 0, 0, 0, 6), (170, 73, 0, 0, 0, 0), (172, 47, 71, 12, 25, 0), (175, 7, 0, 0, 0, 0), (176, 1, 0, 0, 0, 6), (178, 73, 0, 2, 0, 0), (180, 47, 74, 12, 26, 0), (183, 7, 0, 0, 0, 0), (184, 1, 0, 0, 0, 6), (186, 73, 0, 2, 0, 0), (188, 47, 77, 12, 27, 0), (191, 7, 0, 0, 0, 0), (192, 1, 0, 0, 0, 6), (194, 73, 0, 0, 0, 0), (196, 47, 80, 12, 28, 0), (199, 7, 0, 0, 0, 0), (200, 1, 0, 0, 0, 6), (202, 73, 0, 0, 0, 0), (204, 47, 83, 12, 29, 0), (207, 7, 0, 0, 0, 0), (208, 1, 0, 0, 0, 6), (210, 73, 0, 0, 0, 0), (212, 47, 86, 12, 30, 0), (215, 7, 0, 0, 0, 0), (216, 1, 0, 0, 0, 6), (218, 73, 0, 0, 0, 0), (220, 47, 89, 12, 31, 0), (223, 7, 0, 0, 0, 0), (224, 1, 0, 0, 0, 6), (226, 73, 0, 0, 0, 0), (228, 47, 92, 12, 32, 0), (231, 7, 0, 0, 0, 0), (232, 1, 0, 0, 0, 12), (234, 73, 0, 0, 0, 0), (236, 47, 95, 12, 33, 0), (239, 7, 0, 0, 0, 0), (240, 1, 0, 0, 0, 12), (242, 73, 0, 0, 0, 0), (244, 47, 98, 12, 34, 0), (247, 7, 0, 0, 0, 0), (248, 1, 0, 0, 0, 12), (250, 73, 0, 0, 0, 0), (252, 47, 101, 12, 35, 0), (255, 7, 0, 0, 0, 0), (256, 1, 0, 0, 0, 12), (258, 73, 0, 0, 0, 0), (260, 47, 104, 12, 36, 0), (263, 7, 0, 0, 0, 0), (264, 1, 0, 0, 0, 6), (266, 73, 0, 0, 0, 0), (268, 47, 107, 12, 37, 0), (271, 7, 0, 0, 0, 0), (272, 1, 0, 0, 0, 6), (274, 73, 0, 0, 0, 0), (276, 47, 110, 12, 38, 0), (279, 7, 0, 0, 0, 0), (280, 1, 0, 0, 0, 64), (282, 73, 0, 0, 0, 0), (284, 47, 113, 12, 39, 0), (287, 7, 0, 0, 0, 0), (288, 1, 0, 0, 0, 24), (290, 73, 0, 0, 0, 0), (292, 47, 116, 12, 41, 0), (295, 7, 0, 0, 0, 0), (296, 1, 0, 0, 0, 24), (298, 73, 0, 0, 0, 0), (300, 47, 119, 12, 42, 0), (303, 7, 0, 0, 0, 0), (304, 1, 0, 0, 0, 10), (306, 73, 0, 0, 0, 0), (308, 47, 122, 12, 43, 0), (311, 7, 0, 0, 0, 0), (312, 1, 0, 0, 0, 10), (314, 73, 0, 0, 0, 0), (316, 47, 125, 12, 44, 0), (319, 7, 0, 0, 0, 0), (320, 2, 0, 0, 0, 160), (323, 73, 0, 0, 0, 0), (325, 47, 128, 12, 45, 0), (328, 91, 0, 0, 0, 0)]
/-- Source_append -/
def jo_13 : List (Nat × Nat × Nat × Nat × Nat × Int32) := [(0, 7, 0, 0, 0, 0), (1, 45, 15, 1, 1, 0), (4, 2, 0, 0, 0, 160), (7, 39, 22, 0, 0, 0), (10, 5, 1, 0, 0, 0), (11, 1, 0, 0, 0, 32), (13, 38, 22, 0, 0, 0), (16, 5, 1, 0, 0, 0), (17, 1, 0, 0, 0, 126), (19, 41, 24, 0, 0, 0), (22, 0, 0, 0, 0, 0), (23, 90, 0, 0, 0, 0), (24, 7, 0, 0, 0, 0), (25, 45, 9, 1, 0, 0), (28, 7, 0, 0, 0, 0), (29, 45, 15, 1, 1, 0), (32, 5, 1, 0, 0, 0), (33, 56, 0, 0, 0, 0), (34, 7, 0, 0, 0, 0), (35, 26, 0, 0, 0, 0), (36, 45, 15, 1, 1, 0), (39, 0, 0, 0, 0, 1), (40, 14, 0, 0, 0, 0), (41, 47, 15, 1, 1, 0), (44, 0, 0, 0, 0, 1), (45, 90, 0, 0, 0, 0)]
/-- PathPatcher_noteNewText -/
def jo_14 : List (Nat × Nat × Nat × Nat × Nat × Int32) := [(0, 7, 0, 0, 0, 0), (1, 0, 0, 0, 0, 0), (2, 47, 175, 0, 7, 0), (5, 7, 0, 0, 0, 0), (6, 0, 0, 0, 0, 0), (7, 47, 108, 0, 8, 0), (10, 91, 0, 0, 0, 0)]
/-- PathPatcher_type -/
def jo_15 : List (Nat × Nat × Nat × Nat × Nat × Int32) := [(0, 7, 0, 0, 0, 0), (1, 45, 10, 0, 0, 0), (4, 5, 1, 0, 0, 0), (5, 80, 57, 13, 2, 0), (8, 31, 13, 0, 0, 0), (11, 0, 0, 0, 0, 0), (12, 90, 0, 0, 0, 0), (13, 7, 0, 0, 0, 0), (14, 80, 61, 14, 1, 0), (17, 0, 0, 0, 0, 1), (18, 90, 0, 0, 0, 0)]
/-- M_type -/
def jo_16 : List (Nat × Nat × Nat × Nat × Nat × Int32) := [(0, 7, 0, 0, 0, 0), (1, 45, 131, 12, 0, 0), (4, 2, 0, 0, 0, 160), (7, 36, 22, 0, 0, 0), (10, 5, 1, 0, 0, 0), (11, 1, 0, 0, 0, 32), (13, 38, 22, 0, 0, 0), (16, 5, 1, 0, 0, 0), (17, 1, 0, 0, 0, 126), (19, 41, 24, 0, 0, 0), (22, 0, 0, 0, 0, 0), (23, 90, 0, 0, 0, 0), (24, 7, 0, 0, 0, 0), (25, 45, 7, 12, 1, 0), (28, 7, 0, 0, 0, 0), (29, 45, 131, 12, 0, 0), (32, 5, 1, 0, 0, 0), (33, 55, 0, 0, 0, 0), (34, 7, 0, 0, 0, 0), (35, 26, 0, 0, 0, 0), (36, 45, 131, 12, 0, 0), (39, 0, 0, 0, 0, 1), (40, 14, 0, 0, 0, 0), (41, 47, 131, 12, 0, 0), (44, 0, 0, 0, 0, 1), (45, 90, 0, 0, 0, 0)]
/-- Source_empty -/
def jo_17 : List (Nat × Nat × Nat × Nat × Nat × Int32) := [(0, 7, 0, 0, 0, 0), (1, 0, 0, 0, 0, 0), (2, 47, 15, 1, 1, 0), (5, 91, 0, 0, 0, 0)]
/-- PathPatcher_clear -/
def jo_18 : List (Nat × Nat × Nat × Nat × Nat × Int32) := [(0, 7, 0, 0, 0, 0), (1, 45, 10, 0, 0, 0), (4, 80, 64, 17, 1, 0), (7, 7, 0, 0, 0, 0), (8, 80, 61, 14, 1, 0), (11, 91, 0, 0, 0, 0)]
/-- M_clear -/
def jo_19 : List (Nat × Nat × Nat × Nat × Nat × Int32) := [(0, 7, 0, 0, 0, 0), (1, 0, 0, 0, 0, 0), (2, 47, 131, 12, 0, 0), (5, 91, 0, 0, 0, 0)]
/-- Source_size -/
def jo_20 : List (Nat × Nat × Nat × Nat × Nat × Int32) := [(0, 7, 0, 0, 0, 0), (1, 45, 15, 1, 1, 0), (4, 90, 0, 0, 0, 0)]
/-- PathPatcher_length -/
def jo_21 : List (Nat × Nat × Nat × Nat × Nat × Int32) := [(0, 7, 0, 0, 0, 0), (1, 45, 10, 0, 0, 0), (4, 80, 67, 20, 1, 0), (7, 90, 0, 0, 0, 0)]
/-- M_length -/
def jo_22 : List (Nat × Nat × Nat × Nat × Nat × Int32) := [(0, 7, 0, 0, 0, 0), (1, 45, 131, 12, 0, 0), (4, 90, 0, 0, 0, 0)]
/-- Source_holds -/
def jo_23 : List (Nat × Nat × Nat × Nat × Nat × Int32) := [(0, 5, 1, 0, 0, 0), (1, 32, 16, 0, 0, 0), (4, 5, 1, 0, 0, 0), (5, 7, 0, 0, 0, 0), (6, 45, 15, 1, 1, 0), (9, 39, 16, 0, 0, 0), (12, 0, 0, 0, 0, 1), (13, 42, 17, 0, 0, 0), (16, 0, 0, 0, 0, 0), (17, 90, 0, 0, 0, 0)]
/-- Source_charOf -/
def jo_24 : List (Nat × Nat × Nat × Nat × Nat × Int32) := [(0, 7, 0, 0, 0, 0), (1, 5, 1, 0, 0, 0), (2, 80, 19, 23, 2, 0), (5, 30, 17, 0, 0, 0), (8, 7, 0, 0, 0, 0), (9, 45, 9, 1, 0, 0), (12, 5, 1, 0, 0, 0), (13, 51, 0, 0, 0, 0), (14, 42, 18, 0, 0, 0), (17, 0, 0, 0, 0, 0), (18, 90, 0, 0, 0, 0)]
/-- PathPatcher_at -/
def jo_25 : List (Nat × Nat × Nat × Nat × Nat × Int32) := [(0, 7, 0, 0, 0, 0), (1, 45, 10, 0, 0, 0), (4, 5, 1, 0, 0, 0), (5, 80, 71, 23, 2, 0), (8, 30, 22, 0, 0, 0), (11, 7, 0, 0, 0, 0), (12, 45, 10, 0, 0, 0), (15, 5, 1, 0, 0, 0), (16, 80, 75, 24, 2, 0), (19, 42, 23, 0, 0, 0), (22, 0, 0, 0, 0, (-1)), (23, 90, 0, 0, 0, 0)]
/-- M_at -/
def jo_26 : List (Nat × Nat × Nat × Nat × Nat × Int32) := [(0, 5, 1, 0, 0, 0), (1, 32, 12, 0, 0, 0), (4, 5, 1, 0, 0, 0), (5, 7, 0, 0, 0, 0), (6, 45, 131, 12, 0, 0), (9, 38, 16, 0, 0, 0), (12, 0, 0, 0, 0, (-1)), (13, 42, 22, 0, 0, 0), (16, 7, 0, 0, 0, 0), (17, 45, 7, 12, 1, 0), (20, 5, 1, 0, 0, 0), (21, 50, 0, 0, 0, 0), (22, 90, 0, 0, 0, 0)]
/-- Program_empty -/
def jo_27 : List (Nat × Nat × Nat × Nat × Nat × Int32) := [(0, 7, 0, 0, 0, 0), (1, 0, 0, 0, 0, 0), (2, 47, 18, 2, 1, 0), (5, 91, 0, 0, 0, 0)]
/-- Tokens_append -/
def jo_28 : List (Nat × Nat × Nat × Nat × Nat × Int32) := [(0, 7, 0, 0, 0, 0), (1, 45, 19, 5, 2, 0), (4, 2, 0, 0, 0, 160), (7, 39, 40, 0, 0, 0), (10, 7, 0, 0, 0, 0), (11, 45, 9, 5, 0, 0), (14, 7, 0, 0, 0, 0), (15, 45, 19, 5, 2, 0), (18, 5, 1, 0, 0, 0), (19, 56, 0, 0, 0, 0), (20, 7, 0, 0, 0, 0), (21, 45, 15, 5, 1, 0), (24, 7, 0, 0, 0, 0), (25, 45, 19, 5, 2, 0), (28, 5, 2, 0, 0, 0), (29, 55, 0, 0, 0, 0), (30, 7, 0, 0, 0, 0), (31, 26, 0, 0, 0, 0), (32, 45, 19, 5, 2, 0), (35, 0, 0, 0, 0, 1), (36, 14, 0, 0, 0, 0), (37, 47, 19, 5, 2, 0), (40, 91, 0, 0, 0, 0)]
/-- Tokens_scan -/
def jo_29 : List (Nat × Nat × Nat × Nat × Nat × Int32) := [(0, 7, 0, 0, 0, 0), (1, 0, 0, 0, 0, 0), (2, 47, 19, 5, 2, 0), (5, 0, 0, 0, 0, 0), (6, 9, 2, 0, 0, 0), (7, 0, 0, 0, 0, 0), (8, 9, 3, 0, 0, 0), (9, 5, 3, 0, 0, 0), (10, 7, 1, 0, 0, 0), (11, 80, 23, 20, 1, 0), (14, 39, 68, 0, 0, 0), (17, 7, 1, 0, 0, 0), (18, 5, 3, 0, 0, 0), (19, 80, 29, 24, 2, 0), (22, 10, 4, 0, 0, 0), (24, 6, 4, 0, 0, 0), (26, 1, 0, 0, 0, 35), (28, 37, 44, 0, 0, 0), (31, 5, 2, 0, 0, 0), (32, 31, 39, 0, 0, 0), (35, 0, 0, 0, 0, 1), (36, 42, 40, 0, 0, 0), (39, 0, 0, 0, 0, 0), (40, 9, 2, 0, 0, 0), (41, 42, 62, 0, 0, 0), (44, 5, 2, 0, 0, 0), (45, 31, 62, 0, 0, 0), (48, 6, 4, 0, 0, 0), (50, 1, 0, 0, 0, 32), (52, 36, 62, 0, 0, 0), (55, 7, 0, 0, 0, 0), (56, 6, 4, 0, 0, 0), (58, 5, 3, 0, 0, 0), (59, 80, 33, 28, 3, 0), (62, 13, 3, 0, 0, 1), (65, 42, 9, 0, 0, 0), (68, 5, 2, 0, 0, 0), (69, 31, 76, 0, 0, 0), (72, 0, 0, 0, 0, 1), (73, 42, 77, 0, 0, 0), (76, 0, 0, 0, 0, 0), (77, 90, 0, 0, 0, 0)]
/-- Tokens_size -/
def jo_30 : List (Nat × Nat × Nat × Nat × Nat × Int32) := [(0, 7, 0, 0, 0, 0), (1, 45, 19, 5, 2, 0), (4, 90, 0, 0, 0, 0)]
/-- Tokens_sign -/
def jo_31 : List (Nat × Nat × Nat × Nat × Nat × Int32) := [(0, 5, 1, 0, 0, 0), (1, 32, 21, 0, 0, 0), (4, 5, 1, 0, 0, 0), (5, 7, 0, 0, 0, 0), (6, 45, 19, 5, 2, 0), (9, 39, 21, 0, 0, 0), (12, 7, 0, 0, 0, 0), (13, 45, 9, 5, 0, 0), (16, 5, 1, 0, 0, 0), (17, 51, 0, 0, 0, 0), (18, 42, 22, 0, 0, 0), (21, 0, 0, 0, 0, 0), (22, 90, 0, 0, 0, 0)]
/-- Parser_ahead -/
def jo_32 : List (Nat × Nat × Nat × Nat × Nat × Int32) := [(0, 7, 0, 0, 0, 0), (1, 45, 12, 4, 1, 0), (4, 7, 0, 0, 0, 0), (5, 45, 37, 4, 6, 0), (8, 5, 1, 0, 0, 0), (9, 14, 0, 0, 0, 0), (10, 80, 84, 31, 2, 0), (13, 90, 0, 0, 0, 0)]
/-- Program_node -/
def jo_33 : List (Nat × Nat × Nat × Nat × Nat × Int32) := [(0, 7, 0, 0, 0, 0), (1, 45, 11, 2, 0, 0), (4, 5, 1, 0, 0, 0), (5, 32, 20, 0, 0, 0), (8, 5, 1, 0, 0, 0), (9, 7, 0, 0, 0, 0), (10, 45, 18, 2, 1, 0), (13, 39, 20, 0, 0, 0), (16, 5, 1, 0, 0, 0), (17, 42, 21, 0, 0, 0), (20, 0, 0, 0, 0, 0), (21, 53, 0, 0, 0, 0), (22, 92, 0, 0, 0, 0)]
/-- Parser_openRow -/
def jo_34 : List (Nat × Nat × Nat × Nat × Nat × Int32) := [(0, 7, 0, 0, 0, 0), (1, 0, 0, 0, 0, 0), (2, 80, 52, 32, 2, 0), (5, 1, 0, 0, 0, 123), (7, 37, 19, 0, 0, 0), (10, 7, 0, 0, 0, 0), (11, 45, 41, 4, 5, 0), (14, 1, 0, 0, 0, 6), (16, 38, 21, 0, 0, 0), (19, 0, 0, 0, 0, 0), (20, 90, 0, 0, 0, 0), (21, 7, 0, 0, 0, 0), (22, 26, 0, 0, 0, 0), (23, 45, 37, 4, 6, 0), (26, 0, 0, 0, 0, 1), (27, 14, 0, 0, 0, 0), (28, 47, 37, 4, 6, 0), (31, 7, 0, 0, 0, 0), (32, 26, 0, 0, 0, 0), (33, 45, 41, 4, 5, 0), (36, 0, 0, 0, 0, 1), (37, 14, 0, 0, 0, 0), (38, 47, 41, 4, 5, 0), (41, 7, 0, 0, 0, 0), (42, 45, 18, 4, 2, 0), (45, 7, 0, 0, 0, 0), (46, 45, 41, 4, 5, 0), (49, 5, 1, 0, 0, 0), (50, 55, 0, 0, 0, 0), (51, 7, 0, 0, 0, 0), (52, 45, 22, 4, 3, 0), (55, 7, 0, 0, 0, 0), (56, 45, 41, 4, 5, 0), (59, 5, 2, 0, 0, 0), (60, 55, 0, 0, 0, 0), (61, 7, 0, 0, 0, 0), (62, 45, 25, 4, 4, 0), (65, 7, 0, 0, 0, 0), (66, 45, 41, 4, 5, 0), (69, 0, 0, 0, 0, (-1)), (70, 55, 0, 0, 0, 0), (71, 0, 0, 0, 0, 1), (72, 90, 0, 0, 0, 0)]
/-- Parser_closeRow -/
def jo_35 : List (Nat × Nat × Nat × Nat × Nat × Int32) := [(0, 7, 0, 0, 0, 0), (1, 45, 41, 4, 5, 0), (4, 34, 9, 0, 0, 0), (7, 0, 0, 0, 0, 0), (8, 90, 0, 0, 0, 0), (9, 7, 0, 0, 0, 0), (10, 45, 18, 4, 2, 0), (13, 7, 0, 0, 0, 0), (14, 45, 41, 4, 5, 0), (17, 50, 0, 0, 0, 0), (18, 9, 1, 0, 0, 0), (19, 7, 0, 0, 0, 0), (20, 45, 22, 4, 3, 0), (23, 7, 0, 0, 0, 0), (24, 45, 41, 4, 5, 0), (27, 50, 0, 0, 0, 0), (28, 31, 49, 0, 0, 0), (31, 7, 0, 0, 0, 0), (32, 45, 28, 4, 0, 0), (35, 5, 1, 0, 0, 0), (36, 80, 110, 33, 2, 0), (39, 46, 99, 3, 4, 0), (42, 31, 49, 0, 0, 0), (45, 0, 0, 0, 0, 1), (46, 42, 50, 0, 0, 0), (49, 0, 0, 0, 0, 0), (50, 9, 2, 0, 0, 0), (51, 7, 0, 0, 0, 0), (52, 26, 0, 0, 0, 0), (53, 45, 37, 4, 6, 0), (56, 0, 0, 0, 0, 1), (57, 14, 0, 0, 0, 0), (58, 47, 37, 4, 6, 0), (61, 7, 0, 0, 0, 0), (62, 26, 0, 0, 0, 0), (63, 45, 41, 4, 5, 0), (66, 0, 0, 0, 0, 1), (67, 15, 0, 0, 0, 0), (68, 47, 41, 4, 5, 0), (71, 5, 2, 0, 0, 0), (72, 30, 102, 0, 0, 0), (75, 7, 0, 0, 0, 0), (76, 0, 0, 0, 0, 0), (77, 80, 52, 32, 2, 0), (80, 1, 0, 0, 0, 58), (82, 37, 102, 0, 0, 0), (85, 7, 0, 0, 0, 0), (86, 26, 0, 0, 0, 0), (87, 45, 37, 4, 6, 0), (90, 0, 0, 0, 0, 1), (91, 14, 0, 0, 0, 0), (92, 47, 37, 4, 6, 0), (95, 7, 0, 0, 0, 0), (96, 5, 1, 0, 0, 0), (97, 0, 0, 0, 0, 1), (98, 80, 103, 34, 3, 0), (101, 90, 0, 0, 0, 0), (102, 0, 0, 0, 0, 1), (103, 90, 0, 0, 0, 0)]
/-- Program_isFull -/
def jo_36 : List (Nat × Nat × Nat × Nat × Nat × Int32) := [(0, 7, 0, 0, 0, 0), (1, 45, 18, 2, 1, 0), (4, 1, 0, 0, 0, 24), (6, 38, 13, 0, 0, 0), (9, 0, 0, 0, 0, 1), (10, 42, 14, 0, 0, 0), (13, 0, 0, 0, 0, 0), (14, 90, 0, 0, 0, 0)]
/-- String_isLatin1 -/
def jo_37 : List (Nat × Nat × Nat × Nat × Nat × Int32) := [(0, 61, 38, 0, 0, 0), (3, 30, 17, 0, 0, 0), (6, 7, 0, 0, 0, 0), (7, 63, 15, 0, 0, 0), (10, 31, 17, 0, 0, 0), (13, 0, 0, 0, 0, 1), (14, 42, 18, 0, 0, 0), (17, 0, 0, 0, 0, 0), (18, 90, 0, 0, 0, 0)]
/-- String_coder -/
def jo_38 : List (Nat × Nat × Nat × Nat × Nat × Int32) := [(0, 61, 38, 0, 0, 0), (3, 30, 13, 0, 0, 0), (6, 7, 0, 0, 0, 0), (7, 63, 15, 0, 0, 0), (10, 42, 14, 0, 0, 0), (13, 0, 0, 0, 0, 1), (14, 90, 0, 0, 0, 0)]
/-- String_length -/
def jo_39 : List (Nat × Nat × Nat × Nat × Nat × Int32) := [(0, 7, 0, 0, 0, 0), (1, 64, 9, 0, 0, 0), (4, 66, 0, 0, 0, 0), (5, 7, 0, 0, 0, 0), (6, 86, 335, 38, 1, 0), (9, 21, 0, 0, 0, 0), (10, 90, 0, 0, 0, 0)]
/-- StringLatin1_canEncode -/
def jo_40 : List (Nat × Nat × Nat × Nat × Nat × Int32) := [(0, 5, 0, 0, 0, 0), (1, 32, 15, 0, 0, 0), (4, 5, 0, 0, 0, 0), (5, 2, 0, 0, 0, 255), (8, 40, 15, 0, 0, 0), (11, 0, 0, 0, 0, 1), (12, 42, 16, 0, 0, 0), (15, 0, 0, 0, 0, 0), (16, 90, 0, 0, 0, 0)]
/-- StringLatin1_indexOfChar -/
def jo_41 : List (Nat × Nat × Nat × Nat × Nat × Int32) := [(0, 5, 1, 0, 0, 0), (1, 24, 0, 0, 0, 0), (2, 10, 4, 0, 0, 0), (4, 5, 2, 0, 0, 0), (5, 10, 5, 0, 0, 0), (7, 6, 5, 0, 0, 0), (9, 5, 3, 0, 0, 0), (10, 39, 31, 0, 0, 0), (13, 7, 0, 0, 0, 0), (14, 6, 5, 0, 0, 0), (16, 65, 0, 0, 0, 0), (17, 6, 4, 0, 0, 0), (19, 37, 25, 0, 0, 0), (22, 6, 5, 0, 0, 0), (24, 90, 0, 0, 0, 0), (25, 13, 5, 0, 0, 1), (28, 42, 7, 0, 0, 0), (31, 0, 0, 0, 0, (-1)), (32, 90, 0, 0, 0, 0)]
/-- StringLatin1_indexOf -/
def jo_42 : List (Nat × Nat × Nat × Nat × Nat × Int32) := [(0, 5, 1, 0, 0, 0), (1, 81, 88, 40, 1, 0), (4, 31, 9, 0, 0, 0), (7, 0, 0, 0, 0, (-1)), (8, 90, 0, 0, 0, 0), (9, 5, 2, 0, 0, 0), (10, 0, 0, 0, 0, 0), (11, 43, 92, 0, 0, 0), (14, 9, 2, 0, 0, 0), (15, 5, 3, 0, 0, 0), (16, 7, 0, 0, 0, 0), (17, 66, 0, 0, 0, 0), (18, 44, 38, 0, 0, 0), (21, 9, 3, 0, 0, 0), (22, 5, 2, 0, 0, 0), (23, 5, 3, 0, 0, 0), (24, 38, 29, 0, 0, 0), (27, 0, 0, 0, 0, (-1)), (28, 90, 0, 0, 0, 0), (29, 7, 0, 0, 0, 0), (30, 5, 1, 0, 0, 0), (31, 5, 2, 0, 0, 0), (32, 5, 3, 0, 0, 0), (33, 81, 95, 41, 4, 0), (36, 90, 0, 0, 0, 0)]
/-- String_indexOf1 -/
def jo_43 : List (Nat × Nat × Nat × Nat × Nat × Int32) := [(0, 7, 0, 0, 0, 0), (1, 86, 492, 37, 1, 0), (4, 30, 23, 0, 0, 0), (7, 7, 0, 0, 0, 0), (8, 64, 9, 0, 0, 0), (11, 5, 1, 0, 0, 0), (12, 5, 2, 0, 0, 0), (13, 7, 0, 0, 0, 0), (14, 86, 505, 39, 1, 0), (17, 81, 637, 42, 4, 0), (20, 42, 36, 0, 0, 0), (23, 7, 0, 0, 0, 0), (24, 64, 9, 0, 0, 0), (27, 5, 1, 0, 0, 0), (28, 5, 2, 0, 0, 0), (29, 7, 0, 0, 0, 0), (30, 86, 505, 39, 1, 0), (36, 90, 0, 0, 0, 0)]
/-- String_indexOf2 -/
def jo_44 : List (Nat × Nat × Nat × Nat × Nat × Int32) := [(0, 7, 0, 0, 0, 0), (1, 5, 1, 0, 0, 0), (2, 0, 0, 0, 0, 0), (3, 86, 633, 43, 3, 0), (6, 90, 0, 0, 0, 0)]
/-- Program_append -/
def jo_45 : List (Nat × Nat × Nat × Nat × Nat × Int32) := [(0, 7, 0, 0, 0, 0), (1, 45, 18, 2, 1, 0), (4, 1, 0, 0, 0, 24), (6, 39, 19, 0, 0, 0), (9, 7, 0, 0, 0, 0), (10, 26, 0, 0, 0, 0), (11, 45, 18, 2, 1, 0), (14, 0, 0, 0, 0, 1), (15, 14, 0, 0, 0, 0), (16, 47, 18, 2, 1, 0), (19, 7, 0, 0, 0, 0), (20, 45, 18, 2, 1, 0), (23, 0, 0, 0, 0, 1), (24, 15, 0, 0, 0, 0), (25, 90, 0, 0, 0, 0)]
/-- Tokens_place -/
def jo_46 : List (Nat × Nat × Nat × Nat × Nat × Int32) := [(0, 5, 1, 0, 0, 0), (1, 32, 21, 0, 0, 0), (4, 5, 1, 0, 0, 0), (5, 7, 0, 0, 0, 0), (6, 45, 19, 5, 2, 0), (9, 39, 21, 0, 0, 0), (12, 7, 0, 0, 0, 0), (13, 45, 15, 5, 1, 0), (16, 5, 1, 0, 0, 0), (17, 50, 0, 0, 0, 0), (18, 42, 22, 0, 0, 0), (21, 0, 0, 0, 0, (-1)), (22, 90, 0, 0, 0, 0)]
/-- Node_standAt -/
def jo_47 : List (Nat × Nat × Nat × Nat × Nat × Int32) := [(0, 7, 0, 0, 0, 0), (1, 5, 1, 0, 0, 0), (2, 47, 24, 3, 5, 0), (5, 7, 0, 0, 0, 0), (6, 5, 2, 0, 0, 0), (7, 47, 27, 3, 6, 0), (10, 7, 0, 0, 0, 0), (11, 5, 3, 0, 0, 0), (12, 47, 30, 3, 7, 0), (15, 7, 0, 0, 0, 0), (16, 0, 0, 0, 0, 0), (17, 47, 33, 3, 4, 0), (20, 7, 0, 0, 0, 0), (21, 0, 0, 0, 0, (-1)), (22, 47, 37, 3, 8, 0), (25, 7, 0, 0, 0, 0), (26, 0, 0, 0, 0, (-1)), (27, 47, 40, 3, 9, 0), (30, 7, 0, 0, 0, 0), (31, 0, 0, 0, 0, (-1)), (32, 47, 43, 3, 10, 0), (35, 91, 0, 0, 0, 0)]
/-- Parser_addNode -/
def jo_48 : List (Nat × Nat × Nat × Nat × Nat × Int32) := [(0, 7, 0, 0, 0, 0), (1, 45, 28, 4, 0, 0), (4, 80, 107, 45, 1, 0), (7, 9, 2, 0, 0, 0), (8, 7, 0, 0, 0, 0), (9, 45, 28, 4, 0, 0), (12, 5, 2, 0, 0, 0), (13, 80, 110, 33, 2, 0), (16, 11, 3, 0, 0, 0), (17, 7, 0, 0, 0, 0), (18, 45, 18, 4, 2, 0), (21, 7, 0, 0, 0, 0), (22, 45, 41, 4, 5, 0), (25, 50, 0, 0, 0, 0), (26, 10, 4, 0, 0, 0), (28, 7, 3, 0, 0, 0), (29, 7, 0, 0, 0, 0), (30, 45, 12, 4, 1, 0), (33, 7, 0, 0, 0, 0), (34, 45, 37, 4, 6, 0), (37, 80, 113, 46, 2, 0), (40, 7, 0, 0, 0, 0), (41, 45, 12, 4, 1, 0), (44, 7, 0, 0, 0, 0), (45, 45, 37, 4, 6, 0), (48, 5, 1, 0, 0, 0), (49, 14, 0, 0, 0, 0), (50, 0, 0, 0, 0, 1), (51, 15, 0, 0, 0, 0), (52, 80, 113, 46, 2, 0), (55, 6, 4, 0, 0, 0), (57, 80, 116, 47, 4, 0), (60, 7, 0, 0, 0, 0), (61, 45, 25, 4, 4, 0), (64, 7, 0, 0, 0, 0), (65, 45, 41, 4, 5, 0), (68, 50, 0, 0, 0, 0), (69, 0, 0, 0, 0, (-1)), (70, 36, 96, 0, 0, 0), (73, 7, 0, 0, 0, 0), (74, 45, 28, 4, 0, 0), (77, 7, 0, 0, 0, 0), (78, 45, 25, 4, 4, 0), (81, 7, 0, 0, 0, 0), (82, 45, 41, 4, 5, 0), (85, 50, 0, 0, 0, 0), (86, 80, 110, 33, 2, 0), (89, 5, 2, 0, 0, 0), (90, 49, 120, 3, 8, 0), (93, 42, 149, 0, 0, 0), (96, 6, 4, 0, 0, 0), (98, 0, 0, 0, 0, (-1)), (99, 36, 130, 0, 0, 0), (102, 7, 0, 0, 0, 0), (103, 45, 22, 4, 3, 0), (106, 7, 0, 0, 0, 0), (107, 45, 41, 4, 5, 0), (110, 50, 0, 0, 0, 0), (111, 31, 130, 0, 0, 0), (114, 7, 0, 0, 0, 0), (115, 45, 28, 4, 0, 0), (118, 6, 4, 0, 0, 0), (120, 80, 110, 33, 2, 0), (123, 5, 2, 0, 0, 0), (124, 49, 123, 3, 9, 0), (127, 42, 149, 0, 0, 0), (130, 6, 4, 0, 0, 0), (132, 0, 0, 0, 0, (-1)), (133, 36, 149, 0, 0, 0), (136, 7, 0, 0, 0, 0), (137, 45, 28, 4, 0, 0), (140, 6, 4, 0, 0, 0), (142, 80, 110, 33, 2, 0), (145, 5, 2, 0, 0, 0), (146, 49, 126, 3, 10, 0), (149, 7, 0, 0, 0, 0), (150, 45, 25, 4, 4, 0), (153, 7, 0, 0, 0, 0), (154, 45, 41, 4, 5, 0), (157, 5, 2, 0, 0, 0), (158, 55, 0, 0, 0, 0), (159, 7, 0, 0, 0, 0), (160, 26, 0, 0, 0, 0), (161, 45, 37, 4, 6, 0), (164, 5, 1, 0, 0, 0), (165, 14, 0, 0, 0, 0), (166, 47, 37, 4, 6, 0), (169, 7, 3, 0, 0, 0), (170, 92, 0, 0, 0, 0)]
/-- Node_describe -/
def jo_49 : List (Nat × Nat × Nat × Nat × Nat × Int32) := [(0, 7, 0, 0, 0, 0), (1, 5, 1, 0, 0, 0), (2, 47, 9, 3, 0, 0), (5, 7, 0, 0, 0, 0), (6, 5, 2, 0, 0, 0), (7, 47, 15, 3, 1, 0), (10, 7, 0, 0, 0, 0), (11, 5, 3, 0, 0, 0), (12, 47, 18, 3, 2, 0), (15, 7, 0, 0, 0, 0), (16, 6, 4, 0, 0, 0), (18, 47, 21, 3, 3, 0), (21, 91, 0, 0, 0, 0)]
/-- Parser_readTest -/
def jo_50 : List (Nat × Nat × Nat × Nat × Nat × Int32) := [(0, 60, 87, 0, 0, 0), (2, 7, 0, 0, 0, 0), (3, 0, 0, 0, 0, 1), (4, 80, 52, 32, 2, 0), (7, 86, 72, 44, 2, 0), (10, 9, 2, 0, 0, 0), (11, 5, 2, 0, 0, 0), (12, 33, 17, 0, 0, 0), (15, 0, 0, 0, 0, 0), (16, 90, 0, 0, 0, 0), (17, 7, 0, 0, 0, 0), (18, 0, 0, 0, 0, 2), (19, 80, 89, 48, 2, 0), (22, 11, 3, 0, 0, 0), (23, 7, 3, 0, 0, 0), (24, 0, 0, 0, 0, 3), (25, 0, 0, 0, 0, 0), (26, 5, 2, 0, 0, 0), (27, 0, 0, 0, 0, 0), (28, 80, 93, 49, 5, 0), (31, 7, 3, 0, 0, 0), (32, 5, 1, 0, 0, 0), (33, 49, 99, 3, 4, 0), (36, 7, 0, 0, 0, 0), (37, 7, 0, 0, 0, 0), (38, 45, 25, 4, 4, 0), (41, 7, 0, 0, 0, 0), (42, 45, 41, 4, 5, 0), (45, 50, 0, 0, 0, 0), (46, 0, 0, 0, 0, 0), (47, 80, 103, 34, 3, 0), (50, 90, 0, 0, 0, 0)]
/-- Parser_readReturn -/
def jo_51 : List (Nat × Nat × Nat × Nat × Nat × Int32) := [(0, 60, 87, 0, 0, 0), (2, 7, 0, 0, 0, 0), (3, 0, 0, 0, 0, 1), (4, 80, 52, 32, 2, 0), (7, 86, 72, 44, 2, 0), (10, 9, 1, 0, 0, 0), (11, 5, 1, 0, 0, 0), (12, 32, 25, 0, 0, 0), (15, 7, 0, 0, 0, 0), (16, 0, 0, 0, 0, 2), (17, 80, 52, 32, 2, 0), (20, 1, 0, 0, 0, 59), (22, 36, 27, 0, 0, 0), (25, 0, 0, 0, 0, 0), (26, 90, 0, 0, 0, 0), (27, 7, 0, 0, 0, 0), (28, 0, 0, 0, 0, 3), (29, 80, 89, 48, 2, 0), (32, 0, 0, 0, 0, 2), (33, 0, 0, 0, 0, 0), (34, 5, 1, 0, 0, 0), (35, 0, 0, 0, 0, 0), (36, 80, 93, 49, 5, 0), (39, 0, 0, 0, 0, 1), (40, 90, 0, 0, 0, 0)]
/-- Parser_readAssignment -/
def jo_52 : List (Nat × Nat × Nat × Nat × Nat × Int32) := [(0, 60, 87, 0, 0, 0), (2, 7, 0, 0, 0, 0), (3, 0, 0, 0, 0, 0), (4, 80, 52, 32, 2, 0), (7, 86, 72, 44, 2, 0), (10, 9, 1, 0, 0, 0), (11, 60, 87, 0, 0, 0), (13, 7, 0, 0, 0, 0), (14, 0, 0, 0, 0, 2), (15, 80, 52, 32, 2, 0), (18, 86, 72, 44, 2, 0), (21, 9, 2, 0, 0, 0), (22, 5, 1, 0, 0, 0), (23, 32, 50, 0, 0, 0), (26, 7, 0, 0, 0, 0), (27, 0, 0, 0, 0, 1), (28, 80, 52, 32, 2, 0), (31, 1, 0, 0, 0, 61), (33, 37, 50, 0, 0, 0), (36, 5, 2, 0, 0, 0), (37, 32, 50, 0, 0, 0), (40, 7, 0, 0, 0, 0), (41, 0, 0, 0, 0, 3), (42, 80, 52, 32, 2, 0), (45, 1, 0, 0, 0, 59), (47, 36, 52, 0, 0, 0), (50, 0, 0, 0, 0, 0), (51, 90, 0, 0, 0, 0), (52, 7, 0, 0, 0, 0), (53, 0, 0, 0, 0, 4), (54, 80, 89, 48, 2, 0), (57, 0, 0, 0, 0, 1), (58, 0, 0, 0, 0, 0), (59, 5, 1, 0, 0, 0), (60, 5, 2, 0, 0, 0), (61, 80, 93, 49, 5, 0), (64, 0, 0, 0, 0, 1), (65, 90, 0, 0, 0, 0)]
/-- Parser_readCall -/
def jo_53 : List (Nat × Nat × Nat × Nat × Nat × Int32) := [(0, 60, 70, 1, 0, 0), (2, 7, 0, 0, 0, 0), (3, 0, 0, 0, 0, 0), (4, 80, 52, 32, 2, 0), (7, 86, 72, 44, 2, 0), (10, 9, 1, 0, 0, 0), (11, 60, 87, 0, 0, 0), (13, 7, 0, 0, 0, 0), (14, 0, 0, 0, 0, 2), (15, 80, 52, 32, 2, 0), (18, 86, 72, 44, 2, 0), (21, 9, 2, 0, 0, 0), (22, 5, 1, 0, 0, 0), (23, 32, 60, 0, 0, 0), (26, 7, 0, 0, 0, 0), (27, 0, 0, 0, 0, 1), (28, 80, 52, 32, 2, 0), (31, 1, 0, 0, 0, 40), (33, 37, 60, 0, 0, 0), (36, 5, 2, 0, 0, 0), (37, 32, 60, 0, 0, 0), (40, 7, 0, 0, 0, 0), (41, 0, 0, 0, 0, 3), (42, 80, 52, 32, 2, 0), (45, 1, 0, 0, 0, 41), (47, 37, 60, 0, 0, 0), (50, 7, 0, 0, 0, 0), (51, 0, 0, 0, 0, 4), (52, 80, 52, 32, 2, 0), (55, 1, 0, 0, 0, 59), (57, 36, 62, 0, 0, 0), (60, 0, 0, 0, 0, 0), (61, 90, 0, 0, 0, 0), (62, 7, 0, 0, 0, 0), (63, 0, 0, 0, 0, 5), (64, 80, 89, 48, 2, 0), (67, 0, 0, 0, 0, 0), (68, 5, 1, 0, 0, 0), (69, 5, 2, 0, 0, 0), (70, 0, 0, 0, 0, 0), (71, 80, 93, 49, 5, 0), (74, 0, 0, 0, 0, 1), (75, 90, 0, 0, 0, 0)]
/-- Parser_read -/
def jo_54 : List (Nat × Nat × Nat × Nat × Nat × Int32) := [(0, 7, 0, 0, 0, 0), (1, 45, 28, 4, 0, 0), (4, 80, 32, 27, 1, 0), (7, 7, 0, 0, 0, 0), (8, 0, 0, 0, 0, 0), (9, 47, 37, 4, 6, 0), (12, 7, 0, 0, 0, 0), (13, 0, 0, 0, 0, 0), (14, 47, 41, 4, 5, 0), (17, 7, 0, 0, 0, 0), (18, 45, 18, 4, 2, 0), (21, 0, 0, 0, 0, 0), (22, 0, 0, 0, 0, (-1)), (23, 55, 0, 0, 0, 0), (24, 7, 0, 0, 0, 0), (25, 45, 22, 4, 3, 0), (28, 0, 0, 0, 0, 0), (29, 0, 0, 0, 0, 0), (30, 55, 0, 0, 0, 0), (31, 7, 0, 0, 0, 0), (32, 45, 25, 4, 4, 0), (35, 0, 0, 0, 0, 0), (36, 0, 0, 0, 0, (-1)), (37, 55, 0, 0, 0, 0), (38, 7, 0, 0, 0, 0), (39, 45, 12, 4, 1, 0), (42, 7, 1, 0, 0, 0), (43, 80, 44, 29, 2, 0), (46, 31, 51, 0, 0, 0), (49, 0, 0, 0, 0, 0), (50, 90, 0, 0, 0, 0), (51, 0, 0, 0, 0, 1), (52, 9, 2, 0, 0, 0), (53, 0, 0, 0, 0, 0), (54, 9, 3, 0, 0, 0), (55, 5, 3, 0, 0, 0), (56, 2, 0, 0, 0, 160), (59, 39, 194, 0, 0, 0), (62, 7, 0, 0, 0, 0), (63, 45, 37, 4, 6, 0), (66, 7, 0, 0, 0, 0), (67, 45, 12, 4, 1, 0), (70, 80, 48, 30, 1, 0), (73, 39, 194, 0, 0, 0), (76, 5, 2, 0, 0, 0), (77, 30, 194, 0, 0, 0), (80, 7, 0, 0, 0, 0), (81, 0, 0, 0, 0, 0), (82, 80, 52, 32, 2, 0), (85, 10, 4, 0, 0, 0), (87, 6, 4, 0, 0, 0), (89, 1, 0, 0, 0, 125), (91, 37, 102, 0, 0, 0), (94, 7, 0, 0, 0, 0), (95, 80, 56, 35, 1, 0), (98, 9, 2, 0, 0, 0), (99, 42, 188, 0, 0, 0), (102, 7, 0, 0, 0, 0), (103, 45, 28, 4, 0, 0), (106, 80, 60, 36, 1, 0), (109, 30, 117, 0, 0, 0), (112, 0, 0, 0, 0, 0), (113, 9, 2, 0, 0, 0), (114, 42, 188, 0, 0, 0), (117, 6, 4, 0, 0, 0), (119, 1, 0, 0, 0, 63), (121, 36, 131, 0, 0, 0), (124, 6, 4, 0, 0, 0), (126, 1, 0, 0, 0, 42), (128, 37, 151, 0, 0, 0), (131, 7, 0, 0, 0, 0), (132, 6, 4, 0, 0, 0), (134, 1, 0, 0, 0, 42), (136, 37, 143, 0, 0, 0), (139, 0, 0, 0, 0, 1), (140, 42, 144, 0, 0, 0), (143, 0, 0, 0, 0, 0), (144, 80, 63, 50, 2, 0), (147, 9, 2, 0, 0, 0), (148, 42, 188, 0, 0, 0), (151, 6, 4, 0, 0, 0), (153, 1, 0, 0, 0, 33), (155, 37, 166, 0, 0, 0), (158, 7, 0, 0, 0, 0), (159, 80, 67, 51, 1, 0), (162, 9, 2, 0, 0, 0), (163, 42, 188, 0, 0, 0), (166, 60, 70, 1, 0, 0), (168, 6, 4, 0, 0, 0), (170, 86, 72, 44, 2, 0), (173, 33, 183, 0, 0, 0), (176, 7, 0, 0, 0, 0), (177, 80, 78, 52, 1, 0), (180, 42, 187, 0, 0, 0), (183, 7, 0, 0, 0, 0), (184, 80, 81, 53, 1, 0), (187, 9, 2, 0, 0, 0), (188, 13, 3, 0, 0, 1), (191, 42, 55, 0, 0, 0), (194, 5, 2, 0, 0, 0), (195, 30, 223, 0, 0, 0), (198, 7, 0, 0, 0, 0), (199, 45, 37, 4, 6, 0), (202, 7, 0, 0, 0, 0), (203, 45, 12, 4, 1, 0), (206, 80, 48, 30, 1, 0), (209, 37, 223, 0, 0, 0), (212, 7, 0, 0, 0, 0), (213, 45, 41, 4, 5, 0), (216, 31, 223, 0, 0, 0), (219, 0, 0, 0, 0, 1), (220, 42, 224, 0, 0, 0), (223, 0, 0, 0, 0, 0), (224, 90, 0, 0, 0, 0)]
/-- Program_after -/
def jo_55 : List (Nat × Nat × Nat × Nat × Nat × Int32) := [(0, 5, 1, 0, 0, 0), (1, 9, 2, 0, 0, 0), (2, 0, 0, 0, 0, 0), (3, 9, 3, 0, 0, 0), (4, 5, 3, 0, 0, 0), (5, 1, 0, 0, 0, 6), (7, 40, 79, 0, 0, 0), (10, 7, 0, 0, 0, 0), (11, 5, 2, 0, 0, 0), (12, 80, 49, 33, 2, 0), (15, 12, 4, 0, 0, 0), (17, 8, 4, 0, 0, 0), (19, 46, 53, 3, 8, 0), (22, 0, 0, 0, 0, (-1)), (23, 36, 32, 0, 0, 0), (26, 8, 4, 0, 0, 0), (28, 46, 53, 3, 8, 0), (31, 90, 0, 0, 0, 0), (32, 8, 4, 0, 0, 0), (34, 46, 56, 3, 7, 0), (37, 0, 0, 0, 0, (-1)), (38, 37, 46, 0, 0, 0), (41, 7, 0, 0, 0, 0), (42, 45, 18, 2, 1, 0), (45, 90, 0, 0, 0, 0), (46, 7, 0, 0, 0, 0), (47, 8, 4, 0, 0, 0), (49, 46, 56, 3, 7, 0), (52, 80, 49, 33, 2, 0), (55, 46, 39, 3, 4, 0), (58, 30, 67, 0, 0, 0), (61, 8, 4, 0, 0, 0), (63, 46, 56, 3, 7, 0), (66, 90, 0, 0, 0, 0), (67, 8, 4, 0, 0, 0), (69, 46, 56, 3, 7, 0), (72, 9, 2, 0, 0, 0), (73, 13, 3, 0, 0, 1), (76, 42, 4, 0, 0, 0), (79, 7, 0, 0, 0, 0), (80, 45, 18, 2, 1, 0), (83, 90, 0, 0, 0, 0)]
/-- Program_connectNode -/
def jo_56 : List (Nat × Nat × Nat × Nat × Nat × Int32) := [(0, 7, 0, 0, 0, 0), (1, 45, 11, 2, 0, 0), (4, 5, 1, 0, 0, 0), (5, 53, 0, 0, 0, 0), (6, 11, 2, 0, 0, 0), (7, 7, 0, 0, 0, 0), (8, 5, 1, 0, 0, 0), (9, 80, 26, 55, 2, 0), (12, 9, 3, 0, 0, 0), (13, 7, 2, 0, 0, 0), (14, 0, 0, 0, 0, (-1)), (15, 49, 30, 3, 12, 0), (18, 7, 2, 0, 0, 0), (19, 46, 33, 3, 0, 0), (22, 0, 0, 0, 0, 2), (23, 37, 37, 0, 0, 0), (26, 7, 2, 0, 0, 0), (27, 7, 0, 0, 0, 0), (28, 45, 18, 2, 1, 0), (31, 49, 36, 3, 11, 0), (34, 42, 128, 0, 0, 0), (37, 7, 2, 0, 0, 0), (38, 46, 33, 3, 0, 0), (41, 0, 0, 0, 0, 3), (42, 36, 53, 0, 0, 0), (45, 7, 2, 0, 0, 0), (46, 5, 3, 0, 0, 0), (47, 49, 36, 3, 11, 0), (50, 42, 128, 0, 0, 0), (53, 7, 2, 0, 0, 0), (54, 46, 39, 3, 4, 0), (57, 30, 88, 0, 0, 0), (60, 7, 2, 0, 0, 0), (61, 7, 2, 0, 0, 0), (62, 46, 43, 3, 9, 0), (65, 0, 0, 0, 0, (-1)), (66, 37, 73, 0, 0, 0), (69, 5, 1, 0, 0, 0), (70, 42, 77, 0, 0, 0), (73, 7, 2, 0, 0, 0), (74, 46, 43, 3, 9, 0), (77, 49, 36, 3, 11, 0), (80, 7, 2, 0, 0, 0), (81, 5, 3, 0, 0, 0), (82, 49, 30, 3, 12, 0), (85, 42, 128, 0, 0, 0), (88, 7, 2, 0, 0, 0), (89, 7, 2, 0, 0, 0), (90, 46, 43, 3, 9, 0), (93, 0, 0, 0, 0, (-1)), (94, 37, 101, 0, 0, 0), (97, 5, 3, 0, 0, 0), (98, 42, 105, 0, 0, 0), (101, 7, 2, 0, 0, 0), (102, 46, 43, 3, 9, 0), (105, 49, 36, 3, 11, 0), (108, 7, 2, 0, 0, 0), (109, 7, 2, 0, 0, 0), (110, 46, 46, 3, 10, 0), (113, 0, 0, 0, 0, (-1)), (114, 37, 121, 0, 0, 0), (117, 5, 3, 0, 0, 0), (118, 42, 125, 0, 0, 0), (121, 7, 2, 0, 0, 0), (122, 46, 46, 3, 10, 0), (125, 49, 30, 3, 12, 0), (128, 91, 0, 0, 0, 0)]
/-- Program_connect -/
def jo_57 : List (Nat × Nat × Nat × Nat × Nat × Int32) := [(0, 0, 0, 0, 0, 0), (1, 9, 1, 0, 0, 0), (2, 5, 1, 0, 0, 0), (3, 7, 0, 0, 0, 0), (4, 45, 18, 2, 1, 0), (7, 39, 21, 0, 0, 0), (10, 7, 0, 0, 0, 0), (11, 5, 1, 0, 0, 0), (12, 80, 22, 56, 2, 0), (15, 13, 1, 0, 0, 1), (18, 42, 2, 0, 0, 0), (21, 91, 0, 0, 0, 0)]
/-- PathPatcher_isWellFormed -/
def jo_58 : List (Nat × Nat × Nat × Nat × Nat × Int32) := [(0, 7, 0, 0, 0, 0), (1, 45, 175, 0, 7, 0), (4, 31, 41, 0, 0, 0), (7, 7, 0, 0, 0, 0), (8, 7, 0, 0, 0, 0), (9, 45, 28, 0, 2, 0), (12, 7, 0, 0, 0, 0), (13, 45, 10, 0, 0, 0), (16, 80, 178, 54, 2, 0), (19, 47, 182, 0, 6, 0), (22, 7, 0, 0, 0, 0), (23, 45, 182, 0, 6, 0), (26, 30, 36, 0, 0, 0), (29, 7, 0, 0, 0, 0), (30, 45, 19, 0, 1, 0), (33, 80, 185, 57, 1, 0), (36, 7, 0, 0, 0, 0), (37, 0, 0, 0, 0, 1), (38, 47, 175, 0, 7, 0), (41, 7, 0, 0, 0, 0), (42, 45, 182, 0, 6, 0), (45, 90, 0, 0, 0, 0)]
/-- Program_size -/
def jo_59 : List (Nat × Nat × Nat × Nat × Nat × Int32) := [(0, 7, 0, 0, 0, 0), (1, 45, 18, 2, 1, 0), (4, 90, 0, 0, 0, 0)]
/-- PathPatcher_nodes -/
def jo_60 : List (Nat × Nat × Nat × Nat × Nat × Int32) := [(0, 7, 0, 0, 0, 0), (1, 80, 79, 58, 1, 0), (4, 30, 17, 0, 0, 0), (7, 7, 0, 0, 0, 0), (8, 45, 19, 0, 1, 0), (11, 80, 83, 59, 1, 0), (14, 42, 18, 0, 0, 0), (17, 0, 0, 0, 0, (-1)), (18, 90, 0, 0, 0, 0)]
/-- M_tokenize -/
def jo_61 : List (Nat × Nat × Nat × Nat × Nat × Int32) := [(0, 7, 0, 0, 0, 0), (1, 0, 0, 0, 0, 0), (2, 47, 135, 12, 2, 0), (5, 0, 0, 0, 0, 0), (6, 9, 1, 0, 0, 0), (7, 0, 0, 0, 0, 0), (8, 9, 2, 0, 0, 0), (9, 5, 2, 0, 0, 0), (10, 7, 0, 0, 0, 0), (11, 45, 131, 12, 0, 0), (14, 39, 97, 0, 0, 0), (17, 7, 0, 0, 0, 0), (18, 45, 7, 12, 1, 0), (21, 5, 2, 0, 0, 0), (22, 50, 0, 0, 0, 0), (23, 1, 0, 0, 0, 35), (25, 37, 41, 0, 0, 0), (28, 5, 1, 0, 0, 0), (29, 31, 36, 0, 0, 0), (32, 0, 0, 0, 0, 1), (33, 42, 37, 0, 0, 0), (36, 0, 0, 0, 0, 0), (37, 9, 1, 0, 0, 0), (38, 42, 91, 0, 0, 0), (41, 5, 1, 0, 0, 0), (42, 31, 91, 0, 0, 0), (45, 7, 0, 0, 0, 0), (46, 45, 7, 12, 1, 0), (49, 5, 2, 0, 0, 0), (50, 50, 0, 0, 0, 0), (51, 1, 0, 0, 0, 32), (53, 36, 91, 0, 0, 0), (56, 7, 0, 0, 0, 0), (57, 45, 13, 12, 3, 0), (60, 7, 0, 0, 0, 0), (61, 45, 135, 12, 2, 0), (64, 7, 0, 0, 0, 0), (65, 45, 7, 12, 1, 0), (68, 5, 2, 0, 0, 0), (69, 50, 0, 0, 0, 0), (70, 55, 0, 0, 0, 0), (71, 7, 0, 0, 0, 0), (72, 45, 16, 12, 4, 0), (75, 7, 0, 0, 0, 0), (76, 45, 135, 12, 2, 0), (79, 5, 2, 0, 0, 0), (80, 55, 0, 0, 0, 0), (81, 7, 0, 0, 0, 0), (82, 26, 0, 0, 0, 0), (83, 45, 135, 12, 2, 0), (86, 0, 0, 0, 0, 1), (87, 14, 0, 0, 0, 0), (88, 47, 135, 12, 2, 0), (91, 13, 2, 0, 0, 1), (94, 42, 9, 0, 0, 0), (97, 5, 1, 0, 0, 0), (98, 31, 105, 0, 0, 0), (101, 0, 0, 0, 0, 1), (102, 42, 106, 0, 0, 0), (105, 0, 0, 0, 0, 0), (106, 90, 0, 0, 0, 0)]
/-- M_look -/
def jo_62 : List (Nat × Nat × Nat × Nat × Nat × Int32) := [(0, 5, 1, 0, 0, 0), (1, 7, 0, 0, 0, 0), (2, 45, 135, 12, 2, 0), (5, 39, 17, 0, 0, 0), (8, 7, 0, 0, 0, 0), (9, 45, 13, 12, 3, 0), (12, 5, 1, 0, 0, 0), (13, 50, 0, 0, 0, 0), (14, 42, 18, 0, 0, 0), (17, 0, 0, 0, 0, 0), (18, 90, 0, 0, 0, 0)]
/-- M_open -/
def jo_63 : List (Nat × Nat × Nat × Nat × Nat × Int32) := [(0, 7, 0, 0, 0, 0), (1, 45, 145, 12, 20, 0), (4, 1, 0, 0, 0, 6), (6, 37, 11, 0, 0, 0), (9, 0, 0, 0, 0, 0), (10, 90, 0, 0, 0, 0), (11, 7, 0, 0, 0, 0), (12, 26, 0, 0, 0, 0), (13, 45, 145, 12, 20, 0), (16, 0, 0, 0, 0, 1), (17, 14, 0, 0, 0, 0), (18, 47, 145, 12, 20, 0), (21, 7, 0, 0, 0, 0), (22, 45, 53, 12, 17, 0), (25, 7, 0, 0, 0, 0), (26, 45, 145, 12, 20, 0), (29, 5, 1, 0, 0, 0), (30, 55, 0, 0, 0, 0), (31, 7, 0, 0, 0, 0), (32, 45, 56, 12, 18, 0), (35, 7, 0, 0, 0, 0), (36, 45, 145, 12, 20, 0), (39, 5, 2, 0, 0, 0), (40, 55, 0, 0, 0, 0), (41, 7, 0, 0, 0, 0), (42, 45, 59, 12, 19, 0), (45, 7, 0, 0, 0, 0), (46, 45, 145, 12, 20, 0), (49, 0, 0, 0, 0, (-1)), (50, 55, 0, 0, 0, 0), (51, 0, 0, 0, 0, 1), (52, 90, 0, 0, 0, 0)]
/-- M_close -/
def jo_64 : List (Nat × Nat × Nat × Nat × Nat × Int32) := [(0, 7, 0, 0, 0, 0), (1, 45, 145, 12, 20, 0), (4, 31, 9, 0, 0, 0), (7, 0, 0, 0, 0, (-1)), (8, 90, 0, 0, 0, 0), (9, 7, 0, 0, 0, 0), (10, 45, 53, 12, 17, 0), (13, 7, 0, 0, 0, 0), (14, 45, 145, 12, 20, 0), (17, 50, 0, 0, 0, 0), (18, 9, 2, 0, 0, 0), (19, 7, 0, 0, 0, 0), (20, 45, 43, 12, 14, 0), (23, 5, 2, 0, 0, 0), (24, 52, 0, 0, 0, 0), (25, 31, 56, 0, 0, 0), (28, 7, 0, 0, 0, 0), (29, 45, 56, 12, 18, 0), (32, 7, 0, 0, 0, 0), (33, 45, 145, 12, 20, 0), (36, 50, 0, 0, 0, 0), (37, 31, 56, 0, 0, 0), (40, 7, 0, 0, 0, 0), (41, 5, 1, 0, 0, 0), (42, 0, 0, 0, 0, 1), (43, 14, 0, 0, 0, 0), (44, 80, 138, 62, 2, 0), (47, 1, 0, 0, 0, 58), (49, 37, 56, 0, 0, 0), (52, 0, 0, 0, 0, 1), (53, 42, 57, 0, 0, 0), (56, 0, 0, 0, 0, 0), (57, 9, 3, 0, 0, 0), (58, 7, 0, 0, 0, 0), (59, 26, 0, 0, 0, 0), (60, 45, 145, 12, 20, 0), (63, 0, 0, 0, 0, 1), (64, 15, 0, 0, 0, 0), (65, 47, 145, 12, 20, 0), (68, 5, 3, 0, 0, 0), (69, 31, 76, 0, 0, 0), (72, 5, 1, 0, 0, 0), (73, 0, 0, 0, 0, 1), (74, 14, 0, 0, 0, 0), (75, 90, 0, 0, 0, 0), (76, 7, 0, 0, 0, 0), (77, 5, 1, 0, 0, 0), (78, 0, 0, 0, 0, 2), (79, 14, 0, 0, 0, 0), (80, 80, 138, 62, 2, 0), (83, 1, 0, 0, 0, 123), (85, 37, 103, 0, 0, 0), (88, 7, 0, 0, 0, 0), (89, 5, 2, 0, 0, 0), (90, 0, 0, 0, 0, 1), (91, 80, 148, 63, 3, 0), (94, 30, 103, 0, 0, 0), (97, 5, 1, 0, 0, 0), (98, 0, 0, 0, 0, 3), (99, 14, 0, 0, 0, 0), (100, 42, 104, 0, 0, 0), (103, 0, 0, 0, 0, (-1)), (104, 90, 0, 0, 0, 0)]
/-- M_variable -/
def jo_65 : List (Nat × Nat × Nat × Nat × Nat × Int32) := [(0, 7, 0, 0, 0, 0), (1, 5, 1, 0, 0, 0), (2, 80, 138, 62, 2, 0), (5, 1, 0, 0, 0, 97), (7, 38, 24, 0, 0, 0), (10, 7, 0, 0, 0, 0), (11, 5, 1, 0, 0, 0), (12, 80, 138, 62, 2, 0), (15, 1, 0, 0, 0, 100), (17, 40, 24, 0, 0, 0), (20, 0, 0, 0, 0, 1), (21, 42, 25, 0, 0, 0), (24, 0, 0, 0, 0, 0), (25, 90, 0, 0, 0, 0)]
/-- M_node -/
def jo_66 : List (Nat × Nat × Nat × Nat × Nat × Int32) := [(0, 7, 0, 0, 0, 0), (1, 45, 142, 12, 5, 0), (4, 1, 0, 0, 0, 24), (6, 37, 11, 0, 0, 0), (9, 0, 0, 0, 0, 0), (10, 90, 0, 0, 0, 0), (11, 7, 0, 0, 0, 0), (12, 45, 142, 12, 5, 0), (15, 10, 7, 0, 0, 0), (17, 7, 0, 0, 0, 0), (18, 45, 19, 12, 6, 0), (21, 6, 7, 0, 0, 0), (23, 5, 1, 0, 0, 0), (24, 55, 0, 0, 0, 0), (25, 7, 0, 0, 0, 0), (26, 45, 22, 12, 7, 0), (29, 6, 7, 0, 0, 0), (31, 6, 4, 0, 0, 0), (33, 55, 0, 0, 0, 0), (34, 7, 0, 0, 0, 0), (35, 45, 25, 12, 8, 0), (38, 6, 7, 0, 0, 0), (40, 6, 5, 0, 0, 0), (42, 55, 0, 0, 0, 0), (43, 7, 0, 0, 0, 0), (44, 45, 28, 12, 9, 0), (47, 6, 7, 0, 0, 0), (49, 6, 6, 0, 0, 0), (51, 55, 0, 0, 0, 0), (52, 7, 0, 0, 0, 0), (53, 45, 31, 12, 10, 0), (56, 6, 7, 0, 0, 0), (58, 7, 0, 0, 0, 0), (59, 45, 16, 12, 4, 0), (62, 5, 2, 0, 0, 0), (63, 50, 0, 0, 0, 0), (64, 55, 0, 0, 0, 0), (65, 7, 0, 0, 0, 0), (66, 45, 34, 12, 11, 0), (69, 6, 7, 0, 0, 0), (71, 7, 0, 0, 0, 0), (72, 45, 16, 12, 4, 0), (75, 5, 3, 0, 0, 0), (76, 50, 0, 0, 0, 0), (77, 55, 0, 0, 0, 0), (78, 7, 0, 0, 0, 0), (79, 45, 40, 12, 13, 0), (82, 6, 7, 0, 0, 0), (84, 0, 0, 0, 0, (-1)), (85, 55, 0, 0, 0, 0), (86, 7, 0, 0, 0, 0), (87, 45, 37, 12, 12, 0), (90, 6, 7, 0, 0, 0), (92, 7, 0, 0, 0, 0), (93, 45, 53, 12, 17, 0), (96, 7, 0, 0, 0, 0), (97, 45, 145, 12, 20, 0), (100, 50, 0, 0, 0, 0), (101, 55, 0, 0, 0, 0), (102, 7, 0, 0, 0, 0), (103, 45, 43, 12, 14, 0), (106, 6, 7, 0, 0, 0), (108, 7, 0, 0, 0, 0), (109, 45, 13, 12, 3, 0), (112, 5, 2, 0, 0, 0), (113, 50, 0, 0, 0, 0), (114, 1, 0, 0, 0, 42), (116, 37, 123, 0, 0, 0), (119, 0, 0, 0, 0, 1), (120, 42, 124, 0, 0, 0), (123, 0, 0, 0, 0, 0), (124, 57, 0, 0, 0, 0), (125, 7, 0, 0, 0, 0), (126, 45, 47, 12, 15, 0), (129, 0, 0, 0, 0, 2), (130, 6, 7, 0, 0, 0), (132, 16, 0, 0, 0, 0), (133, 0, 0, 0, 0, (-1)), (134, 55, 0, 0, 0, 0), (135, 7, 0, 0, 0, 0), (136, 45, 47, 12, 15, 0), (139, 0, 0, 0, 0, 2), (140, 6, 7, 0, 0, 0), (142, 16, 0, 0, 0, 0), (143, 0, 0, 0, 0, 1), (144, 14, 0, 0, 0, 0), (145, 0, 0, 0, 0, (-1)), (146, 55, 0, 0, 0, 0), (147, 7, 0, 0, 0, 0), (148, 45, 59, 12, 19, 0), (151, 7, 0, 0, 0, 0), (152, 45, 145, 12, 20, 0), (155, 50, 0, 0, 0, 0), (156, 32, 178, 0, 0, 0), (159, 7, 0, 0, 0, 0), (160, 45, 40, 12, 13, 0), (163, 7, 0, 0, 0, 0), (164, 45, 59, 12, 19, 0), (167, 7, 0, 0, 0, 0), (168, 45, 145, 12, 20, 0), (171, 50, 0, 0, 0, 0), (172, 6, 7, 0, 0, 0), (174, 55, 0, 0, 0, 0), (175, 42, 218, 0, 0, 0), (178, 7, 0, 0, 0, 0), (179, 45, 53, 12, 17, 0), (182, 7, 0, 0, 0, 0), (183, 45, 145, 12, 20, 0), (186, 50, 0, 0, 0, 0), (187, 32, 218, 0, 0, 0), (190, 7, 0, 0, 0, 0), (191, 45, 47, 12, 15, 0), (194, 0, 0, 0, 0, 2), (195, 7, 0, 0, 0, 0), (196, 45, 53, 12, 17, 0), (199, 7, 0, 0, 0, 0), (200, 45, 145, 12, 20, 0), (203, 50, 0, 0, 0, 0), (204, 16, 0, 0, 0, 0), (205, 7, 0, 0, 0, 0), (206, 45, 56, 12, 18, 0), (209, 7, 0, 0, 0, 0), (210, 45, 145, 12, 20, 0), (213, 50, 0, 0, 0, 0), (214, 14, 0, 0, 0, 0), (215, 6, 7, 0, 0, 0), (217, 55, 0, 0, 0, 0), (218, 7, 0, 0, 0, 0), (219, 45, 59, 12, 19, 0), (222, 7, 0, 0, 0, 0), (223, 45, 145, 12, 20, 0), (226, 6, 7, 0, 0, 0), (228, 55, 0, 0, 0, 0), (229, 7, 0, 0, 0, 0), (230, 26, 0, 0, 0, 0), (231, 45, 142, 12, 5, 0), (234, 0, 0, 0, 0, 1), (235, 14, 0, 0, 0, 0), (236, 47, 142, 12, 5, 0), (239, 0, 0, 0, 0, 1), (240, 90, 0, 0, 0, 0)]
/-- M_function -/
def jo_67 : List (Nat × Nat × Nat × Nat × Nat × Int32) := [(0, 7, 0, 0, 0, 0), (1, 5, 1, 0, 0, 0), (2, 80, 138, 62, 2, 0), (5, 1, 0, 0, 0, 102), (7, 38, 24, 0, 0, 0), (10, 7, 0, 0, 0, 0), (11, 5, 1, 0, 0, 0), (12, 80, 138, 62, 2, 0), (15, 1, 0, 0, 0, 104), (17, 40, 24, 0, 0, 0), (20, 0, 0, 0, 0, 1), (21, 42, 25, 0, 0, 0), (24, 0, 0, 0, 0, 0), (25, 90, 0, 0, 0, 0)]
/-- M_statement -/
def jo_68 : List (Nat × Nat × Nat × Nat × Nat × Int32) := [(0, 0, 0, 0, 0, 0), (1, 9, 2, 0, 0, 0), (2, 0, 0, 0, 0, 0), (3, 9, 3, 0, 0, 0), (4, 7, 0, 0, 0, 0), (5, 5, 1, 0, 0, 0), (6, 80, 152, 65, 2, 0), (9, 30, 88, 0, 0, 0), (12, 0, 0, 0, 0, 4), (13, 9, 3, 0, 0, 0), (14, 7, 0, 0, 0, 0), (15, 5, 1, 0, 0, 0), (16, 0, 0, 0, 0, 1), (17, 14, 0, 0, 0, 0), (18, 80, 138, 62, 2, 0), (21, 1, 0, 0, 0, 61), (23, 37, 83, 0, 0, 0), (26, 7, 0, 0, 0, 0), (27, 5, 1, 0, 0, 0), (28, 0, 0, 0, 0, 2), (29, 14, 0, 0, 0, 0), (30, 80, 152, 65, 2, 0), (33, 30, 83, 0, 0, 0), (36, 7, 0, 0, 0, 0), (37, 5, 1, 0, 0, 0), (38, 0, 0, 0, 0, 3), (39, 14, 0, 0, 0, 0), (40, 80, 138, 62, 2, 0), (43, 1, 0, 0, 0, 59), (45, 37, 83, 0, 0, 0), (48, 7, 0, 0, 0, 0), (49, 0, 0, 0, 0, 1), (50, 5, 1, 0, 0, 0), (51, 5, 1, 0, 0, 0), (52, 0, 0, 0, 0, 3), (53, 14, 0, 0, 0, 0), (54, 0, 0, 0, 0, 0), (55, 7, 0, 0, 0, 0), (56, 5, 1, 0, 0, 0), (57, 80, 138, 62, 2, 0), (60, 1, 0, 0, 0, 97), (62, 15, 0, 0, 0, 0), (63, 7, 0, 0, 0, 0), (64, 5, 1, 0, 0, 0), (65, 0, 0, 0, 0, 2), (66, 14, 0, 0, 0, 0), (67, 80, 138, 62, 2, 0), (70, 1, 0, 0, 0, 97), (72, 15, 0, 0, 0, 0), (73, 80, 156, 66, 7, 0), (76, 30, 83, 0, 0, 0), (79, 0, 0, 0, 0, 1), (80, 42, 84, 0, 0, 0), (83, 0, 0, 0, 0, 0), (84, 9, 2, 0, 0, 0), (85, 42, 339, 0, 0, 0), (88, 7, 0, 0, 0, 0), (89, 5, 1, 0, 0, 0), (90, 80, 160, 67, 2, 0), (93, 30, 184, 0, 0, 0), (96, 0, 0, 0, 0, 5), (97, 9, 3, 0, 0, 0), (98, 7, 0, 0, 0, 0), (99, 5, 1, 0, 0, 0), (100, 0, 0, 0, 0, 1), (101, 14, 0, 0, 0, 0), (102, 80, 138, 62, 2, 0), (105, 1, 0, 0, 0, 40), (107, 37, 179, 0, 0, 0), (110, 7, 0, 0, 0, 0), (111, 5, 1, 0, 0, 0), (112, 0, 0, 0, 0, 2), (113, 14, 0, 0, 0, 0), (114, 80, 152, 65, 2, 0), (117, 30, 179, 0, 0, 0), (120, 7, 0, 0, 0, 0), (121, 5, 1, 0, 0, 0), (122, 0, 0, 0, 0, 3), (123, 14, 0, 0, 0, 0), (124, 80, 138, 62, 2, 0), (127, 1, 0, 0, 0, 41), (129, 37, 179, 0, 0, 0), (132, 7, 0, 0, 0, 0), (133, 5, 1, 0, 0, 0), (134, 0, 0, 0, 0, 4), (135, 14, 0, 0, 0, 0), (136, 80, 138, 62, 2, 0), (139, 1, 0, 0, 0, 59), (141, 37, 179, 0, 0, 0), (144, 7, 0, 0, 0, 0), (145, 0, 0, 0, 0, 0), (146, 5, 1, 0, 0, 0), (147, 5, 1, 0, 0, 0), (148, 0, 0, 0, 0, 4), (149, 14, 0, 0, 0, 0), (150, 7, 0, 0, 0, 0), (151, 5, 1, 0, 0, 0), (152, 80, 138, 62, 2, 0), (155, 1, 0, 0, 0, 102), (157, 15, 0, 0, 0, 0), (158, 7, 0, 0, 0, 0), (159, 5, 1, 0, 0, 0), (160, 0, 0, 0, 0, 2), (161, 14, 0, 0, 0, 0), (162, 80, 138, 62, 2, 0), (165, 1, 0, 0, 0, 97), (167, 15, 0, 0, 0, 0), (168, 0, 0, 0, 0, 0), (169, 80, 156, 66, 7, 0), (172, 30, 179, 0, 0, 0), (175, 0, 0, 0, 0, 1), (176, 42, 180, 0, 0, 0), (179, 0, 0, 0, 0, 0), (180, 9, 2, 0, 0, 0), (181, 42, 339, 0, 0, 0), (184, 7, 0, 0, 0, 0), (185, 5, 1, 0, 0, 0), (186, 80, 138, 62, 2, 0), (189, 1, 0, 0, 0, 33), (191, 37, 251, 0, 0, 0), (194, 0, 0, 0, 0, 3), (195, 9, 3, 0, 0, 0), (196, 7, 0, 0, 0, 0), (197, 5, 1, 0, 0, 0), (198, 0, 0, 0, 0, 1), (199, 14, 0, 0, 0, 0), (200, 80, 152, 65, 2, 0), (203, 30, 246, 0, 0, 0), (206, 7, 0, 0, 0, 0), (207, 5, 1, 0, 0, 0), (208, 0, 0, 0, 0, 2), (209, 14, 0, 0, 0, 0), (210, 80, 138, 62, 2, 0), (213, 1, 0, 0, 0, 59), (215, 37, 246, 0, 0, 0), (218, 7, 0, 0, 0, 0), (219, 0, 0, 0, 0, 2), (220, 5, 1, 0, 0, 0), (221, 5, 1, 0, 0, 0), (222, 0, 0, 0, 0, 2), (223, 14, 0, 0, 0, 0), (224, 0, 0, 0, 0, 0), (225, 7, 0, 0, 0, 0), (226, 5, 1, 0, 0, 0), (227, 0, 0, 0, 0, 1), (228, 14, 0, 0, 0, 0), (229, 80, 138, 62, 2, 0), (232, 1, 0, 0, 0, 97), (234, 15, 0, 0, 0, 0), (235, 0, 0, 0, 0, 0), (236, 80, 156, 66, 7, 0), (239, 30, 246, 0, 0, 0), (242, 0, 0, 0, 0, 1), (243, 42, 247, 0, 0, 0), (246, 0, 0, 0, 0, 0), (247, 9, 2, 0, 0, 0), (248, 42, 339, 0, 0, 0), (251, 7, 0, 0, 0, 0), (252, 5, 1, 0, 0, 0), (253, 80, 138, 62, 2, 0), (256, 1, 0, 0, 0, 63), (258, 36, 271, 0, 0, 0), (261, 7, 0, 0, 0, 0), (262, 5, 1, 0, 0, 0), (263, 80, 138, 62, 2, 0), (266, 1, 0, 0, 0, 42), (268, 37, 339, 0, 0, 0), (271, 0, 0, 0, 0, 3), (272, 9, 3, 0, 0, 0), (273, 7, 0, 0, 0, 0), (274, 5, 1, 0, 0, 0), (275, 0, 0, 0, 0, 1), (276, 14, 0, 0, 0, 0), (277, 80, 152, 65, 2, 0), (280, 30, 337, 0, 0, 0), (283, 7, 0, 0, 0, 0), (284, 5, 1, 0, 0, 0), (285, 0, 0, 0, 0, 2), (286, 14, 0, 0, 0, 0), (287, 80, 138, 62, 2, 0), (290, 1, 0, 0, 0, 123), (292, 37, 337, 0, 0, 0), (295, 7, 0, 0, 0, 0), (296, 0, 0, 0, 0, 3), (297, 5, 1, 0, 0, 0), (298, 5, 1, 0, 0, 0), (299, 0, 0, 0, 0, 1), (300, 14, 0, 0, 0, 0), (301, 0, 0, 0, 0, 0), (302, 7, 0, 0, 0, 0), (303, 5, 1, 0, 0, 0), (304, 0, 0, 0, 0, 1), (305, 14, 0, 0, 0, 0), (306, 80, 138, 62, 2, 0), (309, 1, 0, 0, 0, 97), (311, 15, 0, 0, 0, 0), (312, 0, 0, 0, 0, 0), (313, 80, 156, 66, 7, 0), (316, 30, 337, 0, 0, 0), (319, 7, 0, 0, 0, 0), (320, 7, 0, 0, 0, 0), (321, 45, 142, 12, 5, 0), (324, 0, 0, 0, 0, 1), (325, 15, 0, 0, 0, 0), (326, 0, 0, 0, 0, 0), (327, 80, 148, 63, 3, 0), (330, 30, 337, 0, 0, 0), (333, 0, 0, 0, 0, 1), (334, 42, 338, 0, 0, 0), (337, 0, 0, 0, 0, 0), (338, 9, 2, 0, 0, 0), (339, 5, 2, 0, 0, 0), (340, 30, 349, 0, 0, 0), (343, 5, 1, 0, 0, 0), (344, 5, 3, 0, 0, 0), (345, 14, 0, 0, 0, 0), (346, 42, 350, 0, 0, 0), (349, 0, 0, 0, 0, (-1)), (350, 90, 0, 0, 0, 0)]
/-- M_after -/
def jo_69 : List (Nat × Nat × Nat × Nat × Nat × Int32) := [(0, 5, 1, 0, 0, 0), (1, 9, 2, 0, 0, 0), (2, 0, 0, 0, 0, 0), (3, 9, 3, 0, 0, 0), (4, 5, 3, 0, 0, 0), (5, 1, 0, 0, 0, 8), (7, 39, 64, 0, 0, 0), (10, 7, 0, 0, 0, 0), (11, 45, 40, 12, 13, 0), (14, 5, 2, 0, 0, 0), (15, 50, 0, 0, 0, 0), (16, 32, 26, 0, 0, 0), (19, 7, 0, 0, 0, 0), (20, 45, 40, 12, 13, 0), (23, 5, 2, 0, 0, 0), (24, 50, 0, 0, 0, 0), (25, 90, 0, 0, 0, 0), (26, 7, 0, 0, 0, 0), (27, 45, 37, 12, 12, 0), (30, 5, 2, 0, 0, 0), (31, 50, 0, 0, 0, 0), (32, 33, 40, 0, 0, 0), (35, 7, 0, 0, 0, 0), (36, 45, 142, 12, 5, 0), (39, 90, 0, 0, 0, 0), (40, 7, 0, 0, 0, 0), (41, 45, 37, 12, 12, 0), (44, 5, 2, 0, 0, 0), (45, 50, 0, 0, 0, 0), (46, 9, 2, 0, 0, 0), (47, 7, 0, 0, 0, 0), (48, 45, 43, 12, 14, 0), (51, 5, 2, 0, 0, 0), (52, 52, 0, 0, 0, 0), (53, 30, 58, 0, 0, 0), (56, 5, 2, 0, 0, 0), (57, 90, 0, 0, 0, 0), (58, 13, 3, 0, 0, 1), (61, 42, 4, 0, 0, 0), (64, 7, 0, 0, 0, 0), (65, 45, 142, 12, 5, 0), (68, 90, 0, 0, 0, 0)]
/-- M_link -/
def jo_70 : List (Nat × Nat × Nat × Nat × Nat × Int32) := [(0, 7, 0, 0, 0, 0), (1, 5, 1, 0, 0, 0), (2, 80, 177, 69, 2, 0), (5, 9, 2, 0, 0, 0), (6, 7, 0, 0, 0, 0), (7, 45, 47, 12, 15, 0), (10, 0, 0, 0, 0, 2), (11, 5, 1, 0, 0, 0), (12, 16, 0, 0, 0, 0), (13, 50, 0, 0, 0, 0), (14, 9, 3, 0, 0, 0), (15, 7, 0, 0, 0, 0), (16, 45, 47, 12, 15, 0), (19, 0, 0, 0, 0, 2), (20, 5, 1, 0, 0, 0), (21, 16, 0, 0, 0, 0), (22, 0, 0, 0, 0, 1), (23, 14, 0, 0, 0, 0), (24, 50, 0, 0, 0, 0), (25, 10, 4, 0, 0, 0), (27, 7, 0, 0, 0, 0), (28, 45, 50, 12, 16, 0), (31, 0, 0, 0, 0, 2), (32, 5, 1, 0, 0, 0), (33, 16, 0, 0, 0, 0), (34, 5, 2, 0, 0, 0), (35, 55, 0, 0, 0, 0), (36, 7, 0, 0, 0, 0), (37, 45, 50, 12, 16, 0), (40, 0, 0, 0, 0, 2), (41, 5, 1, 0, 0, 0), (42, 16, 0, 0, 0, 0), (43, 0, 0, 0, 0, 1), (44, 14, 0, 0, 0, 0), (45, 0, 0, 0, 0, (-1)), (46, 55, 0, 0, 0, 0), (47, 7, 0, 0, 0, 0), (48, 45, 19, 12, 6, 0), (51, 5, 1, 0, 0, 0), (52, 50, 0, 0, 0, 0), (53, 0, 0, 0, 0, 2), (54, 37, 69, 0, 0, 0), (57, 7, 0, 0, 0, 0), (58, 45, 50, 12, 16, 0), (61, 0, 0, 0, 0, 2), (62, 5, 1, 0, 0, 0), (63, 16, 0, 0, 0, 0), (64, 7, 0, 0, 0, 0), (65, 45, 142, 12, 5, 0), (68, 55, 0, 0, 0, 0), (69, 7, 0, 0, 0, 0), (70, 45, 19, 12, 6, 0), (73, 5, 1, 0, 0, 0), (74, 50, 0, 0, 0, 0), (75, 0, 0, 0, 0, 3), (76, 37, 139, 0, 0, 0), (79, 7, 0, 0, 0, 0), (80, 45, 50, 12, 16, 0), (83, 0, 0, 0, 0, 2), (84, 5, 1, 0, 0, 0), (85, 16, 0, 0, 0, 0), (86, 5, 3, 0, 0, 0), (87, 32, 94, 0, 0, 0), (90, 5, 3, 0, 0, 0), (91, 42, 108, 0, 0, 0), (94, 7, 0, 0, 0, 0), (95, 45, 43, 12, 14, 0), (98, 5, 1, 0, 0, 0), (99, 52, 0, 0, 0, 0), (100, 30, 107, 0, 0, 0), (103, 5, 1, 0, 0, 0), (104, 42, 108, 0, 0, 0), (107, 5, 2, 0, 0, 0), (108, 55, 0, 0, 0, 0), (109, 7, 0, 0, 0, 0), (110, 45, 50, 12, 16, 0), (113, 0, 0, 0, 0, 2), (114, 5, 1, 0, 0, 0), (115, 16, 0, 0, 0, 0), (116, 0, 0, 0, 0, 1), (117, 14, 0, 0, 0, 0), (118, 7, 0, 0, 0, 0), (119, 45, 43, 12, 14, 0), (122, 5, 1, 0, 0, 0), (123, 52, 0, 0, 0, 0), (124, 31, 137, 0, 0, 0), (127, 6, 4, 0, 0, 0), (129, 32, 137, 0, 0, 0), (132, 6, 4, 0, 0, 0), (134, 42, 138, 0, 0, 0), (137, 5, 2, 0, 0, 0), (138, 55, 0, 0, 0, 0), (139, 91, 0, 0, 0, 0)]
/-- M_read -/
def jo_71 : List (Nat × Nat × Nat × Nat × Nat × Int32) := [(0, 7, 0, 0, 0, 0), (1, 80, 163, 61, 1, 0), (4, 31, 9, 0, 0, 0), (7, 0, 0, 0, 0, 0), (8, 90, 0, 0, 0, 0), (9, 7, 0, 0, 0, 0), (10, 0, 0, 0, 0, 0), (11, 47, 142, 12, 5, 0), (14, 7, 0, 0, 0, 0), (15, 0, 0, 0, 0, 0), (16, 47, 145, 12, 20, 0), (19, 7, 0, 0, 0, 0), (20, 45, 53, 12, 17, 0), (23, 0, 0, 0, 0, 0), (24, 0, 0, 0, 0, (-1)), (25, 55, 0, 0, 0, 0), (26, 7, 0, 0, 0, 0), (27, 45, 59, 12, 19, 0), (30, 0, 0, 0, 0, 0), (31, 0, 0, 0, 0, (-1)), (32, 55, 0, 0, 0, 0), (33, 0, 0, 0, 0, 0), (34, 9, 1, 0, 0, 0), (35, 0, 0, 0, 0, 0), (36, 9, 2, 0, 0, 0), (37, 5, 2, 0, 0, 0), (38, 2, 0, 0, 0, 160), (41, 39, 87, 0, 0, 0), (44, 5, 1, 0, 0, 0), (45, 32, 87, 0, 0, 0), (48, 5, 1, 0, 0, 0), (49, 7, 0, 0, 0, 0), (50, 45, 135, 12, 2, 0), (53, 39, 87, 0, 0, 0), (56, 7, 0, 0, 0, 0), (57, 45, 13, 12, 3, 0), (60, 5, 1, 0, 0, 0), (61, 50, 0, 0, 0, 0), (62, 1, 0, 0, 0, 125), (64, 37, 75, 0, 0, 0), (67, 7, 0, 0, 0, 0), (68, 5, 1, 0, 0, 0), (69, 80, 167, 64, 2, 0), (72, 42, 80, 0, 0, 0), (75, 7, 0, 0, 0, 0), (76, 5, 1, 0, 0, 0), (77, 80, 170, 68, 2, 0), (80, 9, 1, 0, 0, 0), (81, 13, 2, 0, 0, 1), (84, 42, 37, 0, 0, 0), (87, 5, 1, 0, 0, 0), (88, 7, 0, 0, 0, 0), (89, 45, 135, 12, 2, 0), (92, 37, 102, 0, 0, 0), (95, 7, 0, 0, 0, 0), (96, 45, 145, 12, 20, 0), (99, 30, 104, 0, 0, 0), (102, 0, 0, 0, 0, 0), (103, 90, 0, 0, 0, 0), (104, 0, 0, 0, 0, 0), (105, 9, 2, 0, 0, 0), (106, 5, 2, 0, 0, 0), (107, 7, 0, 0, 0, 0), (108, 45, 142, 12, 5, 0), (111, 39, 125, 0, 0, 0), (114, 7, 0, 0, 0, 0), (115, 5, 2, 0, 0, 0), (116, 80, 173, 70, 2, 0), (119, 13, 2, 0, 0, 1), (122, 42, 106, 0, 0, 0), (125, 0, 0, 0, 0, 1), (126, 90, 0, 0, 0, 0)]
/-- M_nodes -/
def jo_72 : List (Nat × Nat × Nat × Nat × Nat × Int32) := [(0, 7, 0, 0, 0, 0), (1, 80, 180, 71, 1, 0), (4, 30, 14, 0, 0, 0), (7, 7, 0, 0, 0, 0), (8, 45, 142, 12, 5, 0), (11, 42, 15, 0, 0, 0), (14, 0, 0, 0, 0, (-1)), (15, 90, 0, 0, 0, 0)]
/-- Program_holds -/
def jo_73 : List (Nat × Nat × Nat × Nat × Nat × Int32) := [(0, 5, 1, 0, 0, 0), (1, 32, 16, 0, 0, 0), (4, 5, 1, 0, 0, 0), (5, 7, 0, 0, 0, 0), (6, 45, 18, 2, 1, 0), (9, 39, 16, 0, 0, 0), (12, 0, 0, 0, 0, 1), (13, 42, 17, 0, 0, 0), (16, 0, 0, 0, 0, 0), (17, 90, 0, 0, 0, 0)]
/-- Node_successor -/
def jo_74 : List (Nat × Nat × Nat × Nat × Nat × Int32) := [(0, 5, 1, 0, 0, 0), (1, 31, 9, 0, 0, 0), (4, 7, 0, 0, 0, 0), (5, 45, 46, 3, 11, 0), (8, 90, 0, 0, 0, 0), (9, 5, 1, 0, 0, 0), (10, 0, 0, 0, 0, 1), (11, 37, 21, 0, 0, 0), (14, 7, 0, 0, 0, 0), (15, 45, 49, 3, 12, 0), (18, 42, 22, 0, 0, 0), (21, 0, 0, 0, 0, (-1)), (22, 90, 0, 0, 0, 0)]
/-- PathPatcher_edge -/
def jo_75 : List (Nat × Nat × Nat × Nat × Nat × Int32) := [(0, 7, 0, 0, 0, 0), (1, 80, 79, 58, 1, 0), (4, 30, 33, 0, 0, 0), (7, 7, 0, 0, 0, 0), (8, 45, 19, 0, 1, 0), (11, 5, 1, 0, 0, 0), (12, 80, 84, 73, 2, 0), (15, 30, 33, 0, 0, 0), (18, 7, 0, 0, 0, 0), (19, 45, 19, 0, 1, 0), (22, 5, 1, 0, 0, 0), (23, 80, 85, 33, 2, 0), (26, 5, 2, 0, 0, 0), (27, 80, 89, 74, 2, 0), (30, 42, 34, 0, 0, 0), (33, 0, 0, 0, 0, (-1)), (34, 90, 0, 0, 0, 0)]
/-- M_edge -/
def jo_76 : List (Nat × Nat × Nat × Nat × Nat × Int32) := [(0, 7, 0, 0, 0, 0), (1, 80, 180, 71, 1, 0), (4, 30, 28, 0, 0, 0), (7, 5, 1, 0, 0, 0), (8, 32, 28, 0, 0, 0), (11, 5, 1, 0, 0, 0), (12, 7, 0, 0, 0, 0), (13, 45, 142, 12, 5, 0), (16, 39, 28, 0, 0, 0), (19, 5, 2, 0, 0, 0), (20, 32, 28, 0, 0, 0), (23, 5, 2, 0, 0, 0), (24, 0, 0, 0, 0, 1), (25, 41, 30, 0, 0, 0), (28, 0, 0, 0, 0, (-1)), (29, 90, 0, 0, 0, 0), (30, 7, 0, 0, 0, 0), (31, 45, 50, 12, 16, 0), (34, 0, 0, 0, 0, 2), (35, 5, 1, 0, 0, 0), (36, 16, 0, 0, 0, 0), (37, 5, 2, 0, 0, 0), (38, 14, 0, 0, 0, 0), (39, 50, 0, 0, 0, 0), (40, 90, 0, 0, 0, 0)]
/-- PathPatcher_begins -/
def jo_77 : List (Nat × Nat × Nat × Nat × Nat × Int32) := [(0, 7, 0, 0, 0, 0), (1, 80, 79, 58, 1, 0), (4, 30, 32, 0, 0, 0), (7, 7, 0, 0, 0, 0), (8, 45, 19, 0, 1, 0), (11, 5, 1, 0, 0, 0), (12, 80, 84, 73, 2, 0), (15, 30, 32, 0, 0, 0), (18, 7, 0, 0, 0, 0), (19, 45, 19, 0, 1, 0), (22, 5, 1, 0, 0, 0), (23, 80, 85, 33, 2, 0), (26, 46, 95, 3, 5, 0), (29, 42, 33, 0, 0, 0), (32, 0, 0, 0, 0, (-1)), (33, 90, 0, 0, 0, 0)]
/-- M_begins -/
def jo_78 : List (Nat × Nat × Nat × Nat × Nat × Int32) := [(0, 7, 0, 0, 0, 0), (1, 80, 180, 71, 1, 0), (4, 30, 19, 0, 0, 0), (7, 5, 1, 0, 0, 0), (8, 32, 19, 0, 0, 0), (11, 5, 1, 0, 0, 0), (12, 7, 0, 0, 0, 0), (13, 45, 142, 12, 5, 0), (16, 38, 23, 0, 0, 0), (19, 0, 0, 0, 0, (-1)), (20, 42, 29, 0, 0, 0), (23, 7, 0, 0, 0, 0), (24, 45, 31, 12, 10, 0), (27, 5, 1, 0, 0, 0), (28, 50, 0, 0, 0, 0), (29, 90, 0, 0, 0, 0)]
/-- Pattern_isFunction -/
def jo_79 : List (Nat × Nat × Nat × Nat × Nat × Int32) := [(0, 5, 0, 0, 0, 0), (1, 32, 13, 0, 0, 0), (4, 5, 0, 0, 0, 0), (5, 0, 0, 0, 0, 3), (6, 39, 13, 0, 0, 0), (9, 0, 0, 0, 0, 1), (10, 42, 14, 0, 0, 0), (13, 0, 0, 0, 0, 0), (14, 90, 0, 0, 0, 0)]
/-- Pattern_isOperand -/
def jo_80 : List (Nat × Nat × Nat × Nat × Nat × Int32) := [(0, 5, 0, 0, 0, 0), (1, 32, 14, 0, 0, 0), (4, 5, 0, 0, 0, 0), (5, 1, 0, 0, 0, 7), (7, 39, 14, 0, 0, 0), (10, 0, 0, 0, 0, 1), (11, 42, 15, 0, 0, 0), (14, 0, 0, 0, 0, 0), (15, 90, 0, 0, 0, 0)]
/-- Pattern_isSound -/
def jo_81 : List (Nat × Nat × Nat × Nat × Nat × Int32) := [(0, 5, 0, 0, 0, 0), (1, 32, 9, 0, 0, 0), (4, 5, 0, 0, 0, 0), (5, 0, 0, 0, 0, 3), (6, 41, 11, 0, 0, 0), (9, 0, 0, 0, 0, 0), (10, 90, 0, 0, 0, 0), (11, 5, 0, 0, 0, 0), (12, 31, 24, 0, 0, 0), (15, 5, 1, 0, 0, 0), (16, 81, 15, 79, 1, 0), (19, 31, 24, 0, 0, 0), (22, 0, 0, 0, 0, 0), (23, 90, 0, 0, 0, 0), (24, 5, 2, 0, 0, 0), (25, 81, 19, 80, 1, 0), (28, 30, 47, 0, 0, 0), (31, 5, 0, 0, 0, 0), (32, 0, 0, 0, 0, 1), (33, 37, 43, 0, 0, 0), (36, 5, 3, 0, 0, 0), (37, 81, 19, 80, 1, 0), (40, 30, 47, 0, 0, 0), (43, 0, 0, 0, 0, 1), (44, 42, 48, 0, 0, 0), (47, 0, 0, 0, 0, 0), (48, 90, 0, 0, 0, 0)]
/-- Pattern_describe -/
def jo_82 : List (Nat × Nat × Nat × Nat × Nat × Int32) := [(0, 7, 0, 0, 0, 0), (1, 5, 1, 0, 0, 0), (2, 47, 9, 8, 0, 0), (5, 7, 0, 0, 0, 0), (6, 5, 1, 0, 0, 0), (7, 31, 14, 0, 0, 0), (10, 5, 2, 0, 0, 0), (11, 42, 15, 0, 0, 0), (14, 0, 0, 0, 0, 0), (15, 47, 26, 8, 1, 0), (18, 7, 0, 0, 0, 0), (19, 5, 1, 0, 0, 0), (20, 0, 0, 0, 0, (-1)), (21, 37, 28, 0, 0, 0), (24, 0, 0, 0, 0, 0), (25, 42, 29, 0, 0, 0), (28, 5, 3, 0, 0, 0), (29, 47, 29, 8, 2, 0), (32, 7, 0, 0, 0, 0), (33, 5, 1, 0, 0, 0), (34, 0, 0, 0, 0, 1), (35, 37, 43, 0, 0, 0), (38, 6, 4, 0, 0, 0), (40, 42, 44, 0, 0, 0), (43, 0, 0, 0, 0, 0), (44, 47, 32, 8, 3, 0), (47, 91, 0, 0, 0, 0)]
/-- Item_begin -/
def jo_83 : List (Nat × Nat × Nat × Nat × Nat × Int32) := [(0, 7, 0, 0, 0, 0), (1, 45, 12, 7, 0, 0), (4, 5, 2, 0, 0, 0), (5, 5, 3, 0, 0, 0), (6, 6, 4, 0, 0, 0), (8, 6, 5, 0, 0, 0), (10, 80, 25, 82, 5, 0), (13, 7, 0, 0, 0, 0), (14, 0, 0, 0, 0, 0), (15, 47, 29, 7, 3, 0), (18, 7, 0, 0, 0, 0), (19, 5, 1, 0, 0, 0), (20, 47, 33, 7, 4, 0), (23, 7, 0, 0, 0, 0), (24, 0, 0, 0, 0, 0), (25, 47, 37, 7, 5, 0), (28, 91, 0, 0, 0, 0)]
/-- Pattern_unknownBit -/
def jo_84 : List (Nat × Nat × Nat × Nat × Nat × Int32) := [(0, 5, 0, 0, 0, 0), (1, 0, 0, 0, 0, 4), (2, 39, 9, 0, 0, 0), (5, 0, 0, 0, 0, 0), (6, 42, 14, 0, 0, 0), (9, 0, 0, 0, 0, 1), (10, 5, 0, 0, 0, 0), (11, 0, 0, 0, 0, 4), (12, 15, 0, 0, 0, 0), (13, 20, 0, 0, 0, 0), (14, 90, 0, 0, 0, 0)]
/-- Pattern_unknownsIn -/
def jo_85 : List (Nat × Nat × Nat × Nat × Nat × Int32) := [(0, 5, 0, 0, 0, 0), (1, 0, 0, 0, 0, 1), (2, 37, 17, 0, 0, 0), (5, 5, 1, 0, 0, 0), (6, 81, 22, 84, 1, 0), (9, 5, 2, 0, 0, 0), (10, 81, 22, 84, 1, 0), (13, 18, 0, 0, 0, 0), (14, 42, 21, 0, 0, 0), (17, 5, 1, 0, 0, 0), (18, 81, 22, 84, 1, 0), (21, 90, 0, 0, 0, 0)]
/-- Pattern_unknowns -/
def jo_86 : List (Nat × Nat × Nat × Nat × Nat × Int32) := [(0, 7, 0, 0, 0, 0), (1, 45, 9, 8, 0, 0), (4, 7, 0, 0, 0, 0), (5, 45, 29, 8, 2, 0), (8, 7, 0, 0, 0, 0), (9, 45, 32, 8, 3, 0), (12, 81, 35, 85, 3, 0), (15, 90, 0, 0, 0, 0)]
/-- Script_append -/
def jo_87 : List (Nat × Nat × Nat × Nat × Nat × Int32) := [(0, 7, 0, 0, 0, 0), (1, 45, 18, 6, 1, 0), (4, 1, 0, 0, 0, 6), (6, 38, 11, 0, 0, 0), (9, 0, 0, 0, 0, 0), (10, 90, 0, 0, 0, 0), (11, 7, 0, 0, 0, 0), (12, 45, 11, 6, 0, 0), (15, 7, 0, 0, 0, 0), (16, 45, 18, 6, 1, 0), (19, 53, 0, 0, 0, 0), (20, 5, 1, 0, 0, 0), (21, 5, 2, 0, 0, 0), (22, 5, 3, 0, 0, 0), (23, 6, 4, 0, 0, 0), (25, 6, 5, 0, 0, 0), (27, 80, 41, 83, 6, 0), (30, 7, 0, 0, 0, 0), (31, 26, 0, 0, 0, 0), (32, 45, 38, 6, 2, 0), (35, 7, 0, 0, 0, 0), (36, 45, 11, 6, 0, 0), (39, 7, 0, 0, 0, 0), (40, 45, 18, 6, 1, 0), (43, 53, 0, 0, 0, 0), (44, 46, 45, 7, 0, 0), (47, 80, 49, 86, 1, 0), (50, 18, 0, 0, 0, 0), (51, 47, 38, 6, 2, 0), (54, 7, 0, 0, 0, 0), (55, 26, 0, 0, 0, 0), (56, 45, 18, 6, 1, 0), (59, 0, 0, 0, 0, 1), (60, 14, 0, 0, 0, 0), (61, 47, 18, 6, 1, 0), (64, 0, 0, 0, 0, 1), (65, 90, 0, 0, 0, 0)]
/-- Script_size -/
def jo_88 : List (Nat × Nat × Nat × Nat × Nat × Int32) := [(0, 7, 0, 0, 0, 0), (1, 45, 18, 6, 1, 0), (4, 90, 0, 0, 0, 0)]
/-- PathPatcher_item -/
def jo_89 : List (Nat × Nat × Nat × Nat × Nat × Int32) := [(0, 5, 2, 0, 0, 0), (1, 5, 3, 0, 0, 0), (2, 6, 4, 0, 0, 0), (4, 6, 5, 0, 0, 0), (6, 81, 99, 81, 4, 0), (9, 31, 14, 0, 0, 0), (12, 0, 0, 0, 0, (-1)), (13, 90, 0, 0, 0, 0), (14, 5, 2, 0, 0, 0), (15, 0, 0, 0, 0, 3), (16, 37, 26, 0, 0, 0), (19, 5, 1, 0, 0, 0), (20, 30, 26, 0, 0, 0), (23, 1, 0, 0, 0, (-2)), (25, 90, 0, 0, 0, 0), (26, 7, 0, 0, 0, 0), (27, 45, 35, 0, 3, 0), (30, 5, 1, 0, 0, 0), (31, 5, 2, 0, 0, 0), (32, 5, 3, 0, 0, 0), (33, 6, 4, 0, 0, 0), (35, 6, 5, 0, 0, 0), (37, 80, 105, 87, 6, 0), (40, 31, 46, 0, 0, 0), (43, 1, 0, 0, 0, (-3)), (45, 90, 0, 0, 0, 0), (46, 7, 0, 0, 0, 0), (47, 0, 0, 0, 0, 0), (48, 47, 108, 0, 8, 0), (51, 7, 0, 0, 0, 0), (52, 45, 35, 0, 3, 0), (55, 80, 112, 88, 1, 0), (58, 90, 0, 0, 0, 0)]
/-- M_valid -/
def jo_90 : List (Nat × Nat × Nat × Nat × Nat × Int32) := [(0, 5, 1, 0, 0, 0), (1, 32, 23, 0, 0, 0), (4, 5, 1, 0, 0, 0), (5, 0, 0, 0, 0, 3), (6, 40, 23, 0, 0, 0), (9, 5, 3, 0, 0, 0), (10, 32, 23, 0, 0, 0), (13, 5, 3, 0, 0, 0), (14, 1, 0, 0, 0, 6), (16, 40, 23, 0, 0, 0), (19, 0, 0, 0, 0, 1), (20, 42, 24, 0, 0, 0), (23, 0, 0, 0, 0, 0), (24, 10, 5, 0, 0, 0), (26, 6, 5, 0, 0, 0), (28, 30, 65, 0, 0, 0), (31, 5, 1, 0, 0, 0), (32, 31, 44, 0, 0, 0), (35, 5, 2, 0, 0, 0), (36, 32, 65, 0, 0, 0), (39, 5, 2, 0, 0, 0), (40, 0, 0, 0, 0, 2), (41, 40, 65, 0, 0, 0), (44, 5, 1, 0, 0, 0), (45, 0, 0, 0, 0, 1), (46, 37, 61, 0, 0, 0), (49, 6, 4, 0, 0, 0), (51, 32, 65, 0, 0, 0), (54, 6, 4, 0, 0, 0), (56, 1, 0, 0, 0, 6), (58, 40, 65, 0, 0, 0), (61, 0, 0, 0, 0, 1), (62, 42, 66, 0, 0, 0), (65, 0, 0, 0, 0, 0), (66, 90, 0, 0, 0, 0)]
/-- M_item -/
def jo_91 : List (Nat × Nat × Nat × Nat × Nat × Int32) := [(0, 7, 0, 0, 0, 0), (1, 5, 2, 0, 0, 0), (2, 5, 3, 0, 0, 0), (3, 6, 4, 0, 0, 0), (5, 6, 5, 0, 0, 0), (7, 80, 193, 90, 5, 0), (10, 31, 15, 0, 0, 0), (13, 0, 0, 0, 0, (-1)), (14, 90, 0, 0, 0, 0), (15, 5, 2, 0, 0, 0), (16, 0, 0, 0, 0, 3), (17, 37, 27, 0, 0, 0), (20, 5, 1, 0, 0, 0), (21, 30, 27, 0, 0, 0), (24, 1, 0, 0, 0, (-2)), (26, 90, 0, 0, 0, 0), (27, 7, 0, 0, 0, 0), (28, 45, 186, 12, 21, 0), (31, 1, 0, 0, 0, 6), (33, 37, 39, 0, 0, 0), (36, 1, 0, 0, 0, (-3)), (38, 90, 0, 0, 0, 0), (39, 7, 0, 0, 0, 0), (40, 45, 62, 12, 22, 0), (43, 7, 0, 0, 0, 0), (44, 45, 186, 12, 21, 0), (47, 5, 2, 0, 0, 0), (48, 55, 0, 0, 0, 0), (49, 7, 0, 0, 0, 0), (50, 45, 65, 12, 23, 0), (53, 7, 0, 0, 0, 0), (54, 45, 186, 12, 21, 0), (57, 5, 3, 0, 0, 0), (58, 55, 0, 0, 0, 0), (59, 7, 0, 0, 0, 0), (60, 45, 68, 12, 24, 0), (63, 7, 0, 0, 0, 0), (64, 45, 186, 12, 21, 0), (67, 6, 4, 0, 0, 0), (69, 55, 0, 0, 0, 0), (70, 7, 0, 0, 0, 0), (71, 45, 71, 12, 25, 0), (74, 7, 0, 0, 0, 0), (75, 45, 186, 12, 21, 0), (78, 6, 5, 0, 0, 0), (80, 55, 0, 0, 0, 0), (81, 7, 0, 0, 0, 0), (82, 45, 74, 12, 26, 0), (85, 7, 0, 0, 0, 0), (86, 45, 186, 12, 21, 0), (89, 5, 1, 0, 0, 0), (90, 57, 0, 0, 0, 0), (91, 7, 0, 0, 0, 0), (92, 45, 77, 12, 27, 0), (95, 7, 0, 0, 0, 0), (96, 45, 186, 12, 21, 0), (99, 0, 0, 0, 0, 0), (100, 57, 0, 0, 0, 0), (101, 7, 0, 0, 0, 0), (102, 45, 92, 12, 32, 0), (105, 7, 0, 0, 0, 0), (106, 45, 186, 12, 21, 0), (109, 0, 0, 0, 0, 0), (110, 55, 0, 0, 0, 0), (111, 7, 0, 0, 0, 0), (112, 26, 0, 0, 0, 0), (113, 45, 186, 12, 21, 0), (116, 0, 0, 0, 0, 1), (117, 14, 0, 0, 0, 0), (118, 47, 186, 12, 21, 0), (121, 7, 0, 0, 0, 0), (122, 45, 186, 12, 21, 0), (125, 90, 0, 0, 0, 0)]
/-- Script_isEmpty -/
def jo_92 : List (Nat × Nat × Nat × Nat × Nat × Int32) := [(0, 7, 0, 0, 0, 0), (1, 45, 18, 6, 1, 0), (4, 31, 11, 0, 0, 0), (7, 0, 0, 0, 0, 1), (8, 42, 12, 0, 0, 0), (11, 0, 0, 0, 0, 0), (12, 90, 0, 0, 0, 0)]
/-- Script_holds -/
def jo_93 : List (Nat × Nat × Nat × Nat × Nat × Int32) := [(0, 5, 1, 0, 0, 0), (1, 32, 16, 0, 0, 0), (4, 5, 1, 0, 0, 0), (5, 7, 0, 0, 0, 0), (6, 45, 18, 6, 1, 0), (9, 39, 16, 0, 0, 0), (12, 0, 0, 0, 0, 1), (13, 42, 17, 0, 0, 0), (16, 0, 0, 0, 0, 0), (17, 90, 0, 0, 0, 0)]
/-- Script_itemOf -/
def jo_94 : List (Nat × Nat × Nat × Nat × Nat × Int32) := [(0, 7, 0, 0, 0, 0), (1, 45, 11, 6, 0, 0), (4, 7, 0, 0, 0, 0), (5, 5, 1, 0, 0, 0), (6, 80, 22, 93, 2, 0), (9, 30, 16, 0, 0, 0), (12, 5, 1, 0, 0, 0), (13, 42, 17, 0, 0, 0), (16, 0, 0, 0, 0, 0), (17, 53, 0, 0, 0, 0), (18, 92, 0, 0, 0, 0)]
/-- Script_last -/
def jo_95 : List (Nat × Nat × Nat × Nat × Nat × Int32) := [(0, 7, 0, 0, 0, 0), (1, 7, 0, 0, 0, 0), (2, 45, 18, 6, 1, 0), (5, 0, 0, 0, 0, 1), (6, 15, 0, 0, 0, 0), (7, 80, 26, 94, 2, 0), (10, 92, 0, 0, 0, 0)]
/-- Script_endsInDots -/
def jo_96 : List (Nat × Nat × Nat × Nat × Nat × Int32) := [(0, 7, 0, 0, 0, 0), (1, 45, 18, 6, 1, 0), (4, 35, 21, 0, 0, 0), (7, 7, 0, 0, 0, 0), (8, 80, 30, 95, 1, 0), (11, 46, 34, 7, 5, 0), (14, 30, 21, 0, 0, 0), (17, 0, 0, 0, 0, 1), (18, 42, 22, 0, 0, 0), (21, 0, 0, 0, 0, 0), (22, 90, 0, 0, 0, 0)]
/-- Script_knowsUnknowns -/
def jo_97 : List (Nat × Nat × Nat × Nat × Nat × Int32) := [(0, 5, 1, 0, 0, 0), (1, 5, 2, 0, 0, 0), (2, 5, 3, 0, 0, 0), (3, 81, 54, 85, 3, 0), (6, 7, 0, 0, 0, 0), (7, 45, 38, 6, 2, 0), (10, 0, 0, 0, 0, (-1)), (11, 19, 0, 0, 0, 0), (12, 17, 0, 0, 0, 0), (13, 31, 20, 0, 0, 0), (16, 0, 0, 0, 0, 1), (17, 42, 21, 0, 0, 0), (20, 0, 0, 0, 0, 0), (21, 90, 0, 0, 0, 0)]
/-- Item_follow -/
def jo_98 : List (Nat × Nat × Nat × Nat × Nat × Int32) := [(0, 7, 0, 0, 0, 0), (1, 45, 18, 7, 1, 0), (4, 5, 1, 0, 0, 0), (5, 5, 2, 0, 0, 0), (6, 5, 3, 0, 0, 0), (7, 6, 4, 0, 0, 0), (9, 80, 25, 82, 5, 0), (12, 7, 0, 0, 0, 0), (13, 0, 0, 0, 0, 1), (14, 47, 37, 7, 5, 0), (17, 91, 0, 0, 0, 0)]
/-- PathPatcher_dots -/
def jo_99 : List (Nat × Nat × Nat × Nat × Nat × Int32) := [(0, 7, 0, 0, 0, 0), (1, 45, 35, 0, 3, 0), (4, 80, 113, 92, 1, 0), (7, 31, 20, 0, 0, 0), (10, 7, 0, 0, 0, 0), (11, 45, 35, 0, 3, 0), (14, 80, 116, 96, 1, 0), (17, 30, 22, 0, 0, 0), (20, 0, 0, 0, 0, 0), (21, 90, 0, 0, 0, 0), (22, 5, 1, 0, 0, 0), (23, 0, 0, 0, 0, (-1)), (24, 36, 54, 0, 0, 0), (27, 5, 1, 0, 0, 0), (28, 5, 2, 0, 0, 0), (29, 5, 3, 0, 0, 0), (30, 6, 4, 0, 0, 0), (32, 81, 99, 81, 4, 0), (35, 30, 52, 0, 0, 0), (38, 7, 0, 0, 0, 0), (39, 45, 35, 0, 3, 0), (42, 5, 1, 0, 0, 0), (43, 5, 3, 0, 0, 0), (44, 6, 4, 0, 0, 0), (46, 80, 119, 97, 4, 0), (49, 31, 54, 0, 0, 0), (52, 0, 0, 0, 0, 0), (53, 90, 0, 0, 0, 0), (54, 7, 0, 0, 0, 0), (55, 45, 35, 0, 3, 0), (58, 80, 123, 95, 1, 0), (61, 5, 1, 0, 0, 0), (62, 5, 2, 0, 0, 0), (63, 5, 3, 0, 0, 0), (64, 6, 4, 0, 0, 0), (66, 80, 127, 98, 5, 0), (69, 7, 0, 0, 0, 0), (70, 0, 0, 0, 0, 0), (71, 47, 108, 0, 8, 0), (74, 0, 0, 0, 0, 1), (75, 90, 0, 0, 0, 0)]
/-- M_noLast -/
def jo_100 : List (Nat × Nat × Nat × Nat × Nat × Int32) := [(0, 7, 0, 0, 0, 0), (1, 45, 186, 12, 21, 0), (4, 30, 21, 0, 0, 0), (7, 7, 0, 0, 0, 0), (8, 45, 77, 12, 27, 0), (11, 7, 0, 0, 0, 0), (12, 45, 186, 12, 21, 0), (15, 0, 0, 0, 0, 1), (16, 15, 0, 0, 0, 0), (17, 52, 0, 0, 0, 0), (18, 30, 25, 0, 0, 0), (21, 0, 0, 0, 0, 1), (22, 42, 26, 0, 0, 0), (25, 0, 0, 0, 0, 0), (26, 90, 0, 0, 0, 0)]
/-- M_mark -/
def jo_101 : List (Nat × Nat × Nat × Nat × Nat × Int32) := [(0, 5, 1, 0, 0, 0), (1, 0, 0, 0, 0, 4), (2, 38, 13, 0, 0, 0), (5, 0, 0, 0, 0, 1), (6, 5, 1, 0, 0, 0), (7, 0, 0, 0, 0, 4), (8, 15, 0, 0, 0, 0), (9, 20, 0, 0, 0, 0), (10, 42, 14, 0, 0, 0), (13, 0, 0, 0, 0, 0), (14, 90, 0, 0, 0, 0)]
/-- M_names -/
def jo_102 : List (Nat × Nat × Nat × Nat × Nat × Int32) := [(0, 7, 0, 0, 0, 0), (1, 5, 2, 0, 0, 0), (2, 80, 183, 101, 2, 0), (5, 5, 1, 0, 0, 0), (6, 0, 0, 0, 0, 1), (7, 37, 18, 0, 0, 0), (10, 7, 0, 0, 0, 0), (11, 5, 3, 0, 0, 0), (12, 80, 183, 101, 2, 0), (15, 42, 19, 0, 0, 0), (18, 0, 0, 0, 0, 0), (19, 18, 0, 0, 0, 0), (20, 90, 0, 0, 0, 0)]
/-- M_named -/
def jo_103 : List (Nat × Nat × Nat × Nat × Nat × Int32) := [(0, 0, 0, 0, 0, 0), (1, 9, 1, 0, 0, 0), (2, 0, 0, 0, 0, 0), (3, 9, 2, 0, 0, 0), (4, 5, 2, 0, 0, 0), (5, 7, 0, 0, 0, 0), (6, 45, 186, 12, 21, 0), (9, 39, 43, 0, 0, 0), (12, 5, 1, 0, 0, 0), (13, 7, 0, 0, 0, 0), (14, 7, 0, 0, 0, 0), (15, 45, 62, 12, 22, 0), (18, 5, 2, 0, 0, 0), (19, 50, 0, 0, 0, 0), (20, 7, 0, 0, 0, 0), (21, 45, 68, 12, 24, 0), (24, 5, 2, 0, 0, 0), (25, 50, 0, 0, 0, 0), (26, 7, 0, 0, 0, 0), (27, 45, 71, 12, 25, 0), (30, 5, 2, 0, 0, 0), (31, 50, 0, 0, 0, 0), (32, 80, 189, 102, 4, 0), (35, 18, 0, 0, 0, 0), (36, 9, 1, 0, 0, 0), (37, 13, 2, 0, 0, 1), (40, 42, 4, 0, 0, 0), (43, 5, 1, 0, 0, 0), (44, 90, 0, 0, 0, 0)]
/-- M_dots -/
def jo_104 : List (Nat × Nat × Nat × Nat × Nat × Int32) := [(0, 7, 0, 0, 0, 0), (1, 80, 197, 100, 1, 0), (4, 31, 47, 0, 0, 0), (7, 5, 1, 0, 0, 0), (8, 0, 0, 0, 0, (-1)), (9, 36, 24, 0, 0, 0), (12, 7, 0, 0, 0, 0), (13, 5, 1, 0, 0, 0), (14, 5, 2, 0, 0, 0), (15, 5, 3, 0, 0, 0), (16, 6, 4, 0, 0, 0), (18, 80, 193, 90, 5, 0), (21, 30, 47, 0, 0, 0), (24, 5, 1, 0, 0, 0), (25, 0, 0, 0, 0, (-1)), (26, 36, 49, 0, 0, 0), (29, 7, 0, 0, 0, 0), (30, 5, 1, 0, 0, 0), (31, 5, 3, 0, 0, 0), (32, 6, 4, 0, 0, 0), (34, 80, 189, 102, 4, 0), (37, 7, 0, 0, 0, 0), (38, 80, 200, 103, 1, 0), (41, 0, 0, 0, 0, (-1)), (42, 19, 0, 0, 0, 0), (43, 17, 0, 0, 0, 0), (44, 30, 49, 0, 0, 0), (47, 0, 0, 0, 0, 0), (48, 90, 0, 0, 0, 0), (49, 7, 0, 0, 0, 0), (50, 45, 186, 12, 21, 0), (53, 0, 0, 0, 0, 1), (54, 15, 0, 0, 0, 0), (55, 10, 5, 0, 0, 0), (57, 7, 0, 0, 0, 0), (58, 45, 77, 12, 27, 0), (61, 6, 5, 0, 0, 0), (63, 0, 0, 0, 0, 1), (64, 57, 0, 0, 0, 0), (65, 7, 0, 0, 0, 0), (66, 45, 80, 12, 28, 0), (69, 6, 5, 0, 0, 0), (71, 5, 1, 0, 0, 0), (72, 55, 0, 0, 0, 0), (73, 7, 0, 0, 0, 0), (74, 45, 83, 12, 29, 0), (77, 6, 5, 0, 0, 0), (79, 5, 2, 0, 0, 0), (80, 55, 0, 0, 0, 0), (81, 7, 0, 0, 0, 0), (82, 45, 86, 12, 30, 0), (85, 6, 5, 0, 0, 0), (87, 5, 3, 0, 0, 0), (88, 55, 0, 0, 0, 0), (89, 7, 0, 0, 0, 0), (90, 45, 89, 12, 31, 0), (93, 6, 5, 0, 0, 0), (95, 6, 4, 0, 0, 0), (97, 55, 0, 0, 0, 0), (98, 0, 0, 0, 0, 1), (99, 90, 0, 0, 0, 0)]
/-- Item_takesNew -/
def jo_105 : List (Nat × Nat × Nat × Nat × Nat × Int32) := [(0, 7, 0, 0, 0, 0), (1, 45, 12, 7, 0, 0), (4, 46, 40, 8, 0, 0), (7, 0, 0, 0, 0, 3), (8, 36, 23, 0, 0, 0), (11, 7, 0, 0, 0, 0), (12, 45, 29, 7, 3, 0), (15, 0, 0, 0, 0, 2), (16, 39, 23, 0, 0, 0), (19, 0, 0, 0, 0, 1), (20, 42, 24, 0, 0, 0), (23, 0, 0, 0, 0, 0), (24, 90, 0, 0, 0, 0)]
/-- Item_append -/
def jo_106 : List (Nat × Nat × Nat × Nat × Nat × Int32) := [(0, 7, 0, 0, 0, 0), (1, 45, 29, 7, 3, 0), (4, 0, 0, 0, 0, 2), (5, 39, 35, 0, 0, 0), (8, 7, 0, 0, 0, 0), (9, 45, 21, 7, 2, 0), (12, 7, 0, 0, 0, 0), (13, 45, 29, 7, 3, 0), (16, 53, 0, 0, 0, 0), (17, 5, 1, 0, 0, 0), (18, 5, 2, 0, 0, 0), (19, 5, 3, 0, 0, 0), (20, 6, 4, 0, 0, 0), (22, 80, 25, 82, 5, 0), (25, 7, 0, 0, 0, 0), (26, 26, 0, 0, 0, 0), (27, 45, 29, 7, 3, 0), (30, 0, 0, 0, 0, 1), (31, 14, 0, 0, 0, 0), (32, 47, 29, 7, 3, 0), (35, 91, 0, 0, 0, 0)]
/-- PathPatcher_plus -/
def jo_107 : List (Nat × Nat × Nat × Nat × Nat × Int32) := [(0, 7, 0, 0, 0, 0), (1, 45, 35, 0, 3, 0), (4, 80, 113, 92, 1, 0), (7, 31, 33, 0, 0, 0), (10, 7, 0, 0, 0, 0), (11, 45, 35, 0, 3, 0), (14, 80, 116, 96, 1, 0), (17, 31, 33, 0, 0, 0), (20, 7, 0, 0, 0, 0), (21, 45, 35, 0, 3, 0), (24, 80, 123, 95, 1, 0), (27, 80, 133, 105, 1, 0), (30, 31, 35, 0, 0, 0), (33, 0, 0, 0, 0, 0), (34, 90, 0, 0, 0, 0), (35, 5, 1, 0, 0, 0), (36, 0, 0, 0, 0, 3), (37, 36, 65, 0, 0, 0), (40, 5, 1, 0, 0, 0), (41, 5, 2, 0, 0, 0), (42, 5, 3, 0, 0, 0), (43, 6, 4, 0, 0, 0), (45, 81, 99, 81, 4, 0), (48, 30, 65, 0, 0, 0), (51, 7, 0, 0, 0, 0), (52, 45, 35, 0, 3, 0), (55, 5, 1, 0, 0, 0), (56, 5, 3, 0, 0, 0), (57, 6, 4, 0, 0, 0), (59, 80, 119, 97, 4, 0), (62, 31, 67, 0, 0, 0), (65, 0, 0, 0, 0, 0), (66, 90, 0, 0, 0, 0), (67, 7, 0, 0, 0, 0), (68, 45, 35, 0, 3, 0), (71, 80, 123, 95, 1, 0), (74, 5, 1, 0, 0, 0), (75, 5, 2, 0, 0, 0), (76, 5, 3, 0, 0, 0), (77, 6, 4, 0, 0, 0), (79, 80, 136, 106, 5, 0), (82, 7, 0, 0, 0, 0), (83, 0, 0, 0, 0, 0), (84, 47, 108, 0, 8, 0), (87, 0, 0, 0, 0, 1), (88, 90, 0, 0, 0, 0)]
/-- M_plus -/
def jo_108 : List (Nat × Nat × Nat × Nat × Nat × Int32) := [(0, 7, 0, 0, 0, 0), (1, 80, 197, 100, 1, 0), (4, 31, 72, 0, 0, 0), (7, 7, 0, 0, 0, 0), (8, 45, 62, 12, 22, 0), (11, 7, 0, 0, 0, 0), (12, 45, 186, 12, 21, 0), (15, 0, 0, 0, 0, 1), (16, 15, 0, 0, 0, 0), (17, 50, 0, 0, 0, 0), (18, 0, 0, 0, 0, 3), (19, 36, 72, 0, 0, 0), (22, 7, 0, 0, 0, 0), (23, 45, 92, 12, 32, 0), (26, 7, 0, 0, 0, 0), (27, 45, 186, 12, 21, 0), (30, 0, 0, 0, 0, 1), (31, 15, 0, 0, 0, 0), (32, 50, 0, 0, 0, 0), (33, 0, 0, 0, 0, 2), (34, 36, 72, 0, 0, 0), (37, 5, 1, 0, 0, 0), (38, 0, 0, 0, 0, 3), (39, 36, 72, 0, 0, 0), (42, 7, 0, 0, 0, 0), (43, 5, 1, 0, 0, 0), (44, 5, 2, 0, 0, 0), (45, 5, 3, 0, 0, 0), (46, 6, 4, 0, 0, 0), (48, 80, 193, 90, 5, 0), (51, 30, 72, 0, 0, 0), (54, 7, 0, 0, 0, 0), (55, 5, 1, 0, 0, 0), (56, 5, 3, 0, 0, 0), (57, 6, 4, 0, 0, 0), (59, 80, 189, 102, 4, 0), (62, 7, 0, 0, 0, 0), (63, 80, 200, 103, 1, 0), (66, 0, 0, 0, 0, (-1)), (67, 19, 0, 0, 0, 0), (68, 17, 0, 0, 0, 0), (69, 30, 74, 0, 0, 0), (72, 0, 0, 0, 0, 0), (73, 90, 0, 0, 0, 0), (74, 0, 0, 0, 0, 2), (75, 7, 0, 0, 0, 0), (76, 45, 186, 12, 21, 0), (79, 0, 0, 0, 0, 1), (80, 15, 0, 0, 0, 0), (81, 16, 0, 0, 0, 0), (82, 7, 0, 0, 0, 0), (83, 45, 92, 12, 32, 0), (86, 7, 0, 0, 0, 0), (87, 45, 186, 12, 21, 0), (90, 0, 0, 0, 0, 1), (91, 15, 0, 0, 0, 0), (92, 50, 0, 0, 0, 0), (93, 14, 0, 0, 0, 0), (94, 10, 5, 0, 0, 0), (96, 7, 0, 0, 0, 0), (97, 45, 95, 12, 33, 0), (100, 6, 5, 0, 0, 0), (102, 5, 1, 0, 0, 0), (103, 55, 0, 0, 0, 0), (104, 7, 0, 0, 0, 0), (105, 45, 98, 12, 34, 0), (108, 6, 5, 0, 0, 0), (110, 5, 2, 0, 0, 0), (111, 55, 0, 0, 0, 0), (112, 7, 0, 0, 0, 0), (113, 45, 101, 12, 35, 0), (116, 6, 5, 0, 0, 0), (118, 5, 3, 0, 0, 0), (119, 55, 0, 0, 0, 0), (120, 7, 0, 0, 0, 0), (121, 45, 104, 12, 36, 0), (124, 6, 5, 0, 0, 0), (126, 6, 4, 0, 0, 0), (128, 55, 0, 0, 0, 0), (129, 7, 0, 0, 0, 0), (130, 45, 92, 12, 32, 0), (133, 7, 0, 0, 0, 0), (134, 45, 186, 12, 21, 0), (137, 0, 0, 0, 0, 1), (138, 15, 0, 0, 0, 0), (139, 29, 0, 0, 0, 0), (140, 50, 0, 0, 0, 0), (141, 0, 0, 0, 0, 1), (142, 14, 0, 0, 0, 0), (143, 55, 0, 0, 0, 0), (144, 0, 0, 0, 0, 1), (145, 90, 0, 0, 0, 0)]
/-- Script_empty -/
def jo_109 : List (Nat × Nat × Nat × Nat × Nat × Int32) := [(0, 7, 0, 0, 0, 0), (1, 0, 0, 0, 0, 0), (2, 47, 18, 6, 1, 0), (5, 7, 0, 0, 0, 0), (6, 0, 0, 0, 0, 0), (7, 47, 38, 6, 2, 0), (10, 91, 0, 0, 0, 0)]
/-- PathPatcher_forget -/
def jo_110 : List (Nat × Nat × Nat × Nat × Nat × Int32) := [(0, 7, 0, 0, 0, 0), (1, 45, 35, 0, 3, 0), (4, 80, 138, 109, 1, 0), (7, 7, 0, 0, 0, 0), (8, 0, 0, 0, 0, 0), (9, 47, 108, 0, 8, 0), (12, 91, 0, 0, 0, 0)]
/-- M_forget -/
def jo_111 : List (Nat × Nat × Nat × Nat × Nat × Int32) := [(0, 7, 0, 0, 0, 0), (1, 0, 0, 0, 0, 0), (2, 47, 186, 12, 21, 0), (5, 91, 0, 0, 0, 0)]
/-- PathPatcher_refusalOfSearch -/
def jo_112 : List (Nat × Nat × Nat × Nat × Nat × Int32) := [(0, 7, 0, 0, 0, 0), (1, 80, 79, 58, 1, 0), (4, 31, 9, 0, 0, 0), (7, 0, 0, 0, 0, (-1)), (8, 90, 0, 0, 0, 0), (9, 7, 0, 0, 0, 0), (10, 45, 35, 0, 3, 0), (13, 80, 113, 92, 1, 0), (16, 31, 29, 0, 0, 0), (19, 7, 0, 0, 0, 0), (20, 45, 35, 0, 3, 0), (23, 80, 116, 96, 1, 0), (26, 30, 34, 0, 0, 0), (29, 1, 0, 0, 0, (-2)), (31, 42, 35, 0, 0, 0), (34, 0, 0, 0, 0, 0), (35, 90, 0, 0, 0, 0)]
/-- Edit_reset -/
def jo_113 : List (Nat × Nat × Nat × Nat × Nat × Int32) := [(0, 7, 0, 0, 0, 0), (1, 0, 0, 0, 0, 0), (2, 47, 23, 10, 1, 0), (5, 7, 0, 0, 0, 0), (6, 0, 0, 0, 0, 0), (7, 47, 19, 10, 2, 0), (10, 7, 0, 0, 0, 0), (11, 0, 0, 0, 0, 0), (12, 47, 15, 10, 3, 0), (15, 91, 0, 0, 0, 0)]
/-- Search_reset -/
def jo_114 : List (Nat × Nat × Nat × Nat × Nat × Int32) := [(0, 7, 0, 0, 0, 0), (1, 0, 0, 0, 0, 0), (2, 47, 56, 9, 7, 0), (5, 0, 0, 0, 0, 0), (6, 9, 1, 0, 0, 0), (7, 5, 1, 0, 0, 0), (8, 1, 0, 0, 0, 64), (10, 39, 26, 0, 0, 0), (13, 7, 0, 0, 0, 0), (14, 45, 9, 9, 2, 0), (17, 5, 1, 0, 0, 0), (18, 0, 0, 0, 0, 0), (19, 55, 0, 0, 0, 0), (20, 13, 1, 0, 0, 1), (23, 42, 7, 0, 0, 0), (26, 0, 0, 0, 0, 0), (27, 9, 1, 0, 0, 0), (28, 5, 1, 0, 0, 0), (29, 1, 0, 0, 0, 6), (31, 39, 47, 0, 0, 0), (34, 7, 0, 0, 0, 0), (35, 45, 15, 9, 3, 0), (38, 5, 1, 0, 0, 0), (39, 0, 0, 0, 0, 0), (40, 55, 0, 0, 0, 0), (41, 13, 1, 0, 0, 1), (44, 42, 28, 0, 0, 0), (47, 0, 0, 0, 0, 0), (48, 9, 1, 0, 0, 0), (49, 5, 1, 0, 0, 0), (50, 1, 0, 0, 0, 24), (52, 39, 70, 0, 0, 0), (55, 7, 0, 0, 0, 0), (56, 45, 23, 9, 5, 0), (59, 5, 1, 0, 0, 0), (60, 53, 0, 0, 0, 0), (61, 80, 60, 113, 1, 0), (64, 13, 1, 0, 0, 1), (67, 42, 49, 0, 0, 0), (70, 91, 0, 0, 0, 0)]
/-- Script_allows -/
def jo_115 : List (Nat × Nat × Nat × Nat × Nat × Int32) := [(0, 0, 0, 0, 0, 0), (1, 9, 2, 0, 0, 0), (2, 5, 2, 0, 0, 0), (3, 0, 0, 0, 0, 3), (4, 39, 46, 0, 0, 0), (7, 7, 0, 0, 0, 0), (8, 45, 38, 6, 2, 0), (11, 0, 0, 0, 0, 1), (12, 5, 2, 0, 0, 0), (13, 20, 0, 0, 0, 0), (14, 17, 0, 0, 0, 0), (15, 30, 22, 0, 0, 0), (18, 0, 0, 0, 0, 1), (19, 42, 23, 0, 0, 0), (22, 0, 0, 0, 0, 0), (23, 9, 3, 0, 0, 0), (24, 5, 3, 0, 0, 0), (25, 31, 40, 0, 0, 0), (28, 5, 1, 0, 0, 0), (29, 0, 0, 0, 0, 2), (30, 5, 2, 0, 0, 0), (31, 16, 0, 0, 0, 0), (32, 21, 0, 0, 0, 0), (33, 0, 0, 0, 0, 3), (34, 17, 0, 0, 0, 0), (35, 30, 40, 0, 0, 0), (38, 0, 0, 0, 0, 0), (39, 90, 0, 0, 0, 0), (40, 13, 2, 0, 0, 1), (43, 42, 2, 0, 0, 0), (46, 0, 0, 0, 0, 1), (47, 90, 0, 0, 0, 0)]
/-- Pattern_bound -/
def jo_116 : List (Nat × Nat × Nat × Nat × Nat × Int32) := [(0, 5, 0, 0, 0, 0), (1, 0, 0, 0, 0, 4), (2, 15, 0, 0, 0, 0), (3, 9, 2, 0, 0, 0), (4, 5, 2, 0, 0, 0), (5, 33, 12, 0, 0, 0), (8, 5, 0, 0, 0, 0), (9, 42, 17, 0, 0, 0), (12, 5, 1, 0, 0, 0), (13, 0, 0, 0, 0, 2), (14, 5, 2, 0, 0, 0), (15, 16, 0, 0, 0, 0), (16, 21, 0, 0, 0, 0), (17, 0, 0, 0, 0, 3), (18, 17, 0, 0, 0, 0), (19, 90, 0, 0, 0, 0)]
/-- Pattern_likeIn -/
def jo_117 : List (Nat × Nat × Nat × Nat × Nat × Int32) := [(0, 7, 0, 0, 0, 0), (1, 45, 29, 8, 2, 0), (4, 5, 2, 0, 0, 0), (5, 81, 47, 116, 2, 0), (8, 9, 3, 0, 0, 0), (9, 7, 0, 0, 0, 0), (10, 45, 32, 8, 3, 0), (13, 5, 2, 0, 0, 0), (14, 81, 47, 116, 2, 0), (17, 10, 4, 0, 0, 0), (19, 0, 0, 0, 0, 0), (20, 10, 5, 0, 0, 0), (22, 0, 0, 0, 0, 0), (23, 10, 6, 0, 0, 0), (25, 6, 6, 0, 0, 0), (27, 7, 1, 0, 0, 0), (28, 80, 51, 59, 1, 0), (31, 39, 112, 0, 0, 0), (34, 7, 1, 0, 0, 0), (35, 6, 6, 0, 0, 0), (37, 80, 57, 33, 2, 0), (40, 12, 7, 0, 0, 0), (42, 8, 7, 0, 0, 0), (44, 46, 61, 3, 0, 0), (47, 7, 0, 0, 0, 0), (48, 45, 9, 8, 0, 0), (51, 37, 70, 0, 0, 0), (54, 8, 7, 0, 0, 0), (56, 46, 64, 3, 1, 0), (59, 7, 0, 0, 0, 0), (60, 45, 26, 8, 1, 0), (63, 37, 70, 0, 0, 0), (66, 0, 0, 0, 0, 1), (67, 42, 71, 0, 0, 0), (70, 0, 0, 0, 0, 0), (71, 10, 8, 0, 0, 0), (73, 6, 8, 0, 0, 0), (75, 30, 106, 0, 0, 0), (78, 8, 7, 0, 0, 0), (80, 46, 65, 3, 2, 0), (83, 5, 3, 0, 0, 0), (84, 37, 106, 0, 0, 0), (87, 8, 7, 0, 0, 0), (89, 46, 66, 3, 3, 0), (92, 6, 4, 0, 0, 0), (94, 37, 106, 0, 0, 0), (97, 6, 5, 0, 0, 0), (99, 0, 0, 0, 0, 1), (100, 6, 6, 0, 0, 0), (102, 20, 0, 0, 0, 0), (103, 18, 0, 0, 0, 0), (104, 10, 5, 0, 0, 0), (106, 13, 6, 0, 0, 1), (109, 42, 25, 0, 0, 0), (112, 6, 5, 0, 0, 0), (114, 90, 0, 0, 0, 0)]
/-- Program_exitBit -/
def jo_118 : List (Nat × Nat × Nat × Nat × Nat × Int32) := [(0, 0, 0, 0, 0, 1), (1, 7, 0, 0, 0, 0), (2, 45, 18, 2, 1, 0), (5, 20, 0, 0, 0, 0), (6, 90, 0, 0, 0, 0)]
/-- Node_successorSet -/
def jo_119 : List (Nat × Nat × Nat × Nat × Nat × Int32) := [(0, 0, 0, 0, 0, 1), (1, 7, 0, 0, 0, 0), (2, 45, 46, 3, 11, 0), (5, 20, 0, 0, 0, 0), (6, 9, 1, 0, 0, 0), (7, 7, 0, 0, 0, 0), (8, 45, 49, 3, 12, 0), (11, 0, 0, 0, 0, (-1)), (12, 37, 19, 0, 0, 0), (15, 5, 1, 0, 0, 0), (16, 42, 27, 0, 0, 0), (19, 5, 1, 0, 0, 0), (20, 0, 0, 0, 0, 1), (21, 7, 0, 0, 0, 0), (22, 45, 49, 3, 12, 0), (25, 20, 0, 0, 0, 0), (26, 18, 0, 0, 0, 0), (27, 90, 0, 0, 0, 0)]
/-- Program_leadingInto -/
def jo_120 : List (Nat × Nat × Nat × Nat × Nat × Int32) := [(0, 0, 0, 0, 0, 0), (1, 9, 2, 0, 0, 0), (2, 0, 0, 0, 0, 0), (3, 9, 3, 0, 0, 0), (4, 5, 3, 0, 0, 0), (5, 7, 0, 0, 0, 0), (6, 45, 18, 2, 1, 0), (9, 39, 38, 0, 0, 0), (12, 7, 0, 0, 0, 0), (13, 45, 11, 2, 0, 0), (16, 5, 3, 0, 0, 0), (17, 53, 0, 0, 0, 0), (18, 80, 59, 119, 1, 0), (21, 5, 1, 0, 0, 0), (22, 17, 0, 0, 0, 0), (23, 30, 32, 0, 0, 0), (26, 5, 2, 0, 0, 0), (27, 0, 0, 0, 0, 1), (28, 5, 3, 0, 0, 0), (29, 20, 0, 0, 0, 0), (30, 18, 0, 0, 0, 0), (31, 9, 2, 0, 0, 0), (32, 13, 3, 0, 0, 1), (35, 42, 4, 0, 0, 0), (38, 5, 2, 0, 0, 0), (39, 90, 0, 0, 0, 0)]
/-- Search_ruinousStarts -/
def jo_121 : List (Nat × Nat × Nat × Nat × Nat × Int32) := [(0, 7, 1, 0, 0, 0), (1, 46, 91, 7, 5, 0), (4, 31, 11, 0, 0, 0), (7, 5, 2, 0, 0, 0), (8, 0, 0, 0, 0, (-1)), (9, 19, 0, 0, 0, 0), (10, 90, 0, 0, 0, 0), (11, 7, 0, 0, 0, 0), (12, 45, 32, 9, 0, 0), (15, 80, 94, 118, 1, 0), (18, 7, 1, 0, 0, 0), (19, 46, 97, 7, 1, 0), (22, 7, 0, 0, 0, 0), (23, 45, 32, 9, 0, 0), (26, 5, 3, 0, 0, 0), (27, 80, 75, 117, 3, 0), (30, 5, 2, 0, 0, 0), (31, 0, 0, 0, 0, (-1)), (32, 19, 0, 0, 0, 0), (33, 17, 0, 0, 0, 0), (34, 18, 0, 0, 0, 0), (35, 10, 4, 0, 0, 0), (37, 0, 0, 0, 0, 1), (38, 10, 5, 0, 0, 0), (40, 0, 0, 0, 0, 0), (41, 10, 6, 0, 0, 0), (43, 6, 6, 0, 0, 0), (45, 1, 0, 0, 0, 24), (47, 40, 97, 0, 0, 0), (50, 6, 5, 0, 0, 0), (52, 30, 97, 0, 0, 0), (55, 6, 4, 0, 0, 0), (57, 7, 0, 0, 0, 0), (58, 45, 32, 9, 0, 0), (61, 6, 4, 0, 0, 0), (63, 80, 85, 120, 2, 0), (66, 5, 2, 0, 0, 0), (67, 0, 0, 0, 0, (-1)), (68, 19, 0, 0, 0, 0), (69, 17, 0, 0, 0, 0), (70, 18, 0, 0, 0, 0), (71, 10, 7, 0, 0, 0), (73, 6, 7, 0, 0, 0), (75, 6, 4, 0, 0, 0), (77, 36, 84, 0, 0, 0), (80, 0, 0, 0, 0, 1), (81, 42, 85, 0, 0, 0), (84, 0, 0, 0, 0, 0), (85, 10, 5, 0, 0, 0), (87, 6, 7, 0, 0, 0), (89, 10, 4, 0, 0, 0), (91, 13, 6, 0, 0, 1), (94, 42, 43, 0, 0, 0), (97, 6, 4, 0, 0, 0), (99, 90, 0, 0, 0, 0)]
/-- Search_findTaken -/
def jo_122 : List (Nat × Nat × Nat × Nat × Nat × Int32) := [(0, 7, 0, 0, 0, 0), (1, 45, 36, 9, 1, 0), (4, 80, 61, 88, 1, 0), (7, 0, 0, 0, 0, 1), (8, 15, 0, 0, 0, 0), (9, 9, 2, 0, 0, 0), (10, 5, 2, 0, 0, 0), (11, 9, 3, 0, 0, 0), (12, 5, 3, 0, 0, 0), (13, 32, 89, 0, 0, 0), (16, 7, 0, 0, 0, 0), (17, 45, 36, 9, 1, 0), (20, 5, 3, 0, 0, 0), (21, 80, 65, 94, 2, 0), (24, 12, 4, 0, 0, 0), (26, 8, 4, 0, 0, 0), (28, 46, 69, 7, 0, 0), (31, 7, 0, 0, 0, 0), (32, 45, 32, 9, 0, 0), (35, 5, 1, 0, 0, 0), (36, 80, 75, 117, 3, 0), (39, 10, 5, 0, 0, 0), (41, 5, 3, 0, 0, 0), (42, 5, 2, 0, 0, 0), (43, 39, 75, 0, 0, 0), (46, 6, 5, 0, 0, 0), (48, 7, 0, 0, 0, 0), (49, 45, 32, 9, 0, 0), (52, 7, 0, 0, 0, 0), (53, 8, 4, 0, 0, 0), (55, 7, 0, 0, 0, 0), (56, 45, 18, 9, 4, 0), (59, 5, 3, 0, 0, 0), (60, 0, 0, 0, 0, 1), (61, 14, 0, 0, 0, 0), (62, 50, 0, 0, 0, 0), (63, 5, 1, 0, 0, 0), (64, 80, 81, 121, 4, 0), (67, 80, 85, 120, 2, 0), (70, 0, 0, 0, 0, (-1)), (71, 19, 0, 0, 0, 0), (72, 17, 0, 0, 0, 0), (73, 10, 5, 0, 0, 0), (75, 7, 0, 0, 0, 0), (76, 45, 18, 9, 4, 0), (79, 5, 3, 0, 0, 0), (80, 6, 5, 0, 0, 0), (82, 55, 0, 0, 0, 0), (83, 13, 3, 0, 0, (-1)), (86, 42, 12, 0, 0, 0), (89, 91, 0, 0, 0, 0)]
/-- Item_edits -/
def jo_123 : List (Nat × Nat × Nat × Nat × Nat × Int32) := [(0, 7, 0, 0, 0, 0), (1, 45, 33, 7, 4, 0), (4, 31, 14, 0, 0, 0), (7, 7, 0, 0, 0, 0), (8, 45, 29, 7, 3, 0), (11, 35, 18, 0, 0, 0), (14, 0, 0, 0, 0, 1), (15, 42, 19, 0, 0, 0), (18, 0, 0, 0, 0, 0), (19, 90, 0, 0, 0, 0)]
/-- Preconditions_checkIndex -/
def jo_124 : List (Nat × Nat × Nat × Nat × Nat × Int32) := [(0, 5, 0, 0, 0, 0), (1, 32, 9, 0, 0, 0), (4, 5, 0, 0, 0, 0), (5, 5, 1, 0, 0, 0), (6, 38, 16, 0, 0, 0), (9, 7, 2, 0, 0, 0), (10, 5, 0, 0, 0, 0), (11, 5, 1, 0, 0, 0), (16, 5, 0, 0, 0, 0), (17, 90, 0, 0, 0, 0)]
/-- String_checkIndex -/
def jo_125 : List (Nat × Nat × Nat × Nat × Nat × Int32) := [(0, 5, 0, 0, 0, 0), (1, 5, 1, 0, 0, 0), (2, 62, 1053, 0, 0, 0), (5, 81, 1059, 124, 3, 0), (8, 27, 0, 0, 0, 0), (9, 91, 0, 0, 0, 0)]
/-- StringLatin1_charAt -/
def jo_126 : List (Nat × Nat × Nat × Nat × Nat × Int32) := [(0, 5, 1, 0, 0, 0), (1, 7, 0, 0, 0, 0), (2, 66, 0, 0, 0, 0), (3, 81, 9, 125, 2, 0), (6, 7, 0, 0, 0, 0), (7, 5, 1, 0, 0, 0), (8, 65, 0, 0, 0, 0), (9, 2, 0, 0, 0, 255), (12, 17, 0, 0, 0, 0), (13, 25, 0, 0, 0, 0), (14, 90, 0, 0, 0, 0)]
/-- String_charAt -/
def jo_127 : List (Nat × Nat × Nat × Nat × Nat × Int32) := [(0, 7, 0, 0, 0, 0), (1, 86, 492, 37, 1, 0), (4, 30, 16, 0, 0, 0), (7, 7, 0, 0, 0, 0), (8, 64, 9, 0, 0, 0), (11, 5, 1, 0, 0, 0), (12, 81, 495, 126, 2, 0), (15, 90, 0, 0, 0, 0), (16, 7, 0, 0, 0, 0), (17, 64, 9, 0, 0, 0), (20, 5, 1, 0, 0, 0), (24, 90, 0, 0, 0, 0)]
/-- Pattern_functionSign -/
def jo_128 : List (Nat × Nat × Nat × Nat × Nat × Int32) := [(0, 7, 0, 0, 0, 0), (1, 45, 26, 8, 1, 0), (4, 81, 15, 79, 1, 0), (7, 30, 22, 0, 0, 0), (10, 60, 39, 1, 0, 0), (12, 7, 0, 0, 0, 0), (13, 45, 26, 8, 1, 0), (16, 86, 41, 127, 2, 0), (19, 42, 23, 0, 0, 0), (22, 0, 0, 0, 0, 0), (23, 90, 0, 0, 0, 0)]
/-- Edit_write1 -/
def jo_129 : List (Nat × Nat × Nat × Nat × Nat × Int32) := [(0, 7, 0, 0, 0, 0), (1, 45, 23, 10, 1, 0), (4, 7, 0, 0, 0, 0), (5, 45, 9, 10, 0, 0), (8, 54, 0, 0, 0, 0), (9, 39, 32, 0, 0, 0), (12, 7, 0, 0, 0, 0), (13, 45, 9, 10, 0, 0), (16, 7, 0, 0, 0, 0), (17, 45, 23, 10, 1, 0), (20, 5, 1, 0, 0, 0), (21, 56, 0, 0, 0, 0), (22, 7, 0, 0, 0, 0), (23, 26, 0, 0, 0, 0), (24, 45, 23, 10, 1, 0), (27, 0, 0, 0, 0, 1), (28, 14, 0, 0, 0, 0), (29, 47, 23, 10, 1, 0), (32, 91, 0, 0, 0, 0)]
/-- Edit_write2 -/
def jo_130 : List (Nat × Nat × Nat × Nat × Nat × Int32) := [(0, 60, 43, 0, 0, 0), (2, 7, 1, 0, 0, 0), (3, 46, 45, 8, 2, 0), (6, 5, 2, 0, 0, 0), (7, 81, 50, 116, 2, 0), (10, 86, 54, 127, 2, 0), (13, 9, 3, 0, 0, 0), (14, 7, 1, 0, 0, 0), (15, 46, 60, 8, 0, 0), (18, 31, 49, 0, 0, 0), (21, 7, 0, 0, 0, 0), (22, 7, 1, 0, 0, 0), (23, 80, 63, 128, 1, 0), (26, 80, 67, 129, 2, 0), (29, 7, 0, 0, 0, 0), (30, 1, 0, 0, 0, 40), (32, 80, 67, 129, 2, 0), (35, 7, 0, 0, 0, 0), (36, 5, 3, 0, 0, 0), (37, 80, 67, 129, 2, 0), (40, 7, 0, 0, 0, 0), (41, 1, 0, 0, 0, 41), (43, 80, 67, 129, 2, 0), (46, 42, 99, 0, 0, 0), (49, 7, 1, 0, 0, 0), (50, 46, 60, 8, 0, 0), (53, 0, 0, 0, 0, 1), (54, 37, 88, 0, 0, 0), (57, 7, 0, 0, 0, 0), (58, 5, 3, 0, 0, 0), (59, 80, 67, 129, 2, 0), (62, 7, 0, 0, 0, 0), (63, 1, 0, 0, 0, 61), (65, 80, 67, 129, 2, 0), (68, 7, 0, 0, 0, 0), (69, 60, 43, 0, 0, 0), (71, 7, 1, 0, 0, 0), (72, 46, 70, 8, 3, 0), (75, 5, 2, 0, 0, 0), (76, 81, 50, 116, 2, 0), (79, 86, 54, 127, 2, 0), (82, 80, 67, 129, 2, 0), (85, 42, 99, 0, 0, 0), (88, 7, 0, 0, 0, 0), (89, 1, 0, 0, 0, 33), (91, 80, 67, 129, 2, 0), (94, 7, 0, 0, 0, 0), (95, 5, 3, 0, 0, 0), (96, 80, 67, 129, 2, 0), (99, 7, 0, 0, 0, 0), (100, 1, 0, 0, 0, 59), (102, 80, 67, 129, 2, 0), (105, 91, 0, 0, 0, 0)]
/-- Edit_build -/
def jo_131 : List (Nat × Nat × Nat × Nat × Nat × Int32) := [(0, 7, 0, 0, 0, 0), (1, 80, 26, 113, 1, 0), (4, 7, 0, 0, 0, 0), (5, 7, 1, 0, 0, 0), (6, 46, 29, 7, 4, 0), (9, 47, 15, 10, 3, 0), (12, 0, 0, 0, 0, 0), (13, 9, 3, 0, 0, 0), (14, 5, 3, 0, 0, 0), (15, 7, 1, 0, 0, 0), (16, 46, 32, 7, 3, 0), (19, 39, 54, 0, 0, 0), (22, 5, 3, 0, 0, 0), (23, 0, 0, 0, 0, 2), (24, 39, 54, 0, 0, 0), (27, 7, 0, 0, 0, 0), (28, 7, 1, 0, 0, 0), (29, 46, 35, 7, 2, 0), (32, 5, 3, 0, 0, 0), (33, 53, 0, 0, 0, 0), (34, 5, 2, 0, 0, 0), (35, 80, 39, 130, 3, 0), (38, 7, 0, 0, 0, 0), (39, 26, 0, 0, 0, 0), (40, 45, 19, 10, 2, 0), (43, 0, 0, 0, 0, 1), (44, 14, 0, 0, 0, 0), (45, 47, 19, 10, 2, 0), (48, 13, 3, 0, 0, 1), (51, 42, 14, 0, 0, 0), (54, 91, 0, 0, 0, 0)]
/-- Edit_isNothing -/
def jo_132 : List (Nat × Nat × Nat × Nat × Nat × Int32) := [(0, 7, 0, 0, 0, 0), (1, 45, 15, 10, 3, 0), (4, 31, 18, 0, 0, 0), (7, 7, 0, 0, 0, 0), (8, 45, 19, 10, 2, 0), (11, 31, 18, 0, 0, 0), (14, 0, 0, 0, 0, 1), (15, 42, 19, 0, 0, 0), (18, 0, 0, 0, 0, 0), (19, 90, 0, 0, 0, 0)]
/-- Edit_copyFrom -/
def jo_133 : List (Nat × Nat × Nat × Nat × Nat × Int32) := [(0, 7, 0, 0, 0, 0), (1, 7, 1, 0, 0, 0), (2, 45, 15, 10, 3, 0), (5, 47, 15, 10, 3, 0), (8, 7, 0, 0, 0, 0), (9, 7, 1, 0, 0, 0), (10, 45, 19, 10, 2, 0), (13, 47, 19, 10, 2, 0), (16, 7, 0, 0, 0, 0), (17, 7, 1, 0, 0, 0), (18, 45, 23, 10, 1, 0), (21, 47, 23, 10, 1, 0), (24, 7, 1, 0, 0, 0), (25, 45, 9, 10, 0, 0), (28, 0, 0, 0, 0, 0), (29, 7, 0, 0, 0, 0), (30, 45, 9, 10, 0, 0), (33, 0, 0, 0, 0, 0), (34, 7, 0, 0, 0, 0), (35, 45, 9, 10, 0, 0), (38, 54, 0, 0, 0, 0), (39, 70, 73, 0, 0, 0), (42, 91, 0, 0, 0, 0)]
/-- Edit_isSame -/
def jo_134 : List (Nat × Nat × Nat × Nat × Nat × Int32) := [(0, 7, 0, 0, 0, 0), (1, 45, 15, 10, 3, 0), (4, 7, 1, 0, 0, 0), (5, 45, 15, 10, 3, 0), (8, 37, 22, 0, 0, 0), (11, 7, 0, 0, 0, 0), (12, 45, 23, 10, 1, 0), (15, 7, 1, 0, 0, 0), (16, 45, 23, 10, 1, 0), (19, 36, 24, 0, 0, 0), (22, 0, 0, 0, 0, 0), (23, 90, 0, 0, 0, 0), (24, 0, 0, 0, 0, 0), (25, 9, 2, 0, 0, 0), (26, 5, 2, 0, 0, 0), (27, 7, 0, 0, 0, 0), (28, 45, 23, 10, 1, 0), (31, 39, 57, 0, 0, 0), (34, 7, 0, 0, 0, 0), (35, 45, 9, 10, 0, 0), (38, 5, 2, 0, 0, 0), (39, 51, 0, 0, 0, 0), (40, 7, 1, 0, 0, 0), (41, 45, 9, 10, 0, 0), (44, 5, 2, 0, 0, 0), (45, 51, 0, 0, 0, 0), (46, 36, 51, 0, 0, 0), (49, 0, 0, 0, 0, 0), (50, 90, 0, 0, 0, 0), (51, 13, 2, 0, 0, 1), (54, 42, 26, 0, 0, 0), (57, 0, 0, 0, 0, 1), (58, 90, 0, 0, 0, 0)]
/-- Search_noteEdits -/
def jo_135 : List (Nat × Nat × Nat × Nat × Nat × Int32) := [(0, 0, 0, 0, 0, 0), (1, 9, 2, 0, 0, 0), (2, 5, 2, 0, 0, 0), (3, 7, 0, 0, 0, 0), (4, 45, 32, 9, 0, 0), (7, 80, 117, 59, 1, 0), (10, 39, 79, 0, 0, 0), (13, 5, 1, 0, 0, 0), (14, 0, 0, 0, 0, 1), (15, 5, 2, 0, 0, 0), (16, 20, 0, 0, 0, 0), (17, 17, 0, 0, 0, 0), (18, 31, 24, 0, 0, 0), (21, 42, 73, 0, 0, 0), (24, 7, 0, 0, 0, 0), (25, 45, 23, 9, 5, 0), (28, 5, 2, 0, 0, 0), (29, 53, 0, 0, 0, 0), (30, 80, 118, 132, 1, 0), (33, 30, 52, 0, 0, 0), (36, 7, 0, 0, 0, 0), (37, 45, 23, 9, 5, 0), (40, 5, 2, 0, 0, 0), (41, 53, 0, 0, 0, 0), (42, 7, 0, 0, 0, 0), (43, 45, 28, 9, 6, 0), (46, 80, 121, 133, 2, 0), (49, 42, 73, 0, 0, 0), (52, 7, 0, 0, 0, 0), (53, 45, 23, 9, 5, 0), (56, 5, 2, 0, 0, 0), (57, 53, 0, 0, 0, 0), (58, 7, 0, 0, 0, 0), (59, 45, 28, 9, 6, 0), (62, 80, 125, 134, 2, 0), (65, 31, 73, 0, 0, 0), (68, 7, 0, 0, 0, 0), (69, 0, 0, 0, 0, 1), (70, 47, 56, 9, 7, 0), (73, 13, 2, 0, 0, 1), (76, 42, 2, 0, 0, 0), (79, 91, 0, 0, 0, 0)]
/-- Program_successorsOf -/
def jo_136 : List (Nat × Nat × Nat × Nat × Nat × Int32) := [(0, 0, 0, 0, 0, 0), (1, 9, 2, 0, 0, 0), (2, 0, 0, 0, 0, 0), (3, 9, 3, 0, 0, 0), (4, 5, 3, 0, 0, 0), (5, 7, 0, 0, 0, 0), (6, 45, 18, 2, 1, 0), (9, 39, 38, 0, 0, 0), (12, 5, 1, 0, 0, 0), (13, 0, 0, 0, 0, 1), (14, 5, 3, 0, 0, 0), (15, 20, 0, 0, 0, 0), (16, 17, 0, 0, 0, 0), (17, 30, 32, 0, 0, 0), (20, 5, 2, 0, 0, 0), (21, 7, 0, 0, 0, 0), (22, 45, 11, 2, 0, 0), (25, 5, 3, 0, 0, 0), (26, 53, 0, 0, 0, 0), (27, 80, 59, 119, 1, 0), (30, 18, 0, 0, 0, 0), (31, 9, 2, 0, 0, 0), (32, 13, 3, 0, 0, 1), (35, 42, 4, 0, 0, 0), (38, 5, 2, 0, 0, 0), (39, 90, 0, 0, 0, 0)]
/-- Search_firstTaken -/
def jo_137 : List (Nat × Nat × Nat × Nat × Nat × Int32) := [(0, 7, 0, 0, 0, 0), (1, 45, 32, 9, 0, 0), (4, 5, 1, 0, 0, 0), (5, 80, 114, 136, 2, 0), (8, 9, 3, 0, 0, 0), (9, 0, 0, 0, 0, 1), (10, 10, 4, 0, 0, 0), (12, 0, 0, 0, 0, 0), (13, 10, 5, 0, 0, 0), (15, 6, 5, 0, 0, 0), (17, 1, 0, 0, 0, 24), (19, 40, 65, 0, 0, 0), (22, 6, 4, 0, 0, 0), (24, 30, 65, 0, 0, 0), (27, 5, 3, 0, 0, 0), (28, 7, 0, 0, 0, 0), (29, 45, 32, 9, 0, 0), (32, 5, 3, 0, 0, 0), (33, 5, 2, 0, 0, 0), (34, 0, 0, 0, 0, (-1)), (35, 19, 0, 0, 0, 0), (36, 17, 0, 0, 0, 0), (37, 80, 114, 136, 2, 0), (40, 18, 0, 0, 0, 0), (41, 10, 6, 0, 0, 0), (43, 6, 6, 0, 0, 0), (45, 5, 3, 0, 0, 0), (46, 36, 53, 0, 0, 0), (49, 0, 0, 0, 0, 1), (50, 42, 54, 0, 0, 0), (53, 0, 0, 0, 0, 0), (54, 10, 4, 0, 0, 0), (56, 6, 6, 0, 0, 0), (58, 9, 3, 0, 0, 0), (59, 13, 5, 0, 0, 1), (62, 42, 15, 0, 0, 0), (65, 5, 3, 0, 0, 0), (66, 5, 2, 0, 0, 0), (67, 17, 0, 0, 0, 0), (68, 90, 0, 0, 0, 0)]
/-- Search_followHits -/
def jo_138 : List (Nat × Nat × Nat × Nat × Nat × Int32) := [(0, 7, 0, 0, 0, 0), (1, 45, 18, 9, 4, 0), (4, 0, 0, 0, 0, 0), (5, 50, 0, 0, 0, 0), (6, 9, 2, 0, 0, 0), (7, 0, 0, 0, 0, 0), (8, 9, 3, 0, 0, 0), (9, 5, 3, 0, 0, 0), (10, 7, 0, 0, 0, 0), (11, 45, 36, 9, 1, 0), (14, 80, 61, 88, 1, 0), (17, 39, 115, 0, 0, 0), (20, 7, 0, 0, 0, 0), (21, 45, 36, 9, 1, 0), (24, 5, 3, 0, 0, 0), (25, 80, 65, 94, 2, 0), (28, 12, 4, 0, 0, 0), (30, 7, 0, 0, 0, 0), (31, 45, 15, 9, 3, 0), (34, 5, 3, 0, 0, 0), (35, 29, 0, 0, 0, 0), (36, 50, 0, 0, 0, 0), (37, 5, 2, 0, 0, 0), (38, 18, 0, 0, 0, 0), (39, 55, 0, 0, 0, 0), (40, 8, 4, 0, 0, 0), (42, 80, 100, 123, 1, 0), (45, 30, 63, 0, 0, 0), (48, 7, 0, 0, 0, 0), (49, 45, 28, 9, 6, 0), (52, 8, 4, 0, 0, 0), (54, 5, 1, 0, 0, 0), (55, 80, 103, 131, 3, 0), (58, 7, 0, 0, 0, 0), (59, 5, 2, 0, 0, 0), (60, 80, 107, 135, 2, 0), (63, 5, 3, 0, 0, 0), (64, 0, 0, 0, 0, 1), (65, 14, 0, 0, 0, 0), (66, 7, 0, 0, 0, 0), (67, 45, 36, 9, 1, 0), (70, 80, 61, 88, 1, 0), (73, 39, 109, 0, 0, 0), (76, 8, 4, 0, 0, 0), (78, 46, 91, 7, 5, 0), (81, 30, 100, 0, 0, 0), (84, 7, 0, 0, 0, 0), (85, 5, 2, 0, 0, 0), (86, 7, 0, 0, 0, 0), (87, 45, 18, 9, 4, 0), (90, 5, 3, 0, 0, 0), (91, 0, 0, 0, 0, 1), (92, 14, 0, 0, 0, 0), (93, 50, 0, 0, 0, 0), (94, 80, 110, 137, 3, 0), (97, 42, 108, 0, 0, 0), (100, 7, 0, 0, 0, 0), (101, 45, 32, 9, 0, 0), (104, 5, 2, 0, 0, 0), (105, 80, 114, 136, 2, 0), (108, 9, 2, 0, 0, 0), (109, 13, 3, 0, 0, 1), (112, 42, 9, 0, 0, 0), (115, 91, 0, 0, 0, 0)]
/-- Search_run -/
def jo_139 : List (Nat × Nat × Nat × Nat × Nat × Int32) := [(0, 7, 0, 0, 0, 0), (1, 80, 40, 114, 1, 0), (4, 0, 0, 0, 0, 0), (5, 9, 1, 0, 0, 0), (6, 5, 1, 0, 0, 0), (7, 1, 0, 0, 0, 64), (9, 39, 60, 0, 0, 0), (12, 7, 0, 0, 0, 0), (13, 45, 36, 9, 1, 0), (16, 5, 1, 0, 0, 0), (17, 80, 43, 115, 2, 0), (20, 30, 54, 0, 0, 0), (23, 7, 0, 0, 0, 0), (24, 5, 1, 0, 0, 0), (25, 80, 49, 122, 2, 0), (28, 7, 0, 0, 0, 0), (29, 45, 9, 9, 2, 0), (32, 5, 1, 0, 0, 0), (33, 7, 0, 0, 0, 0), (34, 45, 18, 9, 4, 0), (37, 0, 0, 0, 0, 0), (38, 50, 0, 0, 0, 0), (39, 55, 0, 0, 0, 0), (40, 7, 0, 0, 0, 0), (41, 45, 18, 9, 4, 0), (44, 0, 0, 0, 0, 0), (45, 50, 0, 0, 0, 0), (46, 30, 54, 0, 0, 0), (49, 7, 0, 0, 0, 0), (50, 5, 1, 0, 0, 0), (51, 80, 53, 138, 2, 0), (54, 13, 1, 0, 0, 1), (57, 42, 6, 0, 0, 0), (60, 91, 0, 0, 0, 0)]
/-- PathPatcher_ensureSearched -/
def jo_140 : List (Nat × Nat × Nat × Nat × Nat × Int32) := [(0, 7, 0, 0, 0, 0), (1, 45, 108, 0, 8, 0), (4, 31, 19, 0, 0, 0), (7, 7, 0, 0, 0, 0), (8, 45, 44, 0, 4, 0), (11, 80, 188, 139, 1, 0), (14, 7, 0, 0, 0, 0), (15, 0, 0, 0, 0, 1), (16, 47, 108, 0, 8, 0), (19, 91, 0, 0, 0, 0)]
/-- Integer_bitCount -/
def jo_141 : List (Nat × Nat × Nat × Nat × Nat × Int32) := [(0, 5, 0, 0, 0, 0), (1, 5, 0, 0, 0, 0), (2, 0, 0, 0, 0, 1), (3, 22, 0, 0, 0, 0), (4, 4, 265, 0, 0, 1431655765), (7, 17, 0, 0, 0, 0), (8, 15, 0, 0, 0, 0), (9, 9, 0, 0, 0, 0), (10, 5, 0, 0, 0, 0), (11, 4, 266, 0, 0, 858993459), (14, 17, 0, 0, 0, 0), (15, 5, 0, 0, 0, 0), (16, 0, 0, 0, 0, 2), (17, 22, 0, 0, 0, 0), (18, 4, 266, 0, 0, 858993459), (21, 17, 0, 0, 0, 0), (22, 14, 0, 0, 0, 0), (23, 9, 0, 0, 0, 0), (24, 5, 0, 0, 0, 0), (25, 5, 0, 0, 0, 0), (26, 0, 0, 0, 0, 4), (27, 22, 0, 0, 0, 0), (28, 14, 0, 0, 0, 0), (29, 4, 267, 0, 0, 252645135), (32, 17, 0, 0, 0, 0), (33, 9, 0, 0, 0, 0), (34, 5, 0, 0, 0, 0), (35, 5, 0, 0, 0, 0), (36, 1, 0, 0, 0, 8), (38, 22, 0, 0, 0, 0), (39, 14, 0, 0, 0, 0), (40, 9, 0, 0, 0, 0), (41, 5, 0, 0, 0, 0), (42, 5, 0, 0, 0, 0), (43, 1, 0, 0, 0, 16), (45, 22, 0, 0, 0, 0), (46, 14, 0, 0, 0, 0), (47, 9, 0, 0, 0, 0), (48, 5, 0, 0, 0, 0), (49, 1, 0, 0, 0, 63), (51, 17, 0, 0, 0, 0), (52, 90, 0, 0, 0, 0)]
/-- Search_matchCount -/
def jo_142 : List (Nat × Nat × Nat × Nat × Nat × Int32) := [(0, 0, 0, 0, 0, 0), (1, 9, 1, 0, 0, 0), (2, 0, 0, 0, 0, 0), (3, 9, 2, 0, 0, 0), (4, 5, 2, 0, 0, 0), (5, 1, 0, 0, 0, 64), (7, 39, 28, 0, 0, 0), (10, 5, 1, 0, 0, 0), (11, 7, 0, 0, 0, 0), (12, 45, 9, 9, 2, 0), (15, 5, 2, 0, 0, 0), (16, 50, 0, 0, 0, 0), (17, 81, 129, 141, 1, 0), (20, 14, 0, 0, 0, 0), (21, 9, 1, 0, 0, 0), (22, 13, 2, 0, 0, 1), (25, 42, 4, 0, 0, 0), (28, 5, 1, 0, 0, 0), (29, 90, 0, 0, 0, 0)]
/-- PathPatcher_matches -/
def jo_143 : List (Nat × Nat × Nat × Nat × Nat × Int32) := [(0, 7, 0, 0, 0, 0), (1, 80, 139, 112, 1, 0), (4, 9, 1, 0, 0, 0), (5, 5, 1, 0, 0, 0), (6, 30, 11, 0, 0, 0), (9, 5, 1, 0, 0, 0), (10, 90, 0, 0, 0, 0), (11, 7, 0, 0, 0, 0), (12, 80, 142, 140, 1, 0), (15, 7, 0, 0, 0, 0), (16, 45, 44, 0, 4, 0), (19, 80, 145, 142, 1, 0), (22, 90, 0, 0, 0, 0)]
/-- M_state -/
def jo_144 : List (Nat × Nat × Nat × Nat × Nat × Int32) := [(0, 7, 0, 0, 0, 0), (1, 80, 180, 71, 1, 0), (4, 31, 11, 0, 0, 0), (7, 0, 0, 0, 0, (-1)), (8, 42, 24, 0, 0, 0), (11, 7, 0, 0, 0, 0), (12, 80, 197, 100, 1, 0), (15, 30, 23, 0, 0, 0), (18, 1, 0, 0, 0, (-2)), (20, 42, 24, 0, 0, 0), (23, 0, 0, 0, 0, 0), (24, 90, 0, 0, 0, 0)]
/-- M_possible -/
def jo_145 : List (Nat × Nat × Nat × Nat × Nat × Int32) := [(0, 7, 0, 0, 0, 0), (1, 80, 200, 103, 1, 0), (4, 9, 2, 0, 0, 0), (5, 0, 0, 0, 0, 1), (6, 9, 3, 0, 0, 0), (7, 0, 0, 0, 0, 0), (8, 10, 4, 0, 0, 0), (10, 6, 4, 0, 0, 0), (12, 0, 0, 0, 0, 3), (13, 39, 53, 0, 0, 0), (16, 5, 3, 0, 0, 0), (17, 30, 45, 0, 0, 0), (20, 5, 2, 0, 0, 0), (21, 6, 4, 0, 0, 0), (23, 21, 0, 0, 0, 0), (24, 0, 0, 0, 0, 1), (25, 17, 0, 0, 0, 0), (26, 0, 0, 0, 0, 1), (27, 36, 41, 0, 0, 0), (30, 5, 1, 0, 0, 0), (31, 0, 0, 0, 0, 2), (32, 6, 4, 0, 0, 0), (34, 16, 0, 0, 0, 0), (35, 21, 0, 0, 0, 0), (36, 0, 0, 0, 0, 3), (37, 17, 0, 0, 0, 0), (38, 31, 45, 0, 0, 0), (41, 0, 0, 0, 0, 1), (42, 42, 46, 0, 0, 0), (45, 0, 0, 0, 0, 0), (46, 9, 3, 0, 0, 0), (47, 13, 4, 0, 0, 1), (50, 42, 10, 0, 0, 0), (53, 5, 3, 0, 0, 0), (54, 90, 0, 0, 0, 0)]
/-- M_value -/
def jo_146 : List (Nat × Nat × Nat × Nat × Nat × Int32) := [(0, 5, 1, 0, 0, 0), (1, 0, 0, 0, 0, 4), (2, 39, 9, 0, 0, 0), (5, 5, 1, 0, 0, 0), (6, 42, 18, 0, 0, 0), (9, 5, 2, 0, 0, 0), (10, 0, 0, 0, 0, 2), (11, 5, 1, 0, 0, 0), (12, 0, 0, 0, 0, 4), (13, 15, 0, 0, 0, 0), (14, 16, 0, 0, 0, 0), (15, 21, 0, 0, 0, 0), (16, 0, 0, 0, 0, 3), (17, 17, 0, 0, 0, 0), (18, 90, 0, 0, 0, 0)]
/-- M_like -/
def jo_147 : List (Nat × Nat × Nat × Nat × Nat × Int32) := [(0, 7, 0, 0, 0, 0), (1, 45, 19, 12, 6, 0), (4, 5, 1, 0, 0, 0), (5, 50, 0, 0, 0, 0), (6, 5, 2, 0, 0, 0), (7, 37, 27, 0, 0, 0), (10, 7, 0, 0, 0, 0), (11, 45, 25, 12, 8, 0), (14, 5, 1, 0, 0, 0), (15, 50, 0, 0, 0, 0), (16, 7, 0, 0, 0, 0), (17, 6, 4, 0, 0, 0), (19, 6, 6, 0, 0, 0), (21, 80, 204, 146, 3, 0), (24, 36, 29, 0, 0, 0), (27, 0, 0, 0, 0, 0), (28, 90, 0, 0, 0, 0), (29, 5, 2, 0, 0, 0), (30, 31, 43, 0, 0, 0), (33, 7, 0, 0, 0, 0), (34, 45, 22, 12, 7, 0), (37, 5, 1, 0, 0, 0), (38, 50, 0, 0, 0, 0), (39, 5, 3, 0, 0, 0), (40, 37, 69, 0, 0, 0), (43, 5, 2, 0, 0, 0), (44, 0, 0, 0, 0, 1), (45, 37, 65, 0, 0, 0), (48, 7, 0, 0, 0, 0), (49, 45, 28, 12, 9, 0), (52, 5, 1, 0, 0, 0), (53, 50, 0, 0, 0, 0), (54, 7, 0, 0, 0, 0), (55, 6, 5, 0, 0, 0), (57, 6, 6, 0, 0, 0), (59, 80, 204, 146, 3, 0), (62, 37, 69, 0, 0, 0), (65, 0, 0, 0, 0, 1), (66, 42, 70, 0, 0, 0), (69, 0, 0, 0, 0, 0), (70, 90, 0, 0, 0, 0)]
/-- M_has -/
def jo_148 : List (Nat × Nat × Nat × Nat × Nat × Int32) := [(0, 5, 1, 0, 0, 0), (1, 5, 2, 0, 0, 0), (2, 21, 0, 0, 0, 0), (3, 0, 0, 0, 0, 1), (4, 17, 0, 0, 0, 0), (5, 0, 0, 0, 0, 1), (6, 37, 13, 0, 0, 0), (9, 0, 0, 0, 0, 1), (10, 42, 14, 0, 0, 0), (13, 0, 0, 0, 0, 0), (14, 90, 0, 0, 0, 0)]
/-- M_findBad -/
def jo_149 : List (Nat × Nat × Nat × Nat × Nat × Int32) := [(0, 7, 0, 0, 0, 0), (1, 0, 0, 0, 0, 0), (2, 47, 208, 12, 40, 0), (5, 0, 0, 0, 0, 0), (6, 9, 3, 0, 0, 0), (7, 5, 3, 0, 0, 0), (8, 1, 0, 0, 0, 25), (10, 39, 197, 0, 0, 0), (13, 0, 0, 0, 0, 0), (14, 10, 4, 0, 0, 0), (16, 6, 4, 0, 0, 0), (18, 7, 0, 0, 0, 0), (19, 45, 142, 12, 5, 0), (22, 39, 191, 0, 0, 0), (25, 7, 0, 0, 0, 0), (26, 45, 80, 12, 28, 0), (29, 5, 1, 0, 0, 0), (30, 50, 0, 0, 0, 0), (31, 32, 72, 0, 0, 0), (34, 7, 0, 0, 0, 0), (35, 6, 4, 0, 0, 0), (37, 7, 0, 0, 0, 0), (38, 45, 80, 12, 28, 0), (41, 5, 1, 0, 0, 0), (42, 50, 0, 0, 0, 0), (43, 7, 0, 0, 0, 0), (44, 45, 83, 12, 29, 0), (47, 5, 1, 0, 0, 0), (48, 50, 0, 0, 0, 0), (49, 7, 0, 0, 0, 0), (50, 45, 86, 12, 30, 0), (53, 5, 1, 0, 0, 0), (54, 50, 0, 0, 0, 0), (55, 7, 0, 0, 0, 0), (56, 45, 89, 12, 31, 0), (59, 5, 1, 0, 0, 0), (60, 50, 0, 0, 0, 0), (61, 5, 2, 0, 0, 0), (62, 80, 211, 147, 7, 0), (65, 30, 72, 0, 0, 0), (68, 0, 0, 0, 0, 1), (69, 42, 73, 0, 0, 0), (72, 0, 0, 0, 0, 0), (73, 10, 5, 0, 0, 0), (75, 0, 0, 0, 0, 0), (76, 10, 6, 0, 0, 0), (78, 6, 6, 0, 0, 0), (80, 0, 0, 0, 0, 2), (81, 39, 143, 0, 0, 0), (84, 7, 0, 0, 0, 0), (85, 45, 50, 12, 16, 0), (88, 0, 0, 0, 0, 2), (89, 6, 4, 0, 0, 0), (91, 16, 0, 0, 0, 0), (92, 6, 6, 0, 0, 0), (94, 14, 0, 0, 0, 0), (95, 50, 0, 0, 0, 0), (96, 10, 7, 0, 0, 0), (98, 6, 5, 0, 0, 0), (100, 31, 130, 0, 0, 0), (103, 6, 7, 0, 0, 0), (105, 7, 0, 0, 0, 0), (106, 45, 142, 12, 5, 0), (109, 36, 130, 0, 0, 0), (112, 6, 7, 0, 0, 0), (114, 32, 134, 0, 0, 0), (117, 7, 0, 0, 0, 0), (118, 7, 0, 0, 0, 0), (119, 45, 208, 12, 40, 0), (122, 6, 7, 0, 0, 0), (124, 80, 214, 148, 3, 0), (127, 30, 134, 0, 0, 0), (130, 0, 0, 0, 0, 1), (131, 42, 135, 0, 0, 0), (134, 0, 0, 0, 0, 0), (135, 10, 5, 0, 0, 0), (137, 13, 6, 0, 0, 1), (140, 42, 78, 0, 0, 0), (143, 7, 0, 0, 0, 0), (144, 6, 5, 0, 0, 0), (146, 30, 178, 0, 0, 0), (149, 7, 0, 0, 0, 0), (150, 7, 0, 0, 0, 0), (151, 45, 107, 12, 37, 0), (154, 5, 1, 0, 0, 0), (155, 0, 0, 0, 0, 1), (156, 14, 0, 0, 0, 0), (157, 50, 0, 0, 0, 0), (158, 6, 4, 0, 0, 0), (160, 80, 214, 148, 3, 0), (163, 31, 178, 0, 0, 0), (166, 7, 0, 0, 0, 0), (167, 45, 208, 12, 40, 0), (170, 0, 0, 0, 0, 1), (171, 6, 4, 0, 0, 0), (173, 20, 0, 0, 0, 0), (174, 18, 0, 0, 0, 0), (175, 42, 182, 0, 0, 0), (178, 7, 0, 0, 0, 0), (179, 45, 208, 12, 40, 0), (182, 47, 208, 12, 40, 0), (185, 13, 4, 0, 0, 1), (188, 42, 16, 0, 0, 0), (191, 13, 3, 0, 0, 1), (194, 42, 7, 0, 0, 0), (197, 91, 0, 0, 0, 0)]
/-- M_follows -/
def jo_150 : List (Nat × Nat × Nat × Nat × Nat × Int32) := [(0, 0, 0, 0, 0, 1), (1, 9, 3, 0, 0, 0), (2, 0, 0, 0, 0, 0), (3, 10, 4, 0, 0, 0), (5, 6, 4, 0, 0, 0), (7, 0, 0, 0, 0, 2), (8, 39, 101, 0, 0, 0), (11, 7, 0, 0, 0, 0), (12, 45, 50, 12, 16, 0), (15, 0, 0, 0, 0, 2), (16, 5, 1, 0, 0, 0), (17, 16, 0, 0, 0, 0), (18, 6, 4, 0, 0, 0), (20, 14, 0, 0, 0, 0), (21, 50, 0, 0, 0, 0), (22, 10, 5, 0, 0, 0), (24, 6, 5, 0, 0, 0), (26, 7, 0, 0, 0, 0), (27, 45, 142, 12, 5, 0), (30, 37, 38, 0, 0, 0), (33, 0, 0, 0, 0, 0), (34, 9, 3, 0, 0, 0), (35, 42, 95, 0, 0, 0), (38, 6, 5, 0, 0, 0), (40, 32, 95, 0, 0, 0), (43, 5, 3, 0, 0, 0), (44, 30, 93, 0, 0, 0), (47, 7, 0, 0, 0, 0), (48, 45, 77, 12, 27, 0), (51, 5, 2, 0, 0, 0), (52, 52, 0, 0, 0, 0), (53, 30, 72, 0, 0, 0), (56, 7, 0, 0, 0, 0), (57, 7, 0, 0, 0, 0), (58, 45, 208, 12, 40, 0), (61, 6, 5, 0, 0, 0), (63, 80, 214, 148, 3, 0), (66, 31, 93, 0, 0, 0), (69, 42, 89, 0, 0, 0), (72, 7, 0, 0, 0, 0), (73, 7, 0, 0, 0, 0), (74, 45, 107, 12, 37, 0), (77, 5, 2, 0, 0, 0), (78, 0, 0, 0, 0, 1), (79, 14, 0, 0, 0, 0), (80, 50, 0, 0, 0, 0), (81, 6, 5, 0, 0, 0), (83, 80, 214, 148, 3, 0), (86, 30, 93, 0, 0, 0), (89, 0, 0, 0, 0, 1), (90, 42, 94, 0, 0, 0), (93, 0, 0, 0, 0, 0), (94, 9, 3, 0, 0, 0), (95, 13, 4, 0, 0, 1), (98, 42, 5, 0, 0, 0), (101, 5, 3, 0, 0, 0), (102, 90, 0, 0, 0, 0)]
/-- M_findTakes -/
def jo_151 : List (Nat × Nat × Nat × Nat × Nat × Int32) := [(0, 7, 0, 0, 0, 0), (1, 45, 186, 12, 21, 0), (4, 0, 0, 0, 0, 1), (5, 15, 0, 0, 0, 0), (6, 9, 2, 0, 0, 0), (7, 5, 2, 0, 0, 0), (8, 32, 155, 0, 0, 0), (11, 5, 2, 0, 0, 0), (12, 7, 0, 0, 0, 0), (13, 45, 186, 12, 21, 0), (16, 0, 0, 0, 0, 1), (17, 15, 0, 0, 0, 0), (18, 37, 25, 0, 0, 0), (21, 0, 0, 0, 0, 1), (22, 42, 26, 0, 0, 0), (25, 0, 0, 0, 0, 0), (26, 9, 3, 0, 0, 0), (27, 5, 3, 0, 0, 0), (28, 31, 46, 0, 0, 0), (31, 7, 0, 0, 0, 0), (32, 45, 77, 12, 27, 0), (35, 5, 2, 0, 0, 0), (36, 52, 0, 0, 0, 0), (37, 30, 46, 0, 0, 0), (40, 7, 0, 0, 0, 0), (41, 5, 2, 0, 0, 0), (42, 5, 1, 0, 0, 0), (43, 80, 217, 149, 3, 0), (46, 0, 0, 0, 0, 0), (47, 10, 4, 0, 0, 0), (49, 0, 0, 0, 0, 0), (50, 10, 5, 0, 0, 0), (52, 6, 5, 0, 0, 0), (54, 7, 0, 0, 0, 0), (55, 45, 142, 12, 5, 0), (58, 39, 141, 0, 0, 0), (61, 7, 0, 0, 0, 0), (62, 6, 5, 0, 0, 0), (64, 7, 0, 0, 0, 0), (65, 45, 62, 12, 22, 0), (68, 5, 2, 0, 0, 0), (69, 50, 0, 0, 0, 0), (70, 7, 0, 0, 0, 0), (71, 45, 65, 12, 23, 0), (74, 5, 2, 0, 0, 0), (75, 50, 0, 0, 0, 0), (76, 7, 0, 0, 0, 0), (77, 45, 68, 12, 24, 0), (80, 5, 2, 0, 0, 0), (81, 50, 0, 0, 0, 0), (82, 7, 0, 0, 0, 0), (83, 45, 71, 12, 25, 0), (86, 5, 2, 0, 0, 0), (87, 50, 0, 0, 0, 0), (88, 5, 1, 0, 0, 0), (89, 80, 211, 147, 7, 0), (92, 30, 113, 0, 0, 0), (95, 5, 3, 0, 0, 0), (96, 31, 109, 0, 0, 0), (99, 7, 0, 0, 0, 0), (100, 6, 5, 0, 0, 0), (102, 5, 2, 0, 0, 0), (103, 80, 221, 150, 3, 0), (106, 30, 113, 0, 0, 0), (109, 0, 0, 0, 0, 1), (110, 42, 114, 0, 0, 0), (113, 0, 0, 0, 0, 0), (114, 10, 6, 0, 0, 0), (116, 6, 6, 0, 0, 0), (118, 30, 131, 0, 0, 0), (121, 6, 4, 0, 0, 0), (123, 0, 0, 0, 0, 1), (124, 6, 5, 0, 0, 0), (126, 20, 0, 0, 0, 0), (127, 18, 0, 0, 0, 0), (128, 42, 133, 0, 0, 0), (131, 6, 4, 0, 0, 0), (133, 10, 4, 0, 0, 0), (135, 13, 5, 0, 0, 1), (138, 42, 52, 0, 0, 0), (141, 7, 0, 0, 0, 0), (142, 45, 107, 12, 37, 0), (145, 5, 2, 0, 0, 0), (146, 6, 4, 0, 0, 0), (148, 55, 0, 0, 0, 0), (149, 13, 2, 0, 0, (-1)), (152, 42, 7, 0, 0, 0), (155, 91, 0, 0, 0, 0)]
/-- M_findStarts -/
def jo_152 : List (Nat × Nat × Nat × Nat × Nat × Int32) := [(0, 0, 0, 0, 0, 0), (1, 9, 1, 0, 0, 0), (2, 5, 1, 0, 0, 0), (3, 1, 0, 0, 0, 64), (5, 39, 46, 0, 0, 0), (8, 7, 0, 0, 0, 0), (9, 45, 113, 12, 39, 0), (12, 5, 1, 0, 0, 0), (13, 0, 0, 0, 0, 0), (14, 55, 0, 0, 0, 0), (15, 7, 0, 0, 0, 0), (16, 5, 1, 0, 0, 0), (17, 80, 227, 145, 2, 0), (20, 30, 40, 0, 0, 0), (23, 7, 0, 0, 0, 0), (24, 5, 1, 0, 0, 0), (25, 80, 230, 151, 2, 0), (28, 7, 0, 0, 0, 0), (29, 45, 113, 12, 39, 0), (32, 5, 1, 0, 0, 0), (33, 7, 0, 0, 0, 0), (34, 45, 107, 12, 37, 0), (37, 0, 0, 0, 0, 0), (38, 50, 0, 0, 0, 0), (39, 55, 0, 0, 0, 0), (40, 13, 1, 0, 0, 1), (43, 42, 2, 0, 0, 0), (46, 91, 0, 0, 0, 0)]
/-- M_matches -/
def jo_153 : List (Nat × Nat × Nat × Nat × Nat × Int32) := [(0, 7, 0, 0, 0, 0), (1, 80, 233, 144, 1, 0), (4, 9, 1, 0, 0, 0), (5, 5, 1, 0, 0, 0), (6, 33, 11, 0, 0, 0), (9, 5, 1, 0, 0, 0), (10, 90, 0, 0, 0, 0), (11, 7, 0, 0, 0, 0), (12, 80, 236, 152, 1, 0), (15, 0, 0, 0, 0, 0), (16, 9, 2, 0, 0, 0), (17, 0, 0, 0, 0, 0), (18, 9, 3, 0, 0, 0), (19, 5, 3, 0, 0, 0), (20, 1, 0, 0, 0, 64), (22, 39, 63, 0, 0, 0), (25, 0, 0, 0, 0, 0), (26, 10, 4, 0, 0, 0), (28, 6, 4, 0, 0, 0), (30, 7, 0, 0, 0, 0), (31, 45, 142, 12, 5, 0), (34, 39, 57, 0, 0, 0), (37, 5, 2, 0, 0, 0), (38, 7, 0, 0, 0, 0), (39, 45, 113, 12, 39, 0), (42, 5, 3, 0, 0, 0), (43, 50, 0, 0, 0, 0), (44, 6, 4, 0, 0, 0), (46, 21, 0, 0, 0, 0), (47, 0, 0, 0, 0, 1), (48, 17, 0, 0, 0, 0), (49, 14, 0, 0, 0, 0), (50, 9, 2, 0, 0, 0), (51, 13, 4, 0, 0, 1), (54, 42, 28, 0, 0, 0), (57, 13, 3, 0, 0, 1), (60, 42, 19, 0, 0, 0), (63, 5, 2, 0, 0, 0), (64, 90, 0, 0, 0, 0)]
/-- Search_matchNumber -/
def jo_154 : List (Nat × Nat × Nat × Nat × Nat × Int32) := [(0, 0, 0, 0, 0, 0), (1, 9, 2, 0, 0, 0), (2, 0, 0, 0, 0, 0), (3, 9, 3, 0, 0, 0), (4, 5, 3, 0, 0, 0), (5, 7, 0, 0, 0, 0), (6, 45, 32, 9, 0, 0), (9, 80, 117, 59, 1, 0), (12, 39, 67, 0, 0, 0), (15, 0, 0, 0, 0, 0), (16, 10, 4, 0, 0, 0), (18, 6, 4, 0, 0, 0), (20, 1, 0, 0, 0, 64), (22, 39, 61, 0, 0, 0), (25, 7, 0, 0, 0, 0), (26, 45, 9, 9, 2, 0), (29, 6, 4, 0, 0, 0), (31, 50, 0, 0, 0, 0), (32, 0, 0, 0, 0, 1), (33, 5, 3, 0, 0, 0), (34, 20, 0, 0, 0, 0), (35, 17, 0, 0, 0, 0), (36, 30, 55, 0, 0, 0), (39, 5, 2, 0, 0, 0), (40, 5, 1, 0, 0, 0), (41, 37, 52, 0, 0, 0), (44, 1, 0, 0, 0, 64), (46, 5, 3, 0, 0, 0), (47, 16, 0, 0, 0, 0), (48, 6, 4, 0, 0, 0), (50, 14, 0, 0, 0, 0), (51, 90, 0, 0, 0, 0), (52, 13, 2, 0, 0, 1), (55, 13, 4, 0, 0, 1), (58, 42, 18, 0, 0, 0), (61, 13, 3, 0, 0, 1), (64, 42, 4, 0, 0, 0), (67, 0, 0, 0, 0, (-1)), (68, 90, 0, 0, 0, 0)]
/-- PathPatcher_match -/
def jo_155 : List (Nat × Nat × Nat × Nat × Nat × Int32) := [(0, 7, 0, 0, 0, 0), (1, 80, 139, 112, 1, 0), (4, 30, 9, 0, 0, 0), (7, 0, 0, 0, 0, (-1)), (8, 90, 0, 0, 0, 0), (9, 7, 0, 0, 0, 0), (10, 80, 142, 140, 1, 0), (13, 7, 0, 0, 0, 0), (14, 45, 44, 0, 4, 0), (17, 5, 1, 0, 0, 0), (18, 80, 148, 154, 2, 0), (21, 90, 0, 0, 0, 0)]
/-- M_match -/
def jo_156 : List (Nat × Nat × Nat × Nat × Nat × Int32) := [(0, 7, 0, 0, 0, 0), (1, 80, 233, 144, 1, 0), (4, 9, 2, 0, 0, 0), (5, 5, 2, 0, 0, 0), (6, 33, 11, 0, 0, 0), (9, 0, 0, 0, 0, (-1)), (10, 90, 0, 0, 0, 0), (11, 7, 0, 0, 0, 0), (12, 80, 236, 152, 1, 0), (15, 0, 0, 0, 0, 0), (16, 9, 3, 0, 0, 0), (17, 0, 0, 0, 0, 0), (18, 10, 4, 0, 0, 0), (20, 6, 4, 0, 0, 0), (22, 7, 0, 0, 0, 0), (23, 45, 142, 12, 5, 0), (26, 39, 84, 0, 0, 0), (29, 0, 0, 0, 0, 0), (30, 10, 5, 0, 0, 0), (32, 6, 5, 0, 0, 0), (34, 1, 0, 0, 0, 64), (36, 39, 78, 0, 0, 0), (39, 7, 0, 0, 0, 0), (40, 7, 0, 0, 0, 0), (41, 45, 113, 12, 39, 0), (44, 6, 5, 0, 0, 0), (46, 50, 0, 0, 0, 0), (47, 6, 4, 0, 0, 0), (49, 80, 214, 148, 3, 0), (52, 30, 72, 0, 0, 0), (55, 5, 3, 0, 0, 0), (56, 5, 1, 0, 0, 0), (57, 37, 69, 0, 0, 0), (60, 1, 0, 0, 0, 64), (62, 6, 4, 0, 0, 0), (64, 16, 0, 0, 0, 0), (65, 6, 5, 0, 0, 0), (67, 14, 0, 0, 0, 0), (68, 90, 0, 0, 0, 0), (69, 13, 3, 0, 0, 1), (72, 13, 5, 0, 0, 1), (75, 42, 32, 0, 0, 0), (78, 13, 4, 0, 0, 1), (81, 42, 20, 0, 0, 0), (84, 0, 0, 0, 0, (-1)), (85, 90, 0, 0, 0, 0)]
/-- Search_isHit -/
def jo_157 : List (Nat × Nat × Nat × Nat × Nat × Int32) := [(0, 7, 0, 0, 0, 0), (1, 45, 32, 9, 0, 0), (4, 5, 1, 0, 0, 0), (5, 80, 134, 73, 2, 0), (8, 30, 39, 0, 0, 0), (11, 7, 0, 0, 0, 0), (12, 45, 36, 9, 1, 0), (15, 5, 2, 0, 0, 0), (16, 80, 137, 93, 2, 0), (19, 30, 39, 0, 0, 0), (22, 7, 0, 0, 0, 0), (23, 45, 15, 9, 3, 0), (26, 5, 2, 0, 0, 0), (27, 50, 0, 0, 0, 0), (28, 0, 0, 0, 0, 1), (29, 5, 1, 0, 0, 0), (30, 20, 0, 0, 0, 0), (31, 17, 0, 0, 0, 0), (32, 30, 39, 0, 0, 0), (35, 0, 0, 0, 0, 1), (36, 42, 40, 0, 0, 0), (39, 0, 0, 0, 0, 0), (40, 90, 0, 0, 0, 0)]
/-- PathPatcher_hit -/
def jo_158 : List (Nat × Nat × Nat × Nat × Nat × Int32) := [(0, 7, 0, 0, 0, 0), (1, 80, 139, 112, 1, 0), (4, 31, 29, 0, 0, 0), (7, 7, 0, 0, 0, 0), (8, 45, 19, 0, 1, 0), (11, 5, 1, 0, 0, 0), (12, 80, 84, 73, 2, 0), (15, 30, 29, 0, 0, 0), (18, 7, 0, 0, 0, 0), (19, 45, 35, 0, 3, 0), (22, 5, 2, 0, 0, 0), (23, 80, 151, 93, 2, 0), (26, 31, 31, 0, 0, 0), (29, 0, 0, 0, 0, 0), (30, 90, 0, 0, 0, 0), (31, 7, 0, 0, 0, 0), (32, 80, 142, 140, 1, 0), (35, 7, 0, 0, 0, 0), (36, 45, 44, 0, 4, 0), (39, 5, 1, 0, 0, 0), (40, 5, 2, 0, 0, 0), (41, 80, 152, 157, 3, 0), (44, 90, 0, 0, 0, 0)]
/-- M_behind -/
def jo_159 : List (Nat × Nat × Nat × Nat × Nat × Int32) := [(0, 0, 0, 0, 0, 0), (1, 9, 2, 0, 0, 0), (2, 0, 0, 0, 0, 0), (3, 9, 3, 0, 0, 0), (4, 5, 3, 0, 0, 0), (5, 7, 0, 0, 0, 0), (6, 45, 142, 12, 5, 0), (9, 39, 80, 0, 0, 0), (12, 0, 0, 0, 0, 0), (13, 10, 4, 0, 0, 0), (15, 6, 4, 0, 0, 0), (17, 0, 0, 0, 0, 2), (18, 39, 74, 0, 0, 0), (21, 7, 0, 0, 0, 0), (22, 45, 50, 12, 16, 0), (25, 0, 0, 0, 0, 2), (26, 5, 3, 0, 0, 0), (27, 16, 0, 0, 0, 0), (28, 6, 4, 0, 0, 0), (30, 14, 0, 0, 0, 0), (31, 50, 0, 0, 0, 0), (32, 10, 5, 0, 0, 0), (34, 7, 0, 0, 0, 0), (35, 5, 1, 0, 0, 0), (36, 5, 3, 0, 0, 0), (37, 80, 214, 148, 3, 0), (40, 30, 66, 0, 0, 0), (43, 6, 5, 0, 0, 0), (45, 32, 66, 0, 0, 0), (48, 6, 5, 0, 0, 0), (50, 7, 0, 0, 0, 0), (51, 45, 142, 12, 5, 0), (54, 39, 66, 0, 0, 0), (57, 5, 2, 0, 0, 0), (58, 0, 0, 0, 0, 1), (59, 6, 5, 0, 0, 0), (61, 20, 0, 0, 0, 0), (62, 18, 0, 0, 0, 0), (63, 42, 67, 0, 0, 0), (66, 5, 2, 0, 0, 0), (67, 9, 2, 0, 0, 0), (68, 13, 4, 0, 0, 1), (71, 42, 15, 0, 0, 0), (74, 13, 3, 0, 0, 1), (77, 42, 4, 0, 0, 0), (80, 5, 2, 0, 0, 0), (81, 90, 0, 0, 0, 0)]
/-- M_findHits -/
def jo_160 : List (Nat × Nat × Nat × Nat × Nat × Int32) := [(0, 7, 0, 0, 0, 0), (1, 45, 110, 12, 38, 0), (4, 0, 0, 0, 0, 0), (5, 7, 0, 0, 0, 0), (6, 45, 107, 12, 37, 0), (9, 0, 0, 0, 0, 0), (10, 50, 0, 0, 0, 0), (11, 55, 0, 0, 0, 0), (12, 0, 0, 0, 0, 0), (13, 9, 1, 0, 0, 0), (14, 5, 1, 0, 0, 0), (15, 0, 0, 0, 0, 1), (16, 14, 0, 0, 0, 0), (17, 7, 0, 0, 0, 0), (18, 45, 186, 12, 21, 0), (21, 39, 101, 0, 0, 0), (24, 7, 0, 0, 0, 0), (25, 7, 0, 0, 0, 0), (26, 45, 110, 12, 38, 0), (29, 5, 1, 0, 0, 0), (30, 50, 0, 0, 0, 0), (31, 80, 224, 159, 2, 0), (34, 9, 2, 0, 0, 0), (35, 0, 0, 0, 0, 0), (36, 9, 3, 0, 0, 0), (37, 5, 3, 0, 0, 0), (38, 1, 0, 0, 0, 25), (40, 39, 77, 0, 0, 0), (43, 7, 0, 0, 0, 0), (44, 45, 77, 12, 27, 0), (47, 5, 1, 0, 0, 0), (48, 52, 0, 0, 0, 0), (49, 30, 77, 0, 0, 0), (52, 5, 2, 0, 0, 0), (53, 7, 0, 0, 0, 0), (54, 5, 2, 0, 0, 0), (55, 7, 0, 0, 0, 0), (56, 45, 107, 12, 37, 0), (59, 5, 1, 0, 0, 0), (60, 0, 0, 0, 0, 1), (61, 14, 0, 0, 0, 0), (62, 50, 0, 0, 0, 0), (63, 0, 0, 0, 0, (-1)), (64, 19, 0, 0, 0, 0), (65, 17, 0, 0, 0, 0), (66, 80, 224, 159, 2, 0), (69, 18, 0, 0, 0, 0), (70, 9, 2, 0, 0, 0), (71, 13, 3, 0, 0, 1), (74, 42, 37, 0, 0, 0), (77, 7, 0, 0, 0, 0), (78, 45, 110, 12, 38, 0), (81, 5, 1, 0, 0, 0), (82, 0, 0, 0, 0, 1), (83, 14, 0, 0, 0, 0), (84, 5, 2, 0, 0, 0), (85, 7, 0, 0, 0, 0), (86, 45, 107, 12, 37, 0), (89, 5, 1, 0, 0, 0), (90, 0, 0, 0, 0, 1), (91, 14, 0, 0, 0, 0), (92, 50, 0, 0, 0, 0), (93, 17, 0, 0, 0, 0), (94, 55, 0, 0, 0, 0), (95, 13, 1, 0, 0, 1), (98, 42, 14, 0, 0, 0), (101, 91, 0, 0, 0, 0)]
/-- M_hit -/
def jo_161 : List (Nat × Nat × Nat × Nat × Nat × Int32) := [(0, 7, 0, 0, 0, 0), (1, 80, 233, 144, 1, 0), (4, 9, 3, 0, 0, 0), (5, 5, 3, 0, 0, 0), (6, 32, 33, 0, 0, 0), (9, 5, 1, 0, 0, 0), (10, 32, 33, 0, 0, 0), (13, 5, 1, 0, 0, 0), (14, 7, 0, 0, 0, 0), (15, 45, 142, 12, 5, 0), (18, 39, 33, 0, 0, 0), (21, 5, 2, 0, 0, 0), (22, 32, 33, 0, 0, 0), (25, 5, 2, 0, 0, 0), (26, 7, 0, 0, 0, 0), (27, 45, 186, 12, 21, 0), (30, 38, 35, 0, 0, 0), (33, 0, 0, 0, 0, 0), (34, 90, 0, 0, 0, 0), (35, 0, 0, 0, 0, 0), (36, 10, 4, 0, 0, 0), (38, 0, 0, 0, 0, 0), (39, 10, 5, 0, 0, 0), (41, 6, 5, 0, 0, 0), (43, 1, 0, 0, 0, 64), (45, 39, 99, 0, 0, 0), (48, 7, 0, 0, 0, 0), (49, 6, 5, 0, 0, 0), (51, 80, 227, 145, 2, 0), (54, 30, 93, 0, 0, 0), (57, 7, 0, 0, 0, 0), (58, 6, 5, 0, 0, 0), (60, 80, 230, 151, 2, 0), (63, 7, 0, 0, 0, 0), (64, 80, 239, 160, 1, 0), (67, 6, 4, 0, 0, 0), (69, 31, 86, 0, 0, 0), (72, 7, 0, 0, 0, 0), (73, 7, 0, 0, 0, 0), (74, 45, 110, 12, 38, 0), (77, 5, 2, 0, 0, 0), (78, 50, 0, 0, 0, 0), (79, 5, 1, 0, 0, 0), (80, 80, 214, 148, 3, 0), (83, 30, 90, 0, 0, 0), (86, 0, 0, 0, 0, 1), (87, 42, 91, 0, 0, 0), (90, 0, 0, 0, 0, 0), (91, 10, 4, 0, 0, 0), (93, 13, 5, 0, 0, 1), (96, 42, 41, 0, 0, 0), (99, 6, 4, 0, 0, 0), (101, 90, 0, 0, 0, 0)]
/-- Search_hasConflict -/
def jo_162 : List (Nat × Nat × Nat × Nat × Nat × Int32) := [(0, 7, 0, 0, 0, 0), (1, 45, 56, 9, 7, 0), (4, 90, 0, 0, 0, 0)]
/-- Search_editOf -/
def jo_163 : List (Nat × Nat × Nat × Nat × Nat × Int32) := [(0, 7, 0, 0, 0, 0), (1, 45, 23, 9, 5, 0), (4, 7, 0, 0, 0, 0), (5, 45, 32, 9, 0, 0), (8, 5, 1, 0, 0, 0), (9, 80, 134, 73, 2, 0), (12, 30, 19, 0, 0, 0), (15, 5, 1, 0, 0, 0), (16, 42, 20, 0, 0, 0), (19, 0, 0, 0, 0, 0), (20, 53, 0, 0, 0, 0), (21, 92, 0, 0, 0, 0)]
/-- Node_spanLength -/
def jo_164 : List (Nat × Nat × Nat × Nat × Nat × Int32) := [(0, 7, 0, 0, 0, 0), (1, 45, 27, 3, 6, 0), (4, 7, 0, 0, 0, 0), (5, 45, 24, 3, 5, 0), (8, 15, 0, 0, 0, 0), (9, 0, 0, 0, 0, 1), (10, 14, 0, 0, 0, 0), (11, 90, 0, 0, 0, 0)]
/-- Rewriter_measure -/
def jo_165 : List (Nat × Nat × Nat × Nat × Nat × Int32) := [(0, 7, 0, 0, 0, 0), (1, 7, 1, 0, 0, 0), (2, 80, 23, 20, 1, 0), (5, 47, 29, 11, 3, 0), (8, 7, 0, 0, 0, 0), (9, 7, 0, 0, 0, 0), (10, 45, 15, 11, 0, 0), (13, 80, 33, 59, 1, 0), (16, 47, 36, 11, 4, 0), (19, 7, 0, 0, 0, 0), (20, 0, 0, 0, 0, 0), (21, 47, 39, 11, 5, 0), (24, 0, 0, 0, 0, 0), (25, 9, 2, 0, 0, 0), (26, 5, 2, 0, 0, 0), (27, 7, 0, 0, 0, 0), (28, 45, 15, 11, 0, 0), (31, 80, 33, 59, 1, 0), (34, 39, 132, 0, 0, 0), (37, 7, 0, 0, 0, 0), (38, 45, 19, 11, 1, 0), (41, 5, 2, 0, 0, 0), (42, 80, 42, 163, 2, 0), (45, 11, 3, 0, 0, 0), (46, 7, 0, 0, 0, 0), (47, 26, 0, 0, 0, 0), (48, 45, 29, 11, 3, 0), (51, 7, 3, 0, 0, 0), (52, 46, 48, 10, 1, 0), (55, 14, 0, 0, 0, 0), (56, 47, 29, 11, 3, 0), (59, 7, 0, 0, 0, 0), (60, 26, 0, 0, 0, 0), (61, 45, 36, 11, 4, 0), (64, 7, 3, 0, 0, 0), (65, 46, 52, 10, 2, 0), (68, 14, 0, 0, 0, 0), (69, 47, 36, 11, 4, 0), (72, 7, 3, 0, 0, 0), (73, 46, 55, 10, 3, 0), (76, 30, 109, 0, 0, 0), (79, 7, 0, 0, 0, 0), (80, 26, 0, 0, 0, 0), (81, 45, 29, 11, 3, 0), (84, 7, 0, 0, 0, 0), (85, 45, 15, 11, 0, 0), (88, 5, 2, 0, 0, 0), (89, 80, 59, 33, 2, 0), (92, 80, 63, 164, 1, 0), (95, 15, 0, 0, 0, 0), (96, 47, 29, 11, 3, 0), (99, 7, 0, 0, 0, 0), (100, 26, 0, 0, 0, 0), (101, 45, 36, 11, 4, 0), (104, 0, 0, 0, 0, 1), (105, 15, 0, 0, 0, 0), (106, 47, 36, 11, 4, 0), (109, 7, 3, 0, 0, 0), (110, 80, 68, 132, 1, 0), (113, 31, 126, 0, 0, 0), (116, 7, 0, 0, 0, 0), (117, 26, 0, 0, 0, 0), (118, 45, 39, 11, 5, 0), (121, 0, 0, 0, 0, 1), (122, 14, 0, 0, 0, 0), (123, 47, 39, 11, 5, 0), (126, 13, 2, 0, 0, 1), (129, 42, 26, 0, 0, 0), (132, 91, 0, 0, 0, 0)]
/-- Rewriter_lengthAfter -/
def jo_166 : List (Nat × Nat × Nat × Nat × Nat × Int32) := [(0, 7, 0, 0, 0, 0), (1, 45, 29, 11, 3, 0), (4, 90, 0, 0, 0, 0)]
/-- Rewriter_nodesAfter -/
def jo_167 : List (Nat × Nat × Nat × Nat × Nat × Int32) := [(0, 7, 0, 0, 0, 0), (1, 45, 36, 11, 4, 0), (4, 90, 0, 0, 0, 0)]
/-- Rewriter_copyOld -/
def jo_168 : List (Nat × Nat × Nat × Nat × Nat × Int32) := [(0, 5, 2, 0, 0, 0), (1, 0, 0, 0, 0, 0), (2, 43, 93, 0, 0, 0), (5, 10, 4, 0, 0, 0), (7, 6, 4, 0, 0, 0), (9, 5, 3, 0, 0, 0), (10, 39, 39, 0, 0, 0), (13, 6, 4, 0, 0, 0), (15, 2, 0, 0, 0, 160), (18, 39, 39, 0, 0, 0), (21, 7, 1, 0, 0, 0), (22, 7, 0, 0, 0, 0), (23, 45, 9, 11, 2, 0), (26, 6, 4, 0, 0, 0), (28, 51, 0, 0, 0, 0), (29, 80, 99, 13, 2, 0), (32, 27, 0, 0, 0, 0), (33, 13, 4, 0, 0, 1), (36, 42, 7, 0, 0, 0), (39, 91, 0, 0, 0, 0)]
/-- Rewriter_copyNew -/
def jo_169 : List (Nat × Nat × Nat × Nat × Nat × Int32) := [(0, 0, 0, 0, 0, 0), (1, 9, 2, 0, 0, 0), (2, 5, 2, 0, 0, 0), (3, 7, 1, 0, 0, 0), (4, 46, 48, 10, 1, 0), (7, 39, 36, 0, 0, 0), (10, 5, 2, 0, 0, 0), (11, 7, 1, 0, 0, 0), (12, 46, 103, 10, 0, 0), (15, 54, 0, 0, 0, 0), (16, 39, 36, 0, 0, 0), (19, 7, 0, 0, 0, 0), (20, 7, 1, 0, 0, 0), (21, 46, 103, 10, 0, 0), (24, 5, 2, 0, 0, 0), (25, 51, 0, 0, 0, 0), (26, 80, 99, 13, 2, 0), (29, 27, 0, 0, 0, 0), (30, 13, 2, 0, 0, 1), (33, 42, 2, 0, 0, 0), (36, 91, 0, 0, 0, 0)]
/-- Rewriter_rewrite -/
def jo_170 : List (Nat × Nat × Nat × Nat × Nat × Int32) := [(0, 7, 1, 0, 0, 0), (1, 80, 23, 20, 1, 0), (4, 9, 2, 0, 0, 0), (5, 0, 0, 0, 0, 0), (6, 9, 3, 0, 0, 0), (7, 5, 3, 0, 0, 0), (8, 5, 2, 0, 0, 0), (9, 39, 29, 0, 0, 0), (12, 7, 0, 0, 0, 0), (13, 45, 9, 11, 2, 0), (16, 5, 3, 0, 0, 0), (17, 7, 1, 0, 0, 0), (18, 5, 3, 0, 0, 0), (19, 80, 72, 24, 2, 0), (22, 56, 0, 0, 0, 0), (23, 13, 3, 0, 0, 1), (26, 42, 7, 0, 0, 0), (29, 7, 1, 0, 0, 0), (30, 80, 76, 17, 1, 0), (33, 0, 0, 0, 0, 0), (34, 9, 3, 0, 0, 0), (35, 0, 0, 0, 0, 0), (36, 10, 4, 0, 0, 0), (38, 6, 4, 0, 0, 0), (40, 7, 0, 0, 0, 0), (41, 45, 15, 11, 0, 0), (44, 80, 33, 59, 1, 0), (47, 39, 129, 0, 0, 0), (50, 7, 0, 0, 0, 0), (51, 45, 19, 11, 1, 0), (54, 6, 4, 0, 0, 0), (56, 80, 42, 163, 2, 0), (59, 12, 5, 0, 0, 0), (61, 8, 5, 0, 0, 0), (63, 80, 68, 132, 1, 0), (66, 31, 123, 0, 0, 0), (69, 7, 0, 0, 0, 0), (70, 45, 15, 11, 0, 0), (73, 6, 4, 0, 0, 0), (75, 80, 59, 33, 2, 0), (78, 12, 6, 0, 0, 0), (80, 7, 0, 0, 0, 0), (81, 7, 1, 0, 0, 0), (82, 5, 3, 0, 0, 0), (83, 8, 5, 0, 0, 0), (85, 46, 55, 10, 3, 0), (88, 30, 99, 0, 0, 0), (91, 8, 6, 0, 0, 0), (93, 46, 79, 3, 5, 0), (96, 42, 106, 0, 0, 0), (99, 8, 6, 0, 0, 0), (101, 46, 82, 3, 6, 0), (104, 0, 0, 0, 0, 1), (105, 14, 0, 0, 0, 0), (106, 80, 85, 168, 4, 0), (109, 7, 1, 0, 0, 0), (110, 8, 5, 0, 0, 0), (112, 81, 89, 169, 2, 0), (115, 8, 6, 0, 0, 0), (117, 46, 82, 3, 6, 0), (120, 0, 0, 0, 0, 1), (121, 14, 0, 0, 0, 0), (122, 9, 3, 0, 0, 0), (123, 13, 4, 0, 0, 1), (126, 42, 38, 0, 0, 0), (129, 7, 0, 0, 0, 0), (130, 7, 1, 0, 0, 0), (131, 5, 3, 0, 0, 0), (132, 5, 2, 0, 0, 0), (133, 80, 85, 168, 4, 0), (136, 91, 0, 0, 0, 0)]
/-- Rewriter_editCount -/
def jo_171 : List (Nat × Nat × Nat × Nat × Nat × Int32) := [(0, 7, 0, 0, 0, 0), (1, 45, 39, 11, 5, 0), (4, 90, 0, 0, 0, 0)]
/-- PathPatcher_apply -/
def jo_172 : List (Nat × Nat × Nat × Nat × Nat × Int32) := [(0, 7, 0, 0, 0, 0), (1, 80, 139, 112, 1, 0), (4, 9, 1, 0, 0, 0), (5, 5, 1, 0, 0, 0), (6, 30, 11, 0, 0, 0), (9, 5, 1, 0, 0, 0), (10, 90, 0, 0, 0, 0), (11, 7, 0, 0, 0, 0), (12, 80, 142, 140, 1, 0), (15, 7, 0, 0, 0, 0), (16, 45, 44, 0, 4, 0), (19, 80, 156, 162, 1, 0), (22, 30, 28, 0, 0, 0), (25, 1, 0, 0, 0, (-3)), (27, 90, 0, 0, 0, 0), (28, 7, 0, 0, 0, 0), (29, 45, 53, 0, 5, 0), (32, 7, 0, 0, 0, 0), (33, 45, 10, 0, 0, 0), (36, 80, 159, 165, 2, 0), (39, 7, 0, 0, 0, 0), (40, 45, 53, 0, 5, 0), (43, 80, 163, 166, 1, 0), (46, 2, 0, 0, 0, 160), (49, 41, 55, 0, 0, 0), (52, 1, 0, 0, 0, (-4)), (54, 90, 0, 0, 0, 0), (55, 7, 0, 0, 0, 0), (56, 45, 53, 0, 5, 0), (59, 80, 166, 167, 1, 0), (62, 1, 0, 0, 0, 24), (64, 41, 70, 0, 0, 0), (67, 1, 0, 0, 0, (-5)), (69, 90, 0, 0, 0, 0), (70, 7, 0, 0, 0, 0), (71, 45, 53, 0, 5, 0), (74, 7, 0, 0, 0, 0), (75, 45, 10, 0, 0, 0), (78, 80, 169, 170, 2, 0), (81, 7, 0, 0, 0, 0), (82, 80, 61, 14, 1, 0), (85, 7, 0, 0, 0, 0), (86, 45, 53, 0, 5, 0), (89, 80, 172, 171, 1, 0), (92, 90, 0, 0, 0, 0)]
/-- M_letter -/
def jo_173 : List (Nat × Nat × Nat × Nat × Nat × Int32) := [(0, 1, 0, 0, 0, 97), (2, 7, 0, 0, 0, 0), (3, 7, 0, 0, 0, 0), (4, 45, 101, 12, 35, 0), (7, 5, 1, 0, 0, 0), (8, 50, 0, 0, 0, 0), (9, 5, 2, 0, 0, 0), (10, 80, 204, 146, 3, 0), (13, 14, 0, 0, 0, 0), (14, 10, 4, 0, 0, 0), (16, 7, 0, 0, 0, 0), (17, 45, 95, 12, 33, 0), (20, 5, 1, 0, 0, 0), (21, 50, 0, 0, 0, 0), (22, 31, 83, 0, 0, 0), (25, 5, 3, 0, 0, 0), (26, 31, 41, 0, 0, 0), (29, 1, 0, 0, 0, 102), (31, 7, 0, 0, 0, 0), (32, 45, 98, 12, 34, 0), (35, 5, 1, 0, 0, 0), (36, 50, 0, 0, 0, 0), (37, 14, 0, 0, 0, 0), (38, 42, 82, 0, 0, 0), (41, 5, 3, 0, 0, 0), (42, 0, 0, 0, 0, 1), (43, 37, 51, 0, 0, 0), (46, 1, 0, 0, 0, 40), (48, 42, 82, 0, 0, 0), (51, 5, 3, 0, 0, 0), (52, 0, 0, 0, 0, 2), (53, 37, 61, 0, 0, 0), (56, 6, 4, 0, 0, 0), (58, 42, 82, 0, 0, 0), (61, 5, 3, 0, 0, 0), (62, 0, 0, 0, 0, 3), (63, 37, 71, 0, 0, 0), (66, 1, 0, 0, 0, 41), (68, 42, 82, 0, 0, 0), (71, 5, 3, 0, 0, 0), (72, 0, 0, 0, 0, 4), (73, 37, 81, 0, 0, 0), (76, 1, 0, 0, 0, 59), (78, 42, 82, 0, 0, 0), (81, 0, 0, 0, 0, 0), (82, 90, 0, 0, 0, 0), (83, 7, 0, 0, 0, 0), (84, 45, 95, 12, 33, 0), (87, 5, 1, 0, 0, 0), (88, 50, 0, 0, 0, 0), (89, 0, 0, 0, 0, 1), (90, 37, 146, 0, 0, 0), (93, 5, 3, 0, 0, 0), (94, 31, 102, 0, 0, 0), (97, 6, 4, 0, 0, 0), (99, 42, 145, 0, 0, 0), (102, 5, 3, 0, 0, 0), (103, 0, 0, 0, 0, 1), (104, 37, 112, 0, 0, 0), (107, 1, 0, 0, 0, 61), (109, 42, 145, 0, 0, 0), (112, 5, 3, 0, 0, 0), (113, 0, 0, 0, 0, 2), (114, 37, 134, 0, 0, 0), (117, 1, 0, 0, 0, 97), (119, 7, 0, 0, 0, 0), (120, 7, 0, 0, 0, 0), (121, 45, 104, 12, 36, 0), (124, 5, 1, 0, 0, 0), (125, 50, 0, 0, 0, 0), (126, 5, 2, 0, 0, 0), (127, 80, 204, 146, 3, 0), (130, 14, 0, 0, 0, 0), (131, 42, 145, 0, 0, 0), (134, 5, 3, 0, 0, 0), (135, 0, 0, 0, 0, 3), (136, 37, 144, 0, 0, 0), (139, 1, 0, 0, 0, 59), (141, 42, 145, 0, 0, 0), (144, 0, 0, 0, 0, 0), (145, 90, 0, 0, 0, 0), (146, 5, 3, 0, 0, 0), (147, 31, 155, 0, 0, 0), (150, 1, 0, 0, 0, 33), (152, 42, 176, 0, 0, 0), (155, 5, 3, 0, 0, 0), (156, 0, 0, 0, 0, 1), (157, 37, 165, 0, 0, 0), (160, 6, 4, 0, 0, 0), (162, 42, 176, 0, 0, 0), (165, 5, 3, 0, 0, 0), (166, 0, 0, 0, 0, 2), (167, 37, 175, 0, 0, 0), (170, 1, 0, 0, 0, 59), (172, 42, 176, 0, 0, 0), (175, 0, 0, 0, 0, 0), (176, 90, 0, 0, 0, 0)]
/-- M_write -/
def jo_174 : List (Nat × Nat × Nat × Nat × Nat × Int32) := [(0, 0, 0, 0, 0, 0), (1, 10, 4, 0, 0, 0), (3, 0, 0, 0, 0, 2), (4, 5, 2, 0, 0, 0), (5, 16, 0, 0, 0, 0), (6, 10, 5, 0, 0, 0), (8, 6, 5, 0, 0, 0), (10, 0, 0, 0, 0, 2), (11, 5, 2, 0, 0, 0), (12, 16, 0, 0, 0, 0), (13, 7, 0, 0, 0, 0), (14, 45, 92, 12, 32, 0), (17, 5, 2, 0, 0, 0), (18, 50, 0, 0, 0, 0), (19, 14, 0, 0, 0, 0), (20, 39, 69, 0, 0, 0), (23, 0, 0, 0, 0, 0), (24, 10, 6, 0, 0, 0), (26, 6, 6, 0, 0, 0), (28, 0, 0, 0, 0, 5), (29, 39, 63, 0, 0, 0), (32, 7, 0, 0, 0, 0), (33, 6, 5, 0, 0, 0), (35, 5, 3, 0, 0, 0), (36, 6, 6, 0, 0, 0), (38, 80, 242, 173, 4, 0), (41, 10, 7, 0, 0, 0), (43, 6, 7, 0, 0, 0), (45, 35, 57, 0, 0, 0), (48, 7, 1, 0, 0, 0), (49, 6, 4, 0, 0, 0), (51, 6, 7, 0, 0, 0), (53, 55, 0, 0, 0, 0), (54, 13, 4, 0, 0, 1), (57, 13, 6, 0, 0, 1), (60, 42, 26, 0, 0, 0), (63, 13, 5, 0, 0, 1), (66, 42, 8, 0, 0, 0), (69, 6, 4, 0, 0, 0), (71, 10, 5, 0, 0, 0), (73, 6, 5, 0, 0, 0), (75, 1, 0, 0, 0, 10), (77, 39, 91, 0, 0, 0), (80, 7, 1, 0, 0, 0), (81, 6, 5, 0, 0, 0), (83, 0, 0, 0, 0, 0), (84, 55, 0, 0, 0, 0), (85, 13, 5, 0, 0, 1), (88, 42, 73, 0, 0, 0), (91, 6, 4, 0, 0, 0), (93, 90, 0, 0, 0, 0)]
/-- M_alike -/
def jo_175 : List (Nat × Nat × Nat × Nat × Nat × Int32) := [(0, 7, 0, 0, 0, 0), (1, 7, 0, 0, 0, 0), (2, 45, 122, 12, 43, 0), (5, 5, 1, 0, 0, 0), (6, 5, 2, 0, 0, 0), (7, 80, 245, 174, 4, 0), (10, 10, 5, 0, 0, 0), (12, 7, 0, 0, 0, 0), (13, 7, 0, 0, 0, 0), (14, 45, 125, 12, 44, 0), (17, 5, 3, 0, 0, 0), (18, 6, 4, 0, 0, 0), (20, 80, 245, 174, 4, 0), (23, 10, 6, 0, 0, 0), (25, 7, 0, 0, 0, 0), (26, 45, 74, 12, 26, 0), (29, 5, 1, 0, 0, 0), (30, 52, 0, 0, 0, 0), (31, 7, 0, 0, 0, 0), (32, 45, 74, 12, 26, 0), (35, 5, 3, 0, 0, 0), (36, 52, 0, 0, 0, 0), (37, 37, 51, 0, 0, 0), (40, 6, 5, 0, 0, 0), (42, 6, 6, 0, 0, 0), (44, 37, 51, 0, 0, 0), (47, 0, 0, 0, 0, 1), (48, 42, 52, 0, 0, 0), (51, 0, 0, 0, 0, 0), (52, 10, 7, 0, 0, 0), (54, 0, 0, 0, 0, 0), (55, 10, 8, 0, 0, 0), (57, 6, 8, 0, 0, 0), (59, 1, 0, 0, 0, 10), (61, 39, 99, 0, 0, 0), (64, 6, 7, 0, 0, 0), (66, 30, 90, 0, 0, 0), (69, 7, 0, 0, 0, 0), (70, 45, 122, 12, 43, 0), (73, 6, 8, 0, 0, 0), (75, 50, 0, 0, 0, 0), (76, 7, 0, 0, 0, 0), (77, 45, 125, 12, 44, 0), (80, 6, 8, 0, 0, 0), (82, 50, 0, 0, 0, 0), (83, 37, 90, 0, 0, 0), (86, 0, 0, 0, 0, 1), (87, 42, 91, 0, 0, 0), (90, 0, 0, 0, 0, 0), (91, 10, 7, 0, 0, 0), (93, 13, 8, 0, 0, 1), (96, 42, 57, 0, 0, 0), (99, 6, 7, 0, 0, 0), (101, 90, 0, 0, 0, 0)]
/-- M_note -/
def jo_176 : List (Nat × Nat × Nat × Nat × Nat × Int32) := [(0, 0, 0, 0, 0, 1), (1, 9, 2, 0, 0, 0), (2, 0, 0, 0, 0, 0), (3, 9, 3, 0, 0, 0), (4, 5, 3, 0, 0, 0), (5, 7, 0, 0, 0, 0), (6, 45, 186, 12, 21, 0), (9, 39, 128, 0, 0, 0), (12, 0, 0, 0, 0, 0), (13, 10, 4, 0, 0, 0), (15, 6, 4, 0, 0, 0), (17, 7, 0, 0, 0, 0), (18, 45, 142, 12, 5, 0), (21, 39, 122, 0, 0, 0), (24, 7, 0, 0, 0, 0), (25, 45, 74, 12, 26, 0), (28, 5, 3, 0, 0, 0), (29, 52, 0, 0, 0, 0), (30, 31, 42, 0, 0, 0), (33, 7, 0, 0, 0, 0), (34, 45, 92, 12, 32, 0), (37, 5, 3, 0, 0, 0), (38, 50, 0, 0, 0, 0), (39, 35, 122, 0, 0, 0), (42, 7, 0, 0, 0, 0), (43, 7, 0, 0, 0, 0), (44, 45, 110, 12, 38, 0), (47, 5, 3, 0, 0, 0), (48, 50, 0, 0, 0, 0), (49, 6, 4, 0, 0, 0), (51, 80, 214, 148, 3, 0), (54, 30, 116, 0, 0, 0), (57, 5, 2, 0, 0, 0), (58, 30, 98, 0, 0, 0), (61, 7, 0, 0, 0, 0), (62, 45, 116, 12, 41, 0), (65, 6, 4, 0, 0, 0), (67, 50, 0, 0, 0, 0), (68, 32, 94, 0, 0, 0), (71, 7, 0, 0, 0, 0), (72, 7, 0, 0, 0, 0), (73, 45, 116, 12, 41, 0), (76, 6, 4, 0, 0, 0), (78, 50, 0, 0, 0, 0), (79, 7, 0, 0, 0, 0), (80, 45, 119, 12, 42, 0), (83, 6, 4, 0, 0, 0), (85, 50, 0, 0, 0, 0), (86, 5, 3, 0, 0, 0), (87, 5, 1, 0, 0, 0), (88, 80, 249, 175, 5, 0), (91, 30, 98, 0, 0, 0), (94, 0, 0, 0, 0, 1), (95, 42, 99, 0, 0, 0), (98, 0, 0, 0, 0, 0), (99, 9, 2, 0, 0, 0), (100, 7, 0, 0, 0, 0), (101, 45, 116, 12, 41, 0), (104, 6, 4, 0, 0, 0), (106, 5, 3, 0, 0, 0), (107, 55, 0, 0, 0, 0), (108, 7, 0, 0, 0, 0), (109, 45, 119, 12, 42, 0), (112, 6, 4, 0, 0, 0), (114, 5, 1, 0, 0, 0), (115, 55, 0, 0, 0, 0), (116, 13, 4, 0, 0, 1), (119, 42, 15, 0, 0, 0), (122, 13, 3, 0, 0, 1), (125, 42, 4, 0, 0, 0), (128, 5, 2, 0, 0, 0), (129, 90, 0, 0, 0, 0)]
/-- M_edit -/
def jo_177 : List (Nat × Nat × Nat × Nat × Nat × Int32) := [(0, 0, 0, 0, 0, 0), (1, 9, 1, 0, 0, 0), (2, 7, 0, 0, 0, 0), (3, 45, 131, 12, 0, 0), (6, 9, 2, 0, 0, 0), (7, 7, 0, 0, 0, 0), (8, 45, 142, 12, 5, 0), (11, 9, 3, 0, 0, 0), (12, 0, 0, 0, 0, 0), (13, 10, 4, 0, 0, 0), (15, 6, 4, 0, 0, 0), (17, 7, 0, 0, 0, 0), (18, 45, 142, 12, 5, 0), (21, 39, 125, 0, 0, 0), (24, 7, 0, 0, 0, 0), (25, 45, 116, 12, 41, 0), (28, 6, 4, 0, 0, 0), (30, 50, 0, 0, 0, 0), (31, 10, 5, 0, 0, 0), (33, 6, 5, 0, 0, 0), (35, 32, 119, 0, 0, 0), (38, 13, 1, 0, 0, 1), (41, 5, 2, 0, 0, 0), (42, 7, 0, 0, 0, 0), (43, 7, 0, 0, 0, 0), (44, 45, 122, 12, 43, 0), (47, 6, 5, 0, 0, 0), (49, 7, 0, 0, 0, 0), (50, 45, 119, 12, 42, 0), (53, 6, 4, 0, 0, 0), (55, 50, 0, 0, 0, 0), (56, 80, 245, 174, 4, 0), (59, 14, 0, 0, 0, 0), (60, 7, 0, 0, 0, 0), (61, 45, 74, 12, 26, 0), (64, 6, 5, 0, 0, 0), (66, 52, 0, 0, 0, 0), (67, 30, 90, 0, 0, 0), (70, 7, 0, 0, 0, 0), (71, 45, 34, 12, 11, 0), (74, 6, 4, 0, 0, 0), (76, 50, 0, 0, 0, 0), (77, 7, 0, 0, 0, 0), (78, 45, 31, 12, 10, 0), (81, 6, 4, 0, 0, 0), (83, 50, 0, 0, 0, 0), (84, 15, 0, 0, 0, 0), (85, 0, 0, 0, 0, 1), (86, 14, 0, 0, 0, 0), (87, 42, 91, 0, 0, 0), (90, 0, 0, 0, 0, 0), (91, 15, 0, 0, 0, 0), (92, 9, 2, 0, 0, 0), (93, 5, 3, 0, 0, 0), (94, 7, 0, 0, 0, 0), (95, 45, 92, 12, 32, 0), (98, 6, 5, 0, 0, 0), (100, 50, 0, 0, 0, 0), (101, 14, 0, 0, 0, 0), (102, 7, 0, 0, 0, 0), (103, 45, 74, 12, 26, 0), (106, 6, 5, 0, 0, 0), (108, 52, 0, 0, 0, 0), (109, 30, 116, 0, 0, 0), (112, 0, 0, 0, 0, 1), (113, 42, 117, 0, 0, 0), (116, 0, 0, 0, 0, 0), (117, 15, 0, 0, 0, 0), (118, 9, 3, 0, 0, 0), (119, 13, 4, 0, 0, 1), (122, 42, 15, 0, 0, 0), (125, 5, 2, 0, 0, 0), (126, 2, 0, 0, 0, 160), (129, 41, 135, 0, 0, 0), (132, 1, 0, 0, 0, (-4)), (134, 90, 0, 0, 0, 0), (135, 5, 3, 0, 0, 0), (136, 1, 0, 0, 0, 24), (138, 41, 144, 0, 0, 0), (141, 1, 0, 0, 0, (-5)), (143, 90, 0, 0, 0, 0), (144, 0, 0, 0, 0, 0), (145, 10, 4, 0, 0, 0), (147, 0, 0, 0, 0, 0), (148, 10, 5, 0, 0, 0), (150, 6, 5, 0, 0, 0), (152, 7, 0, 0, 0, 0), (153, 45, 131, 12, 0, 0), (156, 39, 376, 0, 0, 0), (159, 0, 0, 0, 0, 1), (160, 10, 6, 0, 0, 0), (162, 0, 0, 0, 0, (-1)), (163, 10, 7, 0, 0, 0), (165, 0, 0, 0, 0, 0), (166, 10, 8, 0, 0, 0), (168, 6, 8, 0, 0, 0), (170, 7, 0, 0, 0, 0), (171, 45, 142, 12, 5, 0), (174, 39, 282, 0, 0, 0), (177, 7, 0, 0, 0, 0), (178, 45, 116, 12, 41, 0), (181, 6, 8, 0, 0, 0), (183, 50, 0, 0, 0, 0), (184, 32, 191, 0, 0, 0), (187, 0, 0, 0, 0, 1), (188, 42, 192, 0, 0, 0), (191, 0, 0, 0, 0, 0), (192, 10, 9, 0, 0, 0), (194, 6, 6, 0, 0, 0), (196, 30, 247, 0, 0, 0), (199, 6, 9, 0, 0, 0), (201, 30, 243, 0, 0, 0), (204, 7, 0, 0, 0, 0), (205, 45, 74, 12, 26, 0), (208, 7, 0, 0, 0, 0), (209, 45, 116, 12, 41, 0), (212, 6, 8, 0, 0, 0), (214, 50, 0, 0, 0, 0), (215, 52, 0, 0, 0, 0), (216, 30, 243, 0, 0, 0), (219, 6, 5, 0, 0, 0), (221, 7, 0, 0, 0, 0), (222, 45, 31, 12, 10, 0), (225, 6, 8, 0, 0, 0), (227, 50, 0, 0, 0, 0), (228, 38, 243, 0, 0, 0), (231, 6, 5, 0, 0, 0), (233, 7, 0, 0, 0, 0), (234, 45, 34, 12, 11, 0), (237, 6, 8, 0, 0, 0), (239, 50, 0, 0, 0, 0), (240, 41, 247, 0, 0, 0), (243, 0, 0, 0, 0, 1), (244, 42, 248, 0, 0, 0), (247, 0, 0, 0, 0, 0), (248, 10, 6, 0, 0, 0), (250, 6, 9, 0, 0, 0), (252, 30, 272, 0, 0, 0), (255, 6, 5, 0, 0, 0), (257, 7, 0, 0, 0, 0), (258, 45, 34, 12, 11, 0), (261, 6, 8, 0, 0, 0), (263, 50, 0, 0, 0, 0), (264, 37, 272, 0, 0, 0), (267, 6, 8, 0, 0, 0), (269, 42, 274, 0, 0, 0), (272, 6, 7, 0, 0, 0), (274, 10, 7, 0, 0, 0), (276, 13, 8, 0, 0, 1), (279, 42, 168, 0, 0, 0), (282, 6, 6, 0, 0, 0), (284, 30, 304, 0, 0, 0), (287, 7, 0, 0, 0, 0), (288, 45, 128, 12, 45, 0), (291, 6, 4, 0, 0, 0), (293, 7, 0, 0, 0, 0), (294, 45, 7, 12, 1, 0), (297, 6, 5, 0, 0, 0), (299, 50, 0, 0, 0, 0), (300, 55, 0, 0, 0, 0), (301, 13, 4, 0, 0, 1), (304, 6, 7, 0, 0, 0), (306, 32, 334, 0, 0, 0), (309, 7, 0, 0, 0, 0), (310, 7, 0, 0, 0, 0), (311, 45, 122, 12, 43, 0), (314, 7, 0, 0, 0, 0), (315, 45, 116, 12, 41, 0), (318, 6, 7, 0, 0, 0), (320, 50, 0, 0, 0, 0), (321, 7, 0, 0, 0, 0), (322, 45, 119, 12, 42, 0), (325, 6, 7, 0, 0, 0), (327, 50, 0, 0, 0, 0), (328, 80, 245, 174, 4, 0), (331, 42, 335, 0, 0, 0), (334, 0, 0, 0, 0, 0), (335, 10, 8, 0, 0, 0), (337, 0, 0, 0, 0, 0), (338, 10, 9, 0, 0, 0), (340, 6, 9, 0, 0, 0), (342, 6, 8, 0, 0, 0), (344, 39, 370, 0, 0, 0), (347, 7, 0, 0, 0, 0), (348, 45, 128, 12, 45, 0), (351, 6, 4, 0, 0, 0), (353, 7, 0, 0, 0, 0), (354, 45, 122, 12, 43, 0), (357, 6, 9, 0, 0, 0), (359, 50, 0, 0, 0, 0), (360, 55, 0, 0, 0, 0), (361, 13, 4, 0, 0, 1), (364, 13, 9, 0, 0, 1), (367, 42, 340, 0, 0, 0), (370, 13, 5, 0, 0, 1), (373, 42, 150, 0, 0, 0), (376, 0, 0, 0, 0, 0), (377, 10, 5, 0, 0, 0), (379, 6, 5, 0, 0, 0), (381, 6, 4, 0, 0, 0), (383, 39, 406, 0, 0, 0), (386, 7, 0, 0, 0, 0), (387, 45, 7, 12, 1, 0), (390, 6, 5, 0, 0, 0), (392, 7, 0, 0, 0, 0), (393, 45, 128, 12, 45, 0), (396, 6, 5, 0, 0, 0), (398, 50, 0, 0, 0, 0), (399, 55, 0, 0, 0, 0), (400, 13, 5, 0, 0, 1), (403, 42, 379, 0, 0, 0), (406, 7, 0, 0, 0, 0), (407, 6, 4, 0, 0, 0), (409, 47, 131, 12, 0, 0), (412, 5, 1, 0, 0, 0), (413, 90, 0, 0, 0, 0)]
/-- M_apply -/
def jo_178 : List (Nat × Nat × Nat × Nat × Nat × Int32) := [(0, 7, 0, 0, 0, 0), (1, 80, 233, 144, 1, 0), (4, 9, 1, 0, 0, 0), (5, 5, 1, 0, 0, 0), (6, 33, 11, 0, 0, 0), (9, 5, 1, 0, 0, 0), (10, 90, 0, 0, 0, 0), (11, 0, 0, 0, 0, 0), (12, 9, 2, 0, 0, 0), (13, 5, 2, 0, 0, 0), (14, 7, 0, 0, 0, 0), (15, 45, 142, 12, 5, 0), (18, 39, 34, 0, 0, 0), (21, 7, 0, 0, 0, 0), (22, 45, 116, 12, 41, 0), (25, 5, 2, 0, 0, 0), (26, 0, 0, 0, 0, (-1)), (27, 55, 0, 0, 0, 0), (28, 13, 2, 0, 0, 1), (31, 42, 13, 0, 0, 0), (34, 0, 0, 0, 0, 1), (35, 9, 2, 0, 0, 0), (36, 0, 0, 0, 0, 0), (37, 9, 3, 0, 0, 0), (38, 5, 3, 0, 0, 0), (39, 1, 0, 0, 0, 64), (41, 39, 89, 0, 0, 0), (44, 7, 0, 0, 0, 0), (45, 5, 3, 0, 0, 0), (46, 80, 227, 145, 2, 0), (49, 30, 83, 0, 0, 0), (52, 7, 0, 0, 0, 0), (53, 5, 3, 0, 0, 0), (54, 80, 230, 151, 2, 0), (57, 7, 0, 0, 0, 0), (58, 80, 239, 160, 1, 0), (61, 7, 0, 0, 0, 0), (62, 5, 3, 0, 0, 0), (63, 80, 252, 176, 2, 0), (66, 10, 4, 0, 0, 0), (68, 5, 2, 0, 0, 0), (69, 30, 81, 0, 0, 0), (72, 6, 4, 0, 0, 0), (74, 30, 81, 0, 0, 0), (77, 0, 0, 0, 0, 1), (78, 42, 82, 0, 0, 0), (81, 0, 0, 0, 0, 0), (82, 9, 2, 0, 0, 0), (83, 13, 3, 0, 0, 1), (86, 42, 38, 0, 0, 0), (89, 5, 2, 0, 0, 0), (90, 30, 100, 0, 0, 0), (93, 7, 0, 0, 0, 0), (94, 80, 255, 177, 1, 0), (97, 42, 102, 0, 0, 0), (100, 1, 0, 0, 0, (-3)), (102, 90, 0, 0, 0, 0)]
/-- Law_law -/
def jo_179 : List (Nat × Nat × Nat × Nat × Nat × Int32) := [(0, 72, 7, 0, 0, 0), (3, 26, 0, 0, 0, 0), (4, 82, 9, 11, 1, 0), (7, 11, 1, 0, 0, 0), (8, 72, 10, 12, 0, 0), (11, 26, 0, 0, 0, 0), (12, 82, 12, 12, 1, 0), (15, 11, 2, 0, 0, 0), (16, 0, 0, 0, 0, 0), (17, 9, 3, 0, 0, 0), (18, 5, 3, 0, 0, 0), (19, 7, 0, 0, 0, 0), (20, 68, 0, 0, 0, 0), (21, 1, 0, 0, 0, 6), (23, 15, 0, 0, 0, 0), (24, 40, 533, 0, 0, 0), (27, 7, 0, 0, 0, 0), (28, 5, 3, 0, 0, 0), (29, 67, 0, 0, 0, 0), (30, 1, 0, 0, 0, 15), (32, 17, 0, 0, 0, 0), (33, 59, 0, 0, 75, 0), (108, 7, 1, 0, 0, 0), (109, 7, 0, 0, 0, 0), (110, 5, 3, 0, 0, 0), (111, 0, 0, 0, 0, 1), (112, 14, 0, 0, 0, 0), (113, 67, 0, 0, 0, 0), (114, 25, 0, 0, 0, 0), (115, 80, 13, 15, 2, 0), (118, 7, 2, 0, 0, 0), (119, 7, 0, 0, 0, 0), (120, 5, 3, 0, 0, 0), (121, 0, 0, 0, 0, 1), (122, 14, 0, 0, 0, 0), (123, 67, 0, 0, 0, 0), (124, 25, 0, 0, 0, 0), (125, 80, 17, 16, 2, 0), (128, 36, 527, 0, 0, 0), (131, 0, 0, 0, 0, 0), (132, 90, 0, 0, 0, 0), (133, 7, 1, 0, 0, 0), (134, 80, 18, 18, 1, 0), (137, 7, 2, 0, 0, 0), (138, 80, 21, 19, 1, 0), (141, 42, 527, 0, 0, 0), (144, 7, 1, 0, 0, 0), (145, 80, 22, 21, 1, 0), (148, 7, 2, 0, 0, 0), (149, 80, 26, 22, 1, 0), (152, 36, 527, 0, 0, 0), (155, 0, 0, 0, 0, 0), (156, 90, 0, 0, 0, 0), (157, 7, 1, 0, 0, 0), (158, 7, 0, 0, 0, 0), (159, 5, 3, 0, 0, 0), (160, 0, 0, 0, 0, 1), (161, 14, 0, 0, 0, 0), (162, 67, 0, 0, 0, 0), (163, 80, 27, 25, 2, 0), (166, 7, 2, 0, 0, 0), (167, 7, 0, 0, 0, 0), (168, 5, 3, 0, 0, 0), (169, 0, 0, 0, 0, 1), (170, 14, 0, 0, 0, 0), (171, 67, 0, 0, 0, 0), (172, 80, 31, 26, 2, 0), (175, 36, 527, 0, 0, 0), (178, 0, 0, 0, 0, 0), (179, 90, 0, 0, 0, 0), (180, 7, 1, 0, 0, 0), (181, 80, 32, 60, 1, 0), (184, 7, 2, 0, 0, 0), (185, 80, 35, 72, 1, 0), (188, 36, 527, 0, 0, 0), (191, 0, 0, 0, 0, 0), (192, 90, 0, 0, 0, 0), (193, 7, 1, 0, 0, 0), (194, 7, 0, 0, 0, 0), (195, 5, 3, 0, 0, 0), (196, 0, 0, 0, 0, 1), (197, 14, 0, 0, 0, 0), (198, 67, 0, 0, 0, 0), (199, 7, 0, 0, 0, 0), (200, 5, 3, 0, 0, 0), (201, 0, 0, 0, 0, 2), (202, 14, 0, 0, 0, 0), (203, 67, 0, 0, 0, 0), (204, 80, 36, 75, 3, 0), (207, 7, 2, 0, 0, 0), (208, 7, 0, 0, 0, 0), (209, 5, 3, 0, 0, 0), (210, 0, 0, 0, 0, 1), (211, 14, 0, 0, 0, 0), (212, 67, 0, 0, 0, 0), (213, 7, 0, 0, 0, 0), (214, 5, 3, 0, 0, 0), (215, 0, 0, 0, 0, 2), (216, 14, 0, 0, 0, 0), (217, 67, 0, 0, 0, 0), (218, 80, 40, 76, 3, 0), (221, 36, 527, 0, 0, 0), (224, 0, 0, 0, 0, 0), (225, 90, 0, 0, 0, 0), (226, 7, 1, 0, 0, 0), (227, 7, 0, 0, 0, 0), (228, 5, 3, 0, 0, 0), (229, 0, 0, 0, 0, 1), (230, 14, 0, 0, 0, 0), (231, 67, 0, 0, 0, 0), (232, 80, 41, 77, 2, 0), (235, 7, 2, 0, 0, 0), (236, 7, 0, 0, 0, 0), (237, 5, 3, 0, 0, 0), (238, 0, 0, 0, 0, 1), (239, 14, 0, 0, 0, 0), (240, 67, 0, 0, 0, 0), (241, 80, 44, 78, 2, 0), (244, 36, 527, 0, 0, 0), (247, 0, 0, 0, 0, 0), (248, 90, 0, 0, 0, 0), (249, 7, 1, 0, 0, 0), (250, 7, 0, 0, 0, 0), (251, 5, 3, 0, 0, 0), (252, 0, 0, 0, 0, 1), (253, 14, 0, 0, 0, 0), (254, 67, 0, 0, 0, 0), (255, 30, 262, 0, 0, 0), (258, 0, 0, 0, 0, 1), (259, 42, 263, 0, 0, 0), (262, 0, 0, 0, 0, 0), (263, 7, 0, 0, 0, 0), (264, 5, 3, 0, 0, 0), (265, 0, 0, 0, 0, 2), (266, 14, 0, 0, 0, 0), (267, 67, 0, 0, 0, 0), (268, 7, 0, 0, 0, 0), (269, 5, 3, 0, 0, 0), (270, 0, 0, 0, 0, 3), (271, 14, 0, 0, 0, 0), (272, 67, 0, 0, 0, 0), (273, 7, 0, 0, 0, 0), (274, 5, 3, 0, 0, 0), (275, 0, 0, 0, 0, 4), (276, 14, 0, 0, 0, 0), (277, 67, 0, 0, 0, 0), (278, 7, 0, 0, 0, 0), (279, 5, 3, 0, 0, 0), (280, 0, 0, 0, 0, 5), (281, 14, 0, 0, 0, 0), (282, 67, 0, 0, 0, 0), (283, 80, 45, 89, 6, 0), (286, 7, 2, 0, 0, 0), (287, 7, 0, 0, 0, 0), (288, 5, 3, 0, 0, 0), (289, 0, 0, 0, 0, 1), (290, 14, 0, 0, 0, 0), (291, 67, 0, 0, 0, 0), (292, 30, 299, 0, 0, 0), (295, 0, 0, 0, 0, 1), (296, 42, 300, 0, 0, 0), (299, 0, 0, 0, 0, 0), (300, 7, 0, 0, 0, 0), (301, 5, 3, 0, 0, 0), (302, 0, 0, 0, 0, 2), (303, 14, 0, 0, 0, 0), (304, 67, 0, 0, 0, 0), (305, 7, 0, 0, 0, 0), (306, 5, 3, 0, 0, 0), (307, 0, 0, 0, 0, 3), (308, 14, 0, 0, 0, 0), (309, 67, 0, 0, 0, 0), (310, 7, 0, 0, 0, 0), (311, 5, 3, 0, 0, 0), (312, 0, 0, 0, 0, 4), (313, 14, 0, 0, 0, 0), (314, 67, 0, 0, 0, 0), (315, 7, 0, 0, 0, 0), (316, 5, 3, 0, 0, 0), (317, 0, 0, 0, 0, 5), (318, 14, 0, 0, 0, 0), (319, 67, 0, 0, 0, 0), (320, 80, 49, 91, 6, 0), (323, 36, 527, 0, 0, 0), (326, 0, 0, 0, 0, 0), (327, 90, 0, 0, 0, 0), (328, 7, 1, 0, 0, 0), (329, 7, 0, 0, 0, 0), (330, 5, 3, 0, 0, 0), (331, 0, 0, 0, 0, 1), (332, 14, 0, 0, 0, 0), (333, 67, 0, 0, 0, 0), (334, 7, 0, 0, 0, 0), (335, 5, 3, 0, 0, 0), (336, 0, 0, 0, 0, 2), (337, 14, 0, 0, 0, 0), (338, 67, 0, 0, 0, 0), (339, 7, 0, 0, 0, 0), (340, 5, 3, 0, 0, 0), (341, 0, 0, 0, 0, 3), (342, 14, 0, 0, 0, 0), (343, 67, 0, 0, 0, 0), (344, 7, 0, 0, 0, 0), (345, 5, 3, 0, 0, 0), (346, 0, 0, 0, 0, 4), (347, 14, 0, 0, 0, 0), (348, 67, 0, 0, 0, 0), (349, 80, 50, 99, 5, 0), (352, 7, 2, 0, 0, 0), (353, 7, 0, 0, 0, 0), (354, 5, 3, 0, 0, 0), (355, 0, 0, 0, 0, 1), (356, 14, 0, 0, 0, 0), (357, 67, 0, 0, 0, 0), (358, 7, 0, 0, 0, 0), (359, 5, 3, 0, 0, 0), (360, 0, 0, 0, 0, 2), (361, 14, 0, 0, 0, 0), (362, 67, 0, 0, 0, 0), (363, 7, 0, 0, 0, 0), (364, 5, 3, 0, 0, 0), (365, 0, 0, 0, 0, 3), (366, 14, 0, 0, 0, 0), (367, 67, 0, 0, 0, 0), (368, 7, 0, 0, 0, 0), (369, 5, 3, 0, 0, 0), (370, 0, 0, 0, 0, 4), (371, 14, 0, 0, 0, 0), (372, 67, 0, 0, 0, 0), (373, 80, 54, 104, 5, 0), (376, 36, 527, 0, 0, 0), (379, 0, 0, 0, 0, 0), (380, 90, 0, 0, 0, 0), (381, 7, 1, 0, 0, 0), (382, 7, 0, 0, 0, 0), (383, 5, 3, 0, 0, 0), (384, 0, 0, 0, 0, 1), (385, 14, 0, 0, 0, 0), (386, 67, 0, 0, 0, 0), (387, 7, 0, 0, 0, 0), (388, 5, 3, 0, 0, 0), (389, 0, 0, 0, 0, 2), (390, 14, 0, 0, 0, 0), (391, 67, 0, 0, 0, 0), (392, 7, 0, 0, 0, 0), (393, 5, 3, 0, 0, 0), (394, 0, 0, 0, 0, 3), (395, 14, 0, 0, 0, 0), (396, 67, 0, 0, 0, 0), (397, 7, 0, 0, 0, 0), (398, 5, 3, 0, 0, 0), (399, 0, 0, 0, 0, 4), (400, 14, 0, 0, 0, 0), (401, 67, 0, 0, 0, 0), (402, 80, 55, 107, 5, 0), (405, 7, 2, 0, 0, 0), (406, 7, 0, 0, 0, 0), (407, 5, 3, 0, 0, 0), (408, 0, 0, 0, 0, 1), (409, 14, 0, 0, 0, 0), (410, 67, 0, 0, 0, 0), (411, 7, 0, 0, 0, 0), (412, 5, 3, 0, 0, 0), (413, 0, 0, 0, 0, 2), (414, 14, 0, 0, 0, 0), (415, 67, 0, 0, 0, 0), (416, 7, 0, 0, 0, 0), (417, 5, 3, 0, 0, 0), (418, 0, 0, 0, 0, 3), (419, 14, 0, 0, 0, 0), (420, 67, 0, 0, 0, 0), (421, 7, 0, 0, 0, 0), (422, 5, 3, 0, 0, 0), (423, 0, 0, 0, 0, 4), (424, 14, 0, 0, 0, 0), (425, 67, 0, 0, 0, 0), (426, 80, 58, 108, 5, 0), (429, 36, 527, 0, 0, 0), (432, 0, 0, 0, 0, 0), (433, 90, 0, 0, 0, 0), (434, 7, 1, 0, 0, 0), (435, 80, 59, 110, 1, 0), (438, 7, 2, 0, 0, 0), (439, 80, 62, 111, 1, 0), (442, 42, 527, 0, 0, 0), (445, 7, 1, 0, 0, 0), (446, 80, 63, 143, 1, 0), (449, 7, 2, 0, 0, 0), (450, 80, 66, 153, 1, 0), (453, 36, 527, 0, 0, 0), (456, 0, 0, 0, 0, 0), (457, 90, 0, 0, 0, 0), (458, 7, 1, 0, 0, 0), (459, 7, 0, 0, 0, 0), (460, 5, 3, 0, 0, 0), (461, 0, 0, 0, 0, 1), (462, 14, 0, 0, 0, 0), (463, 67, 0, 0, 0, 0), (464, 80, 67, 155, 2, 0), (467, 7, 2, 0, 0, 0), (468, 7, 0, 0, 0, 0), (469, 5, 3, 0, 0, 0), (470, 0, 0, 0, 0, 1), (471, 14, 0, 0, 0, 0), (472, 67, 0, 0, 0, 0), (473, 80, 70, 156, 2, 0), (476, 36, 527, 0, 0, 0), (479, 0, 0, 0, 0, 0), (480, 90, 0, 0, 0, 0), (481, 7, 1, 0, 0, 0), (482, 7, 0, 0, 0, 0), (483, 5, 3, 0, 0, 0), (484, 0, 0, 0, 0, 1), (485, 14, 0, 0, 0, 0), (486, 67, 0, 0, 0, 0), (487, 7, 0, 0, 0, 0), (488, 5, 3, 0, 0, 0), (489, 0, 0, 0, 0, 2), (490, 14, 0, 0, 0, 0), (491, 67, 0, 0, 0, 0), (492, 80, 71, 158, 3, 0), (495, 7, 2, 0, 0, 0), (496, 7, 0, 0, 0, 0), (497, 5, 3, 0, 0, 0), (498, 0, 0, 0, 0, 1), (499, 14, 0, 0, 0, 0), (500, 67, 0, 0, 0, 0), (501, 7, 0, 0, 0, 0), (502, 5, 3, 0, 0, 0), (503, 0, 0, 0, 0, 2), (504, 14, 0, 0, 0, 0), (505, 67, 0, 0, 0, 0), (506, 80, 75, 161, 3, 0), (509, 36, 527, 0, 0, 0), (512, 0, 0, 0, 0, 0), (513, 90, 0, 0, 0, 0), (514, 7, 1, 0, 0, 0), (515, 80, 76, 172, 1, 0), (518, 7, 2, 0, 0, 0), (519, 80, 79, 178, 1, 0), (522, 36, 527, 0, 0, 0), (525, 0, 0, 0, 0, 0), (526, 90, 0, 0, 0, 0), (527, 13, 3, 0, 0, 6), (530, 42, 18, 0, 0, 0), (533, 0, 0, 0, 0, 1), (534, 90, 0, 0, 0, 0)]
def jt_ops : List (List (Nat × Nat × Nat × Nat × Nat × Int32)) := [jo_0, jo_1, jo_2, jo_3, jo_4, jo_5, jo_6, jo_7, jo_8, jo_9, jo_10, jo_11, jo_12, jo_13, jo_14, jo_15, jo_16, jo_17, jo_18, jo_19, jo_20, jo_21, jo_22, jo_23, jo_24, jo_25, jo_26, jo_27, jo_28, jo_29, jo_30, jo_31, jo_32, jo_33, jo_34, jo_35, jo_36, jo_37, jo_38, jo_39, jo_40, jo_41, jo_42, jo_43, jo_44, jo_45, jo_46, jo_47, jo_48, jo_49, jo_50, jo_51, jo_52, jo_53, jo_54, jo_55, jo_56, jo_57, jo_58, jo_59, jo_60, jo_61, jo_62, jo_63, jo_64, jo_65, jo_66, jo_67, jo_68, jo_69, jo_70, jo_71, jo_72, jo_73, jo_74, jo_75, jo_76, jo_77, jo_78, jo_79, jo_80, jo_81, jo_82, jo_83, jo_84, jo_85, jo_86, jo_87, jo_88, jo_89, jo_90, jo_91, jo_92, jo_93, jo_94, jo_95, jo_96, jo_97, jo_98, jo_99, jo_100, jo_101, jo_102, jo_103, jo_104, jo_105, jo_106, jo_107, jo_108, jo_109, jo_110, jo_111, jo_112, jo_113, jo_114, jo_115, jo_116, jo_117, jo_118, jo_119, jo_120, jo_121, jo_122, jo_123, jo_124, jo_125, jo_126, jo_127, jo_128, jo_129, jo_130, jo_131, jo_132, jo_133, jo_134, jo_135, jo_136, jo_137, jo_138, jo_139, jo_140, jo_141, jo_142, jo_143, jo_144, jo_145, jo_146, jo_147, jo_148, jo_149, jo_150, jo_151, jo_152, jo_153, jo_154, jo_155, jo_156, jo_157, jo_158, jo_159, jo_160, jo_161, jo_162, jo_163, jo_164, jo_165, jo_166, jo_167, jo_168, jo_169, jo_170, jo_171, jo_172, jo_173, jo_174, jo_175, jo_176, jo_177, jo_178, jo_179]
end
section
theorem jx_and {a b : Bool} (h : (a && b) = true) : a = true ∧ b = true := by cases a <;> cases b <;> first | exact ⟨rfl, rfl⟩ | cases h
def jt_W : List Cond := lw_tbl.filter goodWord
theorem jt_good : ∀ w ∈ jt_W, goodWord w = true := fun w h => (List.mem_filter.mp h).2
theorem jW {w : Cond} (h1 : w ∈ tables_1) (h2 : goodWord w = true) : w ∈ jt_W := List.mem_filter.mpr ⟨List.mem_append_right _ h1, h2⟩
theorem jWs {w : Cond} (h1 : w ∈ k2_sels lw_privs) (h2 : goodWord w = true) : w ∈ jt_W := List.mem_filter.mpr ⟨List.mem_append_left _ h1, h2⟩
theorem jm_1 : ∀ w ∈ tables_1_1, w ∈ tables_1 := fun w h => by simp only [tables_1, List.mem_append, h, true_or, or_true]
theorem jm_2 : ∀ w ∈ tables_1_2, w ∈ tables_1 := fun w h => by simp only [tables_1, List.mem_append, h, true_or, or_true]
theorem jm_3 : ∀ w ∈ tables_1_3, w ∈ tables_1 := fun w h => by simp only [tables_1, List.mem_append, h, true_or, or_true]
theorem jm_4 : ∀ w ∈ tables_1_4, w ∈ tables_1 := fun w h => by simp only [tables_1, List.mem_append, h, true_or, or_true]
theorem jm_5 : ∀ w ∈ tables_1_5, w ∈ tables_1 := fun w h => by simp only [tables_1, List.mem_append, h, true_or, or_true]
theorem jm_6 : ∀ w ∈ tables_1_6, w ∈ tables_1 := fun w h => by simp only [tables_1, List.mem_append, h, true_or, or_true]
def jx_All {α : Type} (P : α → Prop) : List α → Prop
  | [] => True
  | a :: l => P a ∧ jx_All P l
theorem jx_all {α : Type} {P : α → Prop} : ∀ {l : List α}, jx_All P l → ∀ a ∈ l, P a
  | [], _, _, h => by cases h
  | b :: l, h, a, ha => by
    rcases List.mem_cons.mp ha with e | e
    · rw [e]; exact h.1
    · exact jx_all h.2 a e
theorem jx_c {α : Type} {P : α → Prop} {a : α} {l : List α} (h : P a) (t : jx_All P l) : jx_All P (a :: l) := ⟨h, t⟩
theorem jx_e {α : Type} {P : α → Prop} : jx_All P [] := trivial
set_option maxRecDepth 100000 in
theorem jt_lf_ok {q : Nat × Nat × Nat × Nat} (h : q ∈ jt_lf) : Cond.fieldLink (jt_on.getD q.1 "") q.2.1 (jt_T q.2.2.1 q.2.2.2).1 (jt_T q.2.2.1 q.2.2.2).2.1 (jt_T q.2.2.1 q.2.2.2).2.2.1 ∈ jt_W ∧ (jt_T q.2.2.1 q.2.2.2).1 = jt_on.getD q.1 "" := jx_all (P := fun q : Nat × Nat × Nat × Nat => Cond.fieldLink (jt_on.getD q.1 "") q.2.1 (jt_T q.2.2.1 q.2.2.2).1 (jt_T q.2.2.1 q.2.2.2).2.1 (jt_T q.2.2.1 q.2.2.2).2.2.1 ∈ jt_W ∧ (jt_T q.2.2.1 q.2.2.2).1 = jt_on.getD q.1 "") (l := jt_lf) (jx_c ⟨(jW (jm_1 _ (List.mem_of_getElem? (i := 36) rfl)) rfl), rfl⟩ (
  jx_c ⟨(jW (jm_1 _ (List.mem_of_getElem? (i := 116) rfl)) rfl), rfl⟩ (
  jx_c ⟨(jW (jm_1 _ (List.mem_of_getElem? (i := 135) rfl)) rfl), rfl⟩ (
  jx_c ⟨(jW (jm_1 _ (List.mem_of_getElem? (i := 136) rfl)) rfl), rfl⟩ (
  jx_c ⟨(jW (jm_1 _ (List.mem_of_getElem? (i := 147) rfl)) rfl), rfl⟩ (
  jx_c ⟨(jW (jm_1 _ (List.mem_of_getElem? (i := 148) rfl)) rfl), rfl⟩ (
  jx_c ⟨(jW (jm_1 _ (List.mem_of_getElem? (i := 149) rfl)) rfl), rfl⟩ (
  jx_c ⟨(jW (jm_1 _ (List.mem_of_getElem? (i := 150) rfl)) rfl), rfl⟩ (
  jx_c ⟨(jW (jm_1 _ (List.mem_of_getElem? (i := 146) rfl)) rfl), rfl⟩ (
  jx_c ⟨(jW (jm_1 _ (List.mem_of_getElem? (i := 187) rfl)) rfl), rfl⟩ (
  jx_c ⟨(jW (jm_1 _ (List.mem_of_getElem? (i := 205) rfl)) rfl), rfl⟩ (
  jx_c ⟨(jW (jm_1 _ (List.mem_of_getElem? (i := 208) rfl)) rfl), rfl⟩ (
  jx_c ⟨(jW (jm_1 _ (List.mem_of_getElem? (i := 210) rfl)) rfl), rfl⟩ (
  jx_c ⟨(jW (jm_1 _ (List.mem_of_getElem? (i := 232) rfl)) rfl), rfl⟩ (
  jx_c ⟨(jW (jm_2 _ (List.mem_of_getElem? (i := 15) rfl)) rfl), rfl⟩ (
  jx_c ⟨(jW (jm_2 _ (List.mem_of_getElem? (i := 34) rfl)) rfl), rfl⟩ (
  jx_c ⟨(jW (jm_2 _ (List.mem_of_getElem? (i := 35) rfl)) rfl), rfl⟩ (
  jx_c ⟨(jW (jm_2 _ (List.mem_of_getElem? (i := 36) rfl)) rfl), rfl⟩ (
  jx_c ⟨(jW (jm_2 _ (List.mem_of_getElem? (i := 37) rfl)) rfl), rfl⟩ (
  jx_c ⟨(jW (jm_2 _ (List.mem_of_getElem? (i := 38) rfl)) rfl), rfl⟩ (
  jx_c ⟨(jW (jm_2 _ (List.mem_of_getElem? (i := 32) rfl)) rfl), rfl⟩ (
  jx_c ⟨(jW (jm_2 _ (List.mem_of_getElem? (i := 33) rfl)) rfl), rfl⟩ (
  jx_c ⟨(jW (jm_2 _ (List.mem_of_getElem? (i := 65) rfl)) rfl), rfl⟩ (
  jx_c ⟨(jW (jm_2 _ (List.mem_of_getElem? (i := 63) rfl)) rfl), rfl⟩ (
  jx_c ⟨(jW (jm_2 _ (List.mem_of_getElem? (i := 64) rfl)) rfl), rfl⟩ (
  jx_c ⟨(jW (jm_2 _ (List.mem_of_getElem? (i := 82) rfl)) rfl), rfl⟩ (
  jx_c ⟨(jW (jm_2 _ (List.mem_of_getElem? (i := 83) rfl)) rfl), rfl⟩ (
  jx_c ⟨(jW (jm_2 _ (List.mem_of_getElem? (i := 84) rfl)) rfl), rfl⟩ (
  jx_c ⟨(jW (jm_2 _ (List.mem_of_getElem? (i := 85) rfl)) rfl), rfl⟩ (
  jx_c ⟨(jW (jm_2 _ (List.mem_of_getElem? (i := 86) rfl)) rfl), rfl⟩ (
  jx_c ⟨(jW (jm_2 _ (List.mem_of_getElem? (i := 87) rfl)) rfl), rfl⟩ (
  jx_c ⟨(jW (jm_4 _ (List.mem_of_getElem? (i := 200) rfl)) rfl), rfl⟩ (
  jx_c ⟨(jW (jm_4 _ (List.mem_of_getElem? (i := 202) rfl)) rfl), rfl⟩ (
  jx_c ⟨(jW (jm_4 _ (List.mem_of_getElem? (i := 203) rfl)) rfl), rfl⟩ (
  jx_c ⟨(jW (jm_4 _ (List.mem_of_getElem? (i := 205) rfl)) rfl), rfl⟩ (
  jx_c ⟨(jW (jm_4 _ (List.mem_of_getElem? (i := 206) rfl)) rfl), rfl⟩ (
  jx_c ⟨(jW (jm_4 _ (List.mem_of_getElem? (i := 207) rfl)) rfl), rfl⟩ (
  jx_c ⟨(jW (jm_4 _ (List.mem_of_getElem? (i := 208) rfl)) rfl), rfl⟩ (
  jx_c ⟨(jW (jm_4 _ (List.mem_of_getElem? (i := 209) rfl)) rfl), rfl⟩ (
  jx_c ⟨(jW (jm_4 _ (List.mem_of_getElem? (i := 210) rfl)) rfl), rfl⟩ (
  jx_c ⟨(jW (jm_4 _ (List.mem_of_getElem? (i := 211) rfl)) rfl), rfl⟩ (
  jx_c ⟨(jW (jm_4 _ (List.mem_of_getElem? (i := 212) rfl)) rfl), rfl⟩ (
  jx_c ⟨(jW (jm_4 _ (List.mem_of_getElem? (i := 213) rfl)) rfl), rfl⟩ (
  jx_c ⟨(jW (jm_4 _ (List.mem_of_getElem? (i := 214) rfl)) rfl), rfl⟩ (
  jx_c ⟨(jW (jm_4 _ (List.mem_of_getElem? (i := 215) rfl)) rfl), rfl⟩ (
  jx_c ⟨(jW (jm_4 _ (List.mem_of_getElem? (i := 216) rfl)) rfl), rfl⟩ (
  jx_c ⟨(jW (jm_4 _ (List.mem_of_getElem? (i := 217) rfl)) rfl), rfl⟩ (
  jx_c ⟨(jW (jm_4 _ (List.mem_of_getElem? (i := 218) rfl)) rfl), rfl⟩ (
  jx_c ⟨(jW (jm_4 _ (List.mem_of_getElem? (i := 221) rfl)) rfl), rfl⟩ (
  jx_c ⟨(jW (jm_4 _ (List.mem_of_getElem? (i := 222) rfl)) rfl), rfl⟩ (
  jx_c ⟨(jW (jm_4 _ (List.mem_of_getElem? (i := 223) rfl)) rfl), rfl⟩ (
  jx_c ⟨(jW (jm_4 _ (List.mem_of_getElem? (i := 224) rfl)) rfl), rfl⟩ (
  jx_c ⟨(jW (jm_4 _ (List.mem_of_getElem? (i := 225) rfl)) rfl), rfl⟩ (
  jx_c ⟨(jW (jm_4 _ (List.mem_of_getElem? (i := 226) rfl)) rfl), rfl⟩ (
  jx_c ⟨(jW (jm_4 _ (List.mem_of_getElem? (i := 227) rfl)) rfl), rfl⟩ (
  jx_c ⟨(jW (jm_4 _ (List.mem_of_getElem? (i := 228) rfl)) rfl), rfl⟩ (
  jx_c ⟨(jW (jm_4 _ (List.mem_of_getElem? (i := 229) rfl)) rfl), rfl⟩ (
  jx_c ⟨(jW (jm_4 _ (List.mem_of_getElem? (i := 230) rfl)) rfl), rfl⟩ (
  jx_c ⟨(jW (jm_4 _ (List.mem_of_getElem? (i := 231) rfl)) rfl), rfl⟩ (
  jx_c ⟨(jW (jm_4 _ (List.mem_of_getElem? (i := 232) rfl)) rfl), rfl⟩ (
  jx_c ⟨(jW (jm_4 _ (List.mem_of_getElem? (i := 233) rfl)) rfl), rfl⟩ (
  jx_c ⟨(jW (jm_4 _ (List.mem_of_getElem? (i := 234) rfl)) rfl), rfl⟩ (
  jx_c ⟨(jW (jm_4 _ (List.mem_of_getElem? (i := 235) rfl)) rfl), rfl⟩ (
  jx_c ⟨(jW (jm_4 _ (List.mem_of_getElem? (i := 236) rfl)) rfl), rfl⟩ (
  jx_c ⟨(jW (jm_4 _ (List.mem_of_getElem? (i := 237) rfl)) rfl), rfl⟩ (
  jx_c ⟨(jW (jm_4 _ (List.mem_of_getElem? (i := 238) rfl)) rfl), rfl⟩ (
  jx_c ⟨(jW (jm_5 _ (List.mem_of_getElem? (i := 0) rfl)) rfl), rfl⟩ (
  jx_c ⟨(jW (jm_5 _ (List.mem_of_getElem? (i := 1) rfl)) rfl), rfl⟩ (
  jx_c ⟨(jW (jm_5 _ (List.mem_of_getElem? (i := 2) rfl)) rfl), rfl⟩ (
  jx_c ⟨(jW (jm_5 _ (List.mem_of_getElem? (i := 3) rfl)) rfl), rfl⟩ (
  jx_c ⟨(jW (jm_5 _ (List.mem_of_getElem? (i := 4) rfl)) rfl), rfl⟩ (
  jx_c ⟨(jW (jm_1 _ (List.mem_of_getElem? (i := 37) rfl)) rfl), rfl⟩ (
  jx_c ⟨(jW (jm_2 _ (List.mem_of_getElem? (i := 89) rfl)) rfl), rfl⟩ (
  jx_c ⟨(jW (jm_2 _ (List.mem_of_getElem? (i := 90) rfl)) rfl), rfl⟩ (
  jx_c ⟨(jW (jm_4 _ (List.mem_of_getElem? (i := 199) rfl)) rfl), rfl⟩ (
  jx_c ⟨(jW (jm_1 _ (List.mem_of_getElem? (i := 117) rfl)) rfl), rfl⟩ (
  jx_c ⟨(jW (jm_1 _ (List.mem_of_getElem? (i := 137) rfl)) rfl), rfl⟩ (
  jx_c ⟨(jW (jm_1 _ (List.mem_of_getElem? (i := 152) rfl)) rfl), rfl⟩ (
  jx_c ⟨(jW (jm_1 _ (List.mem_of_getElem? (i := 151) rfl)) rfl), rfl⟩ (
  jx_c ⟨(jW (jm_1 _ (List.mem_of_getElem? (i := 69) rfl)) rfl), rfl⟩ (
  jx_c ⟨(jW (jm_1 _ (List.mem_of_getElem? (i := 72) rfl)) rfl), rfl⟩ (
  jx_c ⟨(jW (jm_1 _ (List.mem_of_getElem? (i := 74) rfl)) rfl), rfl⟩ (
  jx_c ⟨(jW (jm_1 _ (List.mem_of_getElem? (i := 66) rfl)) rfl), rfl⟩ (
  jx_c ⟨(jW (jm_1 _ (List.mem_of_getElem? (i := 76) rfl)) rfl), rfl⟩ (
  jx_c ⟨(jW (jm_1 _ (List.mem_of_getElem? (i := 79) rfl)) rfl), rfl⟩ (
  jx_c ⟨(jW (jm_1 _ (List.mem_of_getElem? (i := 82) rfl)) rfl), rfl⟩ (
  jx_c ⟨(jW (jm_1 _ (List.mem_of_getElem? (i := 57) rfl)) rfl), rfl⟩ (
  jx_c ⟨(jW (jm_1 _ (List.mem_of_getElem? (i := 60) rfl)) rfl), rfl⟩ (
  jx_c ⟨(jW (jm_1 _ (List.mem_of_getElem? (i := 62) rfl)) rfl), rfl⟩ (
  jx_c ⟨(jW (jm_1 _ (List.mem_of_getElem? (i := 64) rfl)) rfl), rfl⟩ (
  jx_c ⟨(jW (jm_2 _ (List.mem_of_getElem? (i := 88) rfl)) rfl), rfl⟩ (
  jx_c ⟨(jW (jm_4 _ (List.mem_of_getElem? (i := 201) rfl)) rfl), rfl⟩ (
  jx_c ⟨(jW (jm_4 _ (List.mem_of_getElem? (i := 219) rfl)) rfl), rfl⟩ (
  jx_c ⟨(jW (jm_4 _ (List.mem_of_getElem? (i := 204) rfl)) rfl), rfl⟩ (
  jx_c ⟨(jW (jm_1 _ (List.mem_of_getElem? (i := 85) rfl)) rfl), rfl⟩ (
  jx_c ⟨(jW (jm_1 _ (List.mem_of_getElem? (i := 87) rfl)) rfl), rfl⟩ (
  jx_c ⟨(jW (jm_1 _ (List.mem_of_getElem? (i := 190) rfl)) rfl), rfl⟩ (
  jx_c ⟨(jW (jm_1 _ (List.mem_of_getElem? (i := 192) rfl)) rfl), rfl⟩ (
  jx_c ⟨(jW (jm_1 _ (List.mem_of_getElem? (i := 194) rfl)) rfl), rfl⟩ (
  jx_c ⟨(jW (jm_1 _ (List.mem_of_getElem? (i := 212) rfl)) rfl), rfl⟩ (
  jx_c ⟨(jW (jm_1 _ (List.mem_of_getElem? (i := 214) rfl)) rfl), rfl⟩ (
  jx_c ⟨(jW (jm_1 _ (List.mem_of_getElem? (i := 216) rfl)) rfl), rfl⟩ (
  jx_c ⟨(jW (jm_1 _ (List.mem_of_getElem? (i := 233) rfl)) rfl), rfl⟩ (
  jx_c ⟨(jW (jm_1 _ (List.mem_of_getElem? (i := 234) rfl)) rfl), rfl⟩ (
  jx_c ⟨(jW (jm_4 _ (List.mem_of_getElem? (i := 220) rfl)) rfl), rfl⟩ (
  jx_c ⟨(jW (jm_2 _ (List.mem_of_getElem? (i := 18) rfl)) rfl), rfl⟩ (
  jx_c ⟨(jW (jm_2 _ (List.mem_of_getElem? (i := 19) rfl)) rfl), rfl⟩ (
  jx_c ⟨(jW (jm_2 _ (List.mem_of_getElem? (i := 21) rfl)) rfl), rfl⟩ (
  jx_c ⟨(jW (jm_2 _ (List.mem_of_getElem? (i := 39) rfl)) rfl), rfl⟩ (
  jx_c ⟨(jW (jm_4 _ (List.mem_of_getElem? (i := 239) rfl)) rfl), rfl⟩ (
  jx_c ⟨(jW (jm_2 _ (List.mem_of_getElem? (i := 66) rfl)) rfl), rfl⟩ (
  jx_c ⟨(jW (jm_2 _ (List.mem_of_getElem? (i := 67) rfl)) rfl), rfl⟩ (
  jx_c ⟨(jW (jm_2 _ (List.mem_of_getElem? (i := 68) rfl)) rfl), rfl⟩ (
  jx_e)))))))))))))))))))))))))))))))))))))))))))))))))))))))))))))))))))))))))))))))))))))))))))))))))))))))))))))))))) q h
set_option maxRecDepth 100000 in
theorem jt_lc_ok {q : Nat × Nat × Int32} (h : q ∈ jt_lc) : Cond.constant (jt_on.getD q.1 "") q.2.1 q.2.2 ∈ jt_W := jx_all (P := fun q : Nat × Nat × Int32 => Cond.constant (jt_on.getD q.1 "") q.2.1 q.2.2 ∈ jt_W) (l := jt_lc) (jx_c (jW (jm_4 _ (List.mem_of_getElem? (i := 120) rfl)) rfl) (
  jx_c (jW (jm_4 _ (List.mem_of_getElem? (i := 121) rfl)) rfl) (
  jx_c (jW (jm_4 _ (List.mem_of_getElem? (i := 122) rfl)) rfl) (
  jx_e)))) q h
set_option maxRecDepth 100000 in
theorem jt_lm_ok {q : Nat × Nat × Nat} (h : q ∈ jt_lm) : Cond.methodLink (jt_on.getD q.1 "") q.2.1 (jt_N q.2.2) ∈ jt_W := jx_all (P := fun q : Nat × Nat × Nat => Cond.methodLink (jt_on.getD q.1 "") q.2.1 (jt_N q.2.2) ∈ jt_W) (l := jt_lm) (jx_c (jW (jm_1 _ (List.mem_of_getElem? (i := 177) rfl)) rfl) (
  jx_c (jW (jm_1 _ (List.mem_of_getElem? (i := 46) rfl)) rfl) (
  jx_c (jW (jm_1 _ (List.mem_of_getElem? (i := 125) rfl)) rfl) (
  jx_c (jW (jm_1 _ (List.mem_of_getElem? (i := 170) rfl)) rfl) (
  jx_c (jW (jm_2 _ (List.mem_of_getElem? (i := 4) rfl)) rfl) (
  jx_c (jW (jm_2 _ (List.mem_of_getElem? (i := 59) rfl)) rfl) (
  jx_c (jW (jm_2 _ (List.mem_of_getElem? (i := 114) rfl)) rfl) (
  jx_c (jW (jm_2 _ (List.mem_of_getElem? (i := 118) rfl)) rfl) (
  jx_c (jW (jm_2 _ (List.mem_of_getElem? (i := 126) rfl)) rfl) (
  jx_c (jW (jm_2 _ (List.mem_of_getElem? (i := 134) rfl)) rfl) (
  jx_c (jW (jm_2 _ (List.mem_of_getElem? (i := 150) rfl)) rfl) (
  jx_c (jW (jm_2 _ (List.mem_of_getElem? (i := 142) rfl)) rfl) (
  jx_c (jW (jm_2 _ (List.mem_of_getElem? (i := 146) rfl)) rfl) (
  jx_c (jW (jm_2 _ (List.mem_of_getElem? (i := 171) rfl)) rfl) (
  jx_c (jW (jm_2 _ (List.mem_of_getElem? (i := 172) rfl)) rfl) (
  jx_c (jW (jm_2 _ (List.mem_of_getElem? (i := 173) rfl)) rfl) (
  jx_c (jW (jm_2 _ (List.mem_of_getElem? (i := 185) rfl)) rfl) (
  jx_c (jW (jm_2 _ (List.mem_of_getElem? (i := 181) rfl)) rfl) (
  jx_c (jW (jm_2 _ (List.mem_of_getElem? (i := 193) rfl)) rfl) (
  jx_c (jW (jm_2 _ (List.mem_of_getElem? (i := 197) rfl)) rfl) (
  jx_c (jW (jm_2 _ (List.mem_of_getElem? (i := 228) rfl)) rfl) (
  jx_c (jW (jm_2 _ (List.mem_of_getElem? (i := 235) rfl)) rfl) (
  jx_c (jW (jm_3 _ (List.mem_of_getElem? (i := 4) rfl)) rfl) (
  jx_c (jW (jm_2 _ (List.mem_of_getElem? (i := 218) rfl)) rfl) (
  jx_c (jW (jm_2 _ (List.mem_of_getElem? (i := 224) rfl)) rfl) (
  jx_c (jW (jm_2 _ (List.mem_of_getElem? (i := 232) rfl)) rfl) (
  jx_c (jW (jm_2 _ (List.mem_of_getElem? (i := 214) rfl)) rfl) (
  jx_c (jW (jm_3 _ (List.mem_of_getElem? (i := 60) rfl)) rfl) (
  jx_c (jW (jm_3 _ (List.mem_of_getElem? (i := 64) rfl)) rfl) (
  jx_c (jW (jm_3 _ (List.mem_of_getElem? (i := 68) rfl)) rfl) (
  jx_c (jW (jm_2 _ (List.mem_of_getElem? (i := 210) rfl)) rfl) (
  jx_c (jW (jm_3 _ (List.mem_of_getElem? (i := 56) rfl)) rfl) (
  jx_c (jW (jm_3 _ (List.mem_of_getElem? (i := 72) rfl)) rfl) (
  jx_c (jW (jm_2 _ (List.mem_of_getElem? (i := 163) rfl)) rfl) (
  jx_c (jW (jm_2 _ (List.mem_of_getElem? (i := 167) rfl)) rfl) (
  jx_c (jW (jm_2 _ (List.mem_of_getElem? (i := 177) rfl)) rfl) (
  jx_c (jW (jm_2 _ (List.mem_of_getElem? (i := 189) rfl)) rfl) (
  jx_c (jW (jm_2 _ (List.mem_of_getElem? (i := 201) rfl)) rfl) (
  jx_c (jW (jm_2 _ (List.mem_of_getElem? (i := 205) rfl)) rfl) (
  jx_c (jW (jm_3 _ (List.mem_of_getElem? (i := 76) rfl)) rfl) (
  jx_c (jW (jm_3 _ (List.mem_of_getElem? (i := 81) rfl)) rfl) (
  jx_c (jW (jm_3 _ (List.mem_of_getElem? (i := 85) rfl)) rfl) (
  jx_c (jW (jm_3 _ (List.mem_of_getElem? (i := 101) rfl)) rfl) (
  jx_c (jW (jm_3 _ (List.mem_of_getElem? (i := 97) rfl)) rfl) (
  jx_c (jW (jm_3 _ (List.mem_of_getElem? (i := 93) rfl)) rfl) (
  jx_c (jW (jm_2 _ (List.mem_of_getElem? (i := 159) rfl)) rfl) (
  jx_c (jW (jm_3 _ (List.mem_of_getElem? (i := 89) rfl)) rfl) (
  jx_c (jW (jm_2 _ (List.mem_of_getElem? (i := 155) rfl)) rfl) (
  jx_c (jW (jm_3 _ (List.mem_of_getElem? (i := 102) rfl)) rfl) (
  jx_c (jW (jm_5 _ (List.mem_of_getElem? (i := 131) rfl)) rfl) (
  jx_c (jW (jm_5 _ (List.mem_of_getElem? (i := 135) rfl)) rfl) (
  jx_c (jW (jm_5 _ (List.mem_of_getElem? (i := 143) rfl)) rfl) (
  jx_c (jW (jm_5 _ (List.mem_of_getElem? (i := 147) rfl)) rfl) (
  jx_c (jW (jm_5 _ (List.mem_of_getElem? (i := 151) rfl)) rfl) (
  jx_c (jW (jm_5 _ (List.mem_of_getElem? (i := 159) rfl)) rfl) (
  jx_c (jW (jm_5 _ (List.mem_of_getElem? (i := 123) rfl)) rfl) (
  jx_c (jW (jm_5 _ (List.mem_of_getElem? (i := 127) rfl)) rfl) (
  jx_c (jW (jm_5 _ (List.mem_of_getElem? (i := 139) rfl)) rfl) (
  jx_c (jW (jm_5 _ (List.mem_of_getElem? (i := 155) rfl)) rfl) (
  jx_c (jW (jm_5 _ (List.mem_of_getElem? (i := 119) rfl)) rfl) (
  jx_c (jW (jm_3 _ (List.mem_of_getElem? (i := 111) rfl)) rfl) (
  jx_c (jW (jm_3 _ (List.mem_of_getElem? (i := 115) rfl)) rfl) (
  jx_c (jW (jm_3 _ (List.mem_of_getElem? (i := 116) rfl)) rfl) (
  jx_c (jW (jm_3 _ (List.mem_of_getElem? (i := 131) rfl)) rfl) (
  jx_c (jW (jm_3 _ (List.mem_of_getElem? (i := 134) rfl)) rfl) (
  jx_c (jW (jm_3 _ (List.mem_of_getElem? (i := 145) rfl)) rfl) (
  jx_c (jW (jm_3 _ (List.mem_of_getElem? (i := 156) rfl)) rfl) (
  jx_c (jW (jm_3 _ (List.mem_of_getElem? (i := 153) rfl)) rfl) (
  jx_c (jW (jm_3 _ (List.mem_of_getElem? (i := 141) rfl)) rfl) (
  jx_c (jW (jm_3 _ (List.mem_of_getElem? (i := 149) rfl)) rfl) (
  jx_c (jW (jm_3 _ (List.mem_of_getElem? (i := 128) rfl)) rfl) (
  jx_c (jW (jm_3 _ (List.mem_of_getElem? (i := 137) rfl)) rfl) (
  jx_c (jW (jm_3 _ (List.mem_of_getElem? (i := 159) rfl)) rfl) (
  jx_c (jW (jm_5 _ (List.mem_of_getElem? (i := 175) rfl)) rfl) (
  jx_c (jW (jm_3 _ (List.mem_of_getElem? (i := 183) rfl)) rfl) (
  jx_c (jW (jm_3 _ (List.mem_of_getElem? (i := 179) rfl)) rfl) (
  jx_c (jW (jm_3 _ (List.mem_of_getElem? (i := 175) rfl)) rfl) (
  jx_c (jW (jm_3 _ (List.mem_of_getElem? (i := 191) rfl)) rfl) (
  jx_c (jW (jm_3 _ (List.mem_of_getElem? (i := 167) rfl)) rfl) (
  jx_c (jW (jm_3 _ (List.mem_of_getElem? (i := 171) rfl)) rfl) (
  jx_c (jW (jm_3 _ (List.mem_of_getElem? (i := 187) rfl)) rfl) (
  jx_c (jW (jm_3 _ (List.mem_of_getElem? (i := 192) rfl)) rfl) (
  jx_c (jW (jm_3 _ (List.mem_of_getElem? (i := 193) rfl)) rfl) (
  jx_c (jW (jm_5 _ (List.mem_of_getElem? (i := 191) rfl)) rfl) (
  jx_c (jW (jm_5 _ (List.mem_of_getElem? (i := 187) rfl)) rfl) (
  jx_c (jW (jm_5 _ (List.mem_of_getElem? (i := 183) rfl)) rfl) (
  jx_c (jW (jm_5 _ (List.mem_of_getElem? (i := 195) rfl)) rfl) (
  jx_c (jW (jm_3 _ (List.mem_of_getElem? (i := 201) rfl)) rfl) (
  jx_c (jW (jm_3 _ (List.mem_of_getElem? (i := 205) rfl)) rfl) (
  jx_c (jW (jm_3 _ (List.mem_of_getElem? (i := 213) rfl)) rfl) (
  jx_c (jW (jm_3 _ (List.mem_of_getElem? (i := 237) rfl)) rfl) (
  jx_c (jW (jm_4 _ (List.mem_of_getElem? (i := 15) rfl)) rfl) (
  jx_c (jW (jm_4 _ (List.mem_of_getElem? (i := 18) rfl)) rfl) (
  jx_c (jW (jm_4 _ (List.mem_of_getElem? (i := 19) rfl)) rfl) (
  jx_c (jW (jm_4 _ (List.mem_of_getElem? (i := 32) rfl)) rfl) (
  jx_c (jW (jm_4 _ (List.mem_of_getElem? (i := 24) rfl)) rfl) (
  jx_c (jW (jm_4 _ (List.mem_of_getElem? (i := 11) rfl)) rfl) (
  jx_c (jW (jm_4 _ (List.mem_of_getElem? (i := 28) rfl)) rfl) (
  jx_c (jW (jm_4 _ (List.mem_of_getElem? (i := 9) rfl)) rfl) (
  jx_c (jW (jm_4 _ (List.mem_of_getElem? (i := 10) rfl)) rfl) (
  jx_c (jW (jm_4 _ (List.mem_of_getElem? (i := 20) rfl)) rfl) (
  jx_c (jW (jm_4 _ (List.mem_of_getElem? (i := 65) rfl)) rfl) (
  jx_c (jW (jm_4 _ (List.mem_of_getElem? (i := 62) rfl)) rfl) (
  jx_c (jW (jm_4 _ (List.mem_of_getElem? (i := 59) rfl)) rfl) (
  jx_c (jW (jm_4 _ (List.mem_of_getElem? (i := 80) rfl)) rfl) (
  jx_c (jW (jm_4 _ (List.mem_of_getElem? (i := 54) rfl)) rfl) (
  jx_c (jW (jm_4 _ (List.mem_of_getElem? (i := 55) rfl)) rfl) (
  jx_c (jW (jm_4 _ (List.mem_of_getElem? (i := 75) rfl)) rfl) (
  jx_c (jW (jm_4 _ (List.mem_of_getElem? (i := 81) rfl)) rfl) (
  jx_c (jW (jm_4 _ (List.mem_of_getElem? (i := 48) rfl)) rfl) (
  jx_c (jW (jm_4 _ (List.mem_of_getElem? (i := 49) rfl)) rfl) (
  jx_c (jW (jm_4 _ (List.mem_of_getElem? (i := 89) rfl)) rfl) (
  jx_c (jW (jm_4 _ (List.mem_of_getElem? (i := 90) rfl)) rfl) (
  jx_c (jW (jm_4 _ (List.mem_of_getElem? (i := 94) rfl)) rfl) (
  jx_c (jW (jm_4 _ (List.mem_of_getElem? (i := 101) rfl)) rfl) (
  jx_c (jW (jm_4 _ (List.mem_of_getElem? (i := 109) rfl)) rfl) (
  jx_c (jW (jm_4 _ (List.mem_of_getElem? (i := 40) rfl)) rfl) (
  jx_c (jW (jm_4 _ (List.mem_of_getElem? (i := 44) rfl)) rfl) (
  jx_c (jW (jm_4 _ (List.mem_of_getElem? (i := 85) rfl)) rfl) (
  jx_c (jW (jm_4 _ (List.mem_of_getElem? (i := 105) rfl)) rfl) (
  jx_c (jW (jm_3 _ (List.mem_of_getElem? (i := 233) rfl)) rfl) (
  jx_c (jW (jm_4 _ (List.mem_of_getElem? (i := 1) rfl)) rfl) (
  jx_c (jW (jm_4 _ (List.mem_of_getElem? (i := 5) rfl)) rfl) (
  jx_c (jW (jm_4 _ (List.mem_of_getElem? (i := 36) rfl)) rfl) (
  jx_c (jW (jm_3 _ (List.mem_of_getElem? (i := 229) rfl)) rfl) (
  jx_c (jW (jm_4 _ (List.mem_of_getElem? (i := 117) rfl)) rfl) (
  jx_c (jW (jm_3 _ (List.mem_of_getElem? (i := 221) rfl)) rfl) (
  jx_c (jW (jm_3 _ (List.mem_of_getElem? (i := 225) rfl)) rfl) (
  jx_c (jW (jm_4 _ (List.mem_of_getElem? (i := 113) rfl)) rfl) (
  jx_c (jW (jm_5 _ (List.mem_of_getElem? (i := 235) rfl)) rfl) (
  jx_c (jW (jm_5 _ (List.mem_of_getElem? (i := 231) rfl)) rfl) (
  jx_c (jW (jm_5 _ (List.mem_of_getElem? (i := 239) rfl)) rfl) (
  jx_c (jW (jm_5 _ (List.mem_of_getElem? (i := 227) rfl)) rfl) (
  jx_c (jW (jm_6 _ (List.mem_of_getElem? (i := 3) rfl)) rfl) (
  jx_c (jW (jm_5 _ (List.mem_of_getElem? (i := 219) rfl)) rfl) (
  jx_c (jW (jm_5 _ (List.mem_of_getElem? (i := 223) rfl)) rfl) (
  jx_c (jW (jm_5 _ (List.mem_of_getElem? (i := 211) rfl)) rfl) (
  jx_c (jW (jm_5 _ (List.mem_of_getElem? (i := 215) rfl)) rfl) (
  jx_c (jW (jm_4 _ (List.mem_of_getElem? (i := 127) rfl)) rfl) (
  jx_c (jW (jm_4 _ (List.mem_of_getElem? (i := 140) rfl)) rfl) (
  jx_c (jW (jm_4 _ (List.mem_of_getElem? (i := 141) rfl)) rfl) (
  jx_c (jW (jm_4 _ (List.mem_of_getElem? (i := 135) rfl)) rfl) (
  jx_c (jW (jm_4 _ (List.mem_of_getElem? (i := 136) rfl)) rfl) (
  jx_c (jW (jm_6 _ (List.mem_of_getElem? (i := 19) rfl)) rfl) (
  jx_c (jW (jm_6 _ (List.mem_of_getElem? (i := 15) rfl)) rfl) (
  jx_c (jW (jm_4 _ (List.mem_of_getElem? (i := 154) rfl)) rfl) (
  jx_c (jW (jm_4 _ (List.mem_of_getElem? (i := 155) rfl)) rfl) (
  jx_c (jW (jm_4 _ (List.mem_of_getElem? (i := 156) rfl)) rfl) (
  jx_c (jW (jm_4 _ (List.mem_of_getElem? (i := 160) rfl)) rfl) (
  jx_c (jW (jm_4 _ (List.mem_of_getElem? (i := 161) rfl)) rfl) (
  jx_c (jW (jm_4 _ (List.mem_of_getElem? (i := 165) rfl)) rfl) (
  jx_c (jW (jm_4 _ (List.mem_of_getElem? (i := 185) rfl)) rfl) (
  jx_c (jW (jm_4 _ (List.mem_of_getElem? (i := 178) rfl)) rfl) (
  jx_c (jW (jm_4 _ (List.mem_of_getElem? (i := 179) rfl)) rfl) (
  jx_c (jW (jm_4 _ (List.mem_of_getElem? (i := 180) rfl)) rfl) (
  jx_c (jW (jm_4 _ (List.mem_of_getElem? (i := 186) rfl)) rfl) (
  jx_c (jW (jm_4 _ (List.mem_of_getElem? (i := 146) rfl)) rfl) (
  jx_c (jW (jm_4 _ (List.mem_of_getElem? (i := 150) rfl)) rfl) (
  jx_c (jW (jm_4 _ (List.mem_of_getElem? (i := 166) rfl)) rfl) (
  jx_c (jW (jm_4 _ (List.mem_of_getElem? (i := 170) rfl)) rfl) (
  jx_c (jW (jm_4 _ (List.mem_of_getElem? (i := 174) rfl)) rfl) (
  jx_c (jW (jm_4 _ (List.mem_of_getElem? (i := 189) rfl)) rfl) (
  jx_c (jW (jm_6 _ (List.mem_of_getElem? (i := 39) rfl)) rfl) (
  jx_c (jW (jm_6 _ (List.mem_of_getElem? (i := 35) rfl)) rfl) (
  jx_c (jW (jm_6 _ (List.mem_of_getElem? (i := 31) rfl)) rfl) (
  jx_c (jW (jm_6 _ (List.mem_of_getElem? (i := 27) rfl)) rfl) (
  jx_c (jW (jm_6 _ (List.mem_of_getElem? (i := 43) rfl)) rfl) (
  jx_c (jW (jm_1 _ (List.mem_of_getElem? (i := 24) rfl)) rfl) (
  jx_c (jW (jm_4 _ (List.mem_of_getElem? (i := 195) rfl)) rfl) (
  jx_c (jW (jm_2 _ (List.mem_of_getElem? (i := 110) rfl)) rfl) (
  jx_c (jW (jm_5 _ (List.mem_of_getElem? (i := 99) rfl)) rfl) (
  jx_c (jW (jm_2 _ (List.mem_of_getElem? (i := 122) rfl)) rfl) (
  jx_c (jW (jm_5 _ (List.mem_of_getElem? (i := 103) rfl)) rfl) (
  jx_c (jW (jm_2 _ (List.mem_of_getElem? (i := 130) rfl)) rfl) (
  jx_c (jW (jm_5 _ (List.mem_of_getElem? (i := 107) rfl)) rfl) (
  jx_c (jW (jm_2 _ (List.mem_of_getElem? (i := 138) rfl)) rfl) (
  jx_c (jW (jm_5 _ (List.mem_of_getElem? (i := 111) rfl)) rfl) (
  jx_c (jW (jm_2 _ (List.mem_of_getElem? (i := 151) rfl)) rfl) (
  jx_c (jW (jm_5 _ (List.mem_of_getElem? (i := 115) rfl)) rfl) (
  jx_c (jW (jm_3 _ (List.mem_of_getElem? (i := 107) rfl)) rfl) (
  jx_c (jW (jm_5 _ (List.mem_of_getElem? (i := 163) rfl)) rfl) (
  jx_c (jW (jm_3 _ (List.mem_of_getElem? (i := 120) rfl)) rfl) (
  jx_c (jW (jm_5 _ (List.mem_of_getElem? (i := 167) rfl)) rfl) (
  jx_c (jW (jm_3 _ (List.mem_of_getElem? (i := 124) rfl)) rfl) (
  jx_c (jW (jm_5 _ (List.mem_of_getElem? (i := 171) rfl)) rfl) (
  jx_c (jW (jm_3 _ (List.mem_of_getElem? (i := 163) rfl)) rfl) (
  jx_c (jW (jm_5 _ (List.mem_of_getElem? (i := 179) rfl)) rfl) (
  jx_c (jW (jm_3 _ (List.mem_of_getElem? (i := 197) rfl)) rfl) (
  jx_c (jW (jm_5 _ (List.mem_of_getElem? (i := 199) rfl)) rfl) (
  jx_c (jW (jm_3 _ (List.mem_of_getElem? (i := 209) rfl)) rfl) (
  jx_c (jW (jm_5 _ (List.mem_of_getElem? (i := 203) rfl)) rfl) (
  jx_c (jW (jm_3 _ (List.mem_of_getElem? (i := 217) rfl)) rfl) (
  jx_c (jW (jm_5 _ (List.mem_of_getElem? (i := 207) rfl)) rfl) (
  jx_c (jW (jm_4 _ (List.mem_of_getElem? (i := 123) rfl)) rfl) (
  jx_c (jW (jm_6 _ (List.mem_of_getElem? (i := 7) rfl)) rfl) (
  jx_c (jW (jm_4 _ (List.mem_of_getElem? (i := 131) rfl)) rfl) (
  jx_c (jW (jm_6 _ (List.mem_of_getElem? (i := 11) rfl)) rfl) (
  jx_c (jW (jm_4 _ (List.mem_of_getElem? (i := 142) rfl)) rfl) (
  jx_c (jW (jm_6 _ (List.mem_of_getElem? (i := 23) rfl)) rfl) (
  jx_e)))))))))))))))))))))))))))))))))))))))))))))))))))))))))))))))))))))))))))))))))))))))))))))))))))))))))))))))))))))))))))))))))))))))))))))))))))))))))))))))))))))))))))))))))))))))))))))))))))))))) q h
set_option maxRecDepth 100000 in
theorem jt_lk_ok {q : Nat × Nat × Nat} (h : q ∈ jt_lk) : Cond.classLink (jt_on.getD q.1 "") q.2.1 (jt_C.getD q.2.2 "") ∈ jt_W ∧ Cond.instantiable (jt_C.getD q.2.2 "") (jt_n q.2.2) ∈ jt_W ∧ Cond.initialized (jt_C.getD q.2.2 "") ∈ jt_W := jx_all (P := fun q : Nat × Nat × Nat => Cond.classLink (jt_on.getD q.1 "") q.2.1 (jt_C.getD q.2.2 "") ∈ jt_W ∧ Cond.instantiable (jt_C.getD q.2.2 "") (jt_n q.2.2) ∈ jt_W ∧ Cond.initialized (jt_C.getD q.2.2 "") ∈ jt_W) (l := jt_lk) (jx_c ⟨(jW (jm_1 _ (List.mem_of_getElem? (i := 50) rfl)) rfl), (jW (jm_1 _ (List.mem_of_getElem? (i := 52) rfl)) rfl), (jW (jm_1 _ (List.mem_of_getElem? (i := 4) rfl)) rfl)⟩ (
  jx_c ⟨(jW (jm_1 _ (List.mem_of_getElem? (i := 129) rfl)) rfl), (jW (jm_1 _ (List.mem_of_getElem? (i := 130) rfl)) rfl), (jW (jm_1 _ (List.mem_of_getElem? (i := 6) rfl)) rfl)⟩ (
  jx_c ⟨(jW (jm_1 _ (List.mem_of_getElem? (i := 181) rfl)) rfl), (jW (jm_1 _ (List.mem_of_getElem? (i := 182) rfl)) rfl), (jW (jm_1 _ (List.mem_of_getElem? (i := 9) rfl)) rfl)⟩ (
  jx_c ⟨(jW (jm_1 _ (List.mem_of_getElem? (i := 174) rfl)) rfl), (jW (jm_1 _ (List.mem_of_getElem? (i := 176) rfl)) rfl), (jW (jm_1 _ (List.mem_of_getElem? (i := 8) rfl)) rfl)⟩ (
  jx_c ⟨(jW (jm_2 _ (List.mem_of_getElem? (i := 8) rfl)) rfl), (jW (jm_2 _ (List.mem_of_getElem? (i := 10) rfl)) rfl), (jW (jm_1 _ (List.mem_of_getElem? (i := 11) rfl)) rfl)⟩ (
  jx_c ⟨(jW (jm_1 _ (List.mem_of_getElem? (i := 30) rfl)) rfl), (jW (jm_1 _ (List.mem_of_getElem? (i := 31) rfl)) rfl), (jW (jm_1 _ (List.mem_of_getElem? (i := 2) rfl)) rfl)⟩ (
  jx_c ⟨(jW (jm_1 _ (List.mem_of_getElem? (i := 44) rfl)) rfl), (jW (jm_1 _ (List.mem_of_getElem? (i := 45) rfl)) rfl), (jW (jm_1 _ (List.mem_of_getElem? (i := 3) rfl)) rfl)⟩ (
  jx_c ⟨(jW (jm_1 _ (List.mem_of_getElem? (i := 123) rfl)) rfl), (jW (jm_1 _ (List.mem_of_getElem? (i := 124) rfl)) rfl), (jW (jm_1 _ (List.mem_of_getElem? (i := 5) rfl)) rfl)⟩ (
  jx_c ⟨(jW (jm_1 _ (List.mem_of_getElem? (i := 168) rfl)) rfl), (jW (jm_1 _ (List.mem_of_getElem? (i := 169) rfl)) rfl), (jW (jm_1 _ (List.mem_of_getElem? (i := 7) rfl)) rfl)⟩ (
  jx_c ⟨(jW (jm_2 _ (List.mem_of_getElem? (i := 2) rfl)) rfl), (jW (jm_2 _ (List.mem_of_getElem? (i := 3) rfl)) rfl), (jW (jm_1 _ (List.mem_of_getElem? (i := 10) rfl)) rfl)⟩ (
  jx_c ⟨(jW (jm_2 _ (List.mem_of_getElem? (i := 57) rfl)) rfl), (jW (jm_2 _ (List.mem_of_getElem? (i := 58) rfl)) rfl), (jW (jm_1 _ (List.mem_of_getElem? (i := 12) rfl)) rfl)⟩ (
  jx_c ⟨(jW (jm_1 _ (List.mem_of_getElem? (i := 22) rfl)) rfl), (jW (jm_1 _ (List.mem_of_getElem? (i := 23) rfl)) rfl), (jW (jm_1 _ (List.mem_of_getElem? (i := 1) rfl)) rfl)⟩ (
  jx_c ⟨(jW (jm_4 _ (List.mem_of_getElem? (i := 193) rfl)) rfl), (jW (jm_4 _ (List.mem_of_getElem? (i := 194) rfl)) rfl), (jW (jm_1 _ (List.mem_of_getElem? (i := 13) rfl)) rfl)⟩ (
  jx_e)))))))))))))) q h
set_option maxRecDepth 100000 in
theorem jt_la_ok {q : Nat × Nat × Nat × Nat} (h : q ∈ jt_la) : Cond.classLink (jt_on.getD q.1 "") q.2.1 (jt_C.getD q.2.2.2 "") ∈ jt_W ∧ jt_C.getD q.2.2.2 "" ∈ jt_ao := jx_all (P := fun q : Nat × Nat × Nat × Nat => Cond.classLink (jt_on.getD q.1 "") q.2.1 (jt_C.getD q.2.2.2 "") ∈ jt_W ∧ jt_C.getD q.2.2.2 "" ∈ jt_ao) (l := jt_la) (jx_c ⟨(jW (jm_1 _ (List.mem_of_getElem? (i := 50) rfl)) rfl), by decide +kernel⟩ (
  jx_c ⟨(jW (jm_1 _ (List.mem_of_getElem? (i := 181) rfl)) rfl), by decide +kernel⟩ (
  jx_c ⟨(jW (jm_1 _ (List.mem_of_getElem? (i := 174) rfl)) rfl), by decide +kernel⟩ (
  jx_c ⟨(jW (jm_2 _ (List.mem_of_getElem? (i := 8) rfl)) rfl), by decide +kernel⟩ (
  jx_e))))) q h
set_option maxRecDepth 100000 in
theorem jt_lo1_ok {q : Nat × Nat} (h : q ∈ jt_lo1) : Cond.methodLink (jt_on.getD q.1 "") q.2 Lib.objectInit ∈ jt_W := jx_all (P := fun q : Nat × Nat => Cond.methodLink (jt_on.getD q.1 "") q.2 Lib.objectInit ∈ jt_W) (l := jt_lo1) (jx_c (jW (jm_1 _ (List.mem_of_getElem? (i := 35) rfl)) rfl) (
  jx_c (jW (jm_1 _ (List.mem_of_getElem? (i := 56) rfl)) rfl) (
  jx_c (jW (jm_1 _ (List.mem_of_getElem? (i := 49) rfl)) rfl) (
  jx_c (jW (jm_1 _ (List.mem_of_getElem? (i := 134) rfl)) rfl) (
  jx_c (jW (jm_1 _ (List.mem_of_getElem? (i := 128) rfl)) rfl) (
  jx_c (jW (jm_1 _ (List.mem_of_getElem? (i := 186) rfl)) rfl) (
  jx_c (jW (jm_1 _ (List.mem_of_getElem? (i := 180) rfl)) rfl) (
  jx_c (jW (jm_1 _ (List.mem_of_getElem? (i := 173) rfl)) rfl) (
  jx_c (jW (jm_2 _ (List.mem_of_getElem? (i := 14) rfl)) rfl) (
  jx_c (jW (jm_2 _ (List.mem_of_getElem? (i := 7) rfl)) rfl) (
  jx_c (jW (jm_2 _ (List.mem_of_getElem? (i := 62) rfl)) rfl) (
  jx_c (jW (jm_1 _ (List.mem_of_getElem? (i := 27) rfl)) rfl) (
  jx_c (jW (jm_4 _ (List.mem_of_getElem? (i := 198) rfl)) rfl) (
  jx_e)))))))))))))) q h
theorem jt_oi : Cond.instanceMethod Lib.objectInit ∈ jt_W ∧ Cond.code Lib.objectInit ⟨#[0xb1]⟩ 1 none ∈ jt_W := ⟨(jW (jm_1 _ (List.mem_of_getElem? (i := 28) rfl)) rfl), (jW (jm_1 _ (List.mem_of_getElem? (i := 29) rfl)) rfl)⟩
set_option maxRecDepth 100000 in
theorem jt_lcp_ok {q : Nat × Nat} (h : q ∈ jt_lcp) : Cond.methodLink (jt_on.getD q.1 "") q.2 arraycopyName ∈ jt_W := jx_all (P := fun q : Nat × Nat => Cond.methodLink (jt_on.getD q.1 "") q.2 arraycopyName ∈ jt_W) (l := jt_lcp) (jx_c (jW (jm_4 _ (List.mem_of_getElem? (i := 98) rfl)) rfl) (
  jx_e)) q h
theorem jt_ac : Cond.native arraycopyName ∈ jt_W ∧ Cond.static arraycopyName ∈ jt_W ∧ Cond.initialized "java/lang/System" ∈ jt_W := ⟨(jW (jm_4 _ (List.mem_of_getElem? (i := 100) rfl)) rfl), (jW (jm_4 _ (List.mem_of_getElem? (i := 99) rfl)) rfl), (jW (jm_1 _ (List.mem_of_getElem? (i := 20) rfl)) rfl)⟩
set_option maxRecDepth 100000 in
theorem jt_lx0_ok {q : Nat × Nat} (h : q ∈ jt_lx0) : Cond.methodLink (jt_on.getD q.1 "") q.2 Lib.Math.max.name ∈ jt_W := jx_all (P := fun q : Nat × Nat => Cond.methodLink (jt_on.getD q.1 "") q.2 Lib.Math.max.name ∈ jt_W) (l := jt_lx0) (jx_c (jW (jm_2 _ (List.mem_of_getElem? (i := 238) rfl)) rfl) (
  jx_c (jW (jm_4 _ (List.mem_of_getElem? (i := 184) rfl)) rfl) (
  jx_e))) q h
theorem jt_mx0 : Cond.static Lib.Math.max.name ∈ jt_W ∧ Cond.initialized "java/lang/Math" ∈ jt_W ∧ Cond.code Lib.Math.max.name Lib.Math.max.code 2 (some .int) ∈ jt_W := ⟨(jW (jm_2 _ (List.mem_of_getElem? (i := 239) rfl)) rfl), (jW (jm_1 _ (List.mem_of_getElem? (i := 16) rfl)) rfl), (jW (jm_3 _ (List.mem_of_getElem? (i := 0) rfl)) rfl)⟩
set_option maxRecDepth 100000 in
theorem jt_lx1_ok {q : Nat × Nat} (h : q ∈ jt_lx1) : Cond.methodLink (jt_on.getD q.1 "") q.2 Lib.Math.min.name ∈ jt_W := jx_all (P := fun q : Nat × Nat => Cond.methodLink (jt_on.getD q.1 "") q.2 Lib.Math.min.name ∈ jt_W) (l := jt_lx1) (jx_c (jW (jm_3 _ (List.mem_of_getElem? (i := 1) rfl)) rfl) (
  jx_e)) q h
theorem jt_mx1 : Cond.static Lib.Math.min.name ∈ jt_W ∧ Cond.initialized "java/lang/Math" ∈ jt_W ∧ Cond.code Lib.Math.min.name Lib.Math.min.code 2 (some .int) ∈ jt_W := ⟨(jW (jm_3 _ (List.mem_of_getElem? (i := 2) rfl)) rfl), (jW (jm_1 _ (List.mem_of_getElem? (i := 16) rfl)) rfl), (jW (jm_3 _ (List.mem_of_getElem? (i := 3) rfl)) rfl)⟩
set_option maxRecDepth 100000 in
theorem jt_lg0_ok {q : Nat × Nat} (h : q ∈ jt_lg0) : Cond.fieldLink (jt_on.getD q.1 "") q.2 jt_z0.1 jt_z0.2.1 jt_z0.2.2 ∈ jt_W := jx_all (P := fun q : Nat × Nat => Cond.fieldLink (jt_on.getD q.1 "") q.2 jt_z0.1 jt_z0.2.1 jt_z0.2.2 ∈ jt_W) (l := jt_lg0) (jx_c (jW (jm_2 _ (List.mem_of_getElem? (i := 222) rfl)) rfl) (
  jx_e)) q h
set_option maxRecDepth 100000 in
theorem jt_lg1_ok {q : Nat × Nat} (h : q ∈ jt_lg1) : Cond.fieldLink (jt_on.getD q.1 "") q.2 jt_z1.1 jt_z1.2.1 jt_z1.2.2 ∈ jt_W := jx_all (P := fun q : Nat × Nat => Cond.fieldLink (jt_on.getD q.1 "") q.2 jt_z1.1 jt_z1.2.1 jt_z1.2.2 ∈ jt_W) (l := jt_lg1) (jx_c (jW (jm_3 _ (List.mem_of_getElem? (i := 25) rfl)) rfl) (
  jx_e)) q h
set_option maxRecDepth 100000 in
theorem jt_lv0_ok {q : Nat × Nat} (h : q ∈ jt_lv0) : Cond.fieldLink (jt_on.getD q.1 "") q.2 "java/lang/String" "coder" "B" ∈ jt_W := jx_all (P := fun q : Nat × Nat => Cond.fieldLink (jt_on.getD q.1 "") q.2 "java/lang/String" "coder" "B" ∈ jt_W) (l := jt_lv0) (jx_c (jW (jm_6 _ (List.mem_of_getElem? (i := 47) rfl)) rfl) (
  jx_e)) q h
set_option maxRecDepth 100000 in
theorem jt_lv1_ok {q : Nat × Nat} (h : q ∈ jt_lv1) : Cond.fieldLink (jt_on.getD q.1 "") q.2 "java/lang/String" "value" "[B" ∈ jt_W := jx_all (P := fun q : Nat × Nat => Cond.fieldLink (jt_on.getD q.1 "") q.2 "java/lang/String" "value" "[B" ∈ jt_W) (l := jt_lv1) (jx_c (jW (jm_6 _ (List.mem_of_getElem? (i := 48) rfl)) rfl) (
  jx_e)) q h
theorem jt_arr : Cond.arrayClass .int ∈ jt_W ∧ Cond.arrayClass .char ∈ jt_W ∧ Cond.arrayClass .boolean ∈ jt_W := ⟨(jW (jm_1 _ (List.mem_of_getElem? (i := 145) rfl)) rfl), (jW (jm_1 _ (List.mem_of_getElem? (i := 43) rfl)) rfl), (jW (jm_5 _ (List.mem_of_getElem? (i := 98) rfl)) rfl)⟩
set_option maxRecDepth 100000 in
theorem jt_metA : jx_All (fun b : Nat => Cond.code (jt_N b) (jt_B b) (jt_L b) (jt_R b) ∈ jt_W ∧ Cond.initialized (jt_N b).cls ∈ jt_W) [0, 1, 2, 3, 4, 5, 6, 7, 8, 9, 10, 11, 12, 13, 14, 15, 16, 17, 18, 19, 20, 21, 22, 23, 24, 25, 26, 27, 28, 29, 30, 31, 32, 33, 34, 35, 36, 37, 38, 39, 40, 41, 42, 43, 44, 45, 46, 47, 48, 49, 50, 51, 52, 53, 54, 55, 56, 57, 58, 59, 60, 61, 62, 63, 64, 65, 66, 67, 68, 69, 70, 71, 72, 73, 74, 75, 76, 77, 78, 79, 80, 81, 82, 83, 84, 85, 86, 87, 88, 89, 90, 91, 92, 93, 94, 95, 96, 97, 98, 99, 100, 101, 102, 103, 104, 105, 106, 107, 108, 109, 110, 111, 112, 113, 114, 115, 116, 117, 118, 119, 120, 121, 122, 123, 124, 125, 126, 127, 128, 129, 130, 131, 132, 133, 134, 135, 136, 137, 138, 139, 140, 141, 142, 143, 144, 145, 146, 147, 148, 149, 150, 151, 152, 153, 154, 155, 156, 157, 158, 159, 160, 161, 162, 163, 164, 165, 166, 167, 168, 169, 170, 171, 172, 173, 174, 175, 176, 177, 178] := jx_c ⟨(jW (jm_1 _ (List.mem_of_getElem? (i := 34) rfl)) rfl), (jW (jm_1 _ (List.mem_of_getElem? (i := 2) rfl)) rfl)⟩ (
  jx_c ⟨(jW (jm_1 _ (List.mem_of_getElem? (i := 55) rfl)) rfl), (jW (jm_1 _ (List.mem_of_getElem? (i := 4) rfl)) rfl)⟩ (
  jx_c ⟨(jW (jm_1 _ (List.mem_of_getElem? (i := 48) rfl)) rfl), (jW (jm_1 _ (List.mem_of_getElem? (i := 3) rfl)) rfl)⟩ (
  jx_c ⟨(jW (jm_1 _ (List.mem_of_getElem? (i := 133) rfl)) rfl), (jW (jm_1 _ (List.mem_of_getElem? (i := 6) rfl)) rfl)⟩ (
  jx_c ⟨(jW (jm_1 _ (List.mem_of_getElem? (i := 127) rfl)) rfl), (jW (jm_1 _ (List.mem_of_getElem? (i := 5) rfl)) rfl)⟩ (
  jx_c ⟨(jW (jm_1 _ (List.mem_of_getElem? (i := 185) rfl)) rfl), (jW (jm_1 _ (List.mem_of_getElem? (i := 9) rfl)) rfl)⟩ (
  jx_c ⟨(jW (jm_1 _ (List.mem_of_getElem? (i := 179) rfl)) rfl), (jW (jm_1 _ (List.mem_of_getElem? (i := 8) rfl)) rfl)⟩ (
  jx_c ⟨(jW (jm_1 _ (List.mem_of_getElem? (i := 172) rfl)) rfl), (jW (jm_1 _ (List.mem_of_getElem? (i := 7) rfl)) rfl)⟩ (
  jx_c ⟨(jW (jm_2 _ (List.mem_of_getElem? (i := 13) rfl)) rfl), (jW (jm_1 _ (List.mem_of_getElem? (i := 11) rfl)) rfl)⟩ (
  jx_c ⟨(jW (jm_2 _ (List.mem_of_getElem? (i := 6) rfl)) rfl), (jW (jm_1 _ (List.mem_of_getElem? (i := 10) rfl)) rfl)⟩ (
  jx_c ⟨(jW (jm_2 _ (List.mem_of_getElem? (i := 61) rfl)) rfl), (jW (jm_1 _ (List.mem_of_getElem? (i := 12) rfl)) rfl)⟩ (
  jx_c ⟨(jW (jm_1 _ (List.mem_of_getElem? (i := 26) rfl)) rfl), (jW (jm_1 _ (List.mem_of_getElem? (i := 1) rfl)) rfl)⟩ (
  jx_c ⟨(jW (jm_4 _ (List.mem_of_getElem? (i := 197) rfl)) rfl), (jW (jm_1 _ (List.mem_of_getElem? (i := 13) rfl)) rfl)⟩ (
  jx_c ⟨(jW (jm_2 _ (List.mem_of_getElem? (i := 117) rfl)) rfl), (jW (jm_1 _ (List.mem_of_getElem? (i := 2) rfl)) rfl)⟩ (
  jx_c ⟨(jW (jm_2 _ (List.mem_of_getElem? (i := 121) rfl)) rfl), (jW (jm_1 _ (List.mem_of_getElem? (i := 1) rfl)) rfl)⟩ (
  jx_c ⟨(jW (jm_2 _ (List.mem_of_getElem? (i := 113) rfl)) rfl), (jW (jm_1 _ (List.mem_of_getElem? (i := 1) rfl)) rfl)⟩ (
  jx_c ⟨(jW (jm_5 _ (List.mem_of_getElem? (i := 102) rfl)) rfl), (jW (jm_1 _ (List.mem_of_getElem? (i := 13) rfl)) rfl)⟩ (
  jx_c ⟨(jW (jm_2 _ (List.mem_of_getElem? (i := 129) rfl)) rfl), (jW (jm_1 _ (List.mem_of_getElem? (i := 2) rfl)) rfl)⟩ (
  jx_c ⟨(jW (jm_2 _ (List.mem_of_getElem? (i := 125) rfl)) rfl), (jW (jm_1 _ (List.mem_of_getElem? (i := 1) rfl)) rfl)⟩ (
  jx_c ⟨(jW (jm_5 _ (List.mem_of_getElem? (i := 106) rfl)) rfl), (jW (jm_1 _ (List.mem_of_getElem? (i := 13) rfl)) rfl)⟩ (
  jx_c ⟨(jW (jm_2 _ (List.mem_of_getElem? (i := 137) rfl)) rfl), (jW (jm_1 _ (List.mem_of_getElem? (i := 2) rfl)) rfl)⟩ (
  jx_c ⟨(jW (jm_2 _ (List.mem_of_getElem? (i := 133) rfl)) rfl), (jW (jm_1 _ (List.mem_of_getElem? (i := 1) rfl)) rfl)⟩ (
  jx_c ⟨(jW (jm_5 _ (List.mem_of_getElem? (i := 110) rfl)) rfl), (jW (jm_1 _ (List.mem_of_getElem? (i := 13) rfl)) rfl)⟩ (
  jx_c ⟨(jW (jm_2 _ (List.mem_of_getElem? (i := 145) rfl)) rfl), (jW (jm_1 _ (List.mem_of_getElem? (i := 2) rfl)) rfl)⟩ (
  jx_c ⟨(jW (jm_2 _ (List.mem_of_getElem? (i := 149) rfl)) rfl), (jW (jm_1 _ (List.mem_of_getElem? (i := 2) rfl)) rfl)⟩ (
  jx_c ⟨(jW (jm_2 _ (List.mem_of_getElem? (i := 141) rfl)) rfl), (jW (jm_1 _ (List.mem_of_getElem? (i := 1) rfl)) rfl)⟩ (
  jx_c ⟨(jW (jm_5 _ (List.mem_of_getElem? (i := 114) rfl)) rfl), (jW (jm_1 _ (List.mem_of_getElem? (i := 13) rfl)) rfl)⟩ (
  jx_c ⟨(jW (jm_2 _ (List.mem_of_getElem? (i := 166) rfl)) rfl), (jW (jm_1 _ (List.mem_of_getElem? (i := 3) rfl)) rfl)⟩ (
  jx_c ⟨(jW (jm_2 _ (List.mem_of_getElem? (i := 176) rfl)) rfl), (jW (jm_1 _ (List.mem_of_getElem? (i := 6) rfl)) rfl)⟩ (
  jx_c ⟨(jW (jm_2 _ (List.mem_of_getElem? (i := 170) rfl)) rfl), (jW (jm_1 _ (List.mem_of_getElem? (i := 6) rfl)) rfl)⟩ (
  jx_c ⟨(jW (jm_2 _ (List.mem_of_getElem? (i := 180) rfl)) rfl), (jW (jm_1 _ (List.mem_of_getElem? (i := 6) rfl)) rfl)⟩ (
  jx_c ⟨(jW (jm_2 _ (List.mem_of_getElem? (i := 188) rfl)) rfl), (jW (jm_1 _ (List.mem_of_getElem? (i := 6) rfl)) rfl)⟩ (
  jx_c ⟨(jW (jm_2 _ (List.mem_of_getElem? (i := 184) rfl)) rfl), (jW (jm_1 _ (List.mem_of_getElem? (i := 5) rfl)) rfl)⟩ (
  jx_c ⟨(jW (jm_2 _ (List.mem_of_getElem? (i := 196) rfl)) rfl), (jW (jm_1 _ (List.mem_of_getElem? (i := 3) rfl)) rfl)⟩ (
  jx_c ⟨(jW (jm_2 _ (List.mem_of_getElem? (i := 200) rfl)) rfl), (jW (jm_1 _ (List.mem_of_getElem? (i := 5) rfl)) rfl)⟩ (
  jx_c ⟨(jW (jm_2 _ (List.mem_of_getElem? (i := 192) rfl)) rfl), (jW (jm_1 _ (List.mem_of_getElem? (i := 5) rfl)) rfl)⟩ (
  jx_c ⟨(jW (jm_2 _ (List.mem_of_getElem? (i := 204) rfl)) rfl), (jW (jm_1 _ (List.mem_of_getElem? (i := 3) rfl)) rfl)⟩ (
  jx_c ⟨(jW (jm_2 _ (List.mem_of_getElem? (i := 221) rfl)) rfl), (jW (jm_1 _ (List.mem_of_getElem? (i := 14) rfl)) rfl)⟩ (
  jx_c ⟨(jW (jm_2 _ (List.mem_of_getElem? (i := 231) rfl)) rfl), (jW (jm_1 _ (List.mem_of_getElem? (i := 14) rfl)) rfl)⟩ (
  jx_c ⟨(jW (jm_2 _ (List.mem_of_getElem? (i := 227) rfl)) rfl), (jW (jm_1 _ (List.mem_of_getElem? (i := 14) rfl)) rfl)⟩ (
  jx_c ⟨(jW (jm_2 _ (List.mem_of_getElem? (i := 237) rfl)) rfl), (jW (jm_1 _ (List.mem_of_getElem? (i := 15) rfl)) rfl)⟩ (
  jx_c ⟨(jW (jm_3 _ (List.mem_of_getElem? (i := 6) rfl)) rfl), (jW (jm_1 _ (List.mem_of_getElem? (i := 15) rfl)) rfl)⟩ (
  jx_c ⟨(jW (jm_2 _ (List.mem_of_getElem? (i := 234) rfl)) rfl), (jW (jm_1 _ (List.mem_of_getElem? (i := 15) rfl)) rfl)⟩ (
  jx_c ⟨(jW (jm_2 _ (List.mem_of_getElem? (i := 217) rfl)) rfl), (jW (jm_1 _ (List.mem_of_getElem? (i := 14) rfl)) rfl)⟩ (
  jx_c ⟨(jW (jm_2 _ (List.mem_of_getElem? (i := 213) rfl)) rfl), (jW (jm_1 _ (List.mem_of_getElem? (i := 14) rfl)) rfl)⟩ (
  jx_c ⟨(jW (jm_3 _ (List.mem_of_getElem? (i := 63) rfl)) rfl), (jW (jm_1 _ (List.mem_of_getElem? (i := 3) rfl)) rfl)⟩ (
  jx_c ⟨(jW (jm_3 _ (List.mem_of_getElem? (i := 67) rfl)) rfl), (jW (jm_1 _ (List.mem_of_getElem? (i := 6) rfl)) rfl)⟩ (
  jx_c ⟨(jW (jm_3 _ (List.mem_of_getElem? (i := 71) rfl)) rfl), (jW (jm_1 _ (List.mem_of_getElem? (i := 4) rfl)) rfl)⟩ (
  jx_c ⟨(jW (jm_3 _ (List.mem_of_getElem? (i := 59) rfl)) rfl), (jW (jm_1 _ (List.mem_of_getElem? (i := 5) rfl)) rfl)⟩ (
  jx_c ⟨(jW (jm_3 _ (List.mem_of_getElem? (i := 75) rfl)) rfl), (jW (jm_1 _ (List.mem_of_getElem? (i := 4) rfl)) rfl)⟩ (
  jx_c ⟨(jW (jm_2 _ (List.mem_of_getElem? (i := 208) rfl)) rfl), (jW (jm_1 _ (List.mem_of_getElem? (i := 5) rfl)) rfl)⟩ (
  jx_c ⟨(jW (jm_3 _ (List.mem_of_getElem? (i := 79) rfl)) rfl), (jW (jm_1 _ (List.mem_of_getElem? (i := 5) rfl)) rfl)⟩ (
  jx_c ⟨(jW (jm_3 _ (List.mem_of_getElem? (i := 84) rfl)) rfl), (jW (jm_1 _ (List.mem_of_getElem? (i := 5) rfl)) rfl)⟩ (
  jx_c ⟨(jW (jm_3 _ (List.mem_of_getElem? (i := 88) rfl)) rfl), (jW (jm_1 _ (List.mem_of_getElem? (i := 5) rfl)) rfl)⟩ (
  jx_c ⟨(jW (jm_2 _ (List.mem_of_getElem? (i := 162) rfl)) rfl), (jW (jm_1 _ (List.mem_of_getElem? (i := 5) rfl)) rfl)⟩ (
  jx_c ⟨(jW (jm_3 _ (List.mem_of_getElem? (i := 100) rfl)) rfl), (jW (jm_1 _ (List.mem_of_getElem? (i := 3) rfl)) rfl)⟩ (
  jx_c ⟨(jW (jm_3 _ (List.mem_of_getElem? (i := 96) rfl)) rfl), (jW (jm_1 _ (List.mem_of_getElem? (i := 3) rfl)) rfl)⟩ (
  jx_c ⟨(jW (jm_3 _ (List.mem_of_getElem? (i := 92) rfl)) rfl), (jW (jm_1 _ (List.mem_of_getElem? (i := 3) rfl)) rfl)⟩ (
  jx_c ⟨(jW (jm_2 _ (List.mem_of_getElem? (i := 158) rfl)) rfl), (jW (jm_1 _ (List.mem_of_getElem? (i := 1) rfl)) rfl)⟩ (
  jx_c ⟨(jW (jm_3 _ (List.mem_of_getElem? (i := 105) rfl)) rfl), (jW (jm_1 _ (List.mem_of_getElem? (i := 3) rfl)) rfl)⟩ (
  jx_c ⟨(jW (jm_2 _ (List.mem_of_getElem? (i := 154) rfl)) rfl), (jW (jm_1 _ (List.mem_of_getElem? (i := 1) rfl)) rfl)⟩ (
  jx_c ⟨(jW (jm_5 _ (List.mem_of_getElem? (i := 126) rfl)) rfl), (jW (jm_1 _ (List.mem_of_getElem? (i := 13) rfl)) rfl)⟩ (
  jx_c ⟨(jW (jm_5 _ (List.mem_of_getElem? (i := 134) rfl)) rfl), (jW (jm_1 _ (List.mem_of_getElem? (i := 13) rfl)) rfl)⟩ (
  jx_c ⟨(jW (jm_5 _ (List.mem_of_getElem? (i := 138) rfl)) rfl), (jW (jm_1 _ (List.mem_of_getElem? (i := 13) rfl)) rfl)⟩ (
  jx_c ⟨(jW (jm_5 _ (List.mem_of_getElem? (i := 130) rfl)) rfl), (jW (jm_1 _ (List.mem_of_getElem? (i := 13) rfl)) rfl)⟩ (
  jx_c ⟨(jW (jm_5 _ (List.mem_of_getElem? (i := 146) rfl)) rfl), (jW (jm_1 _ (List.mem_of_getElem? (i := 13) rfl)) rfl)⟩ (
  jx_c ⟨(jW (jm_5 _ (List.mem_of_getElem? (i := 150) rfl)) rfl), (jW (jm_1 _ (List.mem_of_getElem? (i := 13) rfl)) rfl)⟩ (
  jx_c ⟨(jW (jm_5 _ (List.mem_of_getElem? (i := 154) rfl)) rfl), (jW (jm_1 _ (List.mem_of_getElem? (i := 13) rfl)) rfl)⟩ (
  jx_c ⟨(jW (jm_5 _ (List.mem_of_getElem? (i := 142) rfl)) rfl), (jW (jm_1 _ (List.mem_of_getElem? (i := 13) rfl)) rfl)⟩ (
  jx_c ⟨(jW (jm_5 _ (List.mem_of_getElem? (i := 162) rfl)) rfl), (jW (jm_1 _ (List.mem_of_getElem? (i := 13) rfl)) rfl)⟩ (
  jx_c ⟨(jW (jm_5 _ (List.mem_of_getElem? (i := 158) rfl)) rfl), (jW (jm_1 _ (List.mem_of_getElem? (i := 13) rfl)) rfl)⟩ (
  jx_c ⟨(jW (jm_5 _ (List.mem_of_getElem? (i := 122) rfl)) rfl), (jW (jm_1 _ (List.mem_of_getElem? (i := 13) rfl)) rfl)⟩ (
  jx_c ⟨(jW (jm_5 _ (List.mem_of_getElem? (i := 118) rfl)) rfl), (jW (jm_1 _ (List.mem_of_getElem? (i := 13) rfl)) rfl)⟩ (
  jx_c ⟨(jW (jm_3 _ (List.mem_of_getElem? (i := 114) rfl)) rfl), (jW (jm_1 _ (List.mem_of_getElem? (i := 3) rfl)) rfl)⟩ (
  jx_c ⟨(jW (jm_3 _ (List.mem_of_getElem? (i := 119) rfl)) rfl), (jW (jm_1 _ (List.mem_of_getElem? (i := 4) rfl)) rfl)⟩ (
  jx_c ⟨(jW (jm_3 _ (List.mem_of_getElem? (i := 110) rfl)) rfl), (jW (jm_1 _ (List.mem_of_getElem? (i := 1) rfl)) rfl)⟩ (
  jx_c ⟨(jW (jm_5 _ (List.mem_of_getElem? (i := 166) rfl)) rfl), (jW (jm_1 _ (List.mem_of_getElem? (i := 13) rfl)) rfl)⟩ (
  jx_c ⟨(jW (jm_3 _ (List.mem_of_getElem? (i := 123) rfl)) rfl), (jW (jm_1 _ (List.mem_of_getElem? (i := 1) rfl)) rfl)⟩ (
  jx_c ⟨(jW (jm_5 _ (List.mem_of_getElem? (i := 170) rfl)) rfl), (jW (jm_1 _ (List.mem_of_getElem? (i := 13) rfl)) rfl)⟩ (
  jx_c ⟨(jW (jm_3 _ (List.mem_of_getElem? (i := 133) rfl)) rfl), (jW (jm_1 _ (List.mem_of_getElem? (i := 9) rfl)) rfl)⟩ (
  jx_c ⟨(jW (jm_3 _ (List.mem_of_getElem? (i := 136) rfl)) rfl), (jW (jm_1 _ (List.mem_of_getElem? (i := 9) rfl)) rfl)⟩ (
  jx_c ⟨(jW (jm_3 _ (List.mem_of_getElem? (i := 130) rfl)) rfl), (jW (jm_1 _ (List.mem_of_getElem? (i := 9) rfl)) rfl)⟩ (
  jx_c ⟨(jW (jm_3 _ (List.mem_of_getElem? (i := 148) rfl)) rfl), (jW (jm_1 _ (List.mem_of_getElem? (i := 9) rfl)) rfl)⟩ (
  jx_c ⟨(jW (jm_3 _ (List.mem_of_getElem? (i := 144) rfl)) rfl), (jW (jm_1 _ (List.mem_of_getElem? (i := 8) rfl)) rfl)⟩ (
  jx_c ⟨(jW (jm_3 _ (List.mem_of_getElem? (i := 158) rfl)) rfl), (jW (jm_1 _ (List.mem_of_getElem? (i := 9) rfl)) rfl)⟩ (
  jx_c ⟨(jW (jm_3 _ (List.mem_of_getElem? (i := 155) rfl)) rfl), (jW (jm_1 _ (List.mem_of_getElem? (i := 9) rfl)) rfl)⟩ (
  jx_c ⟨(jW (jm_3 _ (List.mem_of_getElem? (i := 152) rfl)) rfl), (jW (jm_1 _ (List.mem_of_getElem? (i := 9) rfl)) rfl)⟩ (
  jx_c ⟨(jW (jm_3 _ (List.mem_of_getElem? (i := 140) rfl)) rfl), (jW (jm_1 _ (List.mem_of_getElem? (i := 7) rfl)) rfl)⟩ (
  jx_c ⟨(jW (jm_3 _ (List.mem_of_getElem? (i := 162) rfl)) rfl), (jW (jm_1 _ (List.mem_of_getElem? (i := 7) rfl)) rfl)⟩ (
  jx_c ⟨(jW (jm_3 _ (List.mem_of_getElem? (i := 127) rfl)) rfl), (jW (jm_1 _ (List.mem_of_getElem? (i := 1) rfl)) rfl)⟩ (
  jx_c ⟨(jW (jm_5 _ (List.mem_of_getElem? (i := 178) rfl)) rfl), (jW (jm_1 _ (List.mem_of_getElem? (i := 13) rfl)) rfl)⟩ (
  jx_c ⟨(jW (jm_5 _ (List.mem_of_getElem? (i := 174) rfl)) rfl), (jW (jm_1 _ (List.mem_of_getElem? (i := 13) rfl)) rfl)⟩ (
  jx_c ⟨(jW (jm_3 _ (List.mem_of_getElem? (i := 170) rfl)) rfl), (jW (jm_1 _ (List.mem_of_getElem? (i := 7) rfl)) rfl)⟩ (
  jx_c ⟨(jW (jm_3 _ (List.mem_of_getElem? (i := 186) rfl)) rfl), (jW (jm_1 _ (List.mem_of_getElem? (i := 7) rfl)) rfl)⟩ (
  jx_c ⟨(jW (jm_3 _ (List.mem_of_getElem? (i := 182) rfl)) rfl), (jW (jm_1 _ (List.mem_of_getElem? (i := 7) rfl)) rfl)⟩ (
  jx_c ⟨(jW (jm_3 _ (List.mem_of_getElem? (i := 178) rfl)) rfl), (jW (jm_1 _ (List.mem_of_getElem? (i := 7) rfl)) rfl)⟩ (
  jx_c ⟨(jW (jm_3 _ (List.mem_of_getElem? (i := 174) rfl)) rfl), (jW (jm_1 _ (List.mem_of_getElem? (i := 7) rfl)) rfl)⟩ (
  jx_c ⟨(jW (jm_3 _ (List.mem_of_getElem? (i := 190) rfl)) rfl), (jW (jm_1 _ (List.mem_of_getElem? (i := 7) rfl)) rfl)⟩ (
  jx_c ⟨(jW (jm_3 _ (List.mem_of_getElem? (i := 196) rfl)) rfl), (jW (jm_1 _ (List.mem_of_getElem? (i := 8) rfl)) rfl)⟩ (
  jx_c ⟨(jW (jm_3 _ (List.mem_of_getElem? (i := 166) rfl)) rfl), (jW (jm_1 _ (List.mem_of_getElem? (i := 1) rfl)) rfl)⟩ (
  jx_c ⟨(jW (jm_5 _ (List.mem_of_getElem? (i := 186) rfl)) rfl), (jW (jm_1 _ (List.mem_of_getElem? (i := 13) rfl)) rfl)⟩ (
  jx_c ⟨(jW (jm_5 _ (List.mem_of_getElem? (i := 194) rfl)) rfl), (jW (jm_1 _ (List.mem_of_getElem? (i := 13) rfl)) rfl)⟩ (
  jx_c ⟨(jW (jm_5 _ (List.mem_of_getElem? (i := 190) rfl)) rfl), (jW (jm_1 _ (List.mem_of_getElem? (i := 13) rfl)) rfl)⟩ (
  jx_c ⟨(jW (jm_5 _ (List.mem_of_getElem? (i := 198) rfl)) rfl), (jW (jm_1 _ (List.mem_of_getElem? (i := 13) rfl)) rfl)⟩ (
  jx_c ⟨(jW (jm_5 _ (List.mem_of_getElem? (i := 182) rfl)) rfl), (jW (jm_1 _ (List.mem_of_getElem? (i := 13) rfl)) rfl)⟩ (
  jx_c ⟨(jW (jm_3 _ (List.mem_of_getElem? (i := 204) rfl)) rfl), (jW (jm_1 _ (List.mem_of_getElem? (i := 8) rfl)) rfl)⟩ (
  jx_c ⟨(jW (jm_3 _ (List.mem_of_getElem? (i := 208) rfl)) rfl), (jW (jm_1 _ (List.mem_of_getElem? (i := 8) rfl)) rfl)⟩ (
  jx_c ⟨(jW (jm_3 _ (List.mem_of_getElem? (i := 200) rfl)) rfl), (jW (jm_1 _ (List.mem_of_getElem? (i := 1) rfl)) rfl)⟩ (
  jx_c ⟨(jW (jm_5 _ (List.mem_of_getElem? (i := 202) rfl)) rfl), (jW (jm_1 _ (List.mem_of_getElem? (i := 13) rfl)) rfl)⟩ (
  jx_c ⟨(jW (jm_3 _ (List.mem_of_getElem? (i := 216) rfl)) rfl), (jW (jm_1 _ (List.mem_of_getElem? (i := 7) rfl)) rfl)⟩ (
  jx_c ⟨(jW (jm_3 _ (List.mem_of_getElem? (i := 212) rfl)) rfl), (jW (jm_1 _ (List.mem_of_getElem? (i := 1) rfl)) rfl)⟩ (
  jx_c ⟨(jW (jm_5 _ (List.mem_of_getElem? (i := 206) rfl)) rfl), (jW (jm_1 _ (List.mem_of_getElem? (i := 13) rfl)) rfl)⟩ (
  jx_c ⟨(jW (jm_3 _ (List.mem_of_getElem? (i := 224) rfl)) rfl), (jW (jm_1 _ (List.mem_of_getElem? (i := 1) rfl)) rfl)⟩ (
  jx_c ⟨(jW (jm_4 _ (List.mem_of_getElem? (i := 0) rfl)) rfl), (jW (jm_1 _ (List.mem_of_getElem? (i := 11) rfl)) rfl)⟩ (
  jx_c ⟨(jW (jm_3 _ (List.mem_of_getElem? (i := 236) rfl)) rfl), (jW (jm_1 _ (List.mem_of_getElem? (i := 10) rfl)) rfl)⟩ (
  jx_c ⟨(jW (jm_4 _ (List.mem_of_getElem? (i := 4) rfl)) rfl), (jW (jm_1 _ (List.mem_of_getElem? (i := 7) rfl)) rfl)⟩ (
  jx_c ⟨(jW (jm_4 _ (List.mem_of_getElem? (i := 17) rfl)) rfl), (jW (jm_1 _ (List.mem_of_getElem? (i := 9) rfl)) rfl)⟩ (
  jx_c ⟨(jW (jm_4 _ (List.mem_of_getElem? (i := 14) rfl)) rfl), (jW (jm_1 _ (List.mem_of_getElem? (i := 9) rfl)) rfl)⟩ (
  jx_c ⟨(jW (jm_4 _ (List.mem_of_getElem? (i := 27) rfl)) rfl), (jW (jm_1 _ (List.mem_of_getElem? (i := 3) rfl)) rfl)⟩ (
  jx_c ⟨(jW (jm_4 _ (List.mem_of_getElem? (i := 35) rfl)) rfl), (jW (jm_1 _ (List.mem_of_getElem? (i := 4) rfl)) rfl)⟩ (
  jx_c ⟨(jW (jm_4 _ (List.mem_of_getElem? (i := 31) rfl)) rfl), (jW (jm_1 _ (List.mem_of_getElem? (i := 3) rfl)) rfl)⟩ (
  jx_c ⟨(jW (jm_4 _ (List.mem_of_getElem? (i := 23) rfl)) rfl), (jW (jm_1 _ (List.mem_of_getElem? (i := 10) rfl)) rfl)⟩ (
  jx_c ⟨(jW (jm_4 _ (List.mem_of_getElem? (i := 8) rfl)) rfl), (jW (jm_1 _ (List.mem_of_getElem? (i := 10) rfl)) rfl)⟩ (
  jx_c ⟨(jW (jm_4 _ (List.mem_of_getElem? (i := 43) rfl)) rfl), (jW (jm_1 _ (List.mem_of_getElem? (i := 8) rfl)) rfl)⟩ (
  jx_c ⟨(jW (jm_4 _ (List.mem_of_getElem? (i := 67) rfl)) rfl), (jW (jm_1 _ (List.mem_of_getElem? (i := 18) rfl)) rfl)⟩ (
  jx_c ⟨(jW (jm_4 _ (List.mem_of_getElem? (i := 64) rfl)) rfl), (jW (jm_1 _ (List.mem_of_getElem? (i := 14) rfl)) rfl)⟩ (
  jx_c ⟨(jW (jm_4 _ (List.mem_of_getElem? (i := 61) rfl)) rfl), (jW (jm_1 _ (List.mem_of_getElem? (i := 15) rfl)) rfl)⟩ (
  jx_c ⟨(jW (jm_4 _ (List.mem_of_getElem? (i := 58) rfl)) rfl), (jW (jm_1 _ (List.mem_of_getElem? (i := 14) rfl)) rfl)⟩ (
  jx_c ⟨(jW (jm_4 _ (List.mem_of_getElem? (i := 78) rfl)) rfl), (jW (jm_1 _ (List.mem_of_getElem? (i := 9) rfl)) rfl)⟩ (
  jx_c ⟨(jW (jm_4 _ (List.mem_of_getElem? (i := 84) rfl)) rfl), (jW (jm_1 _ (List.mem_of_getElem? (i := 11) rfl)) rfl)⟩ (
  jx_c ⟨(jW (jm_4 _ (List.mem_of_getElem? (i := 52) rfl)) rfl), (jW (jm_1 _ (List.mem_of_getElem? (i := 11) rfl)) rfl)⟩ (
  jx_c ⟨(jW (jm_4 _ (List.mem_of_getElem? (i := 47) rfl)) rfl), (jW (jm_1 _ (List.mem_of_getElem? (i := 11) rfl)) rfl)⟩ (
  jx_c ⟨(jW (jm_4 _ (List.mem_of_getElem? (i := 93) rfl)) rfl), (jW (jm_1 _ (List.mem_of_getElem? (i := 11) rfl)) rfl)⟩ (
  jx_c ⟨(jW (jm_4 _ (List.mem_of_getElem? (i := 97) rfl)) rfl), (jW (jm_1 _ (List.mem_of_getElem? (i := 11) rfl)) rfl)⟩ (
  jx_c ⟨(jW (jm_4 _ (List.mem_of_getElem? (i := 104) rfl)) rfl), (jW (jm_1 _ (List.mem_of_getElem? (i := 11) rfl)) rfl)⟩ (
  jx_c ⟨(jW (jm_4 _ (List.mem_of_getElem? (i := 88) rfl)) rfl), (jW (jm_1 _ (List.mem_of_getElem? (i := 10) rfl)) rfl)⟩ (
  jx_c ⟨(jW (jm_4 _ (List.mem_of_getElem? (i := 112) rfl)) rfl), (jW (jm_1 _ (List.mem_of_getElem? (i := 3) rfl)) rfl)⟩ (
  jx_c ⟨(jW (jm_4 _ (List.mem_of_getElem? (i := 108) rfl)) rfl), (jW (jm_1 _ (List.mem_of_getElem? (i := 10) rfl)) rfl)⟩ (
  jx_c ⟨(jW (jm_4 _ (List.mem_of_getElem? (i := 39) rfl)) rfl), (jW (jm_1 _ (List.mem_of_getElem? (i := 10) rfl)) rfl)⟩ (
  jx_c ⟨(jW (jm_3 _ (List.mem_of_getElem? (i := 232) rfl)) rfl), (jW (jm_1 _ (List.mem_of_getElem? (i := 10) rfl)) rfl)⟩ (
  jx_c ⟨(jW (jm_3 _ (List.mem_of_getElem? (i := 228) rfl)) rfl), (jW (jm_1 _ (List.mem_of_getElem? (i := 1) rfl)) rfl)⟩ (
  jx_c ⟨(jW (jm_4 _ (List.mem_of_getElem? (i := 119) rfl)) rfl), (jW (jm_1 _ (List.mem_of_getElem? (i := 21) rfl)) rfl)⟩ (
  jx_c ⟨(jW (jm_4 _ (List.mem_of_getElem? (i := 116) rfl)) rfl), (jW (jm_1 _ (List.mem_of_getElem? (i := 10) rfl)) rfl)⟩ (
  jx_c ⟨(jW (jm_3 _ (List.mem_of_getElem? (i := 220) rfl)) rfl), (jW (jm_1 _ (List.mem_of_getElem? (i := 1) rfl)) rfl)⟩ (
  jx_c ⟨(jW (jm_5 _ (List.mem_of_getElem? (i := 214) rfl)) rfl), (jW (jm_1 _ (List.mem_of_getElem? (i := 13) rfl)) rfl)⟩ (
  jx_c ⟨(jW (jm_5 _ (List.mem_of_getElem? (i := 222) rfl)) rfl), (jW (jm_1 _ (List.mem_of_getElem? (i := 13) rfl)) rfl)⟩ (
  jx_c ⟨(jW (jm_5 _ (List.mem_of_getElem? (i := 238) rfl)) rfl), (jW (jm_1 _ (List.mem_of_getElem? (i := 13) rfl)) rfl)⟩ (
  jx_c ⟨(jW (jm_5 _ (List.mem_of_getElem? (i := 234) rfl)) rfl), (jW (jm_1 _ (List.mem_of_getElem? (i := 13) rfl)) rfl)⟩ (
  jx_c ⟨(jW (jm_6 _ (List.mem_of_getElem? (i := 2) rfl)) rfl), (jW (jm_1 _ (List.mem_of_getElem? (i := 13) rfl)) rfl)⟩ (
  jx_c ⟨(jW (jm_5 _ (List.mem_of_getElem? (i := 230) rfl)) rfl), (jW (jm_1 _ (List.mem_of_getElem? (i := 13) rfl)) rfl)⟩ (
  jx_c ⟨(jW (jm_6 _ (List.mem_of_getElem? (i := 6) rfl)) rfl), (jW (jm_1 _ (List.mem_of_getElem? (i := 13) rfl)) rfl)⟩ (
  jx_c ⟨(jW (jm_5 _ (List.mem_of_getElem? (i := 226) rfl)) rfl), (jW (jm_1 _ (List.mem_of_getElem? (i := 13) rfl)) rfl)⟩ (
  jx_c ⟨(jW (jm_5 _ (List.mem_of_getElem? (i := 218) rfl)) rfl), (jW (jm_1 _ (List.mem_of_getElem? (i := 13) rfl)) rfl)⟩ (
  jx_c ⟨(jW (jm_5 _ (List.mem_of_getElem? (i := 210) rfl)) rfl), (jW (jm_1 _ (List.mem_of_getElem? (i := 13) rfl)) rfl)⟩ (
  jx_c ⟨(jW (jm_4 _ (List.mem_of_getElem? (i := 130) rfl)) rfl), (jW (jm_1 _ (List.mem_of_getElem? (i := 10) rfl)) rfl)⟩ (
  jx_c ⟨(jW (jm_4 _ (List.mem_of_getElem? (i := 126) rfl)) rfl), (jW (jm_1 _ (List.mem_of_getElem? (i := 1) rfl)) rfl)⟩ (
  jx_c ⟨(jW (jm_6 _ (List.mem_of_getElem? (i := 10) rfl)) rfl), (jW (jm_1 _ (List.mem_of_getElem? (i := 13) rfl)) rfl)⟩ (
  jx_c ⟨(jW (jm_4 _ (List.mem_of_getElem? (i := 139) rfl)) rfl), (jW (jm_1 _ (List.mem_of_getElem? (i := 10) rfl)) rfl)⟩ (
  jx_c ⟨(jW (jm_4 _ (List.mem_of_getElem? (i := 134) rfl)) rfl), (jW (jm_1 _ (List.mem_of_getElem? (i := 1) rfl)) rfl)⟩ (
  jx_c ⟨(jW (jm_6 _ (List.mem_of_getElem? (i := 22) rfl)) rfl), (jW (jm_1 _ (List.mem_of_getElem? (i := 13) rfl)) rfl)⟩ (
  jx_c ⟨(jW (jm_6 _ (List.mem_of_getElem? (i := 18) rfl)) rfl), (jW (jm_1 _ (List.mem_of_getElem? (i := 13) rfl)) rfl)⟩ (
  jx_c ⟨(jW (jm_6 _ (List.mem_of_getElem? (i := 14) rfl)) rfl), (jW (jm_1 _ (List.mem_of_getElem? (i := 13) rfl)) rfl)⟩ (
  jx_c ⟨(jW (jm_4 _ (List.mem_of_getElem? (i := 149) rfl)) rfl), (jW (jm_1 _ (List.mem_of_getElem? (i := 10) rfl)) rfl)⟩ (
  jx_c ⟨(jW (jm_4 _ (List.mem_of_getElem? (i := 159) rfl)) rfl), (jW (jm_1 _ (List.mem_of_getElem? (i := 10) rfl)) rfl)⟩ (
  jx_c ⟨(jW (jm_4 _ (List.mem_of_getElem? (i := 164) rfl)) rfl), (jW (jm_1 _ (List.mem_of_getElem? (i := 4) rfl)) rfl)⟩ (
  jx_c ⟨(jW (jm_4 _ (List.mem_of_getElem? (i := 153) rfl)) rfl), (jW (jm_1 _ (List.mem_of_getElem? (i := 12) rfl)) rfl)⟩ (
  jx_c ⟨(jW (jm_4 _ (List.mem_of_getElem? (i := 169) rfl)) rfl), (jW (jm_1 _ (List.mem_of_getElem? (i := 12) rfl)) rfl)⟩ (
  jx_c ⟨(jW (jm_4 _ (List.mem_of_getElem? (i := 173) rfl)) rfl), (jW (jm_1 _ (List.mem_of_getElem? (i := 12) rfl)) rfl)⟩ (
  jx_c ⟨(jW (jm_4 _ (List.mem_of_getElem? (i := 183) rfl)) rfl), (jW (jm_1 _ (List.mem_of_getElem? (i := 12) rfl)) rfl)⟩ (
  jx_c ⟨(jW (jm_4 _ (List.mem_of_getElem? (i := 188) rfl)) rfl), (jW (jm_1 _ (List.mem_of_getElem? (i := 12) rfl)) rfl)⟩ (
  jx_c ⟨(jW (jm_4 _ (List.mem_of_getElem? (i := 177) rfl)) rfl), (jW (jm_1 _ (List.mem_of_getElem? (i := 12) rfl)) rfl)⟩ (
  jx_c ⟨(jW (jm_4 _ (List.mem_of_getElem? (i := 192) rfl)) rfl), (jW (jm_1 _ (List.mem_of_getElem? (i := 12) rfl)) rfl)⟩ (
  jx_c ⟨(jW (jm_4 _ (List.mem_of_getElem? (i := 145) rfl)) rfl), (jW (jm_1 _ (List.mem_of_getElem? (i := 1) rfl)) rfl)⟩ (
  jx_c ⟨(jW (jm_6 _ (List.mem_of_getElem? (i := 42) rfl)) rfl), (jW (jm_1 _ (List.mem_of_getElem? (i := 13) rfl)) rfl)⟩ (
  jx_c ⟨(jW (jm_6 _ (List.mem_of_getElem? (i := 38) rfl)) rfl), (jW (jm_1 _ (List.mem_of_getElem? (i := 13) rfl)) rfl)⟩ (
  jx_c ⟨(jW (jm_6 _ (List.mem_of_getElem? (i := 34) rfl)) rfl), (jW (jm_1 _ (List.mem_of_getElem? (i := 13) rfl)) rfl)⟩ (
  jx_c ⟨(jW (jm_6 _ (List.mem_of_getElem? (i := 30) rfl)) rfl), (jW (jm_1 _ (List.mem_of_getElem? (i := 13) rfl)) rfl)⟩ (
  jx_c ⟨(jW (jm_6 _ (List.mem_of_getElem? (i := 46) rfl)) rfl), (jW (jm_1 _ (List.mem_of_getElem? (i := 13) rfl)) rfl)⟩ (
  jx_c ⟨(jW (jm_6 _ (List.mem_of_getElem? (i := 26) rfl)) rfl), (jW (jm_1 _ (List.mem_of_getElem? (i := 13) rfl)) rfl)⟩ (
  jx_e)))))))))))))))))))))))))))))))))))))))))))))))))))))))))))))))))))))))))))))))))))))))))))))))))))))))))))))))))))))))))))))))))))))))))))))))))))))))))))))))))))))))))))))))))))
theorem jt_metB : (List.range 179).all (fun b => plainName (jt_N b).cls && (decide ((jt_N b).cls ≠ "java/lang/invoke/MethodHandle") && (decide ((jt_N b).cls ≠ "java/lang/invoke/VarHandle") && decide ((parseMethodDescriptor (jt_N b).desc).map (fun d => d.parameters.length) = some (jt_np.getD b 0))))) = true := by decide +kernel
theorem jt_lawR : [0, 1, 2, 3, 4, 5, 6, 7, 8, 9, 10, 11, 12, 13, 14, 15, 16, 17, 18, 19, 20, 21, 22, 23, 24, 25, 26, 27, 28, 29, 30, 31, 32, 33, 34, 35, 36, 37, 38, 39, 40, 41, 42, 43, 44, 45, 46, 47, 48, 49, 50, 51, 52, 53, 54, 55, 56, 57, 58, 59, 60, 61, 62, 63, 64, 65, 66, 67, 68, 69, 70, 71, 72, 73, 74, 75, 76, 77, 78, 79, 80, 81, 82, 83, 84, 85, 86, 87, 88, 89, 90, 91, 92, 93, 94, 95, 96, 97, 98, 99, 100, 101, 102, 103, 104, 105, 106, 107, 108, 109, 110, 111, 112, 113, 114, 115, 116, 117, 118, 119, 120, 121, 122, 123, 124, 125, 126, 127, 128, 129, 130, 131, 132, 133, 134, 135, 136, 137, 138, 139, 140, 141, 142, 143, 144, 145, 146, 147, 148, 149, 150, 151, 152, 153, 154, 155, 156, 157, 158, 159, 160, 161, 162, 163, 164, 165, 166, 167, 168, 169, 170, 171, 172, 173, 174, 175, 176, 177, 178] = List.range jt_law := by decide +kernel
theorem jt_met {b : Nat} (h : b < jt_law) : Cond.code (jt_N b) (jt_B b) (jt_L b) (jt_R b) ∈ jt_W ∧ Cond.initialized (jt_N b).cls ∈ jt_W ∧ plainName (jt_N b).cls = true ∧ (jt_N b).cls ≠ "java/lang/invoke/MethodHandle" ∧ (jt_N b).cls ≠ "java/lang/invoke/VarHandle" ∧ (parseMethodDescriptor (jt_N b).desc).map (fun d => d.parameters.length) = some (jt_np.getD b 0) := by
  have a := jx_all jt_metA b (by rw [jt_lawR]; exact List.mem_range.mpr h)
  have c := List.all_eq_true.mp jt_metB b (List.mem_range.mpr h)
  simp only [Bool.and_eq_true, decide_eq_true_eq] at c
  exact ⟨a.1, a.2, c.1, c.2.1, c.2.2.1, c.2.2.2⟩
set_option maxRecDepth 100000 in
theorem jt_iv_ok {b : Nat} (h : b ∈ jt_iv) : Cond.instanceMethod (jt_N b) ∈ jt_W ∧ Cond.selects (jt_N b).cls (jt_N b) (jt_N b) ∈ jt_W ∧ jt_C.getD (jt_rc.getD b 99) "" = (jt_N b).cls ∧ jt_rc.getD b 99 < jt_C.length := jx_all (P := fun b : Nat => Cond.instanceMethod (jt_N b) ∈ jt_W ∧ Cond.selects (jt_N b).cls (jt_N b) (jt_N b) ∈ jt_W ∧ jt_C.getD (jt_rc.getD b 99) "" = (jt_N b).cls ∧ jt_rc.getD b 99 < jt_C.length) (l := jt_iv) (jx_c ⟨(jW (jm_2 _ (List.mem_of_getElem? (i := 115) rfl)) rfl), (jW (jm_2 _ (List.mem_of_getElem? (i := 116) rfl)) rfl), rfl, by decide⟩ (
  jx_c ⟨(jW (jm_2 _ (List.mem_of_getElem? (i := 120) rfl)) rfl), (jWs (by decide +kernel) rfl), rfl, by decide⟩ (
  jx_c ⟨(jW (jm_2 _ (List.mem_of_getElem? (i := 111) rfl)) rfl), (jW (jm_2 _ (List.mem_of_getElem? (i := 112) rfl)) rfl), rfl, by decide⟩ (
  jx_c ⟨(jW (jm_5 _ (List.mem_of_getElem? (i := 100) rfl)) rfl), (jW (jm_5 _ (List.mem_of_getElem? (i := 101) rfl)) rfl), rfl, by decide⟩ (
  jx_c ⟨(jW (jm_2 _ (List.mem_of_getElem? (i := 127) rfl)) rfl), (jW (jm_2 _ (List.mem_of_getElem? (i := 128) rfl)) rfl), rfl, by decide⟩ (
  jx_c ⟨(jW (jm_2 _ (List.mem_of_getElem? (i := 123) rfl)) rfl), (jW (jm_2 _ (List.mem_of_getElem? (i := 124) rfl)) rfl), rfl, by decide⟩ (
  jx_c ⟨(jW (jm_5 _ (List.mem_of_getElem? (i := 104) rfl)) rfl), (jW (jm_5 _ (List.mem_of_getElem? (i := 105) rfl)) rfl), rfl, by decide⟩ (
  jx_c ⟨(jW (jm_2 _ (List.mem_of_getElem? (i := 135) rfl)) rfl), (jW (jm_2 _ (List.mem_of_getElem? (i := 136) rfl)) rfl), rfl, by decide⟩ (
  jx_c ⟨(jW (jm_2 _ (List.mem_of_getElem? (i := 131) rfl)) rfl), (jW (jm_2 _ (List.mem_of_getElem? (i := 132) rfl)) rfl), rfl, by decide⟩ (
  jx_c ⟨(jW (jm_5 _ (List.mem_of_getElem? (i := 108) rfl)) rfl), (jW (jm_5 _ (List.mem_of_getElem? (i := 109) rfl)) rfl), rfl, by decide⟩ (
  jx_c ⟨(jW (jm_2 _ (List.mem_of_getElem? (i := 143) rfl)) rfl), (jW (jm_2 _ (List.mem_of_getElem? (i := 144) rfl)) rfl), rfl, by decide⟩ (
  jx_c ⟨(jW (jm_2 _ (List.mem_of_getElem? (i := 147) rfl)) rfl), (jW (jm_2 _ (List.mem_of_getElem? (i := 148) rfl)) rfl), rfl, by decide⟩ (
  jx_c ⟨(jW (jm_2 _ (List.mem_of_getElem? (i := 139) rfl)) rfl), (jW (jm_2 _ (List.mem_of_getElem? (i := 140) rfl)) rfl), rfl, by decide⟩ (
  jx_c ⟨(jW (jm_5 _ (List.mem_of_getElem? (i := 112) rfl)) rfl), (jW (jm_5 _ (List.mem_of_getElem? (i := 113) rfl)) rfl), rfl, by decide⟩ (
  jx_c ⟨(jW (jm_2 _ (List.mem_of_getElem? (i := 164) rfl)) rfl), (jW (jm_2 _ (List.mem_of_getElem? (i := 165) rfl)) rfl), rfl, by decide⟩ (
  jx_c ⟨(jW (jm_2 _ (List.mem_of_getElem? (i := 175) rfl)) rfl), (jWs (by decide +kernel) rfl), rfl, by decide⟩ (
  jx_c ⟨(jW (jm_2 _ (List.mem_of_getElem? (i := 168) rfl)) rfl), (jW (jm_2 _ (List.mem_of_getElem? (i := 169) rfl)) rfl), rfl, by decide⟩ (
  jx_c ⟨(jW (jm_2 _ (List.mem_of_getElem? (i := 178) rfl)) rfl), (jW (jm_2 _ (List.mem_of_getElem? (i := 179) rfl)) rfl), rfl, by decide⟩ (
  jx_c ⟨(jW (jm_2 _ (List.mem_of_getElem? (i := 186) rfl)) rfl), (jW (jm_2 _ (List.mem_of_getElem? (i := 187) rfl)) rfl), rfl, by decide⟩ (
  jx_c ⟨(jW (jm_2 _ (List.mem_of_getElem? (i := 183) rfl)) rfl), (jWs (by decide +kernel) rfl), rfl, by decide⟩ (
  jx_c ⟨(jW (jm_2 _ (List.mem_of_getElem? (i := 194) rfl)) rfl), (jW (jm_2 _ (List.mem_of_getElem? (i := 195) rfl)) rfl), rfl, by decide⟩ (
  jx_c ⟨(jW (jm_2 _ (List.mem_of_getElem? (i := 199) rfl)) rfl), (jWs (by decide +kernel) rfl), rfl, by decide⟩ (
  jx_c ⟨(jW (jm_2 _ (List.mem_of_getElem? (i := 191) rfl)) rfl), (jWs (by decide +kernel) rfl), rfl, by decide⟩ (
  jx_c ⟨(jW (jm_2 _ (List.mem_of_getElem? (i := 202) rfl)) rfl), (jW (jm_2 _ (List.mem_of_getElem? (i := 203) rfl)) rfl), rfl, by decide⟩ (
  jx_c ⟨(jW (jm_3 _ (List.mem_of_getElem? (i := 61) rfl)) rfl), (jW (jm_3 _ (List.mem_of_getElem? (i := 62) rfl)) rfl), rfl, by decide⟩ (
  jx_c ⟨(jW (jm_3 _ (List.mem_of_getElem? (i := 65) rfl)) rfl), (jW (jm_3 _ (List.mem_of_getElem? (i := 66) rfl)) rfl), rfl, by decide⟩ (
  jx_c ⟨(jW (jm_3 _ (List.mem_of_getElem? (i := 69) rfl)) rfl), (jW (jm_3 _ (List.mem_of_getElem? (i := 70) rfl)) rfl), rfl, by decide⟩ (
  jx_c ⟨(jW (jm_3 _ (List.mem_of_getElem? (i := 58) rfl)) rfl), (jWs (by decide +kernel) rfl), rfl, by decide⟩ (
  jx_c ⟨(jW (jm_3 _ (List.mem_of_getElem? (i := 73) rfl)) rfl), (jW (jm_3 _ (List.mem_of_getElem? (i := 74) rfl)) rfl), rfl, by decide⟩ (
  jx_c ⟨(jW (jm_2 _ (List.mem_of_getElem? (i := 207) rfl)) rfl), (jWs (by decide +kernel) rfl), rfl, by decide⟩ (
  jx_c ⟨(jW (jm_3 _ (List.mem_of_getElem? (i := 78) rfl)) rfl), (jWs (by decide +kernel) rfl), rfl, by decide⟩ (
  jx_c ⟨(jW (jm_3 _ (List.mem_of_getElem? (i := 83) rfl)) rfl), (jWs (by decide +kernel) rfl), rfl, by decide⟩ (
  jx_c ⟨(jW (jm_3 _ (List.mem_of_getElem? (i := 87) rfl)) rfl), (jWs (by decide +kernel) rfl), rfl, by decide⟩ (
  jx_c ⟨(jW (jm_2 _ (List.mem_of_getElem? (i := 160) rfl)) rfl), (jW (jm_2 _ (List.mem_of_getElem? (i := 161) rfl)) rfl), rfl, by decide⟩ (
  jx_c ⟨(jW (jm_3 _ (List.mem_of_getElem? (i := 99) rfl)) rfl), (jWs (by decide +kernel) rfl), rfl, by decide⟩ (
  jx_c ⟨(jW (jm_3 _ (List.mem_of_getElem? (i := 95) rfl)) rfl), (jWs (by decide +kernel) rfl), rfl, by decide⟩ (
  jx_c ⟨(jW (jm_3 _ (List.mem_of_getElem? (i := 90) rfl)) rfl), (jW (jm_3 _ (List.mem_of_getElem? (i := 91) rfl)) rfl), rfl, by decide⟩ (
  jx_c ⟨(jW (jm_2 _ (List.mem_of_getElem? (i := 157) rfl)) rfl), (jWs (by decide +kernel) rfl), rfl, by decide⟩ (
  jx_c ⟨(jW (jm_3 _ (List.mem_of_getElem? (i := 103) rfl)) rfl), (jW (jm_3 _ (List.mem_of_getElem? (i := 104) rfl)) rfl), rfl, by decide⟩ (
  jx_c ⟨(jW (jm_2 _ (List.mem_of_getElem? (i := 152) rfl)) rfl), (jW (jm_2 _ (List.mem_of_getElem? (i := 153) rfl)) rfl), rfl, by decide⟩ (
  jx_c ⟨(jW (jm_5 _ (List.mem_of_getElem? (i := 125) rfl)) rfl), (jWs (by decide +kernel) rfl), rfl, by decide⟩ (
  jx_c ⟨(jW (jm_5 _ (List.mem_of_getElem? (i := 133) rfl)) rfl), (jWs (by decide +kernel) rfl), rfl, by decide⟩ (
  jx_c ⟨(jW (jm_5 _ (List.mem_of_getElem? (i := 137) rfl)) rfl), (jWs (by decide +kernel) rfl), rfl, by decide⟩ (
  jx_c ⟨(jW (jm_5 _ (List.mem_of_getElem? (i := 129) rfl)) rfl), (jWs (by decide +kernel) rfl), rfl, by decide⟩ (
  jx_c ⟨(jW (jm_5 _ (List.mem_of_getElem? (i := 145) rfl)) rfl), (jWs (by decide +kernel) rfl), rfl, by decide⟩ (
  jx_c ⟨(jW (jm_5 _ (List.mem_of_getElem? (i := 149) rfl)) rfl), (jWs (by decide +kernel) rfl), rfl, by decide⟩ (
  jx_c ⟨(jW (jm_5 _ (List.mem_of_getElem? (i := 153) rfl)) rfl), (jWs (by decide +kernel) rfl), rfl, by decide⟩ (
  jx_c ⟨(jW (jm_5 _ (List.mem_of_getElem? (i := 141) rfl)) rfl), (jWs (by decide +kernel) rfl), rfl, by decide⟩ (
  jx_c ⟨(jW (jm_5 _ (List.mem_of_getElem? (i := 161) rfl)) rfl), (jWs (by decide +kernel) rfl), rfl, by decide⟩ (
  jx_c ⟨(jW (jm_5 _ (List.mem_of_getElem? (i := 157) rfl)) rfl), (jWs (by decide +kernel) rfl), rfl, by decide⟩ (
  jx_c ⟨(jW (jm_5 _ (List.mem_of_getElem? (i := 121) rfl)) rfl), (jWs (by decide +kernel) rfl), rfl, by decide⟩ (
  jx_c ⟨(jW (jm_5 _ (List.mem_of_getElem? (i := 116) rfl)) rfl), (jW (jm_5 _ (List.mem_of_getElem? (i := 117) rfl)) rfl), rfl, by decide⟩ (
  jx_c ⟨(jW (jm_3 _ (List.mem_of_getElem? (i := 112) rfl)) rfl), (jW (jm_3 _ (List.mem_of_getElem? (i := 113) rfl)) rfl), rfl, by decide⟩ (
  jx_c ⟨(jW (jm_3 _ (List.mem_of_getElem? (i := 117) rfl)) rfl), (jW (jm_3 _ (List.mem_of_getElem? (i := 118) rfl)) rfl), rfl, by decide⟩ (
  jx_c ⟨(jW (jm_3 _ (List.mem_of_getElem? (i := 108) rfl)) rfl), (jW (jm_3 _ (List.mem_of_getElem? (i := 109) rfl)) rfl), rfl, by decide⟩ (
  jx_c ⟨(jW (jm_5 _ (List.mem_of_getElem? (i := 164) rfl)) rfl), (jW (jm_5 _ (List.mem_of_getElem? (i := 165) rfl)) rfl), rfl, by decide⟩ (
  jx_c ⟨(jW (jm_3 _ (List.mem_of_getElem? (i := 121) rfl)) rfl), (jW (jm_3 _ (List.mem_of_getElem? (i := 122) rfl)) rfl), rfl, by decide⟩ (
  jx_c ⟨(jW (jm_5 _ (List.mem_of_getElem? (i := 168) rfl)) rfl), (jW (jm_5 _ (List.mem_of_getElem? (i := 169) rfl)) rfl), rfl, by decide⟩ (
  jx_c ⟨(jW (jm_3 _ (List.mem_of_getElem? (i := 146) rfl)) rfl), (jW (jm_3 _ (List.mem_of_getElem? (i := 147) rfl)) rfl), rfl, by decide⟩ (
  jx_c ⟨(jW (jm_3 _ (List.mem_of_getElem? (i := 142) rfl)) rfl), (jW (jm_3 _ (List.mem_of_getElem? (i := 143) rfl)) rfl), rfl, by decide⟩ (
  jx_c ⟨(jW (jm_3 _ (List.mem_of_getElem? (i := 150) rfl)) rfl), (jW (jm_3 _ (List.mem_of_getElem? (i := 151) rfl)) rfl), rfl, by decide⟩ (
  jx_c ⟨(jW (jm_3 _ (List.mem_of_getElem? (i := 138) rfl)) rfl), (jW (jm_3 _ (List.mem_of_getElem? (i := 139) rfl)) rfl), rfl, by decide⟩ (
  jx_c ⟨(jW (jm_3 _ (List.mem_of_getElem? (i := 160) rfl)) rfl), (jW (jm_3 _ (List.mem_of_getElem? (i := 161) rfl)) rfl), rfl, by decide⟩ (
  jx_c ⟨(jW (jm_3 _ (List.mem_of_getElem? (i := 125) rfl)) rfl), (jW (jm_3 _ (List.mem_of_getElem? (i := 126) rfl)) rfl), rfl, by decide⟩ (
  jx_c ⟨(jW (jm_5 _ (List.mem_of_getElem? (i := 177) rfl)) rfl), (jWs (by decide +kernel) rfl), rfl, by decide⟩ (
  jx_c ⟨(jW (jm_5 _ (List.mem_of_getElem? (i := 172) rfl)) rfl), (jW (jm_5 _ (List.mem_of_getElem? (i := 173) rfl)) rfl), rfl, by decide⟩ (
  jx_c ⟨(jW (jm_3 _ (List.mem_of_getElem? (i := 168) rfl)) rfl), (jW (jm_3 _ (List.mem_of_getElem? (i := 169) rfl)) rfl), rfl, by decide⟩ (
  jx_c ⟨(jW (jm_3 _ (List.mem_of_getElem? (i := 184) rfl)) rfl), (jW (jm_3 _ (List.mem_of_getElem? (i := 185) rfl)) rfl), rfl, by decide⟩ (
  jx_c ⟨(jW (jm_3 _ (List.mem_of_getElem? (i := 180) rfl)) rfl), (jW (jm_3 _ (List.mem_of_getElem? (i := 181) rfl)) rfl), rfl, by decide⟩ (
  jx_c ⟨(jW (jm_3 _ (List.mem_of_getElem? (i := 176) rfl)) rfl), (jW (jm_3 _ (List.mem_of_getElem? (i := 177) rfl)) rfl), rfl, by decide⟩ (
  jx_c ⟨(jW (jm_3 _ (List.mem_of_getElem? (i := 172) rfl)) rfl), (jW (jm_3 _ (List.mem_of_getElem? (i := 173) rfl)) rfl), rfl, by decide⟩ (
  jx_c ⟨(jW (jm_3 _ (List.mem_of_getElem? (i := 188) rfl)) rfl), (jW (jm_3 _ (List.mem_of_getElem? (i := 189) rfl)) rfl), rfl, by decide⟩ (
  jx_c ⟨(jW (jm_3 _ (List.mem_of_getElem? (i := 194) rfl)) rfl), (jW (jm_3 _ (List.mem_of_getElem? (i := 195) rfl)) rfl), rfl, by decide⟩ (
  jx_c ⟨(jW (jm_3 _ (List.mem_of_getElem? (i := 164) rfl)) rfl), (jW (jm_3 _ (List.mem_of_getElem? (i := 165) rfl)) rfl), rfl, by decide⟩ (
  jx_c ⟨(jW (jm_5 _ (List.mem_of_getElem? (i := 185) rfl)) rfl), (jWs (by decide +kernel) rfl), rfl, by decide⟩ (
  jx_c ⟨(jW (jm_5 _ (List.mem_of_getElem? (i := 193) rfl)) rfl), (jWs (by decide +kernel) rfl), rfl, by decide⟩ (
  jx_c ⟨(jW (jm_5 _ (List.mem_of_getElem? (i := 189) rfl)) rfl), (jWs (by decide +kernel) rfl), rfl, by decide⟩ (
  jx_c ⟨(jW (jm_5 _ (List.mem_of_getElem? (i := 197) rfl)) rfl), (jWs (by decide +kernel) rfl), rfl, by decide⟩ (
  jx_c ⟨(jW (jm_5 _ (List.mem_of_getElem? (i := 180) rfl)) rfl), (jW (jm_5 _ (List.mem_of_getElem? (i := 181) rfl)) rfl), rfl, by decide⟩ (
  jx_c ⟨(jW (jm_3 _ (List.mem_of_getElem? (i := 202) rfl)) rfl), (jW (jm_3 _ (List.mem_of_getElem? (i := 203) rfl)) rfl), rfl, by decide⟩ (
  jx_c ⟨(jW (jm_3 _ (List.mem_of_getElem? (i := 206) rfl)) rfl), (jW (jm_3 _ (List.mem_of_getElem? (i := 207) rfl)) rfl), rfl, by decide⟩ (
  jx_c ⟨(jW (jm_3 _ (List.mem_of_getElem? (i := 198) rfl)) rfl), (jW (jm_3 _ (List.mem_of_getElem? (i := 199) rfl)) rfl), rfl, by decide⟩ (
  jx_c ⟨(jW (jm_5 _ (List.mem_of_getElem? (i := 200) rfl)) rfl), (jW (jm_5 _ (List.mem_of_getElem? (i := 201) rfl)) rfl), rfl, by decide⟩ (
  jx_c ⟨(jW (jm_3 _ (List.mem_of_getElem? (i := 214) rfl)) rfl), (jW (jm_3 _ (List.mem_of_getElem? (i := 215) rfl)) rfl), rfl, by decide⟩ (
  jx_c ⟨(jW (jm_3 _ (List.mem_of_getElem? (i := 210) rfl)) rfl), (jW (jm_3 _ (List.mem_of_getElem? (i := 211) rfl)) rfl), rfl, by decide⟩ (
  jx_c ⟨(jW (jm_5 _ (List.mem_of_getElem? (i := 204) rfl)) rfl), (jW (jm_5 _ (List.mem_of_getElem? (i := 205) rfl)) rfl), rfl, by decide⟩ (
  jx_c ⟨(jW (jm_3 _ (List.mem_of_getElem? (i := 223) rfl)) rfl), (jWs (by decide +kernel) rfl), rfl, by decide⟩ (
  jx_c ⟨(jW (jm_3 _ (List.mem_of_getElem? (i := 238) rfl)) rfl), (jW (jm_3 _ (List.mem_of_getElem? (i := 239) rfl)) rfl), rfl, by decide⟩ (
  jx_c ⟨(jW (jm_3 _ (List.mem_of_getElem? (i := 235) rfl)) rfl), (jWs (by decide +kernel) rfl), rfl, by decide⟩ (
  jx_c ⟨(jW (jm_4 _ (List.mem_of_getElem? (i := 2) rfl)) rfl), (jW (jm_4 _ (List.mem_of_getElem? (i := 3) rfl)) rfl), rfl, by decide⟩ (
  jx_c ⟨(jW (jm_4 _ (List.mem_of_getElem? (i := 12) rfl)) rfl), (jW (jm_4 _ (List.mem_of_getElem? (i := 13) rfl)) rfl), rfl, by decide⟩ (
  jx_c ⟨(jW (jm_4 _ (List.mem_of_getElem? (i := 25) rfl)) rfl), (jW (jm_4 _ (List.mem_of_getElem? (i := 26) rfl)) rfl), rfl, by decide⟩ (
  jx_c ⟨(jW (jm_4 _ (List.mem_of_getElem? (i := 33) rfl)) rfl), (jW (jm_4 _ (List.mem_of_getElem? (i := 34) rfl)) rfl), rfl, by decide⟩ (
  jx_c ⟨(jW (jm_4 _ (List.mem_of_getElem? (i := 29) rfl)) rfl), (jW (jm_4 _ (List.mem_of_getElem? (i := 30) rfl)) rfl), rfl, by decide⟩ (
  jx_c ⟨(jW (jm_4 _ (List.mem_of_getElem? (i := 22) rfl)) rfl), (jWs (by decide +kernel) rfl), rfl, by decide⟩ (
  jx_c ⟨(jW (jm_4 _ (List.mem_of_getElem? (i := 7) rfl)) rfl), (jWs (by decide +kernel) rfl), rfl, by decide⟩ (
  jx_c ⟨(jW (jm_4 _ (List.mem_of_getElem? (i := 41) rfl)) rfl), (jW (jm_4 _ (List.mem_of_getElem? (i := 42) rfl)) rfl), rfl, by decide⟩ (
  jx_c ⟨(jW (jm_4 _ (List.mem_of_getElem? (i := 76) rfl)) rfl), (jW (jm_4 _ (List.mem_of_getElem? (i := 77) rfl)) rfl), rfl, by decide⟩ (
  jx_c ⟨(jW (jm_4 _ (List.mem_of_getElem? (i := 83) rfl)) rfl), (jWs (by decide +kernel) rfl), rfl, by decide⟩ (
  jx_c ⟨(jW (jm_4 _ (List.mem_of_getElem? (i := 51) rfl)) rfl), (jWs (by decide +kernel) rfl), rfl, by decide⟩ (
  jx_c ⟨(jW (jm_4 _ (List.mem_of_getElem? (i := 45) rfl)) rfl), (jW (jm_4 _ (List.mem_of_getElem? (i := 46) rfl)) rfl), rfl, by decide⟩ (
  jx_c ⟨(jW (jm_4 _ (List.mem_of_getElem? (i := 91) rfl)) rfl), (jW (jm_4 _ (List.mem_of_getElem? (i := 92) rfl)) rfl), rfl, by decide⟩ (
  jx_c ⟨(jW (jm_4 _ (List.mem_of_getElem? (i := 95) rfl)) rfl), (jW (jm_4 _ (List.mem_of_getElem? (i := 96) rfl)) rfl), rfl, by decide⟩ (
  jx_c ⟨(jW (jm_4 _ (List.mem_of_getElem? (i := 102) rfl)) rfl), (jW (jm_4 _ (List.mem_of_getElem? (i := 103) rfl)) rfl), rfl, by decide⟩ (
  jx_c ⟨(jW (jm_4 _ (List.mem_of_getElem? (i := 87) rfl)) rfl), (jWs (by decide +kernel) rfl), rfl, by decide⟩ (
  jx_c ⟨(jW (jm_4 _ (List.mem_of_getElem? (i := 110) rfl)) rfl), (jW (jm_4 _ (List.mem_of_getElem? (i := 111) rfl)) rfl), rfl, by decide⟩ (
  jx_c ⟨(jW (jm_4 _ (List.mem_of_getElem? (i := 107) rfl)) rfl), (jWs (by decide +kernel) rfl), rfl, by decide⟩ (
  jx_c ⟨(jW (jm_4 _ (List.mem_of_getElem? (i := 38) rfl)) rfl), (jWs (by decide +kernel) rfl), rfl, by decide⟩ (
  jx_c ⟨(jW (jm_3 _ (List.mem_of_getElem? (i := 230) rfl)) rfl), (jW (jm_3 _ (List.mem_of_getElem? (i := 231) rfl)) rfl), rfl, by decide⟩ (
  jx_c ⟨(jW (jm_3 _ (List.mem_of_getElem? (i := 227) rfl)) rfl), (jWs (by decide +kernel) rfl), rfl, by decide⟩ (
  jx_c ⟨(jW (jm_4 _ (List.mem_of_getElem? (i := 114) rfl)) rfl), (jW (jm_4 _ (List.mem_of_getElem? (i := 115) rfl)) rfl), rfl, by decide⟩ (
  jx_c ⟨(jW (jm_3 _ (List.mem_of_getElem? (i := 218) rfl)) rfl), (jW (jm_3 _ (List.mem_of_getElem? (i := 219) rfl)) rfl), rfl, by decide⟩ (
  jx_c ⟨(jW (jm_5 _ (List.mem_of_getElem? (i := 213) rfl)) rfl), (jWs (by decide +kernel) rfl), rfl, by decide⟩ (
  jx_c ⟨(jW (jm_5 _ (List.mem_of_getElem? (i := 221) rfl)) rfl), (jWs (by decide +kernel) rfl), rfl, by decide⟩ (
  jx_c ⟨(jW (jm_5 _ (List.mem_of_getElem? (i := 237) rfl)) rfl), (jWs (by decide +kernel) rfl), rfl, by decide⟩ (
  jx_c ⟨(jW (jm_5 _ (List.mem_of_getElem? (i := 233) rfl)) rfl), (jWs (by decide +kernel) rfl), rfl, by decide⟩ (
  jx_c ⟨(jW (jm_6 _ (List.mem_of_getElem? (i := 1) rfl)) rfl), (jWs (by decide +kernel) rfl), rfl, by decide⟩ (
  jx_c ⟨(jW (jm_5 _ (List.mem_of_getElem? (i := 229) rfl)) rfl), (jWs (by decide +kernel) rfl), rfl, by decide⟩ (
  jx_c ⟨(jW (jm_6 _ (List.mem_of_getElem? (i := 5) rfl)) rfl), (jWs (by decide +kernel) rfl), rfl, by decide⟩ (
  jx_c ⟨(jW (jm_5 _ (List.mem_of_getElem? (i := 225) rfl)) rfl), (jWs (by decide +kernel) rfl), rfl, by decide⟩ (
  jx_c ⟨(jW (jm_5 _ (List.mem_of_getElem? (i := 217) rfl)) rfl), (jWs (by decide +kernel) rfl), rfl, by decide⟩ (
  jx_c ⟨(jW (jm_5 _ (List.mem_of_getElem? (i := 208) rfl)) rfl), (jW (jm_5 _ (List.mem_of_getElem? (i := 209) rfl)) rfl), rfl, by decide⟩ (
  jx_c ⟨(jW (jm_4 _ (List.mem_of_getElem? (i := 128) rfl)) rfl), (jW (jm_4 _ (List.mem_of_getElem? (i := 129) rfl)) rfl), rfl, by decide⟩ (
  jx_c ⟨(jW (jm_4 _ (List.mem_of_getElem? (i := 124) rfl)) rfl), (jW (jm_4 _ (List.mem_of_getElem? (i := 125) rfl)) rfl), rfl, by decide⟩ (
  jx_c ⟨(jW (jm_6 _ (List.mem_of_getElem? (i := 8) rfl)) rfl), (jW (jm_6 _ (List.mem_of_getElem? (i := 9) rfl)) rfl), rfl, by decide⟩ (
  jx_c ⟨(jW (jm_4 _ (List.mem_of_getElem? (i := 137) rfl)) rfl), (jW (jm_4 _ (List.mem_of_getElem? (i := 138) rfl)) rfl), rfl, by decide⟩ (
  jx_c ⟨(jW (jm_4 _ (List.mem_of_getElem? (i := 132) rfl)) rfl), (jW (jm_4 _ (List.mem_of_getElem? (i := 133) rfl)) rfl), rfl, by decide⟩ (
  jx_c ⟨(jW (jm_6 _ (List.mem_of_getElem? (i := 21) rfl)) rfl), (jWs (by decide +kernel) rfl), rfl, by decide⟩ (
  jx_c ⟨(jW (jm_6 _ (List.mem_of_getElem? (i := 17) rfl)) rfl), (jWs (by decide +kernel) rfl), rfl, by decide⟩ (
  jx_c ⟨(jW (jm_6 _ (List.mem_of_getElem? (i := 12) rfl)) rfl), (jW (jm_6 _ (List.mem_of_getElem? (i := 13) rfl)) rfl), rfl, by decide⟩ (
  jx_c ⟨(jW (jm_4 _ (List.mem_of_getElem? (i := 147) rfl)) rfl), (jW (jm_4 _ (List.mem_of_getElem? (i := 148) rfl)) rfl), rfl, by decide⟩ (
  jx_c ⟨(jW (jm_4 _ (List.mem_of_getElem? (i := 157) rfl)) rfl), (jW (jm_4 _ (List.mem_of_getElem? (i := 158) rfl)) rfl), rfl, by decide⟩ (
  jx_c ⟨(jW (jm_4 _ (List.mem_of_getElem? (i := 162) rfl)) rfl), (jW (jm_4 _ (List.mem_of_getElem? (i := 163) rfl)) rfl), rfl, by decide⟩ (
  jx_c ⟨(jW (jm_4 _ (List.mem_of_getElem? (i := 151) rfl)) rfl), (jW (jm_4 _ (List.mem_of_getElem? (i := 152) rfl)) rfl), rfl, by decide⟩ (
  jx_c ⟨(jW (jm_4 _ (List.mem_of_getElem? (i := 167) rfl)) rfl), (jW (jm_4 _ (List.mem_of_getElem? (i := 168) rfl)) rfl), rfl, by decide⟩ (
  jx_c ⟨(jW (jm_4 _ (List.mem_of_getElem? (i := 171) rfl)) rfl), (jW (jm_4 _ (List.mem_of_getElem? (i := 172) rfl)) rfl), rfl, by decide⟩ (
  jx_c ⟨(jW (jm_4 _ (List.mem_of_getElem? (i := 182) rfl)) rfl), (jWs (by decide +kernel) rfl), rfl, by decide⟩ (
  jx_c ⟨(jW (jm_4 _ (List.mem_of_getElem? (i := 175) rfl)) rfl), (jW (jm_4 _ (List.mem_of_getElem? (i := 176) rfl)) rfl), rfl, by decide⟩ (
  jx_c ⟨(jW (jm_4 _ (List.mem_of_getElem? (i := 190) rfl)) rfl), (jW (jm_4 _ (List.mem_of_getElem? (i := 191) rfl)) rfl), rfl, by decide⟩ (
  jx_c ⟨(jW (jm_4 _ (List.mem_of_getElem? (i := 143) rfl)) rfl), (jW (jm_4 _ (List.mem_of_getElem? (i := 144) rfl)) rfl), rfl, by decide⟩ (
  jx_c ⟨(jW (jm_6 _ (List.mem_of_getElem? (i := 41) rfl)) rfl), (jWs (by decide +kernel) rfl), rfl, by decide⟩ (
  jx_c ⟨(jW (jm_6 _ (List.mem_of_getElem? (i := 37) rfl)) rfl), (jWs (by decide +kernel) rfl), rfl, by decide⟩ (
  jx_c ⟨(jW (jm_6 _ (List.mem_of_getElem? (i := 33) rfl)) rfl), (jWs (by decide +kernel) rfl), rfl, by decide⟩ (
  jx_c ⟨(jW (jm_6 _ (List.mem_of_getElem? (i := 29) rfl)) rfl), (jWs (by decide +kernel) rfl), rfl, by decide⟩ (
  jx_c ⟨(jW (jm_6 _ (List.mem_of_getElem? (i := 45) rfl)) rfl), (jWs (by decide +kernel) rfl), rfl, by decide⟩ (
  jx_c ⟨(jW (jm_6 _ (List.mem_of_getElem? (i := 24) rfl)) rfl), (jW (jm_6 _ (List.mem_of_getElem? (i := 25) rfl)) rfl), rfl, by decide⟩ (
  jx_e))))))))))))))))))))))))))))))))))))))))))))))))))))))))))))))))))))))))))))))))))))))))))))))))))))))))))))))))))))))))))))))))))))))))))))))))))) b h
set_option maxRecDepth 100000 in
theorem jt_it_ok {b : Nat} (h : b ∈ jt_it) : Cond.instanceMethod (jt_N b) ∈ jt_W ∧ Cond.selects (jt_N b).cls (jt_N b) (jt_N b) ∈ jt_W ∧ (jt_N b).cls = "java/lang/String" := jx_all (P := fun b : Nat => Cond.instanceMethod (jt_N b) ∈ jt_W ∧ Cond.selects (jt_N b).cls (jt_N b) (jt_N b) ∈ jt_W ∧ (jt_N b).cls = "java/lang/String") (l := jt_it) (jx_c ⟨(jW (jm_2 _ (List.mem_of_getElem? (i := 219) rfl)) rfl), (jW (jm_2 _ (List.mem_of_getElem? (i := 220) rfl)) rfl), rfl⟩ (
  jx_c ⟨(jW (jm_2 _ (List.mem_of_getElem? (i := 229) rfl)) rfl), (jW (jm_2 _ (List.mem_of_getElem? (i := 230) rfl)) rfl), rfl⟩ (
  jx_c ⟨(jW (jm_2 _ (List.mem_of_getElem? (i := 225) rfl)) rfl), (jW (jm_2 _ (List.mem_of_getElem? (i := 226) rfl)) rfl), rfl⟩ (
  jx_c ⟨(jW (jm_2 _ (List.mem_of_getElem? (i := 215) rfl)) rfl), (jW (jm_2 _ (List.mem_of_getElem? (i := 216) rfl)) rfl), rfl⟩ (
  jx_c ⟨(jW (jm_2 _ (List.mem_of_getElem? (i := 211) rfl)) rfl), (jW (jm_2 _ (List.mem_of_getElem? (i := 212) rfl)) rfl), rfl⟩ (
  jx_c ⟨(jW (jm_4 _ (List.mem_of_getElem? (i := 56) rfl)) rfl), (jW (jm_4 _ (List.mem_of_getElem? (i := 57) rfl)) rfl), rfl⟩ (
  jx_e))))))) b h
set_option maxRecDepth 100000 in
theorem jt_is_ok {b : Nat} (h : b ∈ jt_is) : Cond.static (jt_N b) ∈ jt_W := jx_all (P := fun b : Nat => Cond.static (jt_N b) ∈ jt_W) (l := jt_is) (jx_c (jW (jm_2 _ (List.mem_of_getElem? (i := 236) rfl)) rfl) (
  jx_c (jW (jm_3 _ (List.mem_of_getElem? (i := 5) rfl)) rfl) (
  jx_c (jW (jm_2 _ (List.mem_of_getElem? (i := 233) rfl)) rfl) (
  jx_c (jW (jm_3 _ (List.mem_of_getElem? (i := 132) rfl)) rfl) (
  jx_c (jW (jm_3 _ (List.mem_of_getElem? (i := 135) rfl)) rfl) (
  jx_c (jW (jm_3 _ (List.mem_of_getElem? (i := 129) rfl)) rfl) (
  jx_c (jW (jm_3 _ (List.mem_of_getElem? (i := 157) rfl)) rfl) (
  jx_c (jW (jm_3 _ (List.mem_of_getElem? (i := 154) rfl)) rfl) (
  jx_c (jW (jm_4 _ (List.mem_of_getElem? (i := 16) rfl)) rfl) (
  jx_c (jW (jm_4 _ (List.mem_of_getElem? (i := 66) rfl)) rfl) (
  jx_c (jW (jm_4 _ (List.mem_of_getElem? (i := 63) rfl)) rfl) (
  jx_c (jW (jm_4 _ (List.mem_of_getElem? (i := 60) rfl)) rfl) (
  jx_c (jW (jm_4 _ (List.mem_of_getElem? (i := 118) rfl)) rfl) (
  jx_c (jW (jm_4 _ (List.mem_of_getElem? (i := 187) rfl)) rfl) (
  jx_e))))))))))))))) b h
set_option maxRecDepth 100000 in
theorem jt_ii_ok {b : Nat} (h : b ∈ jt_ii) : Cond.instanceMethod (jt_N b) ∈ jt_W ∧ (jt_N b).name = "<init>" ∧ jt_R b = none := jx_all (P := fun b : Nat => Cond.instanceMethod (jt_N b) ∈ jt_W ∧ (jt_N b).name = "<init>" ∧ jt_R b = none) (l := jt_ii) (jx_c ⟨(jW (jm_1 _ (List.mem_of_getElem? (i := 33) rfl)) rfl), rfl, rfl⟩ (
  jx_c ⟨(jW (jm_1 _ (List.mem_of_getElem? (i := 54) rfl)) rfl), rfl, rfl⟩ (
  jx_c ⟨(jW (jm_1 _ (List.mem_of_getElem? (i := 47) rfl)) rfl), rfl, rfl⟩ (
  jx_c ⟨(jW (jm_1 _ (List.mem_of_getElem? (i := 132) rfl)) rfl), rfl, rfl⟩ (
  jx_c ⟨(jW (jm_1 _ (List.mem_of_getElem? (i := 126) rfl)) rfl), rfl, rfl⟩ (
  jx_c ⟨(jW (jm_1 _ (List.mem_of_getElem? (i := 184) rfl)) rfl), rfl, rfl⟩ (
  jx_c ⟨(jW (jm_1 _ (List.mem_of_getElem? (i := 178) rfl)) rfl), rfl, rfl⟩ (
  jx_c ⟨(jW (jm_1 _ (List.mem_of_getElem? (i := 171) rfl)) rfl), rfl, rfl⟩ (
  jx_c ⟨(jW (jm_2 _ (List.mem_of_getElem? (i := 12) rfl)) rfl), rfl, rfl⟩ (
  jx_c ⟨(jW (jm_2 _ (List.mem_of_getElem? (i := 5) rfl)) rfl), rfl, rfl⟩ (
  jx_c ⟨(jW (jm_2 _ (List.mem_of_getElem? (i := 60) rfl)) rfl), rfl, rfl⟩ (
  jx_c ⟨(jW (jm_1 _ (List.mem_of_getElem? (i := 25) rfl)) rfl), rfl, rfl⟩ (
  jx_c ⟨(jW (jm_4 _ (List.mem_of_getElem? (i := 196) rfl)) rfl), rfl, rfl⟩ (
  jx_e)))))))))))))) b h
theorem jt_cl_at {b : Nat} (h : b < jt_C.length) : jt_cl[b]? = some (jt_C.getD b "", jt_T b, jt_n b) := by
  have h' : b < 13 := h
  unfold jt_cl
  rw [List.getElem?_map, List.getElem?_range h']
  rfl
theorem jt_descB : (List.range 13).all (fun b => (List.range (jt_n b)).all (fun k => decide (parseFieldDescriptor (jt_T b k).2.2.1 = some (jt_ft b k)) && decide (defaultValue (jt_ft b k) = if jt_rf b k = true then Value.null else .int 0))) = true := by decide +kernel
theorem jt_desc {b : Nat} (h : b < jt_C.length) : ∀ k, k < jt_n b → parseFieldDescriptor (jt_T b k).2.2.1 = some (jt_ft b k) := fun k hk =>
  of_decide_eq_true (jx_and (List.all_eq_true.mp (List.all_eq_true.mp jt_descB b (List.mem_range.mpr h)) k (List.mem_range.mpr hk))).1
theorem jt_dflt {b : Nat} (h : b < jt_C.length) : ∀ k, k < jt_n b → defaultValue (jt_ft b k) = if jt_rf b k = true then Value.null else .int 0 := fun k hk =>
  of_decide_eq_true (jx_and (List.all_eq_true.mp (List.all_eq_true.mp jt_descB b (List.mem_range.mpr h)) k (List.mem_range.mpr hk))).2
theorem jt_namesB : (List.range 13).all (fun b => (List.range (jt_n b)).all (fun x => (List.range (jt_n b)).all (fun y => decide (x = y) || decide ((jt_T b x).2.1 ≠ (jt_T b y).2.1)))) = true := by decide +kernel
theorem jt_names {b : Nat} (h : b < jt_C.length) : ∀ x, x < jt_n b → ∀ y, y < jt_n b → x ≠ y → (jt_T b x).2.1 ≠ (jt_T b y).2.1 := fun x hx y hy hxy => by
  have a := List.all_eq_true.mp (List.all_eq_true.mp (List.all_eq_true.mp jt_namesB b (List.mem_range.mpr h)) x (List.mem_range.mpr hx)) y (List.mem_range.mpr hy)
  rw [decide_eq_false hxy, Bool.false_or] at a
  exact of_decide_eq_true a
theorem jt_iniB : (List.range (jt_law + 1)).all (fun y => !jt_ini.getD y false || decide ((jt_N y).name = "<init>")) = true := by decide +kernel
theorem jt_ini_ok {y : Nat} (h : jt_ini.getD y false = true) : (jt_N y).name = "<init>" := by
  by_cases hy : y < jt_law + 1
  · have a := List.all_eq_true.mp jt_iniB y (List.mem_range.mpr hy)
    rw [h] at a
    exact of_decide_eq_true a
  · rw [List.getD_eq_getElem?_getD, List.getElem?_eq_none (by show jt_law + 1 ≤ y; omega)] at h
    cases h
theorem jl_0 : jx_All (fun w => w ∈ jt_W) (u_ws (jt_C.getD 0 "") (jt_T 0) (jt_n 0)) := jx_c (jW (jm_2 _ (List.mem_of_getElem? (i := 91) rfl)) rfl) (
  jx_c (jW (jm_2 _ (List.mem_of_getElem? (i := 93) rfl)) rfl) (
  jx_c (jW (jm_2 _ (List.mem_of_getElem? (i := 95) rfl)) rfl) (
  jx_c (jW (jm_2 _ (List.mem_of_getElem? (i := 97) rfl)) rfl) (
  jx_c (jW (jm_2 _ (List.mem_of_getElem? (i := 99) rfl)) rfl) (
  jx_c (jW (jm_2 _ (List.mem_of_getElem? (i := 101) rfl)) rfl) (
  jx_c (jW (jm_2 _ (List.mem_of_getElem? (i := 103) rfl)) rfl) (
  jx_c (jW (jm_2 _ (List.mem_of_getElem? (i := 105) rfl)) rfl) (
  jx_c (jW (jm_2 _ (List.mem_of_getElem? (i := 107) rfl)) rfl) (
  jx_e)))))))))
theorem jl_1 : jx_All (fun w => w ∈ jt_W) (u_ws (jt_C.getD 1 "") (jt_T 1) (jt_n 1)) := jx_c (jW (jm_1 _ (List.mem_of_getElem? (i := 38) rfl)) rfl) (
  jx_c (jW (jm_1 _ (List.mem_of_getElem? (i := 40) rfl)) rfl) (
  jx_e))
theorem jl_2 : jx_All (fun w => w ∈ jt_W) (u_ws (jt_C.getD 2 "") (jt_T 2) (jt_n 2)) := jx_c (jW (jm_1 _ (List.mem_of_getElem? (i := 118) rfl)) rfl) (
  jx_c (jW (jm_1 _ (List.mem_of_getElem? (i := 120) rfl)) rfl) (
  jx_e))
theorem jl_3 : jx_All (fun w => w ∈ jt_W) (u_ws (jt_C.getD 3 "") (jt_T 3) (jt_n 3)) := jx_c (jW (jm_1 _ (List.mem_of_getElem? (i := 89) rfl)) rfl) (
  jx_c (jW (jm_1 _ (List.mem_of_getElem? (i := 91) rfl)) rfl) (
  jx_c (jW (jm_1 _ (List.mem_of_getElem? (i := 93) rfl)) rfl) (
  jx_c (jW (jm_1 _ (List.mem_of_getElem? (i := 95) rfl)) rfl) (
  jx_c (jW (jm_1 _ (List.mem_of_getElem? (i := 97) rfl)) rfl) (
  jx_c (jW (jm_1 _ (List.mem_of_getElem? (i := 99) rfl)) rfl) (
  jx_c (jW (jm_1 _ (List.mem_of_getElem? (i := 101) rfl)) rfl) (
  jx_c (jW (jm_1 _ (List.mem_of_getElem? (i := 103) rfl)) rfl) (
  jx_c (jW (jm_1 _ (List.mem_of_getElem? (i := 105) rfl)) rfl) (
  jx_c (jW (jm_1 _ (List.mem_of_getElem? (i := 107) rfl)) rfl) (
  jx_c (jW (jm_1 _ (List.mem_of_getElem? (i := 109) rfl)) rfl) (
  jx_c (jW (jm_1 _ (List.mem_of_getElem? (i := 111) rfl)) rfl) (
  jx_c (jW (jm_1 _ (List.mem_of_getElem? (i := 113) rfl)) rfl) (
  jx_e)))))))))))))
theorem jl_4 : jx_All (fun w => w ∈ jt_W) (u_ws (jt_C.getD 4 "") (jt_T 4) (jt_n 4)) := jx_c (jW (jm_1 _ (List.mem_of_getElem? (i := 153) rfl)) rfl) (
  jx_c (jW (jm_1 _ (List.mem_of_getElem? (i := 155) rfl)) rfl) (
  jx_c (jW (jm_1 _ (List.mem_of_getElem? (i := 157) rfl)) rfl) (
  jx_c (jW (jm_1 _ (List.mem_of_getElem? (i := 159) rfl)) rfl) (
  jx_c (jW (jm_1 _ (List.mem_of_getElem? (i := 161) rfl)) rfl) (
  jx_c (jW (jm_1 _ (List.mem_of_getElem? (i := 163) rfl)) rfl) (
  jx_c (jW (jm_1 _ (List.mem_of_getElem? (i := 165) rfl)) rfl) (
  jx_e)))))))
theorem jl_5 : jx_All (fun w => w ∈ jt_W) (u_ws (jt_C.getD 5 "") (jt_T 5) (jt_n 5)) := jx_c (jW (jm_1 _ (List.mem_of_getElem? (i := 138) rfl)) rfl) (
  jx_c (jW (jm_1 _ (List.mem_of_getElem? (i := 140) rfl)) rfl) (
  jx_c (jW (jm_1 _ (List.mem_of_getElem? (i := 142) rfl)) rfl) (
  jx_e)))
theorem jl_6 : jx_All (fun w => w ∈ jt_W) (u_ws (jt_C.getD 6 "") (jt_T 6) (jt_n 6)) := jx_c (jW (jm_1 _ (List.mem_of_getElem? (i := 235) rfl)) rfl) (
  jx_c (jW (jm_1 _ (List.mem_of_getElem? (i := 237) rfl)) rfl) (
  jx_c (jW (jm_1 _ (List.mem_of_getElem? (i := 239) rfl)) rfl) (
  jx_e)))
theorem jl_7 : jx_All (fun w => w ∈ jt_W) (u_ws (jt_C.getD 7 "") (jt_T 7) (jt_n 7)) := jx_c (jW (jm_1 _ (List.mem_of_getElem? (i := 219) rfl)) rfl) (
  jx_c (jW (jm_1 _ (List.mem_of_getElem? (i := 221) rfl)) rfl) (
  jx_c (jW (jm_1 _ (List.mem_of_getElem? (i := 223) rfl)) rfl) (
  jx_c (jW (jm_1 _ (List.mem_of_getElem? (i := 225) rfl)) rfl) (
  jx_c (jW (jm_1 _ (List.mem_of_getElem? (i := 227) rfl)) rfl) (
  jx_c (jW (jm_1 _ (List.mem_of_getElem? (i := 229) rfl)) rfl) (
  jx_e))))))
theorem jl_8 : jx_All (fun w => w ∈ jt_W) (u_ws (jt_C.getD 8 "") (jt_T 8) (jt_n 8)) := jx_c (jW (jm_1 _ (List.mem_of_getElem? (i := 195) rfl)) rfl) (
  jx_c (jW (jm_1 _ (List.mem_of_getElem? (i := 197) rfl)) rfl) (
  jx_c (jW (jm_1 _ (List.mem_of_getElem? (i := 199) rfl)) rfl) (
  jx_c (jW (jm_1 _ (List.mem_of_getElem? (i := 201) rfl)) rfl) (
  jx_e))))
theorem jl_9 : jx_All (fun w => w ∈ jt_W) (u_ws (jt_C.getD 9 "") (jt_T 9) (jt_n 9)) := jx_c (jW (jm_2 _ (List.mem_of_getElem? (i := 40) rfl)) rfl) (
  jx_c (jW (jm_2 _ (List.mem_of_getElem? (i := 42) rfl)) rfl) (
  jx_c (jW (jm_2 _ (List.mem_of_getElem? (i := 44) rfl)) rfl) (
  jx_c (jW (jm_2 _ (List.mem_of_getElem? (i := 46) rfl)) rfl) (
  jx_c (jW (jm_2 _ (List.mem_of_getElem? (i := 48) rfl)) rfl) (
  jx_c (jW (jm_2 _ (List.mem_of_getElem? (i := 50) rfl)) rfl) (
  jx_c (jW (jm_2 _ (List.mem_of_getElem? (i := 52) rfl)) rfl) (
  jx_c (jW (jm_2 _ (List.mem_of_getElem? (i := 54) rfl)) rfl) (
  jx_e))))))))
theorem jl_10 : jx_All (fun w => w ∈ jt_W) (u_ws (jt_C.getD 10 "") (jt_T 10) (jt_n 10)) := jx_c (jW (jm_2 _ (List.mem_of_getElem? (i := 23) rfl)) rfl) (
  jx_c (jW (jm_2 _ (List.mem_of_getElem? (i := 25) rfl)) rfl) (
  jx_c (jW (jm_2 _ (List.mem_of_getElem? (i := 27) rfl)) rfl) (
  jx_c (jW (jm_2 _ (List.mem_of_getElem? (i := 29) rfl)) rfl) (
  jx_e))))
theorem jl_11 : jx_All (fun w => w ∈ jt_W) (u_ws (jt_C.getD 11 "") (jt_T 11) (jt_n 11)) := jx_c (jW (jm_2 _ (List.mem_of_getElem? (i := 69) rfl)) rfl) (
  jx_c (jW (jm_2 _ (List.mem_of_getElem? (i := 71) rfl)) rfl) (
  jx_c (jW (jm_2 _ (List.mem_of_getElem? (i := 73) rfl)) rfl) (
  jx_c (jW (jm_2 _ (List.mem_of_getElem? (i := 75) rfl)) rfl) (
  jx_c (jW (jm_2 _ (List.mem_of_getElem? (i := 77) rfl)) rfl) (
  jx_c (jW (jm_2 _ (List.mem_of_getElem? (i := 79) rfl)) rfl) (
  jx_e))))))
theorem jl_12 : jx_All (fun w => w ∈ jt_W) (u_ws (jt_C.getD 12 "") (jt_T 12) (jt_n 12)) := jx_c (jW (jm_5 _ (List.mem_of_getElem? (i := 5) rfl)) rfl) (
  jx_c (jW (jm_5 _ (List.mem_of_getElem? (i := 7) rfl)) rfl) (
  jx_c (jW (jm_5 _ (List.mem_of_getElem? (i := 9) rfl)) rfl) (
  jx_c (jW (jm_5 _ (List.mem_of_getElem? (i := 11) rfl)) rfl) (
  jx_c (jW (jm_5 _ (List.mem_of_getElem? (i := 13) rfl)) rfl) (
  jx_c (jW (jm_5 _ (List.mem_of_getElem? (i := 15) rfl)) rfl) (
  jx_c (jW (jm_5 _ (List.mem_of_getElem? (i := 17) rfl)) rfl) (
  jx_c (jW (jm_5 _ (List.mem_of_getElem? (i := 19) rfl)) rfl) (
  jx_c (jW (jm_5 _ (List.mem_of_getElem? (i := 21) rfl)) rfl) (
  jx_c (jW (jm_5 _ (List.mem_of_getElem? (i := 23) rfl)) rfl) (
  jx_c (jW (jm_5 _ (List.mem_of_getElem? (i := 25) rfl)) rfl) (
  jx_c (jW (jm_5 _ (List.mem_of_getElem? (i := 27) rfl)) rfl) (
  jx_c (jW (jm_5 _ (List.mem_of_getElem? (i := 29) rfl)) rfl) (
  jx_c (jW (jm_5 _ (List.mem_of_getElem? (i := 31) rfl)) rfl) (
  jx_c (jW (jm_5 _ (List.mem_of_getElem? (i := 33) rfl)) rfl) (
  jx_c (jW (jm_5 _ (List.mem_of_getElem? (i := 35) rfl)) rfl) (
  jx_c (jW (jm_5 _ (List.mem_of_getElem? (i := 37) rfl)) rfl) (
  jx_c (jW (jm_5 _ (List.mem_of_getElem? (i := 39) rfl)) rfl) (
  jx_c (jW (jm_5 _ (List.mem_of_getElem? (i := 41) rfl)) rfl) (
  jx_c (jW (jm_5 _ (List.mem_of_getElem? (i := 43) rfl)) rfl) (
  jx_c (jW (jm_5 _ (List.mem_of_getElem? (i := 45) rfl)) rfl) (
  jx_c (jW (jm_5 _ (List.mem_of_getElem? (i := 47) rfl)) rfl) (
  jx_c (jW (jm_5 _ (List.mem_of_getElem? (i := 49) rfl)) rfl) (
  jx_c (jW (jm_5 _ (List.mem_of_getElem? (i := 51) rfl)) rfl) (
  jx_c (jW (jm_5 _ (List.mem_of_getElem? (i := 53) rfl)) rfl) (
  jx_c (jW (jm_5 _ (List.mem_of_getElem? (i := 55) rfl)) rfl) (
  jx_c (jW (jm_5 _ (List.mem_of_getElem? (i := 57) rfl)) rfl) (
  jx_c (jW (jm_5 _ (List.mem_of_getElem? (i := 59) rfl)) rfl) (
  jx_c (jW (jm_5 _ (List.mem_of_getElem? (i := 61) rfl)) rfl) (
  jx_c (jW (jm_5 _ (List.mem_of_getElem? (i := 63) rfl)) rfl) (
  jx_c (jW (jm_5 _ (List.mem_of_getElem? (i := 65) rfl)) rfl) (
  jx_c (jW (jm_5 _ (List.mem_of_getElem? (i := 67) rfl)) rfl) (
  jx_c (jW (jm_5 _ (List.mem_of_getElem? (i := 69) rfl)) rfl) (
  jx_c (jW (jm_5 _ (List.mem_of_getElem? (i := 71) rfl)) rfl) (
  jx_c (jW (jm_5 _ (List.mem_of_getElem? (i := 73) rfl)) rfl) (
  jx_c (jW (jm_5 _ (List.mem_of_getElem? (i := 75) rfl)) rfl) (
  jx_c (jW (jm_5 _ (List.mem_of_getElem? (i := 77) rfl)) rfl) (
  jx_c (jW (jm_5 _ (List.mem_of_getElem? (i := 79) rfl)) rfl) (
  jx_c (jW (jm_5 _ (List.mem_of_getElem? (i := 81) rfl)) rfl) (
  jx_c (jW (jm_5 _ (List.mem_of_getElem? (i := 83) rfl)) rfl) (
  jx_c (jW (jm_5 _ (List.mem_of_getElem? (i := 85) rfl)) rfl) (
  jx_c (jW (jm_5 _ (List.mem_of_getElem? (i := 87) rfl)) rfl) (
  jx_c (jW (jm_5 _ (List.mem_of_getElem? (i := 89) rfl)) rfl) (
  jx_c (jW (jm_5 _ (List.mem_of_getElem? (i := 91) rfl)) rfl) (
  jx_c (jW (jm_5 _ (List.mem_of_getElem? (i := 93) rfl)) rfl) (
  jx_c (jW (jm_5 _ (List.mem_of_getElem? (i := 95) rfl)) rfl) (
  jx_e))))))))))))))))))))))))))))))))))))))))))))))
theorem jt_lays : ∀ {b : Nat}, b < jt_C.length → ∀ w ∈ u_ws (jt_C.getD b "") (jt_T b) (jt_n b), w ∈ jt_W
  | 0, _ => jx_all jl_0
  | 1, _ => jx_all jl_1
  | 2, _ => jx_all jl_2
  | 3, _ => jx_all jl_3
  | 4, _ => jx_all jl_4
  | 5, _ => jx_all jl_5
  | 6, _ => jx_all jl_6
  | 7, _ => jx_all jl_7
  | 8, _ => jx_all jl_8
  | 9, _ => jx_all jl_9
  | 10, _ => jx_all jl_10
  | 11, _ => jx_all jl_11
  | 12, _ => jx_all jl_12
  | b + 13, h => absurd h (by show ¬ b + 13 < 13; omega)
end
section
/-! A small machine over a pure store. Store: numbers, references, shape of each cell, how many cells, how many slots.
Shape of a cell: (0, kind, fields) an object; (1, type, length) an array of numbers; (2, type, length) an array of references. -/
abbrev jj_S : Type := (Nat → Nat → Int32) × (Nat → Nat → Option Nat) × (Nat → Nat × Nat × Nat) × Nat × Nat
abbrev jx_O : Type := Nat × Nat × Nat × Nat × Int32
abbrev jx_L : Type := List (Option Value)
abbrev jx_N : Type := Nat × jx_L × List Value × (Nat → Nat → Int32) × (Nat → Nat → Option Nat)
abbrev jx_Xs : Type := Nat × (Nat → Int32)
abbrev jx_F : Type := Nat → Nat → Nat → Nat → Int32 → jx_L → List Value → jj_S → Option jx_N
def jj_up (f : Nat → Nat → Int32) (i k : Nat) (x : Int32) : Nat → Nat → Int32 := fun a => if a = i then upd (f i) k x else f a
def jj_ur (f : Nat → Nat → Option Nat) (i k : Nat) (x : Option Nat) : Nat → Nat → Option Nat := fun a => if a = i then va_up (f i) k x else f a
def jj_uf (f : Nat → Nat → Int32) (i : Nat) (g : Nat → Int32) : Nat → Nat → Int32 := fun a => if a = i then g else f a
def jj_nw (σ : jj_S) (q : Nat × Nat × Nat) : jj_S := (fun a => if a = σ.2.2.2.1 then fun _ => 0 else σ.1 a, fun a => if a = σ.2.2.2.1 then fun _ => none else σ.2.1 a, fun a => if a = σ.2.2.2.1 then q else σ.2.2.1 a, σ.2.2.2.1 + 1, σ.2.2.2.2 + q.2.2)
def jx_rf (r : Option Nat) : Value := match r with
  | none => .null
  | some a => .ref a
def jx_no : jx_F := fun _ _ _ _ _ _ _ _ => none
def jx_psh (len : Nat) : jx_F := fun pc _ _ _ c L st σ => some (pc + len, L, .int c :: st, σ.1, σ.2.1)
def jx_ild (len : Nat) : jx_F := fun pc a _ _ _ L st σ => match L[a]? with
  | some (some (.int x)) => some (pc + len, L, .int x :: st, σ.1, σ.2.1)
  | _ => none
def jx_ald (len : Nat) : jx_F := fun pc a _ _ _ L st σ => match L[a]? with
  | some (some (.ref x)) => some (pc + len, L, .ref x :: st, σ.1, σ.2.1)
  | _ => none
def jx_ist (len : Nat) : jx_F := fun pc a _ _ _ L st σ => match st with
  | .int x :: r => if a < L.length then some (pc + len, L.set a (some (.int x)), r, σ.1, σ.2.1) else none
  | _ => none
def jx_ast (len : Nat) : jx_F := fun pc a _ _ _ L st σ => match st with
  | .ref x :: r => if a < L.length then some (pc + len, L.set a (some (.ref x)), r, σ.1, σ.2.1) else none
  | _ => none
def jx_inc : jx_F := fun pc a _ _ c L st σ => match L[a]? with
  | some (some (.int x)) => some (pc + 3, L.set a (some (.int (x + c))), st, σ.1, σ.2.1)
  | _ => none
def jx_bin (f : Int32 → Int32 → Int32) : jx_F := fun pc _ _ _ _ L st σ => match st with
  | .int y :: .int x :: r => some (pc + 1, L, .int (f x y) :: r, σ.1, σ.2.1)
  | _ => none
def jx_un (f : Int32 → Int32) : jx_F := fun pc _ _ _ _ L st σ => match st with
  | .int x :: r => some (pc + 1, L, .int (f x) :: r, σ.1, σ.2.1)
  | _ => none
def jx_dup : jx_F := fun pc _ _ _ _ L st σ => match st with
  | v :: r => if v.category = 1 then some (pc + 1, L, v :: v :: r, σ.1, σ.2.1) else none
  | _ => none
def jx_pop : jx_F := fun pc _ _ _ _ L st σ => match st with
  | v :: r => if v.category = 1 then some (pc + 1, L, r, σ.1, σ.2.1) else none
  | _ => none
def jx_dpx : jx_F := fun pc _ _ _ _ L st σ => match st with
  | v :: w :: r => if v.category = 1 ∧ w.category = 1 then some (pc + 1, L, v :: w :: v :: r, σ.1, σ.2.1) else none
  | _ => none
def jx_dp2 : jx_F := fun pc _ _ _ _ L st σ => match st with
  | v :: w :: r => if v.category = 1 ∧ w.category = 1 then some (pc + 1, L, v :: w :: v :: w :: r, σ.1, σ.2.1) else none
  | _ => none
def jx_br1 (q : Int32 → Bool) : jx_F := fun pc a _ _ _ L st σ => match st with
  | .int x :: r => some (if q x = true then a else pc + 3, L, r, σ.1, σ.2.1)
  | _ => none
def jx_br2 (q : Int32 → Int32 → Bool) : jx_F := fun pc a _ _ _ L st σ => match st with
  | .int y :: .int x :: r => some (if q x y = true then a else pc + 3, L, r, σ.1, σ.2.1)
  | _ => none
def jx_gto : jx_F := fun _ a _ _ _ L st σ => some (a, L, st, σ.1, σ.2.1)
def jx_obj (σ : jj_S) (i b d : Nat) : Bool := decide (i < σ.2.2.2.1) && (decide ((σ.2.2.1 i).1 = 0) && (decide ((σ.2.2.1 i).2.1 = b) && decide (d < jt_n b)))
def jx_get : jx_F := fun pc _ b d _ L st σ => match st with
  | .ref i :: r => if jx_obj σ i b d = true then some (pc + 3, L, (if jt_rf b d = true then jx_rf (σ.2.1 i d) else .int (σ.1 i d)) :: r, σ.1, σ.2.1) else none
  | _ => none
/-- may a number be put into a field of this type -/
def jx_fit (t : FieldType) (x : Int32) : Bool := match t with
  | .int => true
  | .boolean => decide (x = 0 ∨ x = 1)
  | _ => false
def jx_isr (t : FieldType) : Bool := match t with
  | .object _ => true
  | .array _ => true
  | _ => false
def jx_put : jx_F := fun pc _ b d _ L st σ => match st with
  | .int x :: .ref i :: r => if jx_obj σ i b d = true then (if jt_rf b d = false ∧ jx_fit (jt_ft b d) x = true then some (pc + 3, L, r, jj_up σ.1 i d x, σ.2.1) else none) else none
  | .ref x :: .ref i :: r => if jx_obj σ i b d = true then (if jt_rf b d = true ∧ jx_isr (jt_ft b d) = true then some (pc + 3, L, r, σ.1, jj_ur σ.2.1 i d (some x)) else none) else none
  | _ => none
/-- array of kind q (1 numbers, 2 references) and type t, index in range -/
def jx_arr (σ : jj_S) (q t i : Nat) (x : Int32) : Bool := decide (i < σ.2.2.2.1) && (decide ((σ.2.2.1 i).1 = q) && (decide ((σ.2.2.1 i).2.1 = t) && (!decide (x < 0) && decide (x.toNatClampNeg < (σ.2.2.1 i).2.2))))
def jx_nld (t : Nat) : jx_F := fun pc _ _ _ _ L st σ => match st with
  | .int x :: .ref i :: r => if jx_arr σ 1 t i x = true then some (pc + 1, L, .int (σ.1 i x.toNatClampNeg) :: r, σ.1, σ.2.1) else none
  | _ => none
def jx_obt (t : Nat) : Bool := match jt_ty[t]? with
  | some (.object _) => true
  | _ => false
def jx_rld : jx_F := fun pc _ _ _ _ L st σ => match st with
  | .int x :: .ref i :: r => if jx_arr σ 2 (σ.2.2.1 i).2.1 i x = true ∧ jx_obt (σ.2.2.1 i).2.1 = true then some (pc + 1, L, jx_rf (σ.2.1 i x.toNatClampNeg) :: r, σ.1, σ.2.1) else none
  | _ => none
def jx_nst (t : Nat) (nar : Int32 → Int32) : jx_F := fun pc _ _ _ _ L st σ => match st with
  | .int v :: .int x :: .ref i :: r => if jx_arr σ 1 t i x = true then some (pc + 1, L, r, jj_up σ.1 i x.toNatClampNeg (nar v), σ.2.1) else none
  | _ => none
/-- the class number of the cells that a row of references of type b holds -/
def jx_rst : jx_F := fun pc _ b d _ L st σ => match st with
  | .ref v :: .int x :: .ref i :: r => if jx_arr σ 2 b i x = true ∧ v < σ.2.2.2.1 ∧ (σ.2.2.1 v).1 = 0 ∧ (σ.2.2.1 v).2.1 = d then some (pc + 1, L, r, σ.1, jj_ur σ.2.1 i x.toNatClampNeg (some v)) else none
  | _ => none
def jx_len : jx_F := fun pc _ _ _ _ L st σ => match st with
  | .ref i :: r => if i < σ.2.2.2.1 ∧ ((σ.2.2.1 i).1 = 1 ∨ (σ.2.2.1 i).1 = 2) ∧ (σ.2.2.1 i).2.1 < jt_ty.length then some (pc + 1, L, .int (Int32.ofNat (σ.2.2.1 i).2.2) :: r, σ.1, σ.2.1) else none
  | _ => none
def jx_tsw : jx_F := fun _ a _ _ _ L st σ => match st with
  | .int x :: r => match jt_sw[a]? with
    | some w => some (if x.toInt < w.2.1 ∨ w.2.2.1 < x.toInt then w.1 else w.2.2.2.getD (x.toInt - w.2.1).toNat w.1, L, r, σ.1, σ.2.1)
    | none => none
  | _ => none
/-! constants: texts at 1000000 + j, their bytes at 2000000 + j, the script at 4000000; the formatter is the value retAddr 0 -/
def jx_kst : jx_F := fun pc _ b _ _ L st σ => some (pc + 2, L, .ref (1000000 + b) :: st, σ.1, σ.2.1)
def jx_sta (v : Value) : jx_F := fun pc _ _ _ _ L st σ => some (pc + 3, L, v :: st, σ.1, σ.2.1)
def jx_cod : jx_F := fun pc _ _ _ _ L st σ => match st with
  | .ref i :: r => if 1000000 ≤ i ∧ i < 1000000 + jt_sb.length then some (pc + 3, L, .int 0 :: r, σ.1, σ.2.1) else none
  | _ => none
def jx_val : jx_F := fun pc _ _ _ _ L st σ => match st with
  | .ref i :: r => if 1000000 ≤ i ∧ i < 1000000 + jt_sb.length then some (pc + 3, L, .ref (i + 1000000) :: r, σ.1, σ.2.1) else none
  | _ => none
def jx_bld : jx_F := fun pc _ _ _ _ L st σ => match st with
  | .int x :: .ref i :: r => if (2000000 ≤ i ∧ i < 2000000 + jt_sb.length) ∧ ¬ x < 0 ∧ x.toNatClampNeg < (jt_sb.getD (i - 2000000) []).length then some (pc + 1, L, .int ((jt_sb.getD (i - 2000000) []).getD x.toNatClampNeg 0) :: r, σ.1, σ.2.1) else none
  | _ => none
def jx_bln : jx_F := fun pc _ _ _ _ L st σ => match st with
  | .ref i :: r => if 2000000 ≤ i ∧ i < 2000000 + jt_sb.length then some (pc + 1, L, .int (Int32.ofNat (jt_sb.getD (i - 2000000) []).length) :: r, σ.1, σ.2.1) else none
  | _ => none
def jx_sld (xs : jx_Xs) : jx_F := fun pc _ _ _ _ L st σ => match st with
  | .int x :: .ref i :: r => if i = 4000000 ∧ ¬ x < 0 ∧ x.toNatClampNeg < xs.1 then some (pc + 1, L, .int (xs.2 x.toNatClampNeg) :: r, σ.1, σ.2.1) else none
  | _ => none
def jx_sln (xs : jx_Xs) : jx_F := fun pc _ _ _ _ L st σ => match st with
  | .ref i :: r => if i = 4000000 then some (pc + 1, L, .int (Int32.ofNat xs.1) :: r, σ.1, σ.2.1) else none
  | _ => none
def jx_c1 (l : List Value) : Bool := l.all (fun v => decide (v.category = 1))
def jx_oin : jx_F := fun pc _ _ _ _ L st σ => match st with
  | .ref _ :: r => if r.length ≤ 8 ∧ jx_c1 r = true then some (pc + 3, L, r, σ.1, σ.2.1) else none
  | _ => none
def jx_mm (f : Int32 → Int32 → Int32) : jx_F := fun pc _ _ _ _ L st σ => match st with
  | .int y :: .int x :: r => if r.length ≤ 8 ∧ jx_c1 r = true then some (pc + 3, L, .int (f x y) :: r, σ.1, σ.2.1) else none
  | _ => none
/-- arraycopy of a row of characters -/
def jx_cpy : jx_F := fun pc _ _ _ _ L st σ => match st with
  | .int n :: .int dp :: .ref j :: .int sp :: .ref i :: r =>
    if (r.length ≤ 8 ∧ jx_c1 r = true ∧ i < σ.2.2.2.1 ∧ j < σ.2.2.2.1 ∧ (σ.2.2.1 i).1 = 1 ∧ (σ.2.2.1 i).2.1 = 1 ∧ (σ.2.2.1 j).1 = 1 ∧ (σ.2.2.1 j).2.1 = 1) ∧ (¬ sp < 0 ∧ ¬ dp < 0 ∧ ¬ n < 0 ∧ sp.toNatClampNeg + n.toNatClampNeg ≤ (σ.2.2.1 i).2.2 ∧ dp.toNatClampNeg + n.toNatClampNeg ≤ (σ.2.2.1 j).2.2) ∧ (List.range n.toNatClampNeg).all (fun u => fits .char (.int (σ.1 i (sp.toNatClampNeg + u)))) = true
    then some (pc + 3, L, r, jj_uf σ.1 j (va_cpy (σ.1 i) (σ.1 j) sp.toNatClampNeg dp.toNatClampNeg n.toNatClampNeg), σ.2.1) else none
  | _ => none
def jx_tb (xs : jx_Xs) : List jx_F := [
  jx_psh 1, jx_psh 2, jx_psh 3, jx_psh 2, jx_psh 3,
  jx_ild 1, jx_ild 2, jx_ald 1, jx_ald 2, jx_ist 1, jx_ist 2, jx_ast 1, jx_ast 2, jx_inc,
  jx_bin (fun x y => x + y), jx_bin (fun x y => x - y), jx_bin (fun x y => x * y), jx_bin (fun x y => x &&& y), jx_bin (fun x y => x ||| y), jx_bin (fun x y => x ^^^ y),
  jx_bin (fun x y => x <<< (y &&& 31)), jx_bin (fun x y => x >>> (y &&& 31)), jx_bin (fun x y => (x.toUInt32 >>> (y.toUInt32 &&& Int32.toUInt32 31)).toInt32),
  jx_un (fun x => -x), jx_un (fun x => x.toInt8.toInt32), jx_un (fun x => (x.toUInt32 % 65536).toInt32),
  jx_dup, jx_pop, jx_dpx, jx_dp2,
  jx_br1 (fun x => decide (x = 0)), jx_br1 (fun x => decide (¬ x = 0)), jx_br1 (fun x => decide (x < 0)), jx_br1 (fun x => decide (0 ≤ x)), jx_br1 (fun x => decide (0 < x)), jx_br1 (fun x => decide (x ≤ 0)),
  jx_br2 (fun x y => decide (x = y)), jx_br2 (fun x y => decide (¬ x = y)), jx_br2 (fun x y => decide (x < y)), jx_br2 (fun x y => decide (y ≤ x)), jx_br2 (fun x y => decide (y < x)), jx_br2 (fun x y => decide (x ≤ y)),
  jx_gto, jx_mm (fun x y => if x < y then y else x), jx_mm (fun x y => if y < x then y else x),
  jx_get, jx_get, jx_put, jx_put, jx_put,
  jx_nld 0, jx_nld 1, jx_nld 2, jx_rld, jx_len,
  jx_nst 0 (fun v => v), jx_nst 1 (vp_nar .char), jx_nst 2 (vp_nar .boolean), jx_rst,
  jx_tsw, jx_kst, jx_sta (.int 1), jx_sta (.retAddr 0), jx_cod, jx_val, jx_bld, jx_bln, jx_sld xs, jx_sln xs, jx_oin, jx_cpy]
def jx_sem (xs : jx_Xs) (o : jx_O) (pc : Nat) (L : jx_L) (st : List Value) (σ : jj_S) : Option jx_N := ((jx_tb xs).getD o.1 jx_no) pc o.2.1 o.2.2.1 o.2.2.2.1 o.2.2.2.2 L st σ
/-- making: length of the instruction, shape, what is left on the stack -/
def jx_new (o : jx_O) (st : List Value) (σ : jj_S) : Option (Nat × (Nat × Nat × Nat) × List Value) :=
  if σ.2.2.2.1 < 1000000 then
    if o.1 = 72 then some (3, (0, o.2.2.1, jt_n o.2.2.1), st)
    else match st with
      | .int x :: r => if ¬ x < 0 ∧ x.toNatClampNeg ≤ 1000000 then (if o.1 = 73 then some (2, (1, o.2.2.1, x.toNatClampNeg), r) else if o.1 = 74 then some (3, (2, o.2.2.1, x.toNatClampNeg), r) else none) else none
      | _ => none
  else none
/-- may this be the receiver of method y: 80, 83 an object of its kind; 86 a text -/
def jx_rcv (o : jx_O) (σ : jj_S) (as : List Value) : Bool :=
  if o.1 = 81 ∨ o.1 = 84 then true
  else match as with
    | .ref i :: _ => if o.1 = 86 then decide (1000000 ≤ i ∧ i < 1000000 + jt_sb.length) else if o.1 = 80 ∨ o.1 = 83 then decide (i < σ.2.2.2.1 ∧ (σ.2.2.1 i).1 = 0 ∧ (σ.2.2.1 i).2.1 = jt_rc.getD o.2.2.1 99) else decide (o.1 = 82 ∨ o.1 = 85)
    | _ => false
/-- calls: arguments in order, what is left on the stack -/
def jx_cal (o : jx_O) (st : List Value) (σ : jj_S) : Option (List Value × List Value) :=
  if o.2.2.2.1 ≤ st.length ∧ st.length ≤ o.2.2.2.1 + 8 ∧ jx_c1 st = true ∧ jx_rcv o σ (st.take o.2.2.2.1).reverse = true then some ((st.take o.2.2.2.1).reverse, st.drop o.2.2.2.1) else none
def jx_ret (y : Nat) (o : jx_O) (st : List Value) : Option (Option Value) :=
  match st with
  | [] => if o.1 = 91 ∧ jt_R y = none then some none else none
  | [.int v] => if o.1 = 90 then (match jt_R y with
    | some .int => some (some (.int v))
    | some .boolean => if v = 0 ∨ v = 1 then some (some (.int v)) else none
    | some .char => if vp_nar .char v = v then some (some (.int v)) else none
    | some .byte => if vp_nar .byte v = v then some (some (.int v)) else none
    | _ => none) else none
  | [.ref i] => if o.1 = 92 then (match jt_R y with
    | some (.object _) => some (some (.ref i))
    | some (.array _) => some (some (.ref i))
    | _ => none) else none
  | _ => none
def jx_ent (y : Nat) (as : List Value) : jx_L := as.map some ++ List.replicate (jt_L y - as.length) none
def jx_op (y pc : Nat) : Option jx_O := (jt_ops.getD y []).lookup pc
def jx_run (xs : jx_Xs) : Nat → Nat → Nat → jx_L → List Value → jj_S → Option (Option Value × jj_S)
  | 0, _, _, _, _, _ => none
  | f + 1, y, pc, L, st, σ => match jx_op y pc with
    | none => none
    | some o =>
      if o.1 < 72 then match jx_sem xs o pc L st σ with
        | some q => jx_run xs f y q.1 q.2.1 q.2.2.1 (q.2.2.2.1, q.2.2.2.2, σ.2.2)
        | none => none
      else if o.1 < 80 then match jx_new o st σ with
        | some q => jx_run xs f y (pc + q.1) L (.ref σ.2.2.2.1 :: q.2.2) (jj_nw σ q.2.1)
        | none => none
      else if o.1 < 90 then match jx_cal o st σ with
        | some q => match jx_run xs f o.2.2.1 0 (jx_ent o.2.2.1 q.1) [] σ with
          | some r => jx_run xs f y (pc + 3) L (r.1.toList ++ q.2) r.2
          | none => none
        | none => none
      else match jx_ret y o st with
        | some v => some (v, σ)
        | none => none
/-- more fuel does no harm -/
theorem jx_more {xs : jx_Xs} : ∀ (f : Nat) {y pc : Nat} {L : jx_L} {st : List Value} {σ : jj_S} {r : Option Value × jj_S}, jx_run xs f y pc L st σ = some r → jx_run xs (f + 1) y pc L st σ = some r := by
  intro f
  induction f with
  | zero => intro y pc L st σ r h; cases (show none = some r from h)
  | succ f ih =>
    intro y pc L st σ r h
    rw [jx_run] at h ⊢
    cases ho : jx_op y pc with
    | none => rw [ho] at h; cases h
    | some o =>
      rw [ho] at h
      dsimp only at h ⊢
      by_cases h1 : o.1 < 72
      · rw [if_pos h1] at h ⊢
        cases hq : jx_sem xs o pc L st σ with
        | none => rw [hq] at h; cases h
        | some q => rw [hq] at h; exact ih h
      · rw [if_neg h1] at h ⊢
        by_cases h2 : o.1 < 80
        · rw [if_pos h2] at h ⊢
          cases hq : jx_new o st σ with
          | none => rw [hq] at h; cases h
          | some q => rw [hq] at h; exact ih h
        · rw [if_neg h2] at h ⊢
          by_cases h3 : o.1 < 90
          · rw [if_pos h3] at h ⊢
            cases hq : jx_cal o st σ with
            | none => rw [hq] at h; cases h
            | some q =>
              rw [hq] at h
              dsimp only at h ⊢
              cases hr : jx_run xs f o.2.2.1 0 (jx_ent o.2.2.1 q.1) [] σ with
              | none => rw [hr] at h; cases h
              | some u => rw [hr] at h; rw [ih hr]; exact ih h
          · rw [if_neg h3] at h ⊢
            exact h
theorem jx_le {xs : jx_Xs} {f g : Nat} (hg : f ≤ g) {y pc : Nat} {L : jx_L} {st : List Value} {σ : jj_S} {r : Option Value × jj_S} (h : jx_run xs f y pc L st σ = some r) : jx_run xs g y pc L st σ = some r := by
  induction hg with
  | refl => exact h
  | step _ ih => exact jx_more _ ih
/-- cells and slots only grow -/
theorem jx_grow {xs : jx_Xs} : ∀ (f : Nat) {y pc : Nat} {L : jx_L} {st : List Value} {σ : jj_S} {r : Option Value × jj_S}, jx_run xs f y pc L st σ = some r → σ.2.2.2.1 ≤ r.2.2.2.2.1 ∧ σ.2.2.2.2 ≤ r.2.2.2.2.2 := by
  intro f
  induction f with
  | zero => intro y pc L st σ r h; cases (show none = some r from h)
  | succ f ih =>
    intro y pc L st σ r h
    rw [jx_run] at h
    cases ho : jx_op y pc with
    | none => rw [ho] at h; cases h
    | some o =>
      rw [ho] at h
      dsimp only at h
      by_cases h1 : o.1 < 72
      · rw [if_pos h1] at h
        cases hq : jx_sem xs o pc L st σ with
        | none => rw [hq] at h; cases h
        | some q => rw [hq] at h; exact ih (σ := (q.2.2.2.1, q.2.2.2.2, σ.2.2)) h
      · rw [if_neg h1] at h
        by_cases h2 : o.1 < 80
        · rw [if_pos h2] at h
          cases hq : jx_new o st σ with
          | none => rw [hq] at h; cases h
          | some q =>
            rw [hq] at h
            have := ih h
            simp only [jj_nw] at this
            exact ⟨by omega, by omega⟩
        · rw [if_neg h2] at h
          by_cases h3 : o.1 < 90
          · rw [if_pos h3] at h
            cases hq : jx_cal o st σ with
            | none => rw [hq] at h; cases h
            | some q =>
              rw [hq] at h
              dsimp only at h
              cases hr : jx_run xs f o.2.2.1 0 (jx_ent o.2.2.1 q.1) [] σ with
              | none => rw [hr] at h; cases h
              | some u =>
                rw [hr] at h
                have a := ih hr
                have b := ih h
                exact ⟨by omega, by omega⟩
          · rw [if_neg h3] at h
            cases hq : jx_ret y o st with
            | none => rw [hq] at h; cases h
            | some v => rw [hq] at h; cases h; exact ⟨Nat.le_refl _, Nat.le_refl _⟩
end
section
/-! The judgement: what the small machine's state says of the real one. X: launch, slots of the kinds, where the store begins, where the constants lie, array classes, the script. -/
abbrev jj_X : Type := Launch × va_G × Nat × (Nat → Nat) × (Nat → ClassId) × jx_Xs
def jj_ad (X : jj_X) (i : Nat) : Nat := if i < 1000000 then X.2.2.1 + i else X.2.2.2.1 i
theorem jj_ad_lo {X : jj_X} {i : Nat} (h : i < 1000000) : jj_ad X i = X.2.2.1 + i := if_pos h
theorem jj_ad_hi {X : jj_X} {i : Nat} (h : 1000000 ≤ i) : jj_ad X i = X.2.2.2.1 i := if_neg (by omega)
def jj_fo (X : jj_X) : Option Nat := if X.2.2.2.1 3000001 = 0 then none else some (X.2.2.2.1 3000000)
def jj_cv (X : jj_X) (v : Value) : Value := match v with
  | .ref i => .ref (jj_ad X i)
  | .retAddr _ => va_rf (jj_fo X)
  | w => w
theorem jj_cv_rf {X : jj_X} (r : Option Nat) : jj_cv X (jx_rf r) = va_rf (r.map (jj_ad X)) := by cases r <;> rfl
theorem jj_cv_cat {X : jj_X} (v : Value) : (jj_cv X v).category = v.category := by
  cases v with
  | retAddr k => show (va_rf (jj_fo X)).category = 1; cases jj_fo X <;> rfl
  | _ => rfl
def jj_fs (X : jj_X) (σ : jj_S) (i ci : Nat) : List Value := (List.range (jt_n ci)).map fun k => if jt_rf ci k = true then va_rf ((σ.2.1 i k).map (jj_ad X)) else .int (σ.1 i k)
def jj_E (X : jj_X) (σ : jj_S) (i : Nat) : va_E :=
  if (σ.2.2.1 i).1 = 0 then .inr ((σ.2.2.1 i).2.1, jj_fs X σ i (σ.2.2.1 i).2.1)
  else if (σ.2.2.1 i).1 = 1 then .inl (X.2.2.2.2.1 (σ.2.2.1 i).2.1, (σ.2.2.1 i).2.2, .inl (σ.1 i))
  else .inl (X.2.2.2.2.1 (σ.2.2.1 i).2.1, (σ.2.2.1 i).2.2, .inr (.inr (.inr (.inr fun j => (σ.2.1 i j).map (jj_ad X)))))
theorem jj_E0 {X : jj_X} {σ : jj_S} {i : Nat} (h : (σ.2.2.1 i).1 = 0) : jj_E X σ i = .inr ((σ.2.2.1 i).2.1, jj_fs X σ i (σ.2.2.1 i).2.1) := if_pos h
theorem jj_E1 {X : jj_X} {σ : jj_S} {i : Nat} (h : (σ.2.2.1 i).1 = 1) : jj_E X σ i = .inl (X.2.2.2.2.1 (σ.2.2.1 i).2.1, (σ.2.2.1 i).2.2, .inl (σ.1 i)) := by
  unfold jj_E
  rw [if_neg (by omega), if_pos h]
theorem jj_E2 {X : jj_X} {σ : jj_S} {i : Nat} (h : (σ.2.2.1 i).1 = 2) : jj_E X σ i = .inl (X.2.2.2.2.1 (σ.2.2.1 i).2.1, (σ.2.2.1 i).2.2, .inr (.inr (.inr (.inr fun j => (σ.2.1 i j).map (jj_ad X))))) := by
  unfold jj_E
  rw [if_neg (by omega), if_neg (by omega)]
def jj_wl (X : jj_X) (σ : jj_S) : va_W := (List.range σ.2.2.2.1).map fun i => (jj_ad X i, jj_E X σ i)
theorem jj_wl_at {X : jj_X} {σ : jj_S} {i : Nat} (h : i < σ.2.2.2.1) : (jj_wl X σ)[i]? = some (jj_ad X i, jj_E X σ i) := by
  simp [jj_wl, h]
theorem jj_wl_lt {X : jj_X} {σ : jj_S} {i : Nat} {p : Nat × va_E} (h : (jj_wl X σ)[i]? = some p) : i < σ.2.2.2.1 ∧ p = (jj_ad X i, jj_E X σ i) := by
  have hl : i < σ.2.2.2.1 := by simpa [jj_wl] using (List.getElem?_eq_some_iff.mp h).1
  rw [jj_wl_at hl] at h
  exact ⟨hl, (Option.some.inj h).symm⟩
theorem jj_wl_set {X : jj_X} {σ τ : jj_S} {i : Nat} {e : va_E} (h : i < σ.2.2.2.1) (ht : τ.2.2.2.1 = σ.2.2.2.1) (he : jj_E X τ i = e) (ho : ∀ j, j ≠ i → jj_E X τ j = jj_E X σ j) : (jj_wl X σ).set i (jj_ad X i, e) = jj_wl X τ := by
  apply List.ext_getElem?
  intro j
  rw [List.getElem?_set]
  by_cases hj : i = j
  · subst hj
    rw [if_pos rfl, if_pos (by simpa [jj_wl] using h), jj_wl_at (by rw [ht]; exact h), he]
  · rw [if_neg hj]
    by_cases hl : j < σ.2.2.2.1
    · rw [jj_wl_at hl, jj_wl_at (by rw [ht]; exact hl), ho j (Ne.symm hj)]
    · rw [List.getElem?_eq_none (by simp [jj_wl]; omega), List.getElem?_eq_none (by simp [jj_wl, ht]; omega)]
/-- the picture: every pure cell lies at start + its number -/
def jj_P (X : jj_X) (σ : jj_S) (H : Heap) : Prop := σ.2.2.2.1 ≤ 1000000 ∧ va_P X.2.1 jt_cl (jj_wl X σ) H
abbrev jj_A (X : jj_X) : Nat → Prop := fun q => X.2.2.1 ≤ q
theorem jj_P.D {X : jj_X} {σ : jj_S} {H : Heap} (h : jj_P X σ H) : va_D (jj_A X) (jj_wl X σ) := by
  have ix : ∀ (i : Nat) (p : Nat × va_E), (jj_wl X σ)[i]? = some p → p.1 = X.2.2.1 + i := by
    intro i p hp
    obtain ⟨hl, rfl⟩ := jj_wl_lt hp
    exact jj_ad_lo (Nat.lt_of_lt_of_le hl h.1)
  refine ⟨fun i j p q hp hq e => ?_, fun k q hq => ?_⟩
  · have a := ix i p hp
    have b := ix j q hq
    omega
  · have a := ix k q hq
    show X.2.2.1 ≤ q.1
    omega
def jj_tys (X : jj_X) : List (ClassId × FieldType) := (List.range jt_ty.length).map fun t => (X.2.2.2.2.1 t, jt_ty.getD t .int)
theorem jj_tys_at {X : jj_X} {t : Nat} {ty : FieldType} (h : jt_ty[t]? = some ty) : (jj_tys X)[t]? = some (X.2.2.2.2.1 t, ty) := by
  have hl : t < jt_ty.length := (List.getElem?_eq_some_iff.mp h).1
  have h2 := (List.getElem?_eq_some_iff.mp h).2
  simp [jj_tys, hl, h2]
/-- the constants -/
def jj_C (X : jj_X) (s : State) : Prop :=
  vk_S jt_sb.length (jt_sb.map List.length) jt_sb (fun i => X.2.2.2.1 (1000000 + i)) (fun i => X.2.2.2.1 (2000000 + i)) (jj_A X) s s.heap ∧
  va_Z jt_z0.1 jt_z0.2.1 jt_z0.2.2 (.int 1) (jj_A X) s s.heap ∧ va_Z jt_z1.1 jt_z1.2.1 jt_z1.2.2 (va_rf (jj_fo X)) (jj_A X) s s.heap ∧
  (∀ q ∈ jt_ls, vk_R (jt_on.getD q.1 "") q.2.1 (jt_st.getD q.2.2 "") (X.2.2.2.1 (1000000 + q.2.2)) s)
/-- what stays true of the tables, and of the cells outside the store -/
def jj_K (X : jj_X) (s : State) : Prop := va_K X.2.1 jt_cl (jj_tys X) s ∧
  (∀ q ∈ jt_ln, va_Nw (.fieldLinkNest (jt_on.getD q.1 "") q.2.1 (jt_T q.2.2.1 q.2.2.2).1 (jt_T q.2.2.1 q.2.2.2).2.1 (jt_T q.2.2.1 q.2.2.2).2.2.1 jt_host) s) ∧
  (∀ q ∈ jt_lmn, va_Nw (.methodLinkNest (jt_on.getD q.1 "") q.2.1 (jt_N q.2.2) jt_host) s) ∧
  (∀ C ∈ jt_ao, va_AO C s) ∧ jj_C X s
theorem jj_K.to {X : jj_X} {s U : State} {H : Heap} {locs : List Loc} (h : jj_K X s) (hW : s.WarmedH U.vm) (hU : U.heap = H) (hS : va_S (jj_A X) s.heap H locs) : jj_K X U := by
  obtain ⟨h1, h2, h3, h4, h5, h6, h7, h8⟩ := h
  have hk : ∀ a : Nat, a < s.heap.size → ¬ jj_A X a → U.heap[a]? = s.heap[a]? := fun a p q => by rw [hU]; exact hS.2.1 a p q
  exact ⟨va_K.moved hW.alike h1, fun q hq => (h2 q hq).warmF hW, fun q hq => (h3 q hq).warmM hW, fun C hC => (h4 C hC).moved hW.alike,
    (vk_S.moved hW.alike h5).kept hk, (va_Z.moved hW.alike h6).kept hk, (va_Z.moved hW.alike h7).kept hk, fun q hq => (h8 q hq).warm hW⟩
def jj_V (X : jj_X) (y : Nat) (p : Program) (s : State) (m : MethodId) (args : Array Value) (meth : Method) (c : Code) : Prop :=
  p.tables.exec = Jvm.exec ∧ c.code = jt_B y ∧ c.maxLocals = jt_L y ∧ s.vm.findClass (jt_N y).cls = some m.cls ∧ (∀ w ∈ jt_W, w.before args s = true) ∧ meth.sig.returnType = jt_R y ∧ meth.locks = false ∧ ((jt_N y).name = "<init>" → meth.name = "<init>") ∧ jj_K X s ∧ X.2.2.1 ≤ s.heap.size ∧
  (y = jt_law → va_X (X.2.2.2.1 4000000) X.2.2.2.2.2.1 X.2.2.2.2.2.2 s s.heap ∧ X.2.2.2.1 4000000 < s.heap.size ∧ ¬ jj_A X (X.2.2.2.1 4000000) ∧ args = #[Value.ref (X.2.2.2.1 4000000)] ∧ X.2.2.1 = s.heap.size)
def jj_L (X : jj_X) (y : Nat) (L : jx_L) (ls : Array Slot) : Prop := ls.size = jt_L y ∧ lv_wf ls ∧ L.length = jt_L y ∧ ∀ (i : Nat) (v : Value), L[i]? = some (some v) → ls[i]? = some (.val (jj_cv X v)) ∧ v.category = 1
def jj_G (X : jj_X) (y : Nat) (R : Room) (Z : List Frame → Array Value → State → State → Prop) (pc : Nat) (L : jx_L) (st : List Value) (k n : Nat) (σ : jj_S) : Prop :=
  ∀ (p : Program) (e : Env) (s : State) (m : MethodId) (args : Array Value) (below : List Frame) (meth : Method) (c : Code) (H : Heap) (locs : List Loc) (ls : Array Slot),
    jj_V X y p s m args meth c → jj_P X σ H → va_S (jj_A X) s.heap H locs → jj_L X y L ls → X.2.2.1 + σ.2.2.2.1 = s.heap.size + k →
    W p X.1 e R s m args below meth c H locs k n (Z below args s) (F0 m pc ls (st.map (jj_cv X)))
/-- a method's end: its answer and the new store -/
def jj_Q (X : jj_X) (r : Option Value) (τ : jj_S) : Array Value → State → Outcome → State → Prop := fun _ st o t =>
  (o = .returned (r.map (jj_cv X)) ∧ jj_P X τ t.heap) ∧ va_F (jj_A X) st t
/-! locals -/
def jj_lv (X : jj_X) (L : jx_L) : List (Nat × Value) := (List.range L.length).filterMap fun j => (L[j]?.join).map fun v => (j, jj_cv X v)
theorem jj_lv_mem {X : jj_X} {L : jx_L} {j : Nat} {v : Value} (h : L[j]? = some (some v)) : (j, jj_cv X v) ∈ jj_lv X L := by
  refine List.mem_filterMap.mpr ⟨j, List.mem_range.mpr (List.getElem?_eq_some_iff.mp h).1, ?_⟩
  rw [h]
  rfl
theorem jj_L.has {X : jj_X} {y : Nat} {L : jx_L} {ls : Array Slot} (h : jj_L X y L ls) : lv_has ls (jt_L y) (jj_lv X L) := by
  refine ⟨h.1, h.2.1, fun q hq => ?_⟩
  obtain ⟨j, hj, e⟩ := List.mem_filterMap.mp hq
  cases hv : L[j]? with
  | none => rw [hv] at e; exact absurd e (by simp)
  | some w =>
    cases w with
    | none => rw [hv] at e; exact absurd e (by simp)
    | some v =>
      rw [hv] at e
      have e' : (j, jj_cv X v) = q := Option.some.inj e
      rw [← e']
      exact (h.2.2.2 j v hv).1
theorem jj_L.set {X : jj_X} {y : Nat} {L : jx_L} {ls ls' : Array Slot} {i : Nat} {v : Value} (h : jj_L X y L ls) (hc : v.category = 1) (h' : lv_has ls' (jt_L y) ((i, jj_cv X v) :: (jj_lv X L).filter (fun q => !(q.1 == i) && !(q.1 + 1 == i && q.2.category == 2)))) : jj_L X y (L.set i (some v)) ls' := by
  refine ⟨h'.1, h'.2.1, by rw [List.length_set]; exact h.2.2.1, fun j w hw => ?_⟩
  rw [List.getElem?_set] at hw
  by_cases hj : i = j
  · subst hj
    rw [if_pos rfl] at hw
    split at hw
    · cases hw
      exact ⟨h'.2.2 (i, jj_cv X v) List.mem_cons_self, hc⟩
    · cases hw
  · rw [if_neg hj] at hw
    have hcat := (h.2.2.2 j w hw).2
    refine ⟨h'.2.2 (j, jj_cv X w) (List.mem_cons_of_mem _ (List.mem_filter.mpr ⟨jj_lv_mem hw, ?_⟩)), hcat⟩
    have h1 : (j == i) = false := by simp; omega
    have h2 : ((jj_cv X w).category == 2) = false := by rw [jj_cv_cat, hcat]; rfl
    simp only [h1, h2, Bool.and_false, Bool.not_false, Bool.and_self]
/-! entry -/
theorem jj_args_mem : ∀ (vs : List Value) (k : Nat), (∀ v ∈ vs, v.category = 1) → ∀ (i : Nat) (v : Value), vs[i]? = some v → (k + i, v) ∈ lv_args k vs := by
  intro vs
  induction vs with
  | nil => intro k _ i v h; cases h
  | cons w r ih =>
    intro k hc i v h
    have hw : ¬ w.category = 2 := by rw [hc w List.mem_cons_self]; decide
    rw [lv_args, if_neg hw]
    match i, h with
    | 0, h => cases h; exact List.mem_cons_self
    | i + 1, h =>
      have := ih (k + 1) (fun v hv => hc v (List.mem_cons_of_mem _ hv)) i v h
      rw [show k + (i + 1) = k + 1 + i by omega]
      exact List.mem_cons_of_mem _ this
theorem jj_sl_len : ∀ (vs : List Value), (∀ v ∈ vs, v.category = 1) → (lg_sl vs).length = vs.length := by
  intro vs
  induction vs with
  | nil => intro _; rfl
  | cons w r ih =>
    intro hc
    have hw : ¬ w.category = 2 := by rw [hc w List.mem_cons_self]; decide
    have := ih (fun v hv => hc v (List.mem_cons_of_mem _ hv))
    simp only [lg_sl, List.flatMap_cons, if_neg hw, List.length_append, List.length_cons, List.length_nil] at this ⊢
    omega
theorem jj_ent_at {y : Nat} {as : List Value} {i : Nat} {v : Value} (h : (jx_ent y as)[i]? = some (some v)) : as[i]? = some v := by
  unfold jx_ent at h
  by_cases hl : i < as.length
  · rw [List.getElem?_append_left (by simpa using hl), List.getElem?_map] at h
    cases ha : as[i]? with
    | none => rw [ha] at h; simp at h
    | some w => rw [ha] at h; simpa using h
  · rw [List.getElem?_append_right (by simpa using hl)] at h
    have := (List.getElem?_eq_some_iff.mp h)
    obtain ⟨h1, h2⟩ := this
    rw [List.getElem_replicate] at h2
    cases h2
theorem jj_entry {X : jj_X} {y : Nat} {as : List Value} {ls : Array Slot} (hc : ∀ v ∈ as, v.category = 1) (hn : as.length ≤ jt_L y) (hl : lv_has ls (jt_L y) (lv_args 0 (as.map (jj_cv X)))) : jj_L X y (jx_ent y as) ls := by
  refine ⟨hl.1, hl.2.1, ?_, fun i v h => ?_⟩
  · unfold jx_ent
    simp only [List.length_append, List.length_map, List.length_replicate]
    omega
  · have ha := jj_ent_at h
    have hm := jj_args_mem (as.map (jj_cv X)) 0 (fun v hv => by
      obtain ⟨w, hw, rfl⟩ := List.mem_map.mp hv
      rw [jj_cv_cat]
      exact hc w hw) i (jj_cv X v) (by rw [List.getElem?_map, ha]; rfl)
    rw [Nat.zero_add] at hm
    exact ⟨hl.2.2 _ hm, hc v (List.mem_of_getElem? ha)⟩
end
section
/-! What each instruction of the small machine is in the real one, what the tables must hold for it, and: each step of the small machine is one of the real one. -/
def jx_f4 (a : Nat) : Fin 4 := ⟨a % 4, Nat.mod_lt _ (by decide)⟩
def jx_at (b : Nat) : ArrayType := if b = 0 then .int else if b = 1 then .char else .boolean
def jx_sw (pc : Nat) (w : Nat × Int × Int × List Nat) : Instr := .tableswitch ((w.1 : Int) - (pc : Int)) w.2.1 w.2.2.1 (w.2.2.2.map (fun (t : Nat) => (t : Int) - (pc : Int))).toArray
def jx_It : List (Nat → Nat → Nat → Nat → Int32 → Instr × Nat) := [
  fun pc a b d c => (.iconst c.toInt, 1),
  fun pc a b d c => (.bipush c.toInt, 2),
  fun pc a b d c => (.sipush c.toInt, 3),
  fun pc a b d c => (.ldc a, 2),
  fun pc a b d c => (.ldc_w a, 3),
  fun pc a b d c => (.iload_n (jx_f4 a), 1),
  fun pc a b d c => (.iload a, 2),
  fun pc a b d c => (.aload_n (jx_f4 a), 1),
  fun pc a b d c => (.aload a, 2),
  fun pc a b d c => (.istore_n (jx_f4 a), 1),
  fun pc a b d c => (.istore a, 2),
  fun pc a b d c => (.astore_n (jx_f4 a), 1),
  fun pc a b d c => (.astore a, 2),
  fun pc a b d c => (.iinc a c.toInt, 3),
  fun pc a b d c => (.iadd, 1),
  fun pc a b d c => (.isub, 1),
  fun pc a b d c => (.imul, 1),
  fun pc a b d c => (.iand, 1),
  fun pc a b d c => (.ior, 1),
  fun pc a b d c => (.ixor, 1),
  fun pc a b d c => (.ishl, 1),
  fun pc a b d c => (.ishr, 1),
  fun pc a b d c => (.iushr, 1),
  fun pc a b d c => (.ineg, 1),
  fun pc a b d c => (.i2b, 1),
  fun pc a b d c => (.i2c, 1),
  fun pc a b d c => (.dup, 1),
  fun pc a b d c => (.pop, 1),
  fun pc a b d c => (.dup_x1, 1),
  fun pc a b d c => (.dup2, 1),
  fun pc a b d c => (.ifCond .eq ((a : Int) - (pc : Int)), 3),
  fun pc a b d c => (.ifCond .ne ((a : Int) - (pc : Int)), 3),
  fun pc a b d c => (.ifCond .lt ((a : Int) - (pc : Int)), 3),
  fun pc a b d c => (.ifCond .ge ((a : Int) - (pc : Int)), 3),
  fun pc a b d c => (.ifCond .gt ((a : Int) - (pc : Int)), 3),
  fun pc a b d c => (.ifCond .le ((a : Int) - (pc : Int)), 3),
  fun pc a b d c => (.if_icmp .eq ((a : Int) - (pc : Int)), 3),
  fun pc a b d c => (.if_icmp .ne ((a : Int) - (pc : Int)), 3),
  fun pc a b d c => (.if_icmp .lt ((a : Int) - (pc : Int)), 3),
  fun pc a b d c => (.if_icmp .ge ((a : Int) - (pc : Int)), 3),
  fun pc a b d c => (.if_icmp .gt ((a : Int) - (pc : Int)), 3),
  fun pc a b d c => (.if_icmp .le ((a : Int) - (pc : Int)), 3),
  fun pc a b d c => (.goto ((a : Int) - (pc : Int)), 3),
  fun pc a b d c => (.invokestatic a, 3),
  fun pc a b d c => (.invokestatic a, 3),
  fun pc a b d c => (.getfield a, 3),
  fun pc a b d c => (.getfield a, 3),
  fun pc a b d c => (.putfield a, 3),
  fun pc a b d c => (.putfield a, 3),
  fun pc a b d c => (.putfield a, 3),
  fun pc a b d c => (.iaload, 1),
  fun pc a b d c => (.caload, 1),
  fun pc a b d c => (.baload, 1),
  fun pc a b d c => (.aaload, 1),
  fun pc a b d c => (.arraylength, 1),
  fun pc a b d c => (.iastore, 1),
  fun pc a b d c => (.castore, 1),
  fun pc a b d c => (.bastore, 1),
  fun pc a b d c => (.aastore, 1),
  fun pc a b d c => (jx_sw pc (jt_sw.getD a (0, 0, 0, [])), d),
  fun pc a b d c => (.ldc a, 2),
  fun pc a b d c => (.getstatic a, 3),
  fun pc a b d c => (.getstatic a, 3),
  fun pc a b d c => (.getfield a, 3),
  fun pc a b d c => (.getfield a, 3),
  fun pc a b d c => (.baload, 1),
  fun pc a b d c => (.arraylength, 1),
  fun pc a b d c => (.iaload, 1),
  fun pc a b d c => (.arraylength, 1),
  fun pc a b d c => (.invokespecial a, 3),
  fun pc a b d c => (.invokestatic a, 3),
  fun pc a b d c => (.nop, 1),
  fun pc a b d c => (.new a, 3),
  fun pc a b d c => (.newarray (jx_at b), 2),
  fun pc a b d c => (.anewarray a, 3),
  fun pc a b d c => (.nop, 1),
  fun pc a b d c => (.nop, 1),
  fun pc a b d c => (.nop, 1),
  fun pc a b d c => (.nop, 1),
  fun pc a b d c => (.nop, 1),
  fun pc a b d c => (.invokevirtual a, 3),
  fun pc a b d c => (.invokestatic a, 3),
  fun pc a b d c => (.invokespecial a, 3),
  fun pc a b d c => (.invokevirtual a, 3),
  fun pc a b d c => (.invokestatic a, 3),
  fun pc a b d c => (.invokespecial a, 3),
  fun pc a b d c => (.invokevirtual a, 3),
  fun pc a b d c => (.nop, 1),
  fun pc a b d c => (.nop, 1),
  fun pc a b d c => (.nop, 1),
  fun pc a b d c => (.ireturn, 1),
  fun pc a b d c => (.return_, 1),
  fun pc a b d c => (.areturn, 1)]
def jx_I (pc : Nat) (o : jx_O) : Instr × Nat := (jx_It.getD o.1 (fun _ _ _ _ _ => (.nop, 1))) pc o.2.1 o.2.2.1 o.2.2.2.1 o.2.2.2.2
def jt_fr (y : Nat) : Nat := (jt_M y).frames
def jt_lo (y : Nat) : Nat := (jt_M y).locals
def jt_c (y : Nat) : Nat := jt_cy.getD y 0
/-- room and number of arguments of a call -/
def jx_rm (y b d : Nat) (rc : Nat) : Bool := decide (jt_fr b + 1 ≤ jt_fr y) && (decide (8 + (jt_L b + 11) + jt_lo b ≤ jt_lo y) && (decide (d = jt_np.getD b 0 + rc) && (decide (d ≤ jt_L b) && decide (b < jt_law))))
def jx_Ct : List (Nat → Nat → Nat → Nat → Int32 → Bool) := [
  fun y a b d c => decide (Int32.ofInt c.toInt = c),
  fun y a b d c => decide ((Int8.ofInt c.toInt).toInt32 = c),
  fun y a b d c => decide ((Int16.ofInt c.toInt).toInt32 = c),
  fun y a b d c => decide ((jt_c y, a, c) ∈ jt_lc),
  fun y a b d c => decide ((jt_c y, a, c) ∈ jt_lc),
  fun y a b d c => decide (a % 4 = a),
  fun y a b d c => true,
  fun y a b d c => decide (a % 4 = a),
  fun y a b d c => true,
  fun y a b d c => decide (a % 4 = a),
  fun y a b d c => true,
  fun y a b d c => decide (a % 4 = a),
  fun y a b d c => true,
  fun y a b d c => decide (Int32.ofInt c.toInt = c),
  fun y a b d c => true,
  fun y a b d c => true,
  fun y a b d c => true,
  fun y a b d c => true,
  fun y a b d c => true,
  fun y a b d c => true,
  fun y a b d c => true,
  fun y a b d c => true,
  fun y a b d c => true,
  fun y a b d c => true,
  fun y a b d c => true,
  fun y a b d c => true,
  fun y a b d c => true,
  fun y a b d c => true,
  fun y a b d c => true,
  fun y a b d c => true,
  fun y a b d c => true,
  fun y a b d c => true,
  fun y a b d c => true,
  fun y a b d c => true,
  fun y a b d c => true,
  fun y a b d c => true,
  fun y a b d c => true,
  fun y a b d c => true,
  fun y a b d c => true,
  fun y a b d c => true,
  fun y a b d c => true,
  fun y a b d c => true,
  fun y a b d c => true,
  fun y a b d c => decide ((jt_c y, a) ∈ jt_lx0) && (decide (1 ≤ jt_fr y) && decide (21 ≤ jt_lo y)),
  fun y a b d c => decide ((jt_c y, a) ∈ jt_lx1) && (decide (1 ≤ jt_fr y) && decide (21 ≤ jt_lo y)),
  fun y a b d c => (decide ((jt_c y, a, b, d) ∈ jt_lf) && decide (b < jt_C.length)),
  fun y a b d c => (decide ((jt_c y, a, b, d) ∈ jt_ln) && decide (b < jt_C.length)),
  fun y a b d c => (decide ((jt_c y, a, b, d) ∈ jt_lf) && decide (b < jt_C.length)) && decide ((jt_T b d).2.2.2 = false),
  fun y a b d c => (decide ((jt_c y, a, b, d) ∈ jt_lf) && decide (b < jt_C.length)) && (decide ((jt_T b d).2.2.2 = true) && decide (jt_ini.getD y false = true)),
  fun y a b d c => (decide ((jt_c y, a, b, d) ∈ jt_ln) && decide (b < jt_C.length)) && decide ((jt_T b d).2.2.2 = false),
  fun y a b d c => true,
  fun y a b d c => true,
  fun y a b d c => true,
  fun y a b d c => true,
  fun y a b d c => true,
  fun y a b d c => true,
  fun y a b d c => true,
  fun y a b d c => true,
  fun y a b d c => decide (jt_ty[b]? = some (.object (jt_C.getD d ""))) && decide (d < jt_C.length),
  fun y a b d c => decide ((jt_sw.getD a (0, 0, 0, [])).2.2.2.length = ((jt_sw.getD a (0, 0, 0, [])).2.2.1 - (jt_sw.getD a (0, 0, 0, [])).2.1 + 1).toNat),
  fun y a b d c => decide ((jt_c y, a, b) ∈ jt_ls) && decide (b < jt_sb.length),
  fun y a b d c => decide ((jt_c y, a) ∈ jt_lg0),
  fun y a b d c => decide ((jt_c y, a) ∈ jt_lg1),
  fun y a b d c => decide ((jt_c y, a) ∈ jt_lv0),
  fun y a b d c => decide ((jt_c y, a) ∈ jt_lv1),
  fun y a b d c => true,
  fun y a b d c => true,
  fun y a b d c => decide (y = jt_law),
  fun y a b d c => decide (y = jt_law),
  fun y a b d c => decide ((jt_c y, a) ∈ jt_lo1) && (decide (1 ≤ jt_fr y) && decide (20 ≤ jt_lo y)),
  fun y a b d c => decide ((jt_c y, a) ∈ jt_lcp) && (decide (1 ≤ jt_fr y) && decide (8 + (nativeFrameWords "java/lang/System" "arraycopy" 5 + 11) ≤ jt_lo y)),
  fun y a b d c => true,
  fun y a b d c => decide ((jt_c y, a, b) ∈ jt_lk) && decide (b < jt_C.length),
  fun y a b d c => decide (b < 3),
  fun y a b d c => decide ((jt_c y, a, b, d) ∈ jt_la) && decide (jt_ty[b]? = some (.object (jt_C.getD d ""))),
  fun y a b d c => true,
  fun y a b d c => true,
  fun y a b d c => true,
  fun y a b d c => true,
  fun y a b d c => true,
  fun y a b d c => decide ((jt_c y, a, b) ∈ jt_lm) && (decide (b ∈ jt_iv) && jx_rm y b d 1),
  fun y a b d c => decide ((jt_c y, a, b) ∈ jt_lm) && (decide (b ∈ jt_is) && jx_rm y b d 0),
  fun y a b d c => decide ((jt_c y, a, b) ∈ jt_lm) && (decide (b ∈ jt_ii) && jx_rm y b d 1),
  fun y a b d c => decide ((jt_c y, a, b) ∈ jt_lmn) && (decide (b ∈ jt_iv) && jx_rm y b d 1),
  fun y a b d c => decide ((jt_c y, a, b) ∈ jt_lmn) && (decide (b ∈ jt_is) && jx_rm y b d 0),
  fun y a b d c => decide ((jt_c y, a, b) ∈ jt_lmn) && (decide (b ∈ jt_ii) && jx_rm y b d 1),
  fun y a b d c => decide ((jt_c y, a, b) ∈ jt_lm) && (decide (b ∈ jt_it) && jx_rm y b d 1),
  fun y a b d c => true,
  fun y a b d c => true,
  fun y a b d c => true,
  fun y a b d c => true,
  fun y a b d c => true,
  fun y a b d c => true]
def jx_lok (y : Nat) (o : jx_O) : Bool := (jx_Ct.getD o.1 (fun _ _ _ _ _ => false)) y o.2.1 o.2.2.1 o.2.2.2.1 o.2.2.2.2
def jx_ok (y pc : Nat) (o : jx_O) : Bool := decide (decode (jt_B y) pc = .ok (jx_I pc o)) && jx_lok y o
def jx_Snd (κ : Nat) : Prop := ∀ (X : jj_X) (y : Nat) (R : Room) (Z : List Frame → Array Value → State → State → Prop) (k n pc a b d : Nat) (c : Int32) (L : jx_L) (st : List Value) (σ : jj_S) (q : jx_N),
  jt_fr y ≤ R.frames → jt_lo y ≤ R.locals → k ≤ R.cells → n ≤ R.slots → decode (jt_B y) pc = .ok (jx_I pc (κ, a, b, d, c)) → jx_lok y (κ, a, b, d, c) = true → jx_sem X.2.2.2.2.2 (κ, a, b, d, c) pc L st σ = some q →
  jj_G X y R Z q.1 q.2.1 q.2.2.1 k n (q.2.2.2.1, q.2.2.2.2, σ.2.2) → jj_G X y R Z pc L st k n σ
section JI
variable {pc a b d len : Nat} {c : Int32} {L : jx_L} {st : List Value} {σ : jj_S} {q : jx_N}
theorem ji_ild (h : jx_ild len pc a b d c L st σ = some q) : ∃ x, L[a]? = some (some (.int x)) ∧ q = (pc + len, L, .int x :: st, σ.1, σ.2.1) := by
  unfold jx_ild at h
  split at h
  · cases h; exact ⟨_, by assumption, rfl⟩
  · cases h
theorem ji_ald (h : jx_ald len pc a b d c L st σ = some q) : ∃ x, L[a]? = some (some (.ref x)) ∧ q = (pc + len, L, .ref x :: st, σ.1, σ.2.1) := by
  unfold jx_ald at h
  split at h
  · cases h; exact ⟨_, by assumption, rfl⟩
  · cases h
theorem ji_ist (h : jx_ist len pc a b d c L st σ = some q) : ∃ x r, st = .int x :: r ∧ a < L.length ∧ q = (pc + len, L.set a (some (.int x)), r, σ.1, σ.2.1) := by
  unfold jx_ist at h
  split at h
  · split at h
    · cases h; exact ⟨_, _, rfl, by assumption, rfl⟩
    · cases h
  · cases h
theorem ji_ast (h : jx_ast len pc a b d c L st σ = some q) : ∃ x r, st = .ref x :: r ∧ a < L.length ∧ q = (pc + len, L.set a (some (.ref x)), r, σ.1, σ.2.1) := by
  unfold jx_ast at h
  split at h
  · split at h
    · cases h; exact ⟨_, _, rfl, by assumption, rfl⟩
    · cases h
  · cases h
theorem ji_inc (h : jx_inc pc a b d c L st σ = some q) : ∃ x, L[a]? = some (some (.int x)) ∧ q = (pc + 3, L.set a (some (.int (x + c))), st, σ.1, σ.2.1) := by
  unfold jx_inc at h
  split at h
  · cases h; exact ⟨_, by assumption, rfl⟩
  · cases h
theorem ji_bin {f : Int32 → Int32 → Int32} (h : jx_bin f pc a b d c L st σ = some q) : ∃ x y r, st = .int y :: .int x :: r ∧ q = (pc + 1, L, .int (f x y) :: r, σ.1, σ.2.1) := by
  unfold jx_bin at h
  split at h
  · cases h; exact ⟨_, _, _, rfl, rfl⟩
  · cases h
theorem ji_un {f : Int32 → Int32} (h : jx_un f pc a b d c L st σ = some q) : ∃ x r, st = .int x :: r ∧ q = (pc + 1, L, .int (f x) :: r, σ.1, σ.2.1) := by
  unfold jx_un at h
  split at h
  · cases h; exact ⟨_, _, rfl, rfl⟩
  · cases h
theorem ji_dup (h : jx_dup pc a b d c L st σ = some q) : ∃ v r, st = v :: r ∧ v.category = 1 ∧ q = (pc + 1, L, v :: v :: r, σ.1, σ.2.1) := by
  unfold jx_dup at h
  split at h
  · split at h
    · cases h; exact ⟨_, _, rfl, by assumption, rfl⟩
    · cases h
  · cases h
theorem ji_pop (h : jx_pop pc a b d c L st σ = some q) : ∃ v r, st = v :: r ∧ v.category = 1 ∧ q = (pc + 1, L, r, σ.1, σ.2.1) := by
  unfold jx_pop at h
  split at h
  · split at h
    · cases h; exact ⟨_, _, rfl, by assumption, rfl⟩
    · cases h
  · cases h
theorem ji_dpx (h : jx_dpx pc a b d c L st σ = some q) : ∃ v w r, st = v :: w :: r ∧ (v.category = 1 ∧ w.category = 1) ∧ q = (pc + 1, L, v :: w :: v :: r, σ.1, σ.2.1) := by
  unfold jx_dpx at h
  split at h
  · split at h
    · cases h; exact ⟨_, _, _, rfl, by assumption, rfl⟩
    · cases h
  · cases h
theorem ji_dp2 (h : jx_dp2 pc a b d c L st σ = some q) : ∃ v w r, st = v :: w :: r ∧ (v.category = 1 ∧ w.category = 1) ∧ q = (pc + 1, L, v :: w :: v :: w :: r, σ.1, σ.2.1) := by
  unfold jx_dp2 at h
  split at h
  · split at h
    · cases h; exact ⟨_, _, _, rfl, by assumption, rfl⟩
    · cases h
  · cases h
theorem ji_br1 {f : Int32 → Bool} (h : jx_br1 f pc a b d c L st σ = some q) : ∃ x r, st = .int x :: r ∧ q = (if f x = true then a else pc + 3, L, r, σ.1, σ.2.1) := by
  unfold jx_br1 at h
  split at h
  · cases h; exact ⟨_, _, rfl, rfl⟩
  · cases h
theorem ji_br2 {f : Int32 → Int32 → Bool} (h : jx_br2 f pc a b d c L st σ = some q) : ∃ x y r, st = .int y :: .int x :: r ∧ q = (if f x y = true then a else pc + 3, L, r, σ.1, σ.2.1) := by
  unfold jx_br2 at h
  split at h
  · cases h; exact ⟨_, _, _, rfl, rfl⟩
  · cases h
end JI
theorem js_0 : jx_Snd 0 := by
  intro X y R Z k n pc a b d c L st σ q hfr hlo hk0 hn0 hd hc h g
  have hq := Option.some.inj h
  subst hq
  intro p e s m args below meth cc H locs ls V P S hl hz
  exact lv_iconst V.1 V.2.1 hd (of_decide_eq_true (p := Int32.ofInt c.toInt = c) hc) (g p e s m args below meth cc H locs ls V P S hl hz)
theorem js_1 : jx_Snd 1 := by
  intro X y R Z k n pc a b d c L st σ q hfr hlo hk0 hn0 hd hc h g
  have hq := Option.some.inj h
  subst hq
  intro p e s m args below meth cc H locs ls V P S hl hz
  exact lv_bipush V.1 V.2.1 hd (of_decide_eq_true (p := (Int8.ofInt c.toInt).toInt32 = c) hc) (g p e s m args below meth cc H locs ls V P S hl hz)
theorem js_2 : jx_Snd 2 := by
  intro X y R Z k n pc a b d c L st σ q hfr hlo hk0 hn0 hd hc h g
  have hq := Option.some.inj h
  subst hq
  intro p e s m args below meth cc H locs ls V P S hl hz
  exact lv_sipush V.1 V.2.1 hd (of_decide_eq_true (p := (Int16.ofInt c.toInt).toInt32 = c) hc) (g p e s m args below meth cc H locs ls V P S hl hz)
theorem js_5 : jx_Snd 5 := by
  intro X y R Z k n pc a b d c L st σ q hfr hlo hk0 hn0 hd hc h g
  obtain ⟨x, hx, rfl⟩ := ji_ild (a := a) (b := b) (d := d) (c := c) (len := 1) h
  intro p e s m args below meth cc H locs ls V P S hl hz
  exact lv_iload_n V.1 V.2.1 hd (of_decide_eq_true (p := a % 4 = a) hc) (hl.2.2.2 a _ hx).1 (g p e s m args below meth cc H locs ls V P S hl hz)
theorem js_6 : jx_Snd 6 := by
  intro X y R Z k n pc a b d c L st σ q hfr hlo hk0 hn0 hd hc h g
  obtain ⟨x, hx, rfl⟩ := ji_ild (a := a) (b := b) (d := d) (c := c) (len := 2) h
  intro p e s m args below meth cc H locs ls V P S hl hz
  exact lv_iload V.1 V.2.1 hd (hl.2.2.2 a _ hx).1 (g p e s m args below meth cc H locs ls V P S hl hz)
theorem js_7 : jx_Snd 7 := by
  intro X y R Z k n pc a b d c L st σ q hfr hlo hk0 hn0 hd hc h g
  obtain ⟨x, hx, rfl⟩ := ji_ald (a := a) (b := b) (d := d) (c := c) (len := 1) h
  intro p e s m args below meth cc H locs ls V P S hl hz
  exact lv_aload_n V.1 V.2.1 hd (of_decide_eq_true (p := a % 4 = a) hc) (hl.2.2.2 a _ hx).1 (g p e s m args below meth cc H locs ls V P S hl hz)
theorem js_8 : jx_Snd 8 := by
  intro X y R Z k n pc a b d c L st σ q hfr hlo hk0 hn0 hd hc h g
  obtain ⟨x, hx, rfl⟩ := ji_ald (a := a) (b := b) (d := d) (c := c) (len := 2) h
  intro p e s m args below meth cc H locs ls V P S hl hz
  exact lv_aload V.1 V.2.1 hd (hl.2.2.2 a _ hx).1 (g p e s m args below meth cc H locs ls V P S hl hz)
theorem js_9 : jx_Snd 9 := by
  intro X y R Z k n pc a b d c L st σ q hfr hlo hk0 hn0 hd hc h g
  obtain ⟨x, r, rfl, ha, rfl⟩ := ji_ist (a := a) (b := b) (d := d) (c := c) (len := 1) h
  intro p e s m args below meth cc H locs ls V P S hl hz
  exact lv_istore_n V.1 V.2.1 hd (of_decide_eq_true (p := a % 4 = a) hc) hl.has (by rw [← hl.2.2.1]; exact ha) rfl (fun ls' h' => g p e s m args below meth cc H locs ls' V P S (hl.set (v := .int x) rfl h') hz)
theorem js_10 : jx_Snd 10 := by
  intro X y R Z k n pc a b d c L st σ q hfr hlo hk0 hn0 hd hc h g
  obtain ⟨x, r, rfl, ha, rfl⟩ := ji_ist (a := a) (b := b) (d := d) (c := c) (len := 2) h
  intro p e s m args below meth cc H locs ls V P S hl hz
  exact lv_istore V.1 V.2.1 hd hl.has (by rw [← hl.2.2.1]; exact ha) rfl (fun ls' h' => g p e s m args below meth cc H locs ls' V P S (hl.set (v := .int x) rfl h') hz)
theorem js_11 : jx_Snd 11 := by
  intro X y R Z k n pc a b d c L st σ q hfr hlo hk0 hn0 hd hc h g
  obtain ⟨x, r, rfl, ha, rfl⟩ := ji_ast (a := a) (b := b) (d := d) (c := c) (len := 1) h
  intro p e s m args below meth cc H locs ls V P S hl hz
  exact lv_astore_n V.1 V.2.1 hd (of_decide_eq_true (p := a % 4 = a) hc) hl.has (by rw [← hl.2.2.1]; exact ha) rfl (fun ls' h' => g p e s m args below meth cc H locs ls' V P S (hl.set (v := .ref x) rfl h') hz)
theorem js_12 : jx_Snd 12 := by
  intro X y R Z k n pc a b d c L st σ q hfr hlo hk0 hn0 hd hc h g
  obtain ⟨x, r, rfl, ha, rfl⟩ := ji_ast (a := a) (b := b) (d := d) (c := c) (len := 2) h
  intro p e s m args below meth cc H locs ls V P S hl hz
  exact lv_astore V.1 V.2.1 hd hl.has (by rw [← hl.2.2.1]; exact ha) rfl (fun ls' h' => g p e s m args below meth cc H locs ls' V P S (hl.set (v := .ref x) rfl h') hz)
theorem js_13 : jx_Snd 13 := by
  intro X y R Z k n pc a b d c L st σ q hfr hlo hk0 hn0 hd hc h g
  obtain ⟨x, hx, rfl⟩ := ji_inc (a := a) (b := b) (d := d) (c := c) h
  intro p e s m args below meth cc H locs ls V P S hl hz
  have hm := jj_lv_mem (X := X) hx
  obtain ⟨kk, hk⟩ := List.getElem?_of_mem hm
  have ha : a < jt_L y := by rw [← hl.2.2.1]; exact (List.getElem?_eq_some_iff.mp hx).1
  exact lv_iinc (x := x) (v := x + c) V.1 V.2.1 hd hl.has hk (by rw [of_decide_eq_true (p := Int32.ofInt c.toInt = c) hc]) ha rfl (fun ls' h' => g p e s m args below meth cc H locs ls' V P S (hl.set (v := .int (x + c)) rfl h') hz)
theorem js_14 : jx_Snd 14 := by
  intro X y R Z k n pc a b d c L st σ q hfr hlo hk0 hn0 hd hc h g
  obtain ⟨x, v, r, rfl, rfl⟩ := ji_bin (a := a) (b := b) (d := d) (c := c) (f := fun x y => x + y) h
  intro p e s m args below meth cc H locs ls V P S hl hz
  exact lv_iadd V.1 V.2.1 hd (g p e s m args below meth cc H locs ls V P S hl hz)
theorem js_15 : jx_Snd 15 := by
  intro X y R Z k n pc a b d c L st σ q hfr hlo hk0 hn0 hd hc h g
  obtain ⟨x, v, r, rfl, rfl⟩ := ji_bin (a := a) (b := b) (d := d) (c := c) (f := fun x y => x - y) h
  intro p e s m args below meth cc H locs ls V P S hl hz
  exact lv_isub V.1 V.2.1 hd (g p e s m args below meth cc H locs ls V P S hl hz)
theorem js_16 : jx_Snd 16 := by
  intro X y R Z k n pc a b d c L st σ q hfr hlo hk0 hn0 hd hc h g
  obtain ⟨x, v, r, rfl, rfl⟩ := ji_bin (a := a) (b := b) (d := d) (c := c) (f := fun x y => x * y) h
  intro p e s m args below meth cc H locs ls V P S hl hz
  exact lv_imul V.1 V.2.1 hd (g p e s m args below meth cc H locs ls V P S hl hz)
theorem js_17 : jx_Snd 17 := by
  intro X y R Z k n pc a b d c L st σ q hfr hlo hk0 hn0 hd hc h g
  obtain ⟨x, v, r, rfl, rfl⟩ := ji_bin (a := a) (b := b) (d := d) (c := c) (f := fun x y => x &&& y) h
  intro p e s m args below meth cc H locs ls V P S hl hz
  exact lv_iand V.1 V.2.1 hd (g p e s m args below meth cc H locs ls V P S hl hz)
theorem js_18 : jx_Snd 18 := by
  intro X y R Z k n pc a b d c L st σ q hfr hlo hk0 hn0 hd hc h g
  obtain ⟨x, v, r, rfl, rfl⟩ := ji_bin (a := a) (b := b) (d := d) (c := c) (f := fun x y => x ||| y) h
  intro p e s m args below meth cc H locs ls V P S hl hz
  exact lv_ior V.1 V.2.1 hd (g p e s m args below meth cc H locs ls V P S hl hz)
theorem js_19 : jx_Snd 19 := by
  intro X y R Z k n pc a b d c L st σ q hfr hlo hk0 hn0 hd hc h g
  obtain ⟨x, v, r, rfl, rfl⟩ := ji_bin (a := a) (b := b) (d := d) (c := c) (f := fun x y => x ^^^ y) h
  intro p e s m args below meth cc H locs ls V P S hl hz
  exact lv_ixor V.1 V.2.1 hd (g p e s m args below meth cc H locs ls V P S hl hz)
theorem js_20 : jx_Snd 20 := by
  intro X y R Z k n pc a b d c L st σ q hfr hlo hk0 hn0 hd hc h g
  obtain ⟨x, v, r, rfl, rfl⟩ := ji_bin (a := a) (b := b) (d := d) (c := c) (f := fun x y => x <<< (y &&& 31)) h
  intro p e s m args below meth cc H locs ls V P S hl hz
  exact lv_ishl V.1 V.2.1 hd (g p e s m args below meth cc H locs ls V P S hl hz)
theorem js_21 : jx_Snd 21 := by
  intro X y R Z k n pc a b d c L st σ q hfr hlo hk0 hn0 hd hc h g
  obtain ⟨x, v, r, rfl, rfl⟩ := ji_bin (a := a) (b := b) (d := d) (c := c) (f := fun x y => x >>> (y &&& 31)) h
  intro p e s m args below meth cc H locs ls V P S hl hz
  exact lv_ishr V.1 V.2.1 hd (g p e s m args below meth cc H locs ls V P S hl hz)
theorem js_22 : jx_Snd 22 := by
  intro X y R Z k n pc a b d c L st σ q hfr hlo hk0 hn0 hd hc h g
  obtain ⟨x, v, r, rfl, rfl⟩ := ji_bin (a := a) (b := b) (d := d) (c := c) (f := fun x y => (x.toUInt32 >>> (y.toUInt32 &&& Int32.toUInt32 31)).toInt32) h
  intro p e s m args below meth cc H locs ls V P S hl hz
  exact lv_iushr V.1 V.2.1 hd rfl (g p e s m args below meth cc H locs ls V P S hl hz)
theorem js_23 : jx_Snd 23 := by
  intro X y R Z k n pc a b d c L st σ q hfr hlo hk0 hn0 hd hc h g
  obtain ⟨x, r, rfl, rfl⟩ := ji_un (a := a) (b := b) (d := d) (c := c) (f := fun x => -x) h
  intro p e s m args below meth cc H locs ls V P S hl hz
  exact lv_ineg V.1 V.2.1 hd (g p e s m args below meth cc H locs ls V P S hl hz)
theorem js_24 : jx_Snd 24 := by
  intro X y R Z k n pc a b d c L st σ q hfr hlo hk0 hn0 hd hc h g
  obtain ⟨x, r, rfl, rfl⟩ := ji_un (a := a) (b := b) (d := d) (c := c) (f := fun x => x.toInt8.toInt32) h
  intro p e s m args below meth cc H locs ls V P S hl hz
  exact lv_i2b V.1 V.2.1 hd rfl (g p e s m args below meth cc H locs ls V P S hl hz)
theorem js_25 : jx_Snd 25 := by
  intro X y R Z k n pc a b d c L st σ q hfr hlo hk0 hn0 hd hc h g
  obtain ⟨x, r, rfl, rfl⟩ := ji_un (a := a) (b := b) (d := d) (c := c) (f := fun x => (x.toUInt32 % 65536).toInt32) h
  intro p e s m args below meth cc H locs ls V P S hl hz
  exact lv_i2c V.1 V.2.1 hd rfl (g p e s m args below meth cc H locs ls V P S hl hz)
theorem js_26 : jx_Snd 26 := by
  intro X y R Z k n pc a b d c L st σ q hfr hlo hk0 hn0 hd hc h g
  obtain ⟨v, r, rfl, hv, rfl⟩ := ji_dup (a := a) (b := b) (d := d) (c := c) h
  intro p e s m args below meth cc H locs ls V P S hl hz
  exact lv_dup V.1 V.2.1 hd ((jj_cv_cat v).trans hv) (g p e s m args below meth cc H locs ls V P S hl hz)
theorem js_27 : jx_Snd 27 := by
  intro X y R Z k n pc a b d c L st σ q hfr hlo hk0 hn0 hd hc h g
  obtain ⟨v, r, rfl, hv, rfl⟩ := ji_pop (a := a) (b := b) (d := d) (c := c) h
  intro p e s m args below meth cc H locs ls V P S hl hz
  exact lv_pop V.1 V.2.1 hd ((jj_cv_cat v).trans hv) (g p e s m args below meth cc H locs ls V P S hl hz)
theorem js_28 : jx_Snd 28 := by
  intro X y R Z k n pc a b d c L st σ q hfr hlo hk0 hn0 hd hc h g
  obtain ⟨v, w, r, rfl, hv, rfl⟩ := ji_dpx (a := a) (b := b) (d := d) (c := c) h
  intro p e s m args below meth cc H locs ls V P S hl hz
  exact lv_dup_x1 V.1 V.2.1 hd ((jj_cv_cat v).trans hv.1) ((jj_cv_cat w).trans hv.2) (g p e s m args below meth cc H locs ls V P S hl hz)
theorem js_29 : jx_Snd 29 := by
  intro X y R Z k n pc a b d c L st σ q hfr hlo hk0 hn0 hd hc h g
  obtain ⟨v, w, r, rfl, hv, rfl⟩ := ji_dp2 (a := a) (b := b) (d := d) (c := c) h
  intro p e s m args below meth cc H locs ls V P S hl hz
  exact lv_dup2_11 V.1 V.2.1 hd ((jj_cv_cat v).trans hv.1) ((jj_cv_cat w).trans hv.2) (g p e s m args below meth cc H locs ls V P S hl hz)
theorem js_30 : jx_Snd 30 := by
  intro X y R Z k n pc a b d c L st σ q hfr hlo hk0 hn0 hd hc h g
  obtain ⟨x, r, rfl, rfl⟩ := ji_br1 (a := a) (b := b) (d := d) (c := c) (f := fun x => decide (x = 0)) h
  have gt : x = 0 → jj_G X y R Z a L r k n σ := fun h0 => by
    have g2 : jj_G X y R Z (if decide (x = 0) = true then a else pc + 3) L r k n σ := g
    rw [if_pos (decide_eq_true h0)] at g2
    exact g2
  have gf : ¬ (x = 0) → jj_G X y R Z (pc + 3) L r k n σ := fun h0 => by
    have g2 : jj_G X y R Z (if decide (x = 0) = true then a else pc + 3) L r k n σ := g
    rw [if_neg (fun h1 => h0 (of_decide_eq_true h1))] at g2
    exact g2
  intro p e s m args below meth cc H locs ls V P S hl hz
  exact lv_if_eq V.1 V.2.1 hd (show (pc : Int) + ((a : Int) - (pc : Int)) = (a : Int) by omega) (fun h0 => gt h0 p e s m args below meth cc H locs ls V P S hl hz) (fun h0 => (gf) h0 p e s m args below meth cc H locs ls V P S hl hz)
theorem js_36 : jx_Snd 36 := by
  intro X y R Z k n pc a b d c L st σ q hfr hlo hk0 hn0 hd hc h g
  obtain ⟨x, v, r, rfl, rfl⟩ := ji_br2 (a := a) (b := b) (d := d) (c := c) (f := fun x y => decide (x = y)) h
  have gt : x = v → jj_G X y R Z a L r k n σ := fun h0 => by
    have g2 : jj_G X y R Z (if decide (x = v) = true then a else pc + 3) L r k n σ := g
    rw [if_pos (decide_eq_true h0)] at g2
    exact g2
  have gf : ¬ (x = v) → jj_G X y R Z (pc + 3) L r k n σ := fun h0 => by
    have g2 : jj_G X y R Z (if decide (x = v) = true then a else pc + 3) L r k n σ := g
    rw [if_neg (fun h1 => h0 (of_decide_eq_true h1))] at g2
    exact g2
  intro p e s m args below meth cc H locs ls V P S hl hz
  exact lv_icmp_eq V.1 V.2.1 hd (show (pc : Int) + ((a : Int) - (pc : Int)) = (a : Int) by omega) (fun h0 => gt h0 p e s m args below meth cc H locs ls V P S hl hz) (fun h0 => (gf) h0 p e s m args below meth cc H locs ls V P S hl hz)
theorem js_31 : jx_Snd 31 := by
  intro X y R Z k n pc a b d c L st σ q hfr hlo hk0 hn0 hd hc h g
  obtain ⟨x, r, rfl, rfl⟩ := ji_br1 (a := a) (b := b) (d := d) (c := c) (f := fun x => decide (¬ x = 0)) h
  have gt : ¬ x = 0 → jj_G X y R Z a L r k n σ := fun h0 => by
    have g2 : jj_G X y R Z (if decide (¬ x = 0) = true then a else pc + 3) L r k n σ := g
    rw [if_pos (decide_eq_true h0)] at g2
    exact g2
  have gf : ¬ (¬ x = 0) → jj_G X y R Z (pc + 3) L r k n σ := fun h0 => by
    have g2 : jj_G X y R Z (if decide (¬ x = 0) = true then a else pc + 3) L r k n σ := g
    rw [if_neg (fun h1 => h0 (of_decide_eq_true h1))] at g2
    exact g2
  intro p e s m args below meth cc H locs ls V P S hl hz
  exact lv_if_ne V.1 V.2.1 hd (show (pc : Int) + ((a : Int) - (pc : Int)) = (a : Int) by omega) (fun h0 => gt h0 p e s m args below meth cc H locs ls V P S hl hz) (fun h0 => (fun h0 => gf (fun h1 => h1 h0)) h0 p e s m args below meth cc H locs ls V P S hl hz)
theorem js_37 : jx_Snd 37 := by
  intro X y R Z k n pc a b d c L st σ q hfr hlo hk0 hn0 hd hc h g
  obtain ⟨x, v, r, rfl, rfl⟩ := ji_br2 (a := a) (b := b) (d := d) (c := c) (f := fun x y => decide (¬ x = y)) h
  have gt : ¬ x = v → jj_G X y R Z a L r k n σ := fun h0 => by
    have g2 : jj_G X y R Z (if decide (¬ x = v) = true then a else pc + 3) L r k n σ := g
    rw [if_pos (decide_eq_true h0)] at g2
    exact g2
  have gf : ¬ (¬ x = v) → jj_G X y R Z (pc + 3) L r k n σ := fun h0 => by
    have g2 : jj_G X y R Z (if decide (¬ x = v) = true then a else pc + 3) L r k n σ := g
    rw [if_neg (fun h1 => h0 (of_decide_eq_true h1))] at g2
    exact g2
  intro p e s m args below meth cc H locs ls V P S hl hz
  exact lv_icmp_ne V.1 V.2.1 hd (show (pc : Int) + ((a : Int) - (pc : Int)) = (a : Int) by omega) (fun h0 => gt h0 p e s m args below meth cc H locs ls V P S hl hz) (fun h0 => (fun h0 => gf (fun h1 => h1 h0)) h0 p e s m args below meth cc H locs ls V P S hl hz)
theorem js_32 : jx_Snd 32 := by
  intro X y R Z k n pc a b d c L st σ q hfr hlo hk0 hn0 hd hc h g
  obtain ⟨x, r, rfl, rfl⟩ := ji_br1 (a := a) (b := b) (d := d) (c := c) (f := fun x => decide (x < 0)) h
  have gt : x < 0 → jj_G X y R Z a L r k n σ := fun h0 => by
    have g2 : jj_G X y R Z (if decide (x < 0) = true then a else pc + 3) L r k n σ := g
    rw [if_pos (decide_eq_true h0)] at g2
    exact g2
  have gf : ¬ (x < 0) → jj_G X y R Z (pc + 3) L r k n σ := fun h0 => by
    have g2 : jj_G X y R Z (if decide (x < 0) = true then a else pc + 3) L r k n σ := g
    rw [if_neg (fun h1 => h0 (of_decide_eq_true h1))] at g2
    exact g2
  intro p e s m args below meth cc H locs ls V P S hl hz
  exact lv_if_lt V.1 V.2.1 hd (show (pc : Int) + ((a : Int) - (pc : Int)) = (a : Int) by omega) (fun h0 => gt h0 p e s m args below meth cc H locs ls V P S hl hz) (fun h0 => (gf) h0 p e s m args below meth cc H locs ls V P S hl hz)
theorem js_38 : jx_Snd 38 := by
  intro X y R Z k n pc a b d c L st σ q hfr hlo hk0 hn0 hd hc h g
  obtain ⟨x, v, r, rfl, rfl⟩ := ji_br2 (a := a) (b := b) (d := d) (c := c) (f := fun x y => decide (x < y)) h
  have gt : x < v → jj_G X y R Z a L r k n σ := fun h0 => by
    have g2 : jj_G X y R Z (if decide (x < v) = true then a else pc + 3) L r k n σ := g
    rw [if_pos (decide_eq_true h0)] at g2
    exact g2
  have gf : ¬ (x < v) → jj_G X y R Z (pc + 3) L r k n σ := fun h0 => by
    have g2 : jj_G X y R Z (if decide (x < v) = true then a else pc + 3) L r k n σ := g
    rw [if_neg (fun h1 => h0 (of_decide_eq_true h1))] at g2
    exact g2
  intro p e s m args below meth cc H locs ls V P S hl hz
  exact lv_icmp_lt V.1 V.2.1 hd (show (pc : Int) + ((a : Int) - (pc : Int)) = (a : Int) by omega) (fun h0 => gt h0 p e s m args below meth cc H locs ls V P S hl hz) (fun h0 => (gf) h0 p e s m args below meth cc H locs ls V P S hl hz)
theorem js_33 : jx_Snd 33 := by
  intro X y R Z k n pc a b d c L st σ q hfr hlo hk0 hn0 hd hc h g
  obtain ⟨x, r, rfl, rfl⟩ := ji_br1 (a := a) (b := b) (d := d) (c := c) (f := fun x => decide (0 ≤ x)) h
  have gt : 0 ≤ x → jj_G X y R Z a L r k n σ := fun h0 => by
    have g2 : jj_G X y R Z (if decide (0 ≤ x) = true then a else pc + 3) L r k n σ := g
    rw [if_pos (decide_eq_true h0)] at g2
    exact g2
  have gf : ¬ (0 ≤ x) → jj_G X y R Z (pc + 3) L r k n σ := fun h0 => by
    have g2 : jj_G X y R Z (if decide (0 ≤ x) = true then a else pc + 3) L r k n σ := g
    rw [if_neg (fun h1 => h0 (of_decide_eq_true h1))] at g2
    exact g2
  intro p e s m args below meth cc H locs ls V P S hl hz
  exact lv_if_ge V.1 V.2.1 hd (show (pc : Int) + ((a : Int) - (pc : Int)) = (a : Int) by omega) (fun h0 => gt h0 p e s m args below meth cc H locs ls V P S hl hz) (fun h0 => (gf) h0 p e s m args below meth cc H locs ls V P S hl hz)
theorem js_39 : jx_Snd 39 := by
  intro X y R Z k n pc a b d c L st σ q hfr hlo hk0 hn0 hd hc h g
  obtain ⟨x, v, r, rfl, rfl⟩ := ji_br2 (a := a) (b := b) (d := d) (c := c) (f := fun x y => decide (y ≤ x)) h
  have gt : v ≤ x → jj_G X y R Z a L r k n σ := fun h0 => by
    have g2 : jj_G X y R Z (if decide (v ≤ x) = true then a else pc + 3) L r k n σ := g
    rw [if_pos (decide_eq_true h0)] at g2
    exact g2
  have gf : ¬ (v ≤ x) → jj_G X y R Z (pc + 3) L r k n σ := fun h0 => by
    have g2 : jj_G X y R Z (if decide (v ≤ x) = true then a else pc + 3) L r k n σ := g
    rw [if_neg (fun h1 => h0 (of_decide_eq_true h1))] at g2
    exact g2
  intro p e s m args below meth cc H locs ls V P S hl hz
  exact lv_icmp_ge V.1 V.2.1 hd (show (pc : Int) + ((a : Int) - (pc : Int)) = (a : Int) by omega) (fun h0 => gt h0 p e s m args below meth cc H locs ls V P S hl hz) (fun h0 => (gf) h0 p e s m args below meth cc H locs ls V P S hl hz)
theorem js_34 : jx_Snd 34 := by
  intro X y R Z k n pc a b d c L st σ q hfr hlo hk0 hn0 hd hc h g
  obtain ⟨x, r, rfl, rfl⟩ := ji_br1 (a := a) (b := b) (d := d) (c := c) (f := fun x => decide (0 < x)) h
  have gt : 0 < x → jj_G X y R Z a L r k n σ := fun h0 => by
    have g2 : jj_G X y R Z (if decide (0 < x) = true then a else pc + 3) L r k n σ := g
    rw [if_pos (decide_eq_true h0)] at g2
    exact g2
  have gf : ¬ (0 < x) → jj_G X y R Z (pc + 3) L r k n σ := fun h0 => by
    have g2 : jj_G X y R Z (if decide (0 < x) = true then a else pc + 3) L r k n σ := g
    rw [if_neg (fun h1 => h0 (of_decide_eq_true h1))] at g2
    exact g2
  intro p e s m args below meth cc H locs ls V P S hl hz
  exact lv_if_gt V.1 V.2.1 hd (show (pc : Int) + ((a : Int) - (pc : Int)) = (a : Int) by omega) (fun h0 => gt h0 p e s m args below meth cc H locs ls V P S hl hz) (fun h0 => (gf) h0 p e s m args below meth cc H locs ls V P S hl hz)
theorem js_40 : jx_Snd 40 := by
  intro X y R Z k n pc a b d c L st σ q hfr hlo hk0 hn0 hd hc h g
  obtain ⟨x, v, r, rfl, rfl⟩ := ji_br2 (a := a) (b := b) (d := d) (c := c) (f := fun x y => decide (y < x)) h
  have gt : v < x → jj_G X y R Z a L r k n σ := fun h0 => by
    have g2 : jj_G X y R Z (if decide (v < x) = true then a else pc + 3) L r k n σ := g
    rw [if_pos (decide_eq_true h0)] at g2
    exact g2
  have gf : ¬ (v < x) → jj_G X y R Z (pc + 3) L r k n σ := fun h0 => by
    have g2 : jj_G X y R Z (if decide (v < x) = true then a else pc + 3) L r k n σ := g
    rw [if_neg (fun h1 => h0 (of_decide_eq_true h1))] at g2
    exact g2
  intro p e s m args below meth cc H locs ls V P S hl hz
  exact lv_icmp_gt V.1 V.2.1 hd (show (pc : Int) + ((a : Int) - (pc : Int)) = (a : Int) by omega) (fun h0 => gt h0 p e s m args below meth cc H locs ls V P S hl hz) (fun h0 => (gf) h0 p e s m args below meth cc H locs ls V P S hl hz)
theorem js_35 : jx_Snd 35 := by
  intro X y R Z k n pc a b d c L st σ q hfr hlo hk0 hn0 hd hc h g
  obtain ⟨x, r, rfl, rfl⟩ := ji_br1 (a := a) (b := b) (d := d) (c := c) (f := fun x => decide (x ≤ 0)) h
  have gt : x ≤ 0 → jj_G X y R Z a L r k n σ := fun h0 => by
    have g2 : jj_G X y R Z (if decide (x ≤ 0) = true then a else pc + 3) L r k n σ := g
    rw [if_pos (decide_eq_true h0)] at g2
    exact g2
  have gf : ¬ (x ≤ 0) → jj_G X y R Z (pc + 3) L r k n σ := fun h0 => by
    have g2 : jj_G X y R Z (if decide (x ≤ 0) = true then a else pc + 3) L r k n σ := g
    rw [if_neg (fun h1 => h0 (of_decide_eq_true h1))] at g2
    exact g2
  intro p e s m args below meth cc H locs ls V P S hl hz
  exact lv_if_le V.1 V.2.1 hd (show (pc : Int) + ((a : Int) - (pc : Int)) = (a : Int) by omega) (fun h0 => gt h0 p e s m args below meth cc H locs ls V P S hl hz) (fun h0 => (gf) h0 p e s m args below meth cc H locs ls V P S hl hz)
theorem js_41 : jx_Snd 41 := by
  intro X y R Z k n pc a b d c L st σ q hfr hlo hk0 hn0 hd hc h g
  obtain ⟨x, v, r, rfl, rfl⟩ := ji_br2 (a := a) (b := b) (d := d) (c := c) (f := fun x y => decide (x ≤ y)) h
  have gt : x ≤ v → jj_G X y R Z a L r k n σ := fun h0 => by
    have g2 : jj_G X y R Z (if decide (x ≤ v) = true then a else pc + 3) L r k n σ := g
    rw [if_pos (decide_eq_true h0)] at g2
    exact g2
  have gf : ¬ (x ≤ v) → jj_G X y R Z (pc + 3) L r k n σ := fun h0 => by
    have g2 : jj_G X y R Z (if decide (x ≤ v) = true then a else pc + 3) L r k n σ := g
    rw [if_neg (fun h1 => h0 (of_decide_eq_true h1))] at g2
    exact g2
  intro p e s m args below meth cc H locs ls V P S hl hz
  exact lv_icmp_le V.1 V.2.1 hd (show (pc : Int) + ((a : Int) - (pc : Int)) = (a : Int) by omega) (fun h0 => gt h0 p e s m args below meth cc H locs ls V P S hl hz) (fun h0 => (gf) h0 p e s m args below meth cc H locs ls V P S hl hz)
theorem js_42 : jx_Snd 42 := by
  intro X y R Z k n pc a b d c L st σ q hfr hlo hk0 hn0 hd hc h g
  have hq := Option.some.inj h
  subst hq
  intro p e s m args below meth cc H locs ls V P S hl hz
  exact lv_goto V.1 V.2.1 hd (by omega) (g p e s m args below meth cc H locs ls V P S hl hz)
end
section
theorem jk_0 : (jo_0).all (fun q => jx_ok 0 q.1 q.2) = true := by decide +kernel
theorem jk_1 : (jo_1).all (fun q => jx_ok 1 q.1 q.2) = true := by decide +kernel
theorem jk_2 : (jo_2).all (fun q => jx_ok 2 q.1 q.2) = true := by decide +kernel
theorem jk_3 : (jo_3).all (fun q => jx_ok 3 q.1 q.2) = true := by decide +kernel
theorem jk_4 : (jo_4).all (fun q => jx_ok 4 q.1 q.2) = true := by decide +kernel
theorem jk_5 : (jo_5).all (fun q => jx_ok 5 q.1 q.2) = true := by decide +kernel
theorem jk_6 : (jo_6).all (fun q => jx_ok 6 q.1 q.2) = true := by decide +kernel
theorem jk_7 : (jo_7).all (fun q => jx_ok 7 q.1 q.2) = true := by decide +kernel
theorem jk_8 : (jo_8).all (fun q => jx_ok 8 q.1 q.2) = true := by decide +kernel
theorem jk_9 : (jo_9).all (fun q => jx_ok 9 q.1 q.2) = true := by decide +kernel
theorem jk_10 : (jo_10).all (fun q => jx_ok 10 q.1 q.2) = true := by decide +kernel
theorem jk_11 : (jo_11).all (fun q => jx_ok 11 q.1 q.2) = true := by decide +kernel
theorem jk_12 : (jo_12).all (fun q => jx_ok 12 q.1 q.2) = true := by decide +kernel
theorem jk_13 : (jo_13).all (fun q => jx_ok 13 q.1 q.2) = true := by decide +kernel
theorem jk_14 : (jo_14).all (fun q => jx_ok 14 q.1 q.2) = true := by decide +kernel
theorem jk_15 : (jo_15).all (fun q => jx_ok 15 q.1 q.2) = true := by decide +kernel
theorem jk_16 : (jo_16).all (fun q => jx_ok 16 q.1 q.2) = true := by decide +kernel
theorem jk_17 : (jo_17).all (fun q => jx_ok 17 q.1 q.2) = true := by decide +kernel
theorem jk_18 : (jo_18).all (fun q => jx_ok 18 q.1 q.2) = true := by decide +kernel
theorem jk_19 : (jo_19).all (fun q => jx_ok 19 q.1 q.2) = true := by decide +kernel
theorem jk_20 : (jo_20).all (fun q => jx_ok 20 q.1 q.2) = true := by decide +kernel
theorem jk_21 : (jo_21).all (fun q => jx_ok 21 q.1 q.2) = true := by decide +kernel
theorem jk_22 : (jo_22).all (fun q => jx_ok 22 q.1 q.2) = true := by decide +kernel
theorem jk_23 : (jo_23).all (fun q => jx_ok 23 q.1 q.2) = true := by decide +kernel
end
section
theorem jk_24 : (jo_24).all (fun q => jx_ok 24 q.1 q.2) = true := by decide +kernel
theorem jk_25 : (jo_25).all (fun q => jx_ok 25 q.1 q.2) = true := by decide +kernel
theorem jk_26 : (jo_26).all (fun q => jx_ok 26 q.1 q.2) = true := by decide +kernel
theorem jk_27 : (jo_27).all (fun q => jx_ok 27 q.1 q.2) = true := by decide +kernel
theorem jk_28 : (jo_28).all (fun q => jx_ok 28 q.1 q.2) = true := by decide +kernel
theorem jk_29 : (jo_29).all (fun q => jx_ok 29 q.1 q.2) = true := by decide +kernel
theorem jk_30 : (jo_30).all (fun q => jx_ok 30 q.1 q.2) = true := by decide +kernel
theorem jk_31 : (jo_31).all (fun q => jx_ok 31 q.1 q.2) = true := by decide +kernel
theorem jk_32 : (jo_32).all (fun q => jx_ok 32 q.1 q.2) = true := by decide +kernel
theorem jk_33 : (jo_33).all (fun q => jx_ok 33 q.1 q.2) = true := by decide +kernel
theorem jk_34 : (jo_34).all (fun q => jx_ok 34 q.1 q.2) = true := by decide +kernel
theorem jk_35 : (jo_35).all (fun q => jx_ok 35 q.1 q.2) = true := by decide +kernel
theorem jk_36 : (jo_36).all (fun q => jx_ok 36 q.1 q.2) = true := by decide +kernel
theorem jk_37 : (jo_37).all (fun q => jx_ok 37 q.1 q.2) = true := by decide +kernel
theorem jk_38 : (jo_38).all (fun q => jx_ok 38 q.1 q.2) = true := by decide +kernel
theorem jk_39 : (jo_39).all (fun q => jx_ok 39 q.1 q.2) = true := by decide +kernel
theorem jk_40 : (jo_40).all (fun q => jx_ok 40 q.1 q.2) = true := by decide +kernel
theorem jk_41 : (jo_41).all (fun q => jx_ok 41 q.1 q.2) = true := by decide +kernel
theorem jk_42 : (jo_42).all (fun q => jx_ok 42 q.1 q.2) = true := by decide +kernel
theorem jk_43 : (jo_43).all (fun q => jx_ok 43 q.1 q.2) = true := by decide +kernel
theorem jk_44 : (jo_44).all (fun q => jx_ok 44 q.1 q.2) = true := by decide +kernel
theorem jk_45 : (jo_45).all (fun q => jx_ok 45 q.1 q.2) = true := by decide +kernel
theorem jk_46 : (jo_46).all (fun q => jx_ok 46 q.1 q.2) = true := by decide +kernel
theorem jk_47 : (jo_47).all (fun q => jx_ok 47 q.1 q.2) = true := by decide +kernel
end
section
theorem jk_48 : (jo_48).all (fun q => jx_ok 48 q.1 q.2) = true := by decide +kernel
theorem jk_49 : (jo_49).all (fun q => jx_ok 49 q.1 q.2) = true := by decide +kernel
theorem jk_50 : (jo_50).all (fun q => jx_ok 50 q.1 q.2) = true := by decide +kernel
theorem jk_51 : (jo_51).all (fun q => jx_ok 51 q.1 q.2) = true := by decide +kernel
theorem jk_52 : (jo_52).all (fun q => jx_ok 52 q.1 q.2) = true := by decide +kernel
theorem jk_53 : (jo_53).all (fun q => jx_ok 53 q.1 q.2) = true := by decide +kernel
theorem jk_54 : (jo_54).all (fun q => jx_ok 54 q.1 q.2) = true := by decide +kernel
theorem jk_55 : (jo_55).all (fun q => jx_ok 55 q.1 q.2) = true := by decide +kernel
theorem jk_56 : (jo_56).all (fun q => jx_ok 56 q.1 q.2) = true := by decide +kernel
theorem jk_57 : (jo_57).all (fun q => jx_ok 57 q.1 q.2) = true := by decide +kernel
theorem jk_58 : (jo_58).all (fun q => jx_ok 58 q.1 q.2) = true := by decide +kernel
theorem jk_59 : (jo_59).all (fun q => jx_ok 59 q.1 q.2) = true := by decide +kernel
theorem jk_60 : (jo_60).all (fun q => jx_ok 60 q.1 q.2) = true := by decide +kernel
theorem jk_61 : (jo_61).all (fun q => jx_ok 61 q.1 q.2) = true := by decide +kernel
theorem jk_62 : (jo_62).all (fun q => jx_ok 62 q.1 q.2) = true := by decide +kernel
theorem jk_63 : (jo_63).all (fun q => jx_ok 63 q.1 q.2) = true := by decide +kernel
theorem jk_64 : (jo_64).all (fun q => jx_ok 64 q.1 q.2) = true := by decide +kernel
theorem jk_65 : (jo_65).all (fun q => jx_ok 65 q.1 q.2) = true := by decide +kernel
theorem jk_66 : (jo_66).all (fun q => jx_ok 66 q.1 q.2) = true := by decide +kernel
theorem jk_67 : (jo_67).all (fun q => jx_ok 67 q.1 q.2) = true := by decide +kernel
theorem jk_68 : (jo_68).all (fun q => jx_ok 68 q.1 q.2) = true := by decide +kernel
theorem jk_69 : (jo_69).all (fun q => jx_ok 69 q.1 q.2) = true := by decide +kernel
theorem jk_70 : (jo_70).all (fun q => jx_ok 70 q.1 q.2) = true := by decide +kernel
theorem jk_71 : (jo_71).all (fun q => jx_ok 71 q.1 q.2) = true := by decide +kernel
end
section
theorem jk_72 : (jo_72).all (fun q => jx_ok 72 q.1 q.2) = true := by decide +kernel
theorem jk_73 : (jo_73).all (fun q => jx_ok 73 q.1 q.2) = true := by decide +kernel
theorem jk_74 : (jo_74).all (fun q => jx_ok 74 q.1 q.2) = true := by decide +kernel
theorem jk_75 : (jo_75).all (fun q => jx_ok 75 q.1 q.2) = true := by decide +kernel
theorem jk_76 : (jo_76).all (fun q => jx_ok 76 q.1 q.2) = true := by decide +kernel
theorem jk_77 : (jo_77).all (fun q => jx_ok 77 q.1 q.2) = true := by decide +kernel
theorem jk_78 : (jo_78).all (fun q => jx_ok 78 q.1 q.2) = true := by decide +kernel
theorem jk_79 : (jo_79).all (fun q => jx_ok 79 q.1 q.2) = true := by decide +kernel
theorem jk_80 : (jo_80).all (fun q => jx_ok 80 q.1 q.2) = true := by decide +kernel
theorem jk_81 : (jo_81).all (fun q => jx_ok 81 q.1 q.2) = true := by decide +kernel
theorem jk_82 : (jo_82).all (fun q => jx_ok 82 q.1 q.2) = true := by decide +kernel
theorem jk_83 : (jo_83).all (fun q => jx_ok 83 q.1 q.2) = true := by decide +kernel
theorem jk_84 : (jo_84).all (fun q => jx_ok 84 q.1 q.2) = true := by decide +kernel
theorem jk_85 : (jo_85).all (fun q => jx_ok 85 q.1 q.2) = true := by decide +kernel
theorem jk_86 : (jo_86).all (fun q => jx_ok 86 q.1 q.2) = true := by decide +kernel
theorem jk_87 : (jo_87).all (fun q => jx_ok 87 q.1 q.2) = true := by decide +kernel
theorem jk_88 : (jo_88).all (fun q => jx_ok 88 q.1 q.2) = true := by decide +kernel
theorem jk_89 : (jo_89).all (fun q => jx_ok 89 q.1 q.2) = true := by decide +kernel
theorem jk_90 : (jo_90).all (fun q => jx_ok 90 q.1 q.2) = true := by decide +kernel
theorem jk_91 : (jo_91).all (fun q => jx_ok 91 q.1 q.2) = true := by decide +kernel
theorem jk_92 : (jo_92).all (fun q => jx_ok 92 q.1 q.2) = true := by decide +kernel
theorem jk_93 : (jo_93).all (fun q => jx_ok 93 q.1 q.2) = true := by decide +kernel
theorem jk_94 : (jo_94).all (fun q => jx_ok 94 q.1 q.2) = true := by decide +kernel
theorem jk_95 : (jo_95).all (fun q => jx_ok 95 q.1 q.2) = true := by decide +kernel
end
section
theorem jk_96 : (jo_96).all (fun q => jx_ok 96 q.1 q.2) = true := by decide +kernel
theorem jk_97 : (jo_97).all (fun q => jx_ok 97 q.1 q.2) = true := by decide +kernel
theorem jk_98 : (jo_98).all (fun q => jx_ok 98 q.1 q.2) = true := by decide +kernel
theorem jk_99 : (jo_99).all (fun q => jx_ok 99 q.1 q.2) = true := by decide +kernel
theorem jk_100 : (jo_100).all (fun q => jx_ok 100 q.1 q.2) = true := by decide +kernel
theorem jk_101 : (jo_101).all (fun q => jx_ok 101 q.1 q.2) = true := by decide +kernel
theorem jk_102 : (jo_102).all (fun q => jx_ok 102 q.1 q.2) = true := by decide +kernel
theorem jk_103 : (jo_103).all (fun q => jx_ok 103 q.1 q.2) = true := by decide +kernel
theorem jk_104 : (jo_104).all (fun q => jx_ok 104 q.1 q.2) = true := by decide +kernel
theorem jk_105 : (jo_105).all (fun q => jx_ok 105 q.1 q.2) = true := by decide +kernel
theorem jk_106 : (jo_106).all (fun q => jx_ok 106 q.1 q.2) = true := by decide +kernel
theorem jk_107 : (jo_107).all (fun q => jx_ok 107 q.1 q.2) = true := by decide +kernel
theorem jk_108 : (jo_108).all (fun q => jx_ok 108 q.1 q.2) = true := by decide +kernel
theorem jk_109 : (jo_109).all (fun q => jx_ok 109 q.1 q.2) = true := by decide +kernel
theorem jk_110 : (jo_110).all (fun q => jx_ok 110 q.1 q.2) = true := by decide +kernel
theorem jk_111 : (jo_111).all (fun q => jx_ok 111 q.1 q.2) = true := by decide +kernel
theorem jk_112 : (jo_112).all (fun q => jx_ok 112 q.1 q.2) = true := by decide +kernel
theorem jk_113 : (jo_113).all (fun q => jx_ok 113 q.1 q.2) = true := by decide +kernel
theorem jk_114 : (jo_114).all (fun q => jx_ok 114 q.1 q.2) = true := by decide +kernel
theorem jk_115 : (jo_115).all (fun q => jx_ok 115 q.1 q.2) = true := by decide +kernel
theorem jk_116 : (jo_116).all (fun q => jx_ok 116 q.1 q.2) = true := by decide +kernel
theorem jk_117 : (jo_117).all (fun q => jx_ok 117 q.1 q.2) = true := by decide +kernel
theorem jk_118 : (jo_118).all (fun q => jx_ok 118 q.1 q.2) = true := by decide +kernel
theorem jk_119 : (jo_119).all (fun q => jx_ok 119 q.1 q.2) = true := by decide +kernel
end
section
theorem jk_120 : (jo_120).all (fun q => jx_ok 120 q.1 q.2) = true := by decide +kernel
theorem jk_121 : (jo_121).all (fun q => jx_ok 121 q.1 q.2) = true := by decide +kernel
theorem jk_122 : (jo_122).all (fun q => jx_ok 122 q.1 q.2) = true := by decide +kernel
theorem jk_123 : (jo_123).all (fun q => jx_ok 123 q.1 q.2) = true := by decide +kernel
theorem jk_124 : (jo_124).all (fun q => jx_ok 124 q.1 q.2) = true := by decide +kernel
theorem jk_125 : (jo_125).all (fun q => jx_ok 125 q.1 q.2) = true := by decide +kernel
theorem jk_126 : (jo_126).all (fun q => jx_ok 126 q.1 q.2) = true := by decide +kernel
theorem jk_127 : (jo_127).all (fun q => jx_ok 127 q.1 q.2) = true := by decide +kernel
theorem jk_128 : (jo_128).all (fun q => jx_ok 128 q.1 q.2) = true := by decide +kernel
theorem jk_129 : (jo_129).all (fun q => jx_ok 129 q.1 q.2) = true := by decide +kernel
theorem jk_130 : (jo_130).all (fun q => jx_ok 130 q.1 q.2) = true := by decide +kernel
theorem jk_131 : (jo_131).all (fun q => jx_ok 131 q.1 q.2) = true := by decide +kernel
theorem jk_132 : (jo_132).all (fun q => jx_ok 132 q.1 q.2) = true := by decide +kernel
theorem jk_133 : (jo_133).all (fun q => jx_ok 133 q.1 q.2) = true := by decide +kernel
theorem jk_134 : (jo_134).all (fun q => jx_ok 134 q.1 q.2) = true := by decide +kernel
theorem jk_135 : (jo_135).all (fun q => jx_ok 135 q.1 q.2) = true := by decide +kernel
theorem jk_136 : (jo_136).all (fun q => jx_ok 136 q.1 q.2) = true := by decide +kernel
theorem jk_137 : (jo_137).all (fun q => jx_ok 137 q.1 q.2) = true := by decide +kernel
theorem jk_138 : (jo_138).all (fun q => jx_ok 138 q.1 q.2) = true := by decide +kernel
theorem jk_139 : (jo_139).all (fun q => jx_ok 139 q.1 q.2) = true := by decide +kernel
theorem jk_140 : (jo_140).all (fun q => jx_ok 140 q.1 q.2) = true := by decide +kernel
theorem jk_141 : (jo_141).all (fun q => jx_ok 141 q.1 q.2) = true := by decide +kernel
theorem jk_142 : (jo_142).all (fun q => jx_ok 142 q.1 q.2) = true := by decide +kernel
theorem jk_143 : (jo_143).all (fun q => jx_ok 143 q.1 q.2) = true := by decide +kernel
end
section
theorem jk_144 : (jo_144).all (fun q => jx_ok 144 q.1 q.2) = true := by decide +kernel
theorem jk_145 : (jo_145).all (fun q => jx_ok 145 q.1 q.2) = true := by decide +kernel
theorem jk_146 : (jo_146).all (fun q => jx_ok 146 q.1 q.2) = true := by decide +kernel
theorem jk_147 : (jo_147).all (fun q => jx_ok 147 q.1 q.2) = true := by decide +kernel
theorem jk_148 : (jo_148).all (fun q => jx_ok 148 q.1 q.2) = true := by decide +kernel
theorem jk_149 : (jo_149).all (fun q => jx_ok 149 q.1 q.2) = true := by decide +kernel
theorem jk_150 : (jo_150).all (fun q => jx_ok 150 q.1 q.2) = true := by decide +kernel
theorem jk_151 : (jo_151).all (fun q => jx_ok 151 q.1 q.2) = true := by decide +kernel
theorem jk_152 : (jo_152).all (fun q => jx_ok 152 q.1 q.2) = true := by decide +kernel
theorem jk_153 : (jo_153).all (fun q => jx_ok 153 q.1 q.2) = true := by decide +kernel
theorem jk_154 : (jo_154).all (fun q => jx_ok 154 q.1 q.2) = true := by decide +kernel
theorem jk_155 : (jo_155).all (fun q => jx_ok 155 q.1 q.2) = true := by decide +kernel
theorem jk_156 : (jo_156).all (fun q => jx_ok 156 q.1 q.2) = true := by decide +kernel
theorem jk_157 : (jo_157).all (fun q => jx_ok 157 q.1 q.2) = true := by decide +kernel
theorem jk_158 : (jo_158).all (fun q => jx_ok 158 q.1 q.2) = true := by decide +kernel
theorem jk_159 : (jo_159).all (fun q => jx_ok 159 q.1 q.2) = true := by decide +kernel
theorem jk_160 : (jo_160).all (fun q => jx_ok 160 q.1 q.2) = true := by decide +kernel
theorem jk_161 : (jo_161).all (fun q => jx_ok 161 q.1 q.2) = true := by decide +kernel
theorem jk_162 : (jo_162).all (fun q => jx_ok 162 q.1 q.2) = true := by decide +kernel
theorem jk_163 : (jo_163).all (fun q => jx_ok 163 q.1 q.2) = true := by decide +kernel
theorem jk_164 : (jo_164).all (fun q => jx_ok 164 q.1 q.2) = true := by decide +kernel
theorem jk_165 : (jo_165).all (fun q => jx_ok 165 q.1 q.2) = true := by decide +kernel
theorem jk_166 : (jo_166).all (fun q => jx_ok 166 q.1 q.2) = true := by decide +kernel
theorem jk_167 : (jo_167).all (fun q => jx_ok 167 q.1 q.2) = true := by decide +kernel
end
section
theorem jk_168 : (jo_168).all (fun q => jx_ok 168 q.1 q.2) = true := by decide +kernel
theorem jk_169 : (jo_169).all (fun q => jx_ok 169 q.1 q.2) = true := by decide +kernel
theorem jk_170 : (jo_170).all (fun q => jx_ok 170 q.1 q.2) = true := by decide +kernel
theorem jk_171 : (jo_171).all (fun q => jx_ok 171 q.1 q.2) = true := by decide +kernel
theorem jk_172 : (jo_172).all (fun q => jx_ok 172 q.1 q.2) = true := by decide +kernel
theorem jk_173 : (jo_173).all (fun q => jx_ok 173 q.1 q.2) = true := by decide +kernel
theorem jk_174 : (jo_174).all (fun q => jx_ok 174 q.1 q.2) = true := by decide +kernel
theorem jk_175 : (jo_175).all (fun q => jx_ok 175 q.1 q.2) = true := by decide +kernel
theorem jk_176 : (jo_176).all (fun q => jx_ok 176 q.1 q.2) = true := by decide +kernel
theorem jk_177 : (jo_177).all (fun q => jx_ok 177 q.1 q.2) = true := by decide +kernel
theorem jk_178 : (jo_178).all (fun q => jx_ok 178 q.1 q.2) = true := by decide +kernel
theorem jk_179 : (jo_179).all (fun q => jx_ok 179 q.1 q.2) = true := by decide +kernel
end
section
theorem jx_lookup {pc : Nat} {o : jx_O} : ∀ {l : List (Nat × jx_O)}, l.lookup pc = some o → (pc, o) ∈ l := by
  intro l
  induction l with
  | nil => intro h; cases h
  | cons q l ih =>
    intro h
    obtain ⟨a, b⟩ := q
    unfold List.lookup at h
    split at h
    · rename_i he
      cases h
      rw [eq_of_beq he]
      exact List.mem_cons_self
    · exact List.mem_cons_of_mem _ (ih h)
set_option maxRecDepth 100000 in
theorem jt_okA : jx_All (fun y : Nat => (jt_ops.getD y []).all (fun q => jx_ok y q.1 q.2) = true) [0, 1, 2, 3, 4, 5, 6, 7, 8, 9, 10, 11, 12, 13, 14, 15, 16, 17, 18, 19, 20, 21, 22, 23, 24, 25, 26, 27, 28, 29, 30, 31, 32, 33, 34, 35, 36, 37, 38, 39, 40, 41, 42, 43, 44, 45, 46, 47, 48, 49, 50, 51, 52, 53, 54, 55, 56, 57, 58, 59, 60, 61, 62, 63, 64, 65, 66, 67, 68, 69, 70, 71, 72, 73, 74, 75, 76, 77, 78, 79, 80, 81, 82, 83, 84, 85, 86, 87, 88, 89, 90, 91, 92, 93, 94, 95, 96, 97, 98, 99, 100, 101, 102, 103, 104, 105, 106, 107, 108, 109, 110, 111, 112, 113, 114, 115, 116, 117, 118, 119, 120, 121, 122, 123, 124, 125, 126, 127, 128, 129, 130, 131, 132, 133, 134, 135, 136, 137, 138, 139, 140, 141, 142, 143, 144, 145, 146, 147, 148, 149, 150, 151, 152, 153, 154, 155, 156, 157, 158, 159, 160, 161, 162, 163, 164, 165, 166, 167, 168, 169, 170, 171, 172, 173, 174, 175, 176, 177, 178, 179] := jx_c jk_0 (jx_c jk_1 (jx_c jk_2 (jx_c jk_3 (jx_c jk_4 (jx_c jk_5 (jx_c jk_6 (jx_c jk_7 (jx_c jk_8 (jx_c jk_9 (jx_c jk_10 (jx_c jk_11 (jx_c jk_12 (jx_c jk_13 (jx_c jk_14 (jx_c jk_15 (jx_c jk_16 (jx_c jk_17 (jx_c jk_18 (jx_c jk_19 (jx_c jk_20 (jx_c jk_21 (jx_c jk_22 (jx_c jk_23 (jx_c jk_24 (jx_c jk_25 (jx_c jk_26 (jx_c jk_27 (jx_c jk_28 (jx_c jk_29 (jx_c jk_30 (jx_c jk_31 (jx_c jk_32 (jx_c jk_33 (jx_c jk_34 (jx_c jk_35 (jx_c jk_36 (jx_c jk_37 (jx_c jk_38 (jx_c jk_39 (jx_c jk_40 (jx_c jk_41 (jx_c jk_42 (jx_c jk_43 (jx_c jk_44 (jx_c jk_45 (jx_c jk_46 (jx_c jk_47 (jx_c jk_48 (jx_c jk_49 (jx_c jk_50 (jx_c jk_51 (jx_c jk_52 (jx_c jk_53 (jx_c jk_54 (jx_c jk_55 (jx_c jk_56 (jx_c jk_57 (jx_c jk_58 (jx_c jk_59 (jx_c jk_60 (jx_c jk_61 (jx_c jk_62 (jx_c jk_63 (jx_c jk_64 (jx_c jk_65 (jx_c jk_66 (jx_c jk_67 (jx_c jk_68 (jx_c jk_69 (jx_c jk_70 (jx_c jk_71 (jx_c jk_72 (jx_c jk_73 (jx_c jk_74 (jx_c jk_75 (jx_c jk_76 (jx_c jk_77 (jx_c jk_78 (jx_c jk_79 (jx_c jk_80 (jx_c jk_81 (jx_c jk_82 (jx_c jk_83 (jx_c jk_84 (jx_c jk_85 (jx_c jk_86 (jx_c jk_87 (jx_c jk_88 (jx_c jk_89 (jx_c jk_90 (jx_c jk_91 (jx_c jk_92 (jx_c jk_93 (jx_c jk_94 (jx_c jk_95 (jx_c jk_96 (jx_c jk_97 (jx_c jk_98 (jx_c jk_99 (jx_c jk_100 (jx_c jk_101 (jx_c jk_102 (jx_c jk_103 (jx_c jk_104 (jx_c jk_105 (jx_c jk_106 (jx_c jk_107 (jx_c jk_108 (jx_c jk_109 (jx_c jk_110 (jx_c jk_111 (jx_c jk_112 (jx_c jk_113 (jx_c jk_114 (jx_c jk_115 (jx_c jk_116 (jx_c jk_117 (jx_c jk_118 (jx_c jk_119 (jx_c jk_120 (jx_c jk_121 (jx_c jk_122 (jx_c jk_123 (jx_c jk_124 (jx_c jk_125 (jx_c jk_126 (jx_c jk_127 (jx_c jk_128 (jx_c jk_129 (jx_c jk_130 (jx_c jk_131 (jx_c jk_132 (jx_c jk_133 (jx_c jk_134 (jx_c jk_135 (jx_c jk_136 (jx_c jk_137 (jx_c jk_138 (jx_c jk_139 (jx_c jk_140 (jx_c jk_141 (jx_c jk_142 (jx_c jk_143 (jx_c jk_144 (jx_c jk_145 (jx_c jk_146 (jx_c jk_147 (jx_c jk_148 (jx_c jk_149 (jx_c jk_150 (jx_c jk_151 (jx_c jk_152 (jx_c jk_153 (jx_c jk_154 (jx_c jk_155 (jx_c jk_156 (jx_c jk_157 (jx_c jk_158 (jx_c jk_159 (jx_c jk_160 (jx_c jk_161 (jx_c jk_162 (jx_c jk_163 (jx_c jk_164 (jx_c jk_165 (jx_c jk_166 (jx_c jk_167 (jx_c jk_168 (jx_c jk_169 (jx_c jk_170 (jx_c jk_171 (jx_c jk_172 (jx_c jk_173 (jx_c jk_174 (jx_c jk_175 (jx_c jk_176 (jx_c jk_177 (jx_c jk_178 (jx_c jk_179 (jx_e))))))))))))))))))))))))))))))))))))))))))))))))))))))))))))))))))))))))))))))))))))))))))))))))))))))))))))))))))))))))))))))))))))))))))))))))))))))))))))))))))))))))))))))))))))
theorem jt_okR : [0, 1, 2, 3, 4, 5, 6, 7, 8, 9, 10, 11, 12, 13, 14, 15, 16, 17, 18, 19, 20, 21, 22, 23, 24, 25, 26, 27, 28, 29, 30, 31, 32, 33, 34, 35, 36, 37, 38, 39, 40, 41, 42, 43, 44, 45, 46, 47, 48, 49, 50, 51, 52, 53, 54, 55, 56, 57, 58, 59, 60, 61, 62, 63, 64, 65, 66, 67, 68, 69, 70, 71, 72, 73, 74, 75, 76, 77, 78, 79, 80, 81, 82, 83, 84, 85, 86, 87, 88, 89, 90, 91, 92, 93, 94, 95, 96, 97, 98, 99, 100, 101, 102, 103, 104, 105, 106, 107, 108, 109, 110, 111, 112, 113, 114, 115, 116, 117, 118, 119, 120, 121, 122, 123, 124, 125, 126, 127, 128, 129, 130, 131, 132, 133, 134, 135, 136, 137, 138, 139, 140, 141, 142, 143, 144, 145, 146, 147, 148, 149, 150, 151, 152, 153, 154, 155, 156, 157, 158, 159, 160, 161, 162, 163, 164, 165, 166, 167, 168, 169, 170, 171, 172, 173, 174, 175, 176, 177, 178, 179] = List.range (jt_law + 1) := by decide +kernel
theorem jt_ok {y pc : Nat} {o : jx_O} (h : jx_op y pc = some o) : jx_ok y pc o = true := by
  unfold jx_op at h
  by_cases hy : y < jt_law + 1
  · exact List.all_eq_true.mp (jx_all jt_okA y (by rw [jt_okR]; exact List.mem_range.mpr hy)) (pc, o) (jx_lookup h)
  · rw [List.getD_eq_getElem?_getD, List.getElem?_eq_none (by show jt_law + 1 ≤ y; omega)] at h
    cases h
end
section
/-! Fields, arrays, constants: each step of the small machine is one of the real one. -/
theorem jx_obj_of {σ : jj_S} {i b d : Nat} (h : jx_obj σ i b d = true) : i < σ.2.2.2.1 ∧ (σ.2.2.1 i).1 = 0 ∧ (σ.2.2.1 i).2.1 = b ∧ d < jt_n b := by
  unfold jx_obj at h
  obtain ⟨h1, h⟩ := jx_and h
  obtain ⟨h2, h⟩ := jx_and h
  obtain ⟨h3, h4⟩ := jx_and h
  exact ⟨of_decide_eq_true h1, of_decide_eq_true h2, of_decide_eq_true h3, of_decide_eq_true h4⟩
theorem jx_arr_of {σ : jj_S} {q t i : Nat} {x : Int32} (h : jx_arr σ q t i x = true) : i < σ.2.2.2.1 ∧ (σ.2.2.1 i).1 = q ∧ (σ.2.2.1 i).2.1 = t ∧ vp_in x (σ.2.2.1 i).2.2 := by
  unfold jx_arr at h
  obtain ⟨h1, h⟩ := jx_and h
  obtain ⟨h2, h⟩ := jx_and h
  obtain ⟨h3, h⟩ := jx_and h
  obtain ⟨h4, h5⟩ := jx_and h
  refine ⟨of_decide_eq_true h1, of_decide_eq_true h2, of_decide_eq_true h3, fun hh => ?_⟩
  have h5 := of_decide_eq_true h5
  rcases hh with hh | hh
  · rw [decide_eq_true hh] at h4; cases h4
  · omega
theorem jj_fs_at {X : jj_X} {σ : jj_S} {i b d : Nat} (h : d < jt_n b) : (jj_fs X σ i b)[d]? = some (jj_cv X (if jt_rf b d = true then jx_rf (σ.2.1 i d) else .int (σ.1 i d))) := by
  unfold jj_fs
  rw [List.getElem?_map, List.getElem?_range h]
  show some (if jt_rf b d = true then va_rf ((σ.2.1 i d).map (jj_ad X)) else .int (σ.1 i d)) = some _
  congr 1
  by_cases hr : jt_rf b d = true
  · rw [if_pos hr, if_pos hr, jj_cv_rf]
  · rw [if_neg hr, if_neg hr]; rfl
theorem jj_fs_len {X : jj_X} {σ : jj_S} {i b : Nat} : (jj_fs X σ i b).length = jt_n b := by simp [jj_fs]
theorem jj_fs_up {X : jj_X} {σ : jj_S} {i b d : Nat} {x : Int32} (hd : d < jt_n b) (hr : jt_rf b d = false) : (jj_fs X σ i b).set d (.int x) = jj_fs X (jj_up σ.1 i d x, σ.2.1, σ.2.2) i b := by
  apply List.ext_getElem?
  intro j
  rw [List.getElem?_set, jj_fs_len]
  by_cases hj : d = j
  · subst hj
    rw [if_pos rfl, if_pos hd, jj_fs_at hd, if_neg (by rw [hr]; decide)]
    simp [jj_up, upd, jj_cv]
  · rw [if_neg hj]
    by_cases hl : j < jt_n b
    · rw [jj_fs_at hl, jj_fs_at hl]
      simp only [jj_up, if_pos, upd]
      rw [if_neg (Ne.symm hj)]
    · rw [List.getElem?_eq_none (by rw [jj_fs_len]; omega), List.getElem?_eq_none (by rw [jj_fs_len]; omega)]
theorem jj_fs_ur {X : jj_X} {σ : jj_S} {i b d v : Nat} (hd : d < jt_n b) (hr : jt_rf b d = true) : (jj_fs X σ i b).set d (.ref (jj_ad X v)) = jj_fs X (σ.1, jj_ur σ.2.1 i d (some v), σ.2.2) i b := by
  apply List.ext_getElem?
  intro j
  rw [List.getElem?_set, jj_fs_len]
  by_cases hj : d = j
  · subst hj
    rw [if_pos rfl, if_pos hd, jj_fs_at hd, if_pos hr]
    simp [jj_ur, va_up, jj_cv, jx_rf]
  · rw [if_neg hj]
    by_cases hl : j < jt_n b
    · rw [jj_fs_at hl, jj_fs_at hl]
      simp only [jj_ur, if_pos, va_up]
      rw [if_neg (Ne.symm hj)]
    · rw [List.getElem?_eq_none (by rw [jj_fs_len]; omega), List.getElem?_eq_none (by rw [jj_fs_len]; omega)]
theorem jj_fs_eq {X : jj_X} {σ τ : jj_S} {i b : Nat} (h1 : τ.1 i = σ.1 i) (h2 : τ.2.1 i = σ.2.1 i) : jj_fs X τ i b = jj_fs X σ i b := by
  unfold jj_fs
  rw [h1, h2]
theorem jj_E_eq {X : jj_X} {σ τ : jj_S} {i : Nat} (h1 : τ.1 i = σ.1 i) (h2 : τ.2.1 i = σ.2.1 i) (h3 : τ.2.2.1 i = σ.2.2.1 i) : jj_E X τ i = jj_E X σ i := by
  unfold jj_E
  rw [h3, h1, h2, jj_fs_eq h1 h2]
theorem jj_up_ne {f : Nat → Nat → Int32} {i k j : Nat} {x : Int32} (h : j ≠ i) : jj_up f i k x j = f j := if_neg h
theorem jj_up_at {f : Nat → Nat → Int32} {i k : Nat} {x : Int32} : jj_up f i k x i = upd (f i) k x := if_pos rfl
theorem jj_ur_ne {f : Nat → Nat → Option Nat} {i k j : Nat} {x : Option Nat} (h : j ≠ i) : jj_ur f i k x j = f j := if_neg h
theorem jj_ur_at {f : Nat → Nat → Option Nat} {i k : Nat} {x : Option Nat} : jj_ur f i k x i = va_up (f i) k x := if_pos rfl
theorem jj_P.obj {X : jj_X} {σ : jj_S} {i b d : Nat} (ho : jx_obj σ i b d = true) : (jj_wl X σ)[i]? = some (jj_ad X i, .inr (b, jj_fs X σ i b)) := by
  obtain ⟨h1, h2, h3, h4⟩ := jx_obj_of ho
  rw [jj_wl_at h1, jj_E0 h2, h3]
theorem jj_P.num {X : jj_X} {σ : jj_S} {i t : Nat} {x : Int32} (ho : jx_arr σ 1 t i x = true) : (jj_wl X σ)[i]? = some (jj_ad X i, .inl (X.2.2.2.2.1 t, (σ.2.2.1 i).2.2, .inl (σ.1 i))) := by
  obtain ⟨h1, h2, h3, h4⟩ := jx_arr_of ho
  rw [jj_wl_at h1, jj_E1 h2, h3]
theorem jj_P.rfs {X : jj_X} {σ : jj_S} {i t : Nat} {x : Int32} (ho : jx_arr σ 2 t i x = true) : (jj_wl X σ)[i]? = some (jj_ad X i, .inl (X.2.2.2.2.1 t, (σ.2.2.1 i).2.2, .inr (.inr (.inr (.inr fun j => (σ.2.1 i j).map (jj_ad X)))))) := by
  obtain ⟨h1, h2, h3, h4⟩ := jx_arr_of ho
  rw [jj_wl_at h1, jj_E2 h2, h3]
section JI
variable {pc a b d len t : Nat} {c : Int32} {L : jx_L} {st : List Value} {σ : jj_S} {q : jx_N}
theorem ji_get (h : jx_get pc a b d c L st σ = some q) : ∃ i r, st = .ref i :: r ∧ jx_obj σ i b d = true ∧ q = (pc + 3, L, (if jt_rf b d = true then jx_rf (σ.2.1 i d) else .int (σ.1 i d)) :: r, σ.1, σ.2.1) := by
  unfold jx_get at h
  split at h
  · split at h
    · cases h; exact ⟨_, _, rfl, by assumption, rfl⟩
    · cases h
  · cases h
theorem ji_put (h : jx_put pc a b d c L st σ = some q) : (∃ x i r, st = .int x :: .ref i :: r ∧ jx_obj σ i b d = true ∧ (jt_rf b d = false ∧ jx_fit (jt_ft b d) x = true) ∧ q = (pc + 3, L, r, jj_up σ.1 i d x, σ.2.1)) ∨
    (∃ x i r, st = .ref x :: .ref i :: r ∧ jx_obj σ i b d = true ∧ (jt_rf b d = true ∧ jx_isr (jt_ft b d) = true) ∧ q = (pc + 3, L, r, σ.1, jj_ur σ.2.1 i d (some x))) := by
  unfold jx_put at h
  split at h
  · split at h
    · split at h
      · cases h; exact Or.inl ⟨_, _, _, rfl, by assumption, by assumption, rfl⟩
      · cases h
    · cases h
  · split at h
    · split at h
      · cases h; exact Or.inr ⟨_, _, _, rfl, by assumption, by assumption, rfl⟩
      · cases h
    · cases h
  · cases h
theorem ji_nld (h : jx_nld t pc a b d c L st σ = some q) : ∃ x i r, st = .int x :: .ref i :: r ∧ jx_arr σ 1 t i x = true ∧ q = (pc + 1, L, .int (σ.1 i x.toNatClampNeg) :: r, σ.1, σ.2.1) := by
  unfold jx_nld at h
  split at h
  · split at h
    · cases h; exact ⟨_, _, _, rfl, by assumption, rfl⟩
    · cases h
  · cases h
theorem ji_rld (h : jx_rld pc a b d c L st σ = some q) : ∃ x i r, st = .int x :: .ref i :: r ∧ (jx_arr σ 2 (σ.2.2.1 i).2.1 i x = true ∧ jx_obt (σ.2.2.1 i).2.1 = true) ∧ q = (pc + 1, L, jx_rf (σ.2.1 i x.toNatClampNeg) :: r, σ.1, σ.2.1) := by
  unfold jx_rld at h
  split at h
  · split at h
    · cases h; exact ⟨_, _, _, rfl, by assumption, rfl⟩
    · cases h
  · cases h
theorem ji_nst {f : Int32 → Int32} (h : jx_nst t f pc a b d c L st σ = some q) : ∃ v x i r, st = .int v :: .int x :: .ref i :: r ∧ jx_arr σ 1 t i x = true ∧ q = (pc + 1, L, r, jj_up σ.1 i x.toNatClampNeg (f v), σ.2.1) := by
  unfold jx_nst at h
  split at h
  · split at h
    · cases h; exact ⟨_, _, _, _, rfl, by assumption, rfl⟩
    · cases h
  · cases h
theorem ji_rst (h : jx_rst pc a b d c L st σ = some q) : ∃ v x i r, st = .ref v :: .int x :: .ref i :: r ∧ (jx_arr σ 2 b i x = true ∧ v < σ.2.2.2.1 ∧ (σ.2.2.1 v).1 = 0 ∧ (σ.2.2.1 v).2.1 = d) ∧ q = (pc + 1, L, r, σ.1, jj_ur σ.2.1 i x.toNatClampNeg (some v)) := by
  unfold jx_rst at h
  split at h
  · split at h
    · cases h; exact ⟨_, _, _, _, rfl, by assumption, rfl⟩
    · cases h
  · cases h
theorem ji_len (h : jx_len pc a b d c L st σ = some q) : ∃ i r, st = .ref i :: r ∧ (i < σ.2.2.2.1 ∧ ((σ.2.2.1 i).1 = 1 ∨ (σ.2.2.1 i).1 = 2) ∧ (σ.2.2.1 i).2.1 < jt_ty.length) ∧ q = (pc + 1, L, .int (Int32.ofNat (σ.2.2.1 i).2.2) :: r, σ.1, σ.2.1) := by
  unfold jx_len at h
  split at h
  · split at h
    · cases h; exact ⟨_, _, rfl, by assumption, rfl⟩
    · cases h
  · cases h
end JI
theorem js_3 : jx_Snd 3 := by
  intro X y R Z k n pc a b d c L st σ q hfr hlo hk0 hn0 hd hc h g
  have hq := Option.some.inj h
  subst hq
  intro p e s m args below meth cc H locs ls V P S hl hz
  exact W.ldc V.1 V.2.1 V.2.2.2.1 (V.2.2.2.2.1 _ (jt_lc_ok (of_decide_eq_true (p := (jt_c y, a, c) ∈ jt_lc) hc))) rfl hd (g p e s m args below meth cc H locs ls V P S hl hz)
theorem js_45 : jx_Snd 45 := by
  intro X y R Z k n pc a b d c L st σ q hfr hlo hk0 hn0 hd hc h g
  obtain ⟨i, r, rfl, ho, rfl⟩ := ji_get (a := a) (b := b) (d := d) (c := c) h
  obtain ⟨hm, hb⟩ := jx_and (a := decide ((jt_c y, a, b, d) ∈ jt_lf)) (b := decide (b < jt_C.length)) hc
  have hb := of_decide_eq_true hb
  intro p e s m args below meth cc H locs ls V P S hl hz
  exact va_get V.1 V.2.1 V.2.2.2.2.1 (jt_lays hb) V.2.2.2.1 V.2.2.2.2.2.2.2.2.1.1 P.2 i (jj_P.obj ho) (jt_cl_at hb) d (jx_obj_of ho).2.2.2 (V.2.2.2.2.1 _ (jt_lf_ok (of_decide_eq_true hm)).1) (fun _ hh => hh) (jj_fs_at (jx_obj_of ho).2.2.2) hd (g p e s m args below meth cc H locs ls V P S hl hz)
theorem js_46 : jx_Snd 46 := by
  intro X y R Z k n pc a b d c L st σ q hfr hlo hk0 hn0 hd hc h g
  obtain ⟨i, r, rfl, ho, rfl⟩ := ji_get (a := a) (b := b) (d := d) (c := c) h
  obtain ⟨hm, hb⟩ := jx_and (a := decide ((jt_c y, a, b, d) ∈ jt_ln)) (b := decide (b < jt_C.length)) hc
  have hb := of_decide_eq_true hb
  intro p e s m args below meth cc H locs ls V P S hl hz
  exact va_getN V.1 V.2.1 V.2.2.2.2.1 (jt_lays hb) V.2.2.2.1 V.2.2.2.2.2.2.2.2.1.1 P.2 i (jj_P.obj ho) (jt_cl_at hb) d (jx_obj_of ho).2.2.2 (va_Nw.use rfl (V.2.2.2.2.2.2.2.2.1.2.1 (jt_c y, a, b, d) (of_decide_eq_true hm))) (fun _ hh => hh) (jj_fs_at (jx_obj_of ho).2.2.2) hd (g p e s m args below meth cc H locs ls V P S hl hz)
theorem jx_fit_of {t : FieldType} {x : Int32} (h : jx_fit t x = true) : narrow t (.int x) = .int x ∧ fits t (.int x) = true := by
  unfold jx_fit at h
  split at h
  · exact ⟨rfl, rfl⟩
  · rcases of_decide_eq_true h with rfl | rfl <;> exact ⟨by decide, by decide⟩
  · cases h
theorem jx_isr_of {t : FieldType} {x : Nat} (h : jx_isr t = true) : narrow t (.ref x) = .ref x ∧ fits t (.ref x) = true := by
  unfold jx_isr at h
  split at h
  · exact ⟨rfl, rfl⟩
  · exact ⟨rfl, rfl⟩
  · cases h
/-- the store behind a number put -/
theorem jj_P.putn {X : jj_X} {σ : jj_S} {i b d : Nat} {x : Int32} {H1 : Heap} (hT : σ.2.2.2.1 ≤ 1000000) (ho : jx_obj σ i b d = true) (hr : jt_rf b d = false) (h : va_P X.2.1 jt_cl ((jj_wl X σ).set i (jj_ad X i, .inr (b, (jj_fs X σ i b).set d (.int x)))) H1) : jj_P X (jj_up σ.1 i d x, σ.2.1, σ.2.2) H1 := by
  obtain ⟨h1, h2, h3, h4⟩ := jx_obj_of ho
  refine ⟨hT, ?_⟩
  rw [jj_wl_set (τ := (jj_up σ.1 i d x, σ.2.1, σ.2.2)) h1 rfl ?_ (fun j hj => jj_E_eq (jj_up_ne hj) rfl rfl)] at h
  · exact h
  · rw [jj_E0 (σ := (jj_up σ.1 i d x, σ.2.1, σ.2.2)) h2]
    show Sum.inr ((σ.2.2.1 i).2.1, jj_fs X (jj_up σ.1 i d x, σ.2.1, σ.2.2) i (σ.2.2.1 i).2.1) = _
    rw [h3, jj_fs_up h4 hr]
theorem jj_P.putr {X : jj_X} {σ : jj_S} {i b d v : Nat} {H1 : Heap} (hT : σ.2.2.2.1 ≤ 1000000) (ho : jx_obj σ i b d = true) (hr : jt_rf b d = true) (h : va_P X.2.1 jt_cl ((jj_wl X σ).set i (jj_ad X i, .inr (b, (jj_fs X σ i b).set d (.ref (jj_ad X v))))) H1) : jj_P X (σ.1, jj_ur σ.2.1 i d (some v), σ.2.2) H1 := by
  obtain ⟨h1, h2, h3, h4⟩ := jx_obj_of ho
  refine ⟨hT, ?_⟩
  rw [jj_wl_set (τ := (σ.1, jj_ur σ.2.1 i d (some v), σ.2.2)) h1 rfl ?_ (fun j hj => jj_E_eq rfl (jj_ur_ne hj) rfl)] at h
  · exact h
  · rw [jj_E0 (σ := (σ.1, jj_ur σ.2.1 i d (some v), σ.2.2)) h2]
    show Sum.inr ((σ.2.2.1 i).2.1, jj_fs X (σ.1, jj_ur σ.2.1 i d (some v), σ.2.2) i (σ.2.2.1 i).2.1) = _
    rw [h3, jj_fs_ur h4 hr]
theorem js_47 : jx_Snd 47 := by
  intro X y R Z k n pc a b d c L st σ q hfr hlo hk0 hn0 hd hc h g
  obtain ⟨hmb, hf⟩ := jx_and (a := (decide ((jt_c y, a, b, d) ∈ jt_lf) && decide (b < jt_C.length))) (b := decide ((jt_T b d).2.2.2 = false)) hc
  obtain ⟨hm, hb⟩ := jx_and hmb
  have hb := of_decide_eq_true hb
  have hf := of_decide_eq_true hf
  rcases ji_put (a := a) (b := b) (d := d) (c := c) h with ⟨x, i, r, rfl, ho, ⟨h1, h2⟩, rfl⟩ | ⟨x, i, r, rfl, ho, ⟨h1, h2⟩, rfl⟩
  · intro p e s m args below meth cc H locs ls V P S hl hz
    exact va_put (v := .int x) V.1 V.2.1 V.2.2.2.2.1 (jt_lays hb) (jt_ft b) (jt_desc hb) (jt_names hb) V.2.2.2.1 V.2.2.2.2.2.2.2.2.1.1 P.2 P.D S i (jj_P.obj ho) (jt_cl_at hb) d (jx_obj_of ho).2.2.2 (V.2.2.2.2.1 _ (jt_lf_ok (of_decide_eq_true hm)).1) (fun _ hh => hh) hf (jt_desc hb d (jx_obj_of ho).2.2.2) (jx_fit_of h2).1 (jx_fit_of h2).2 (by rw [jj_fs_len]; exact (jx_obj_of ho).2.2.2) hd (fun H1 locs1 hP1 _ hS1 => g p e s m args below meth cc H1 locs1 ls V (jj_P.putn P.1 ho h1 hP1) hS1 hl hz)
  · intro p e s m args below meth cc H locs ls V P S hl hz
    exact va_put (v := .ref (jj_ad X x)) V.1 V.2.1 V.2.2.2.2.1 (jt_lays hb) (jt_ft b) (jt_desc hb) (jt_names hb) V.2.2.2.1 V.2.2.2.2.2.2.2.2.1.1 P.2 P.D S i (jj_P.obj ho) (jt_cl_at hb) d (jx_obj_of ho).2.2.2 (V.2.2.2.2.1 _ (jt_lf_ok (of_decide_eq_true hm)).1) (fun _ hh => hh) hf (jt_desc hb d (jx_obj_of ho).2.2.2) (jx_isr_of h2).1 (jx_isr_of h2).2 (by rw [jj_fs_len]; exact (jx_obj_of ho).2.2.2) hd (fun H1 locs1 hP1 _ hS1 => g p e s m args below meth cc H1 locs1 ls V (jj_P.putr P.1 ho h1 hP1) hS1 hl hz)
theorem js_48 : jx_Snd 48 := by
  intro X y R Z k n pc a b d c L st σ q hfr hlo hk0 hn0 hd hc h g
  obtain ⟨hmb, hf⟩ := jx_and (a := (decide ((jt_c y, a, b, d) ∈ jt_lf) && decide (b < jt_C.length))) (b := (decide ((jt_T b d).2.2.2 = true) && decide (jt_ini.getD y false = true))) hc
  obtain ⟨hm, hb⟩ := jx_and hmb
  have hb := of_decide_eq_true hb
  obtain ⟨hf, hi0⟩ := jx_and hf
  have hf := of_decide_eq_true hf
  have hi0 := jt_ini_ok (of_decide_eq_true hi0)
  rcases ji_put (a := a) (b := b) (d := d) (c := c) h with ⟨x, i, r, rfl, ho, ⟨h1, h2⟩, rfl⟩ | ⟨x, i, r, rfl, ho, ⟨h1, h2⟩, rfl⟩
  · intro p e s m args below meth cc H locs ls V P S hl hz
    exact va_putF (v := .int x) V.1 V.2.1 V.2.2.2.2.1 (jt_lays hb) (jt_ft b) (jt_desc hb) (jt_names hb) V.2.2.2.1 V.2.2.2.2.2.2.2.2.1.1 P.2 P.D S i (jj_P.obj ho) (jt_cl_at hb) d (jx_obj_of ho).2.2.2 (V.2.2.2.2.1 _ (jt_lf_ok (of_decide_eq_true hm)).1) (fun _ hh => hh) hf (V.2.2.2.2.2.2.2.1 hi0) (jt_lf_ok (of_decide_eq_true hm)).2 (jt_desc hb d (jx_obj_of ho).2.2.2) (jx_fit_of h2).1 (jx_fit_of h2).2 (by rw [jj_fs_len]; exact (jx_obj_of ho).2.2.2) hd (fun H1 locs1 hP1 _ hS1 => g p e s m args below meth cc H1 locs1 ls V (jj_P.putn P.1 ho h1 hP1) hS1 hl hz)
  · intro p e s m args below meth cc H locs ls V P S hl hz
    exact va_putF (v := .ref (jj_ad X x)) V.1 V.2.1 V.2.2.2.2.1 (jt_lays hb) (jt_ft b) (jt_desc hb) (jt_names hb) V.2.2.2.1 V.2.2.2.2.2.2.2.2.1.1 P.2 P.D S i (jj_P.obj ho) (jt_cl_at hb) d (jx_obj_of ho).2.2.2 (V.2.2.2.2.1 _ (jt_lf_ok (of_decide_eq_true hm)).1) (fun _ hh => hh) hf (V.2.2.2.2.2.2.2.1 hi0) (jt_lf_ok (of_decide_eq_true hm)).2 (jt_desc hb d (jx_obj_of ho).2.2.2) (jx_isr_of h2).1 (jx_isr_of h2).2 (by rw [jj_fs_len]; exact (jx_obj_of ho).2.2.2) hd (fun H1 locs1 hP1 _ hS1 => g p e s m args below meth cc H1 locs1 ls V (jj_P.putr P.1 ho h1 hP1) hS1 hl hz)
theorem js_49 : jx_Snd 49 := by
  intro X y R Z k n pc a b d c L st σ q hfr hlo hk0 hn0 hd hc h g
  obtain ⟨hmb, hf⟩ := jx_and (a := (decide ((jt_c y, a, b, d) ∈ jt_ln) && decide (b < jt_C.length))) (b := decide ((jt_T b d).2.2.2 = false)) hc
  obtain ⟨hm, hb⟩ := jx_and hmb
  have hb := of_decide_eq_true hb
  have hf := of_decide_eq_true hf
  rcases ji_put (a := a) (b := b) (d := d) (c := c) h with ⟨x, i, r, rfl, ho, ⟨h1, h2⟩, rfl⟩ | ⟨x, i, r, rfl, ho, ⟨h1, h2⟩, rfl⟩
  · intro p e s m args below meth cc H locs ls V P S hl hz
    exact va_putN (v := .int x) V.1 V.2.1 V.2.2.2.2.1 (jt_lays hb) (jt_ft b) (jt_desc hb) (jt_names hb) V.2.2.2.1 V.2.2.2.2.2.2.2.2.1.1 P.2 P.D S i (jj_P.obj ho) (jt_cl_at hb) d (jx_obj_of ho).2.2.2 (va_Nw.use rfl (V.2.2.2.2.2.2.2.2.1.2.1 (jt_c y, a, b, d) (of_decide_eq_true hm))) (fun _ hh => hh) hf (jt_desc hb d (jx_obj_of ho).2.2.2) (jx_fit_of h2).1 (jx_fit_of h2).2 (by rw [jj_fs_len]; exact (jx_obj_of ho).2.2.2) hd (fun H1 locs1 hP1 _ hS1 => g p e s m args below meth cc H1 locs1 ls V (jj_P.putn P.1 ho h1 hP1) hS1 hl hz)
  · intro p e s m args below meth cc H locs ls V P S hl hz
    exact va_putN (v := .ref (jj_ad X x)) V.1 V.2.1 V.2.2.2.2.1 (jt_lays hb) (jt_ft b) (jt_desc hb) (jt_names hb) V.2.2.2.1 V.2.2.2.2.2.2.2.2.1.1 P.2 P.D S i (jj_P.obj ho) (jt_cl_at hb) d (jx_obj_of ho).2.2.2 (va_Nw.use rfl (V.2.2.2.2.2.2.2.2.1.2.1 (jt_c y, a, b, d) (of_decide_eq_true hm))) (fun _ hh => hh) hf (jt_desc hb d (jx_obj_of ho).2.2.2) (jx_isr_of h2).1 (jx_isr_of h2).2 (by rw [jj_fs_len]; exact (jx_obj_of ho).2.2.2) hd (fun H1 locs1 hP1 _ hS1 => g p e s m args below meth cc H1 locs1 ls V (jj_P.putr P.1 ho h1 hP1) hS1 hl hz)
theorem jj_P.aput {X : jj_X} {σ : jj_S} {i t : Nat} {x v : Int32} {H1 : Heap} (hT : σ.2.2.2.1 ≤ 1000000) (ho : jx_arr σ 1 t i x = true) (h : va_P X.2.1 jt_cl ((jj_wl X σ).set i (jj_ad X i, .inl (X.2.2.2.2.1 t, (σ.2.2.1 i).2.2, .inl (upd (σ.1 i) x.toNatClampNeg v)))) H1) : jj_P X (jj_up σ.1 i x.toNatClampNeg v, σ.2.1, σ.2.2) H1 := by
  obtain ⟨h1, h2, h3, h4⟩ := jx_arr_of ho
  refine ⟨hT, ?_⟩
  rw [jj_wl_set (τ := (jj_up σ.1 i x.toNatClampNeg v, σ.2.1, σ.2.2)) h1 rfl ?_ (fun j hj => jj_E_eq (jj_up_ne hj) rfl rfl)] at h
  · exact h
  · rw [jj_E1 (σ := (jj_up σ.1 i x.toNatClampNeg v, σ.2.1, σ.2.2)) h2]
    show Sum.inl (X.2.2.2.2.1 (σ.2.2.1 i).2.1, (σ.2.2.1 i).2.2, Sum.inl (jj_up σ.1 i x.toNatClampNeg v i)) = _
    rw [h3, jj_up_at]
theorem jj_P.aputr {X : jj_X} {σ : jj_S} {i t v : Nat} {x : Int32} {H1 : Heap} (hT : σ.2.2.2.1 ≤ 1000000) (ho : jx_arr σ 2 t i x = true) (h : va_P X.2.1 jt_cl ((jj_wl X σ).set i (jj_ad X i, .inl (X.2.2.2.2.1 t, (σ.2.2.1 i).2.2, .inr (.inr (.inr (.inr (va_up (fun j => (σ.2.1 i j).map (jj_ad X)) x.toNatClampNeg (some (jj_ad X v))))))))) H1) : jj_P X (σ.1, jj_ur σ.2.1 i x.toNatClampNeg (some v), σ.2.2) H1 := by
  obtain ⟨h1, h2, h3, h4⟩ := jx_arr_of ho
  refine ⟨hT, ?_⟩
  rw [jj_wl_set (τ := (σ.1, jj_ur σ.2.1 i x.toNatClampNeg (some v), σ.2.2)) h1 rfl ?_ (fun j hj => jj_E_eq rfl (jj_ur_ne hj) rfl)] at h
  · exact h
  · rw [jj_E2 (σ := (σ.1, jj_ur σ.2.1 i x.toNatClampNeg (some v), σ.2.2)) h2]
    show Sum.inl (X.2.2.2.2.1 (σ.2.2.1 i).2.1, (σ.2.2.1 i).2.2, Sum.inr (Sum.inr (Sum.inr (Sum.inr (fun j => (jj_ur σ.2.1 i x.toNatClampNeg (some v) i j).map (jj_ad X)))))) = _
    rw [h3, jj_ur_at]
    congr 7
    funext j
    unfold va_up
    by_cases hj : j = x.toNatClampNeg
    · rw [if_pos hj, if_pos hj]; rfl
    · rw [if_neg hj, if_neg hj]
theorem js_50 : jx_Snd 50 := by
  intro X y R Z k n pc a b d c L st σ q hfr hlo hk0 hn0 hd hc h g
  obtain ⟨x, i, r, rfl, ho, rfl⟩ := ji_nld (a := a) (b := b) (d := d) (c := c) (t := 0) h
  intro p e s m args below meth cc H locs ls V P S hl hz
  exact va_iald V.1 V.2.1 V.2.2.2.2.2.2.2.2.1.1 P.2 i 0 (jj_P.num ho) (jj_tys_at rfl) (jx_arr_of ho).2.2.2 hd (g p e s m args below meth cc H locs ls V P S hl hz)
theorem js_51 : jx_Snd 51 := by
  intro X y R Z k n pc a b d c L st σ q hfr hlo hk0 hn0 hd hc h g
  obtain ⟨x, i, r, rfl, ho, rfl⟩ := ji_nld (a := a) (b := b) (d := d) (c := c) (t := 1) h
  intro p e s m args below meth cc H locs ls V P S hl hz
  exact va_cald V.1 V.2.1 V.2.2.2.2.2.2.2.2.1.1 P.2 i 1 (jj_P.num ho) (jj_tys_at rfl) (jx_arr_of ho).2.2.2 hd (g p e s m args below meth cc H locs ls V P S hl hz)
theorem js_52 : jx_Snd 52 := by
  intro X y R Z k n pc a b d c L st σ q hfr hlo hk0 hn0 hd hc h g
  obtain ⟨x, i, r, rfl, ho, rfl⟩ := ji_nld (a := a) (b := b) (d := d) (c := c) (t := 2) h
  intro p e s m args below meth cc H locs ls V P S hl hz
  exact va_zald V.1 V.2.1 V.2.2.2.2.2.2.2.2.1.1 P.2 i 2 (jj_P.num ho) (jj_tys_at rfl) (jx_arr_of ho).2.2.2 hd (g p e s m args below meth cc H locs ls V P S hl hz)
theorem jx_obt_of {t : Nat} (h : jx_obt t = true) : ∃ C, jt_ty[t]? = some (.object C) := by
  unfold jx_obt at h
  split at h
  · exact ⟨_, by assumption⟩
  · cases h
theorem js_53 : jx_Snd 53 := by
  intro X y R Z k n pc a b d c L st σ q hfr hlo hk0 hn0 hd hc h g
  obtain ⟨x, i, r, rfl, ⟨ho, hob⟩, rfl⟩ := ji_rld (a := a) (b := b) (d := d) (c := c) h
  obtain ⟨C, hty⟩ := jx_obt_of hob
  intro p e s m args below meth cc H locs ls V P S hl hz
  have g2 := g p e s m args below meth cc H locs ls V P S hl hz
  have e1 : List.map (jj_cv X) (jx_rf (σ.2.1 i x.toNatClampNeg) :: r) = va_rf ((σ.2.1 i x.toNatClampNeg).map (jj_ad X)) :: List.map (jj_cv X) r := by rw [List.map_cons, jj_cv_rf]
  exact va_aldq (f := fun j => (σ.2.1 i j).map (jj_ad X)) V.1 V.2.1 V.2.2.2.2.2.2.2.2.1.1 P.2 i _ (jj_P.rfs ho) (jj_tys_at hty) (jx_arr_of ho).2.2.2 hd (W.eq (by show F0 _ _ _ _ = F0 _ _ _ _; rw [← e1]) g2)
theorem js_55 : jx_Snd 55 := by
  intro X y R Z k n pc a b d c L st σ q hfr hlo hk0 hn0 hd hc h g
  obtain ⟨v, x, i, r, rfl, ho, rfl⟩ := ji_nst (a := a) (b := b) (d := d) (c := c) (t := 0) (f := fun v => v) h
  intro p e s m args below meth cc H locs ls V P S hl hz
  exact va_iast V.1 V.2.1 V.2.2.2.2.2.2.2.2.1.1 P.2 P.D S i 0 (jj_P.num ho) (jj_tys_at rfl) (jx_arr_of ho).2.2.2 hd (fun H1 locs1 hP1 _ hS1 => g p e s m args below meth cc H1 locs1 ls V (jj_P.aput (v := v) P.1 ho hP1) hS1 hl hz)
theorem js_56 : jx_Snd 56 := by
  intro X y R Z k n pc a b d c L st σ q hfr hlo hk0 hn0 hd hc h g
  obtain ⟨v, x, i, r, rfl, ho, rfl⟩ := ji_nst (a := a) (b := b) (d := d) (c := c) (t := 1) (f := vp_nar .char) h
  intro p e s m args below meth cc H locs ls V P S hl hz
  exact va_cast V.1 V.2.1 V.2.2.2.2.2.2.2.2.1.1 P.2 P.D S i 1 (jj_P.num ho) (jj_tys_at rfl) (jx_arr_of ho).2.2.2 hd (fun H1 locs1 hP1 _ hS1 => g p e s m args below meth cc H1 locs1 ls V (jj_P.aput (v := vp_nar .char v) P.1 ho hP1) hS1 hl hz)
theorem js_57 : jx_Snd 57 := by
  intro X y R Z k n pc a b d c L st σ q hfr hlo hk0 hn0 hd hc h g
  obtain ⟨v, x, i, r, rfl, ho, rfl⟩ := ji_nst (a := a) (b := b) (d := d) (c := c) (t := 2) (f := vp_nar .boolean) h
  intro p e s m args below meth cc H locs ls V P S hl hz
  exact va_zast V.1 V.2.1 V.2.2.2.2.2.2.2.2.1.1 P.2 P.D S i 2 (jj_P.num ho) (jj_tys_at rfl) (jx_arr_of ho).2.2.2 hd (fun H1 locs1 hP1 _ hS1 => g p e s m args below meth cc H1 locs1 ls V (jj_P.aput (v := vp_nar .boolean v) P.1 ho hP1) hS1 hl hz)
theorem js_58 : jx_Snd 58 := by
  intro X y R Z k n pc a b d c L st σ q hfr hlo hk0 hn0 hd hc h g
  obtain ⟨v, x, i, r, rfl, ⟨ho, hv1, hv2, hv3⟩, rfl⟩ := ji_rst (a := a) (b := b) (d := d) (c := c) h
  obtain ⟨hty, hdl⟩ := jx_and (a := decide (jt_ty[b]? = some (.object (jt_C.getD d "")))) (b := decide (d < jt_C.length)) hc
  have hty := of_decide_eq_true hty
  have hdl := of_decide_eq_true hdl
  intro p e s m args below meth cc H locs ls V P S hl hz
  exact va_astq (f := fun j => (σ.2.1 i j).map (jj_ad X)) V.1 V.2.1 V.2.2.2.2.2.2.2.2.1.1 P.2 P.D S i b v d (r := (jt_C.getD d "", jt_T d, jt_n d)) (jj_P.rfs ho) (jj_tys_at hty) (by rw [jj_wl_at hv1, jj_E0 hv2, hv3]) (jt_cl_at hdl) (jx_arr_of ho).2.2.2 hd (fun H1 locs1 hP1 _ hS1 => g p e s m args below meth cc H1 locs1 ls V (jj_P.aputr P.1 ho hP1) hS1 hl hz)
theorem js_54 : jx_Snd 54 := by
  intro X y R Z k n pc a b d c L st σ q hfr hlo hk0 hn0 hd hc h g
  obtain ⟨i, r, rfl, ⟨h1, h2, h3⟩, rfl⟩ := ji_len (a := a) (b := b) (d := d) (c := c) h
  have hty : jt_ty[(σ.2.2.1 i).2.1]? = some (jt_ty.getD (σ.2.2.1 i).2.1 .int) := by
    rw [List.getD_eq_getElem?_getD, List.getElem?_eq_getElem h3]; rfl
  intro p e s m args below meth cc H locs ls V P S hl hz
  rcases h2 with h2 | h2
  · exact va_alen (x := ((σ.2.2.1 i).2.2, .inl (σ.1 i))) V.1 V.2.1 V.2.2.2.2.2.2.2.2.1.1 P.2 i _ (by rw [jj_wl_at h1, jj_E1 h2]) (jj_tys_at hty) rfl hd (g p e s m args below meth cc H locs ls V P S hl hz)
  · exact va_alen (x := ((σ.2.2.1 i).2.2, .inr (.inr (.inr (.inr fun j => (σ.2.1 i j).map (jj_ad X)))))) V.1 V.2.1 V.2.2.2.2.2.2.2.2.1.1 P.2 i _ (by rw [jj_wl_at h1, jj_E2 h2]) (jj_tys_at hty) rfl hd (g p e s m args below meth cc H locs ls V P S hl hz)
theorem js_59 : jx_Snd 59 := by
  intro X y R Z k n pc a b d c L st σ q hfr hlo hk0 hn0 hd hc h g
  have hlen := of_decide_eq_true (p := (jt_sw.getD a (0, 0, 0, [])).2.2.2.length = ((jt_sw.getD a (0, 0, 0, [])).2.2.1 - (jt_sw.getD a (0, 0, 0, [])).2.1 + 1).toNat) hc
  have h' : jx_tsw pc a b d c L st σ = some q := h
  unfold jx_tsw at h'
  split at h'
  · rename_i x r
    split at h'
    · rename_i w hw
      cases h'
      have hwe : jt_sw.getD a (0, 0, 0, []) = w := by rw [List.getD_eq_getElem?_getD, hw]; rfl
      have hd' : decode (jt_B y) pc = .ok (jx_sw pc (jt_sw.getD a (0, 0, 0, [])), d) := hd
      rw [hwe] at hd' hlen
      intro p e s m args below meth cc H locs ls V P S hl hz
      have g2 := g p e s m args below meth cc H locs ls V P S hl hz
      by_cases hx : x.toInt < w.2.1 ∨ w.2.2.1 < x.toInt
      · rw [if_pos hx] at g2
        exact lv_tableOut V.1 V.2.1 hd' hx (by omega) g2
      · rw [if_neg hx] at g2
        have hi : (x.toInt - w.2.1).toNat < w.2.2.2.length := by rw [hlen]; omega
        refine lv_tableIn V.1 V.2.1 hd' (fun z => hx (Or.inl z)) (fun z => hx (Or.inr z)) (off := ((w.2.2.2.getD (x.toInt - w.2.1).toNat w.1 : Nat) : Int) - (pc : Int)) ?_ (by omega) g2
        rw [List.getD_eq_getElem?_getD, List.getElem?_eq_getElem hi]
        simp [hi]
    · cases h'
  · cases h'
theorem js_60 : jx_Snd 60 := by
  intro X y R Z k n pc a b d c L st σ q hfr hlo hk0 hn0 hd hc h g
  obtain ⟨hm, hb⟩ := jx_and (a := decide ((jt_c y, a, b) ∈ jt_ls)) (b := decide (b < jt_sb.length)) hc
  have hq := Option.some.inj h
  subst hq
  intro p e s m args below meth cc H locs ls V P S hl hz
  have g2 := g p e s m args below meth cc H locs ls V P S hl hz
  have e1 : List.map (jj_cv X) (.ref (1000000 + b) :: st) = .ref (X.2.2.2.1 (1000000 + b)) :: List.map (jj_cv X) st := by
    rw [List.map_cons]
    show Value.ref (jj_ad X (1000000 + b)) :: _ = _
    rw [jj_ad_hi (by omega)]
  exact va_ldcS V.1 V.2.1 V.2.2.2.1 (V.2.2.2.2.2.2.2.2.1.2.2.2.2.2.2.2 (jt_c y, a, b) (of_decide_eq_true hm)) hd (W.eq (by show F0 _ _ _ _ = F0 _ _ _ _; rw [← e1]) g2)
theorem js_61 : jx_Snd 61 := by
  intro X y R Z k n pc a b d c L st σ q hfr hlo hk0 hn0 hd hc h g
  have hm := of_decide_eq_true (p := (jt_c y, a) ∈ jt_lg0) hc
  have hq := Option.some.inj h
  subst hq
  intro p e s m args below meth cc H locs ls V P S hl hz
  exact va_gets V.1 V.2.1 V.2.2.2.2.2.2.2.2.1.2.2.2.2.2.1 S V.2.2.2.1 (V.2.2.2.2.1 _ (jt_lg0_ok hm)) (fun _ hh => hh) hd (g p e s m args below meth cc H locs ls V P S hl hz)
theorem js_62 : jx_Snd 62 := by
  intro X y R Z k n pc a b d c L st σ q hfr hlo hk0 hn0 hd hc h g
  have hm := of_decide_eq_true (p := (jt_c y, a) ∈ jt_lg1) hc
  have hq := Option.some.inj h
  subst hq
  intro p e s m args below meth cc H locs ls V P S hl hz
  exact va_gets V.1 V.2.1 V.2.2.2.2.2.2.2.2.1.2.2.2.2.2.2.1 S V.2.2.2.1 (V.2.2.2.2.1 _ (jt_lg1_ok hm)) (fun _ hh => hh) hd (g p e s m args below meth cc H locs ls V P S hl hz)
theorem jt_sb_len {i : Nat} : (jt_sb.map List.length).getD i 0 = (jt_sb.getD i []).length := by
  rw [List.getD_eq_getElem?_getD, List.getD_eq_getElem?_getD, List.getElem?_map]
  cases jt_sb[i]? <;> rfl
theorem jx_off {K n i : Nat} (h : K ≤ i ∧ i < K + n) : ∃ j, i = K + j ∧ j < n := ⟨i - K, by omega, by omega⟩
theorem js_63 : jx_Snd 63 := by
  intro X y R Z k n pc a b d c L st σ q hfr hlo hk0 hn0 hd hc h g
  have hm := of_decide_eq_true (p := (jt_c y, a) ∈ jt_lv0) hc
  have h' : jx_cod pc a b d c L st σ = some q := h
  unfold jx_cod at h'
  split at h'
  · rename_i i r
    split at h'
    · rename_i hi
      cases h'
      obtain ⟨j, rfl, hj⟩ := jx_off hi
      intro p e s m args below meth cc H locs ls V P S hl hz
      have hE := (V.2.2.2.2.2.2.2.2.1.2.2.2.2.1.1 j hj).2.1
      have e1 : List.map (jj_cv X) (.ref (1000000 + j) :: r) = .ref (X.2.2.2.1 (1000000 + j)) :: List.map (jj_cv X) r := by
        rw [List.map_cons]
        show Value.ref (jj_ad X (1000000 + j)) :: _ = _
        rw [jj_ad_hi (by omega)]
      rw [e1]
      exact vk_getf V.1 V.2.1 hE S V.2.2.2.1 (V.2.2.2.2.1 _ (jt_lv0_ok hm)) (fun _ hh => hh) hd (g p e s m args below meth cc H locs ls V P S hl hz)
    · cases h'
  · cases h'
theorem js_64 : jx_Snd 64 := by
  intro X y R Z k n pc a b d c L st σ q hfr hlo hk0 hn0 hd hc h g
  have hm := of_decide_eq_true (p := (jt_c y, a) ∈ jt_lv1) hc
  have h' : jx_val pc a b d c L st σ = some q := h
  unfold jx_val at h'
  split at h'
  · rename_i i r
    split at h'
    · rename_i hi
      cases h'
      obtain ⟨j, rfl, hj⟩ := jx_off hi
      intro p e s m args below meth cc H locs ls V P S hl hz
      have hE := (V.2.2.2.2.2.2.2.2.1.2.2.2.2.1.1 j hj).2.2.1
      have g2 := g p e s m args below meth cc H locs ls V P S hl hz
      have e1 : List.map (jj_cv X) (.ref (1000000 + j) :: r) = .ref (X.2.2.2.1 (1000000 + j)) :: List.map (jj_cv X) r := by
        rw [List.map_cons]
        show Value.ref (jj_ad X (1000000 + j)) :: _ = _
        rw [jj_ad_hi (by omega)]
      have e2 : List.map (jj_cv X) (.ref (1000000 + j + 1000000) :: r) = .ref (X.2.2.2.1 (2000000 + j)) :: List.map (jj_cv X) r := by
        rw [List.map_cons]
        show Value.ref (jj_ad X (1000000 + j + 1000000)) :: _ = _
        rw [jj_ad_hi (by omega), show 1000000 + j + 1000000 = 2000000 + j by omega]
      rw [e1]
      exact vk_getf V.1 V.2.1 hE S V.2.2.2.1 (V.2.2.2.2.1 _ (jt_lv1_ok hm)) (fun _ hh => hh) hd (W.eq (by show F0 _ _ _ _ = F0 _ _ _ _; rw [← e2]) g2)
    · cases h'
  · cases h'
theorem js_65 : jx_Snd 65 := by
  intro X y R Z k n pc a b d c L st σ q hfr hlo hk0 hn0 hd hc h g
  have h' : jx_bld pc a b d c L st σ = some q := h
  unfold jx_bld at h'
  split at h'
  · rename_i x i r
    split at h'
    · rename_i hi
      cases h'
      obtain ⟨hi, h3, h4⟩ := hi
      obtain ⟨j, rfl, hj⟩ := jx_off hi
      rw [show 2000000 + j - 2000000 = j by omega] at h4 g
      intro p e s m args below meth cc H locs ls V P S hl hz
      have hT := (V.2.2.2.2.2.2.2.2.1.2.2.2.2.1.1 j hj).2.2.2
      rw [jt_sb_len] at hT
      have e1 : List.map (jj_cv X) (.int x :: .ref (2000000 + j) :: r) = .int x :: .ref (X.2.2.2.1 (2000000 + j)) :: List.map (jj_cv X) r := by
        rw [List.map_cons, List.map_cons]
        show Value.int x :: Value.ref (jj_ad X (2000000 + j)) :: _ = _
        rw [jj_ad_hi (by omega)]
      rw [e1]
      exact va_tb V.1 V.2.1 hT S (fun z => Or.elim z h3 (fun z => Nat.not_lt.mpr z h4)) rfl hd (g p e s m args below meth cc H locs ls V P S hl hz)
    · cases h'
  · cases h'
theorem js_66 : jx_Snd 66 := by
  intro X y R Z k n pc a b d c L st σ q hfr hlo hk0 hn0 hd hc h g
  have h' : jx_bln pc a b d c L st σ = some q := h
  unfold jx_bln at h'
  split at h'
  · rename_i i r
    split at h'
    · rename_i hi
      cases h'
      obtain ⟨j, rfl, hj⟩ := jx_off hi
      rw [show 2000000 + j - 2000000 = j by omega] at g
      intro p e s m args below meth cc H locs ls V P S hl hz
      have hT := (V.2.2.2.2.2.2.2.2.1.2.2.2.2.1.1 j hj).2.2.2
      rw [jt_sb_len] at hT
      have e1 : List.map (jj_cv X) (.ref (2000000 + j) :: r) = .ref (X.2.2.2.1 (2000000 + j)) :: List.map (jj_cv X) r := by
        rw [List.map_cons]
        show Value.ref (jj_ad X (2000000 + j)) :: _ = _
        rw [jj_ad_hi (by omega)]
      rw [e1]
      exact va_tlen V.1 V.2.1 hT S rfl hd (g p e s m args below meth cc H locs ls V P S hl hz)
    · cases h'
  · cases h'
theorem js_67 : jx_Snd 67 := by
  intro X y R Z k n pc a b d c L st σ q hfr hlo hk0 hn0 hd hc h g
  have hy := of_decide_eq_true (p := y = jt_law) hc
  have h' : jx_sld X.2.2.2.2.2 pc a b d c L st σ = some q := h
  unfold jx_sld at h'
  split at h'
  · rename_i x i r
    split at h'
    · rename_i hi
      cases h'
      obtain ⟨rfl, h3, h4⟩ := hi
      intro p e s m args below meth cc H locs ls V P S hl hz
      obtain ⟨x1, x2, x3, -⟩ := V.2.2.2.2.2.2.2.2.2.2 hy
      exact va_sld V.1 V.2.1 x1 x2 x3 S (fun z => Or.elim z h3 (fun z => Nat.not_lt.mpr z h4)) hd (g p e s m args below meth cc H locs ls V P S hl hz)
    · cases h'
  · cases h'
theorem js_68 : jx_Snd 68 := by
  intro X y R Z k n pc a b d c L st σ q hfr hlo hk0 hn0 hd hc h g
  have hy := of_decide_eq_true (p := y = jt_law) hc
  have h' : jx_sln X.2.2.2.2.2 pc a b d c L st σ = some q := h
  unfold jx_sln at h'
  split at h'
  · rename_i i r
    split at h'
    · rename_i hi
      cases h'
      subst hi
      intro p e s m args below meth cc H locs ls V P S hl hz
      obtain ⟨x1, x2, x3, -⟩ := V.2.2.2.2.2.2.2.2.2.2 hy
      exact va_slen V.1 V.2.1 x1 x2 x3 S hd (g p e s m args below meth cc H locs ls V P S hl hz)
    · cases h'
  · cases h'
theorem jj_catsum (X : jj_X) : ∀ (r : List Value), (∀ v ∈ r, v.category = 1) → ((r.map (jj_cv X)).map fun v => v.category).sum = r.length := by
  intro r
  induction r with
  | nil => intro _; rfl
  | cons v r ih =>
    intro h
    have := ih (fun w hw => h w (List.mem_cons_of_mem _ hw))
    simp only [List.map_cons, List.sum_cons, List.length_cons, jj_cv_cat, h v List.mem_cons_self] at this ⊢
    omega
end
section
/-! Making, calls, returns; then: what the small machine comes to, the real one comes to. -/
theorem jx_c1_of {l : List Value} (h : jx_c1 l = true) : ∀ v ∈ l, v.category = 1 := fun v hv => of_decide_eq_true (List.all_eq_true.mp h v hv)
theorem js_69 : jx_Snd 69 := by
  intro X y R Z k n pc a b d c L st σ q hfr hlo hk0 hn0 hd hc h g
  obtain ⟨hm, hc2⟩ := jx_and (a := decide ((jt_c y, a) ∈ jt_lo1)) (b := (decide (1 ≤ jt_fr y) && decide (20 ≤ jt_lo y))) hc
  obtain ⟨hf, hl0⟩ := jx_and hc2
  have hf := of_decide_eq_true hf
  have hl0 := of_decide_eq_true hl0
  have h' : jx_oin pc a b d c L st σ = some q := h
  unfold jx_oin at h'
  split at h'
  · rename_i i r
    split at h'
    · rename_i hr
      cases h'
      intro p e s m args below meth cc H locs ls V P S hl hz
      have h8 : ((r.map (jj_cv X)).map fun v => v.category).sum ≤ 8 := by rw [jj_catsum X r (jx_c1_of hr.2)]; exact hr.1
      have h9 := lv_room (m := m) (pc := pc) (ls := ls) (rest := List.map (jj_cv X) (Value.ref i :: r)) h8
      exact W.objInit V.1 V.2.1 V.2.2.2.1 (V.2.2.2.2.1 _ (jt_lo1_ok (of_decide_eq_true hm))) (V.2.2.2.2.1 _ jt_oi.1) (V.2.2.2.2.1 _ jt_oi.2) rfl (hl.1.trans V.2.2.1.symm) rfl hd (Nat.le_trans hf hfr) (by omega) (W.eq rfl (g p e s m args below meth cc H locs ls V P S hl hz))
    · cases h'
  · cases h'
theorem js_43 : jx_Snd 43 := by
  intro X y R Z k n pc a b d c L st σ q hfr hlo hk0 hn0 hd hc h g
  obtain ⟨hm, hc2⟩ := jx_and (a := decide ((jt_c y, a) ∈ jt_lx0)) (b := (decide (1 ≤ jt_fr y) && decide (21 ≤ jt_lo y))) hc
  obtain ⟨hf, hl0⟩ := jx_and hc2
  have hf := of_decide_eq_true hf
  have hl0 := of_decide_eq_true hl0
  have h' : jx_mm (fun x y => if x < y then y else x) pc a b d c L st σ = some q := h
  unfold jx_mm at h'
  split at h'
  · rename_i v x r
    split at h'
    · rename_i hr
      cases h'
      intro p e s m args below meth cc H locs ls V P S hl hz
      have h8 : ((r.map (jj_cv X)).map fun v => v.category).sum ≤ 8 := by rw [jj_catsum X r (jx_c1_of hr.2)]; exact hr.1
      exact va_mmax V.1 V.2.1 (V.2.2.1.trans hl.1.symm) V.2.2.2.1 (V.2.2.2.2.1 _ (jt_lx0_ok (of_decide_eq_true hm))) (V.2.2.2.2.1 _ jt_mx0.1) (V.2.2.2.2.1 _ jt_mx0.2.1) (V.2.2.2.2.1 _ jt_mx0.2.2) (Nat.le_trans hf hfr) (by omega) hk0 hn0 hd (g p e s m args below meth cc H locs ls V P S hl hz)
    · cases h'
  · cases h'
theorem js_44 : jx_Snd 44 := by
  intro X y R Z k n pc a b d c L st σ q hfr hlo hk0 hn0 hd hc h g
  obtain ⟨hm, hc2⟩ := jx_and (a := decide ((jt_c y, a) ∈ jt_lx1)) (b := (decide (1 ≤ jt_fr y) && decide (21 ≤ jt_lo y))) hc
  obtain ⟨hf, hl0⟩ := jx_and hc2
  have hf := of_decide_eq_true hf
  have hl0 := of_decide_eq_true hl0
  have h' : jx_mm (fun x y => if y < x then y else x) pc a b d c L st σ = some q := h
  unfold jx_mm at h'
  split at h'
  · rename_i v x r
    split at h'
    · rename_i hr
      cases h'
      intro p e s m args below meth cc H locs ls V P S hl hz
      have h8 : ((r.map (jj_cv X)).map fun v => v.category).sum ≤ 8 := by rw [jj_catsum X r (jx_c1_of hr.2)]; exact hr.1
      exact va_mmin V.1 V.2.1 (V.2.2.1.trans hl.1.symm) V.2.2.2.1 (V.2.2.2.2.1 _ (jt_lx1_ok (of_decide_eq_true hm))) (V.2.2.2.2.1 _ jt_mx1.1) (V.2.2.2.2.1 _ jt_mx1.2.1) (V.2.2.2.2.1 _ jt_mx1.2.2) (Nat.le_trans hf hfr) (by omega) hk0 hn0 hd (g p e s m args below meth cc H locs ls V P S hl hz)
    · cases h'
  · cases h'
theorem jj_P.cput {X : jj_X} {σ : jj_S} {i : Nat} {f : Nat → Int32} {H1 : Heap} (hT : σ.2.2.2.1 ≤ 1000000) (h1 : i < σ.2.2.2.1) (h2 : (σ.2.2.1 i).1 = 1) (h : va_P X.2.1 jt_cl ((jj_wl X σ).set i (jj_ad X i, .inl (X.2.2.2.2.1 (σ.2.2.1 i).2.1, (σ.2.2.1 i).2.2, .inl f))) H1) : jj_P X (jj_uf σ.1 i f, σ.2.1, σ.2.2) H1 := by
  refine ⟨hT, ?_⟩
  rw [jj_wl_set (τ := (jj_uf σ.1 i f, σ.2.1, σ.2.2)) h1 rfl ?_ (fun j hj => jj_E_eq (show jj_uf σ.1 i f j = σ.1 j from if_neg hj) rfl rfl)] at h
  · exact h
  · rw [jj_E1 (σ := (jj_uf σ.1 i f, σ.2.1, σ.2.2)) h2]
    show Sum.inl (X.2.2.2.2.1 (σ.2.2.1 i).2.1, (σ.2.2.1 i).2.2, Sum.inl (jj_uf σ.1 i f i)) = _
    rw [show jj_uf σ.1 i f i = f from if_pos rfl]
theorem js_70 : jx_Snd 70 := by
  intro X y R Z k n pc a b d c L st σ q hfr hlo hk0 hn0 hd hc h g
  obtain ⟨hm, hc2⟩ := jx_and (a := decide ((jt_c y, a) ∈ jt_lcp)) (b := (decide (1 ≤ jt_fr y) && decide (8 + (nativeFrameWords "java/lang/System" "arraycopy" 5 + 11) ≤ jt_lo y))) hc
  obtain ⟨hf, hl0⟩ := jx_and hc2
  have hf := of_decide_eq_true hf
  have hl0 := of_decide_eq_true hl0
  have h' : jx_cpy pc a b d c L st σ = some q := h
  unfold jx_cpy at h'
  split at h'
  · rename_i nn dp j sp i r
    split at h'
    · rename_i hr
      cases h'
      obtain ⟨⟨r1, r2, r3, r4, r5, r6, r7, r8⟩, ⟨s1, s2, s3, s4, s5⟩, hall⟩ := hr
      intro p e s m args below meth cc H locs ls V P S hl hz
      have h8 : ((r.map (jj_cv X)).map fun v => v.category).sum ≤ 8 := by rw [jj_catsum X r (jx_c1_of r2)]; exact r1
      have t1 : (jj_tys X)[(σ.2.2.1 i).2.1]? = some (X.2.2.2.2.1 (σ.2.2.1 i).2.1, .char) := jj_tys_at (by rw [r6]; rfl)
      have t2 : (jj_tys X)[(σ.2.2.1 j).2.1]? = some (X.2.2.2.2.1 (σ.2.2.1 j).2.1, .char) := jj_tys_at (by rw [r8]; rfl)
      exact va_copyi V.1 V.2.1 (V.2.2.1.trans hl.1.symm) V.2.2.2.1 (V.2.2.2.2.1 _ (jt_lcp_ok (of_decide_eq_true hm))) (V.2.2.2.2.1 _ jt_ac.1) (V.2.2.2.2.1 _ jt_ac.2.1) (V.2.2.2.2.1 _ jt_ac.2.2) V.2.2.2.2.2.2.2.2.1.1 P.2 P.D S i j _ _ (by rw [jj_wl_at r3, jj_E1 r5]) (by rw [jj_wl_at r4, jj_E1 r7]) t1 t2 rfl s1 s2 s3 s4 s5 (fun u hu => List.all_eq_true.mp hall u (List.mem_range.mpr hu)) (Nat.le_trans hf hfr) (by omega) hd (fun H1 locs1 hP1 _ hS1 => g p e s m args below meth cc H1 locs1 ls V (jj_P.cput P.1 r4 r7 hP1) hS1 hl hz)
    · cases h'
  · cases h'
/-! the size of the heap -/
theorem jj_size {X : jj_X} {σ : jj_S} {p : Program} {e : Env} {R : Room} {s T : State} {m : MethodId} {args : Array Value} {below : List Frame} {meth : Method} {c : Code} {H : Heap} {locs : List Loc} {k n : Nat}
    (P : jj_P X σ H) (S : va_S (jj_A X) s.heap H locs) (hb : X.2.2.1 ≤ s.heap.size) (hz : X.2.2.1 + σ.2.2.2.1 = s.heap.size + k) (hT : T.heap = H) (Y : Stand p X.1 e R s m args below meth c T locs k n) : H.size = X.2.2.1 + σ.2.2.2.1 := by
  have h1 := Y.heapSize
  rw [hT] at h1
  have h2 := S.1
  by_cases h0 : σ.2.2.2.1 = 0
  · omega
  · have h3 := (P.2 (σ.2.2.2.1 - 1) _ (jj_wl_at (X := X) (σ := σ) (by omega))).lt
    have h4 := P.1
    have h5 : jj_ad X (σ.2.2.2.1 - 1) = X.2.2.1 + (σ.2.2.2.1 - 1) := jj_ad_lo (by omega)
    have h6 : jj_ad X (σ.2.2.2.1 - 1) < H.size := h3
    omega
theorem jj_wl_len {X : jj_X} {σ : jj_S} : (jj_wl X σ).length = σ.2.2.2.1 := by simp [jj_wl]
theorem jj_fresh {X : jj_X} {σ : jj_S} {H1 : Heap} {q : Nat} {e : va_E} (hT : σ.2.2.2.1 < 1000000) (hP1 : va_P X.2.1 jt_cl (jj_wl X σ ++ [(q, e)]) H1) (hD1 : va_D (jj_A X) (jj_wl X σ ++ [(q, e)])) (hsz : H1.size ≤ X.2.2.1 + σ.2.2.2.1 + 1) : q = jj_ad X σ.2.2.2.1 := by
  have hat : (jj_wl X σ ++ [(q, e)])[σ.2.2.2.1]? = some (q, e) := by
    rw [List.getElem?_append_right (by rw [jj_wl_len]; exact Nat.le_refl _), jj_wl_len, Nat.sub_self]; rfl
  have h1 : q < H1.size := (hP1 _ _ hat).lt
  have h2 : X.2.2.1 ≤ q := hD1.2 _ _ hat
  rw [jj_ad_lo hT]
  by_cases h3 : q = X.2.2.1 + σ.2.2.2.1
  · exact h3
  · have hi : q - X.2.2.1 < σ.2.2.2.1 := by omega
    have hat2 : (jj_wl X σ ++ [(q, e)])[q - X.2.2.1]? = some (jj_ad X (q - X.2.2.1), jj_E X σ (q - X.2.2.1)) := by
      rw [List.getElem?_append_left (by rw [jj_wl_len]; exact hi), jj_wl_at hi]
    have h4 := hD1.1 _ _ _ _ hat2 hat (by show jj_ad X (q - X.2.2.1) = q; rw [jj_ad_lo (by omega)]; omega)
    omega
theorem jj_nw_E {X : jj_X} {σ : jj_S} {q : Nat × Nat × Nat} {i : Nat} (h : i ≠ σ.2.2.2.1) : jj_E X (jj_nw σ q) i = jj_E X σ i := by
  refine jj_E_eq ?_ ?_ ?_
  · exact if_neg h
  · exact if_neg h
  · exact if_neg h
theorem jj_P.push {X : jj_X} {σ : jj_S} {q : Nat × Nat × Nat} {H1 : Heap} {e : va_E} (hT : σ.2.2.2.1 < 1000000) (he : jj_E X (jj_nw σ q) σ.2.2.2.1 = e) (h : va_P X.2.1 jt_cl (jj_wl X σ ++ [(jj_ad X σ.2.2.2.1, e)]) H1) : jj_P X (jj_nw σ q) H1 := by
  refine ⟨hT, ?_⟩
  have hw : jj_wl X (jj_nw σ q) = jj_wl X σ ++ [(jj_ad X σ.2.2.2.1, e)] := by
    apply List.ext_getElem?
    intro j
    by_cases hj : j < σ.2.2.2.1
    · rw [List.getElem?_append_left (by rw [jj_wl_len]; exact hj), jj_wl_at hj, jj_wl_at (show j < σ.2.2.2.1 + 1 by omega), jj_nw_E (by omega)]
    · by_cases hj2 : j = σ.2.2.2.1
      · subst hj2
        rw [List.getElem?_append_right (by rw [jj_wl_len]; exact Nat.le_refl _), jj_wl_len, Nat.sub_self, jj_wl_at (show σ.2.2.2.1 < σ.2.2.2.1 + 1 by omega), he]
        rfl
      · rw [List.getElem?_eq_none (by rw [jj_wl_len]; show σ.2.2.2.1 + 1 ≤ j; omega), List.getElem?_eq_none (by rw [List.length_append, jj_wl_len]; show σ.2.2.2.1 + 1 ≤ j; omega)]
  rw [hw]
  exact h
def jx_SndN (κ : Nat) : Prop := ∀ (X : jj_X) (y : Nat) (R : Room) (Z : List Frame → Array Value → State → State → Prop) (k n pc a b d : Nat) (c : Int32) (L : jx_L) (st : List Value) (σ : jj_S) (q : Nat × (Nat × Nat × Nat) × List Value),
  decode (jt_B y) pc = .ok (jx_I pc (κ, a, b, d, c)) → jx_lok y (κ, a, b, d, c) = true → jx_new (κ, a, b, d, c) st σ = some q → k + 1 ≤ R.cells → n + q.2.1.2.2 ≤ R.slots →
  jj_G X y R Z (pc + q.1) L (.ref σ.2.2.2.1 :: q.2.2) (k + 1) (n + q.2.1.2.2) (jj_nw σ q.2.1) → jj_G X y R Z pc L st k n σ
theorem jj_nw_sh {σ : jj_S} {q : Nat × Nat × Nat} : (jj_nw σ q).2.2.1 σ.2.2.2.1 = q := if_pos rfl
theorem jn_72 : jx_SndN 72 := by
  intro X y R Z k n pc a b d c L st σ q hd hc h hk hn g
  obtain ⟨hm, hb⟩ := jx_and (a := decide ((jt_c y, a, b) ∈ jt_lk)) (b := decide (b < jt_C.length)) hc
  have hb := of_decide_eq_true hb
  obtain ⟨l1, l2, l3⟩ := jt_lk_ok (of_decide_eq_true hm)
  unfold jx_new at h
  split at h
  · rename_i hT
    rw [if_pos rfl] at h
    cases h
    intro p e s m args below meth cc H locs ls V P S hl hz
    refine va_new V.1 V.2.1 V.2.2.2.2.1 (jt_lays hb) (jt_ft b) (jt_desc hb) V.2.2.2.1 (V.2.2.2.2.1 _ l1) (V.2.2.2.2.1 _ l2) (V.2.2.2.2.1 _ l3) V.2.2.2.2.2.2.2.2.1.1 P.2 P.D S (fun q hq => Nat.le_trans V.2.2.2.2.2.2.2.2.2.1 hq) (jt_cl_at hb) (fs := jj_fs X (jj_nw σ (0, b, jt_n b)) σ.2.2.2.1 b) ?_ hk hn hd (fun q H1 hP1 hD1 hS1 => ?_)
    · intro j hj
      show _ = (jj_fs X (jj_nw σ (0, b, jt_n b)) σ.2.2.2.1 b).getD j .null
      rw [List.getD_eq_getElem?_getD, jj_fs_at hj]
      have e1 : (jj_nw σ (0, b, jt_n b)).1 σ.2.2.2.1 = fun _ => 0 := if_pos rfl
      have e2 : (jj_nw σ (0, b, jt_n b)).2.1 σ.2.2.2.1 = fun _ => none := if_pos rfl
      rw [e1, e2]
      have hd0 := jt_dflt hb j hj
      by_cases hr : jt_rf b j = true
      · rw [if_pos hr] at hd0 ⊢; exact hd0
      · rw [if_neg hr] at hd0 ⊢; exact hd0
    · intro T hT2 Y
      have hsz := Y.heapSize
      rw [hT2] at hsz
      have hq := jj_fresh hT hP1 hD1 (by omega)
      subst hq
      exact g p e s m args below meth cc H1 locs ls V (jj_P.push hT (by rw [jj_E0 (by rw [jj_nw_sh]), jj_nw_sh]) hP1) hS1 hl (by show _ + (_ + 1) = _; omega) T hT2 Y
  · cases h
theorem jn_73 : jx_SndN 73 := by
  intro X y R Z k n pc a b d c L st σ q hd hc h hk hn g
  have hb := of_decide_eq_true (p := b < 3) hc
  unfold jx_new at h
  split at h
  · rename_i hT
    rw [if_neg (by simp)] at h
    split at h
    · rename_i x r
      split at h
      · rename_i hx
        rw [if_pos rfl] at h
        cases h
        intro p e s m args below meth cc H locs ls V P S hl hz
        have hcl : ∀ (ty : FieldType) (nm : String) (hty : jt_ty[b]? = some ty) (hnm : ∀ cA, va_RA s cA ty → s.vm.findClass nm = some cA) (cA : ClassId), va_K X.2.1 jt_cl (jj_tys X ++ [(cA, ty)]) s → cA = X.2.2.2.2.1 b := by
          intro ty nm hty hnm cA hK2
          have a1 := hnm _ (hK2.2 (jj_tys X).length (cA, ty) (by rw [List.getElem?_append_right (Nat.le_refl _), Nat.sub_self]; rfl)).2
          have a2 := hnm _ (V.2.2.2.2.2.2.2.2.1.1.2 b _ (jj_tys_at hty)).2
          rw [a1] at a2
          exact Option.some.inj a2
        have fin : ∀ (q : Nat) (cA : ClassId) (H1 : Heap), cA = X.2.2.2.2.1 b → va_P X.2.1 jt_cl (jj_wl X σ ++ [(q, .inl (cA, (x.toNatClampNeg, .inl fun _ => 0)))]) H1 → va_D (jj_A X) (jj_wl X σ ++ [(q, .inl (cA, (x.toNatClampNeg, .inl fun _ => 0)))]) → va_S (jj_A X) s.heap H1 locs →
            W p X.1 e R s m args below meth cc H1 locs (k + 1) (n + x.toNatClampNeg) (Z below args s) (F0 m (pc + 2) ls (.ref q :: r.map (jj_cv X))) := by
          intro q cA H1 hcA hP1 hD1 hS1 T hT2 Y
          subst hcA
          have hsz := Y.heapSize
          rw [hT2] at hsz
          have hq := jj_fresh hT hP1 hD1 (by omega)
          subst hq
          refine g p e s m args below meth cc H1 locs ls V (jj_P.push hT ?_ hP1) hS1 hl (by show _ + (_ + 1) = _; omega) T hT2 Y
          rw [jj_E1 (by rw [jj_nw_sh]), jj_nw_sh]
          have e1 : (jj_nw σ (1, b, x.toNatClampNeg)).1 σ.2.2.2.1 = fun _ => 0 := if_pos rfl
          rw [e1]
        have hA : ∀ q, s.heap.size ≤ q → jj_A X q := fun q hq => Nat.le_trans V.2.2.2.2.2.2.2.2.2.1 hq
        match b, hb, hd, fin, hcl with
        | 0, _, hd, fin, hcl => exact va_newa (atype := .int) (ty := .int) (a0 := (x.toNatClampNeg, .inl fun _ => 0)) V.1 V.2.1 (V.2.2.2.2.1 _ jt_arr.1) rfl V.2.2.2.2.2.2.2.2.1.1 P.2 P.D S hA (fun _ => rfl) hx.1 rfl (by show _ * 4 ≤ _; omega) hk hn hd (fun q cA H1 hK1 hP1 hD1 hS1 => fin q cA H1 (hcl .int "[I" rfl (fun _ => va_nm_int) cA hK1) hP1 hD1 hS1)
        | 1, _, hd, fin, hcl => exact va_newa (atype := .char) (ty := .char) (a0 := (x.toNatClampNeg, .inl fun _ => 0)) V.1 V.2.1 (V.2.2.2.2.1 _ jt_arr.2.1) rfl V.2.2.2.2.2.2.2.2.1.1 P.2 P.D S hA (fun _ => rfl) hx.1 rfl (by show _ * 2 ≤ _; omega) hk hn hd (fun q cA H1 hK1 hP1 hD1 hS1 => fin q cA H1 (hcl .char "[C" rfl (fun _ => va_nm_char) cA hK1) hP1 hD1 hS1)
        | 2, _, hd, fin, hcl => exact va_newa (atype := .boolean) (ty := .boolean) (a0 := (x.toNatClampNeg, .inl fun _ => 0)) V.1 V.2.1 (V.2.2.2.2.1 _ jt_arr.2.2) rfl V.2.2.2.2.2.2.2.2.1.1 P.2 P.D S hA (fun _ => rfl) hx.1 rfl (by show _ * 1 ≤ _; omega) hk hn hd (fun q cA H1 hK1 hP1 hD1 hS1 => fin q cA H1 (hcl .boolean "[Z" rfl (fun _ => va_nm_boolean) cA hK1) hP1 hD1 hS1)
        | b + 3, hb, _, _, _ => omega
      · cases h
    · cases h
  · cases h
theorem jn_74 : jx_SndN 74 := by
  intro X y R Z k n pc a b d c L st σ q hd hc h hk hn g
  obtain ⟨hm, hty⟩ := jx_and (a := decide ((jt_c y, a, b, d) ∈ jt_la)) (b := decide (jt_ty[b]? = some (.object (jt_C.getD d "")))) hc
  have hty := of_decide_eq_true hty
  obtain ⟨l1, l2⟩ := jt_la_ok (of_decide_eq_true hm)
  unfold jx_new at h
  split at h
  · rename_i hT
    rw [if_neg (by simp)] at h
    split at h
    · rename_i x r
      split at h
      · rename_i hx
        rw [if_neg (by simp), if_pos rfl] at h
        cases h
        intro p e s m args below meth cc H locs ls V P S hl hz
        refine va_newq (N' := x.toNatClampNeg) V.1 V.2.1 V.2.2.2.1 (V.2.2.2.2.1 _ l1) (V.2.2.2.2.2.2.2.2.1.2.2.2.1 _ l2) V.2.2.2.2.2.2.2.2.1.1 P.2 P.D S (fun q hq => Nat.le_trans V.2.2.2.2.2.2.2.2.2.1 hq) hx.1 rfl (by omega) hk hn hd (fun q cA H1 hK1 hP1 hD1 hS1 => ?_)
        have a1 := va_nmO (hK1.2 (jj_tys X).length (cA, .object (jt_C.getD d "")) (by rw [List.getElem?_append_right (Nat.le_refl _), Nat.sub_self]; rfl)).2 rfl
        have a2 := va_nmO (V.2.2.2.2.2.2.2.2.1.1.2 b _ (jj_tys_at hty)).2 rfl
        have hcA : cA = X.2.2.2.2.1 b := by rw [a1] at a2; exact Option.some.inj a2
        subst hcA
        intro T hT2 Y
        have hsz := Y.heapSize
        rw [hT2] at hsz
        have hq := jj_fresh hT hP1 hD1 (by omega)
        subst hq
        refine g p e s m args below meth cc H1 locs ls V (jj_P.push hT ?_ hP1) hS1 hl (by show _ + (_ + 1) = _; omega) T hT2 Y
        rw [jj_E2 (by rw [jj_nw_sh]), jj_nw_sh]
        have e1 : (jj_nw σ (2, b, x.toNatClampNeg)).2.1 σ.2.2.2.1 = fun _ => none := if_pos rfl
        rw [e1]
        rfl
      · cases h
    · cases h
  · cases h
end
section
/-! Calls, returns, and: what the small machine comes to, the real one comes to. -/
def jt_ws (b : Nat) : List Cond := Cond.code (jt_N b) (jt_B b) (jt_L b) (jt_R b) :: jt_W
def jj_rm (b mc ms : Nat) : Room := { frames := jt_fr b, cells := mc, slots := ms, locals := jt_lo b }
def jj_Pc (X : jj_X) (as : List Value) (σ : jj_S) : Array Value → State → Prop := va_Pc (as.map (jj_cv X)) (fun U => jj_P X σ U.heap ∧ jj_K X U ∧ X.2.2.1 + σ.2.2.2.1 = U.heap.size ∧ X.2.2.1 ≤ U.heap.size)
abbrev jj_Z (X : jj_X) (u : Option Value) (τ : jj_S) (mc ms : Nat) : List Frame → Array Value → State → State → Prop := fun below args s => MQ below (jj_Q X u τ) args s mc ms (jj_A X)
theorem jt_goodIn {b : Nat} (hb : b < jt_law) : GoodIn jt_W (jt_ws b) := by
  intro w hw
  rcases List.mem_cons.mp hw with h | h
  · subst h
    exact ⟨(jt_met hb).1, good_of_word (jt_good _ (jt_met hb).1)⟩
  · exact ⟨h, good_of_word (jt_good _ h)⟩
theorem jj_met {X : jj_X} {b mc ms : Nat} {as : List Value} {σ τ : jj_S} {u : Option Value} (hb : b < jt_law) (hc : ∀ v ∈ as, v.category = 1) (hn : as.length ≤ jt_L b) (G : jj_G X b (jj_rm b mc ms) (jj_Z X u τ mc ms) 0 (jx_ent b as) [] 0 0 σ) :
    Met X.1 (jt_N b) (jt_ws b) (jj_rm b mc ms) (jj_Pc X as σ) (jj_Q X u τ) mc ms (jj_A X) := by
  refine Met.ofW (cc := jt_B b) (maxL := jt_L b) (ret := jt_R b) (jt_met hb).2.2.1 rfl ?_
  intro p e s m args below meth c s₁ B hml hv
  obtain ⟨rfl, hP, hK, hsz, hbs⟩ := hv
  have hc' : ∀ v ∈ as.map (jj_cv X), v.category = 1 := fun v hv => by
    obtain ⟨w, hw, rfl⟩ := List.mem_map.mp hv
    rw [jj_cv_cat]
    exact hc w hw
  have hl := lv_entry (as.map (jj_cv X)) (n := jt_L b) (by rw [jj_sl_len _ hc', List.length_map]; exact hn)
  rw [lg_entry_eq]
  generalize (lg_sl (as.map (jj_cv X)) ++ List.replicate (jt_L b - (lg_sl (as.map (jj_cv X))).length) Slot.unset).toArray = ls at hl ⊢
  have hts := atoms_spec (ws := jt_ws b) B.pre
  exact G p e s m _ below meth c s.heap [] ls ⟨B.exec, B.bytes, hml, findClass_of_methodNamed B.named, fun w hw => hts w (List.mem_cons_of_mem _ hw), B.returns, B.notSynchronized, fun hi => (name_of_methodNamed B.named B.method).1.trans hi, hK, hbs, fun h => absurd h (Nat.ne_of_lt hb)⟩ hP va_S.rf (jj_entry hc hn hl) (by rw [hsz]; rfl)
/-- behind a call -/
theorem jj_back {X : jj_X} {u : Option Value} {τ : jj_S} {p : Program} {e : Env} {R : Room} {s : State} {m : MethodId} {args : Array Value} {below : List Frame} {meth : Method} {c : Code} {H H0 : Heap} {locs : List Loc} {cells slots mc ms pc : Nat} {ls : Array Slot} {st0 rest : List Value} {a : Array Value} {Q : State → Prop}
    (hr : va_Run p X.1 e R s m args below meth c H locs cells slots mc ms (F0 m pc ls st0) rest (jj_Q X u τ a) (jj_A X)) (hS : va_S (jj_A X) H0 H locs)
    (kk : ∀ (H1 : Heap) (locs1 : List Loc), jj_P X τ H1 → va_S (jj_A X) H0 H1 locs1 → W p X.1 e R s m args below meth c H1 locs1 (cells + mc) (slots + ms) Q (F0 m (pc + 3) ls ((u.map (jj_cv X)).toList ++ rest))) : W p X.1 e R s m args below meth c H locs cells slots Q (F0 m pc ls st0) := by
  intro T hT Y
  obtain ⟨v, st₀, t, T', L, h0, X', hL, e1, e2, ⟨⟨hv, hp⟩, hz, hk⟩, st⟩ := hr T hT Y
  have hv : v = u.map (jj_cv X) := by injection hv
  subst hv
  rw [h0] at hz hk
  obtain ⟨t2, a1, b1⟩ := kk T'.heap (locs ++ L) (by rw [e1]; exact hp)
    ⟨Nat.le_trans hS.1 (by rw [e1]; exact hz), fun q h1 h2 => by rw [e1, hk q (Nat.lt_of_lt_of_le h1 hS.1) h2]; exact hS.2.1 q h1 h2, fun q hq => by
      rcases List.mem_append.mp hq with h | h
      · exact hS.2.2 q h
      · exact hL q h⟩ T' rfl X'
  exact ⟨t2, st t2 a1, b1⟩
theorem jj_K.calling {X : jj_X} {U : State} {g : JFrame} {mk : MethodId} {a : Array Value} (h : jj_K X U) : jj_K X (U.calling g mk a) := by
  obtain ⟨h1, h2, h3, h4, h5, h6, h7, h8⟩ := h
  have hv : U.vm.Alike (U.calling g mk a).vm := Vm.Alike.refl U.vm
  exact ⟨va_K.moved hv h1, fun q hq => va_Nw.same rfl rfl (h2 q hq), fun q hq => va_Nw.same rfl rfl (h3 q hq), fun C hC => (h4 C hC).moved hv, vk_S.moved hv h5, va_Z.moved hv h6, va_Z.moved hv h7, fun q hq => vk_R.same rfl (h8 q hq)⟩
theorem jj_blind {X : jj_X} {as : List Value} {σ : jj_S} : FrameBlind (jj_Pc X as σ) := by
  intro a U g mk h
  obtain ⟨h0, h1, h2, h3, h4⟩ := h
  exact ⟨h0, h1, h2.calling, h3, h4⟩
theorem jj_stk {X : jj_X} {st as : List Value} {d : Nat} (h : as = (st.take d).reverse) : st.map (jj_cv X) = (as.map (jj_cv X)).reverse ++ (st.drop d).map (jj_cv X) := by
  subst h
  rw [← List.map_reverse, List.reverse_reverse, ← List.map_append, List.take_append_drop]
theorem jx_rm_of {y b d rc : Nat} (h : jx_rm y b d rc = true) : jt_fr b + 1 ≤ jt_fr y ∧ 8 + (jt_L b + 11) + jt_lo b ≤ jt_lo y ∧ d = jt_np.getD b 0 + rc ∧ d ≤ jt_L b ∧ b < jt_law := by
  unfold jx_rm at h
  obtain ⟨h1, h⟩ := jx_and h
  obtain ⟨h2, h⟩ := jx_and h
  obtain ⟨h3, h⟩ := jx_and h
  obtain ⟨h4, h5⟩ := jx_and h
  exact ⟨of_decide_eq_true h1, of_decide_eq_true h2, of_decide_eq_true h3, of_decide_eq_true h4, of_decide_eq_true h5⟩
/-- the callee's contract, and what a call needs: then the caller goes on behind it -/
def jx_SndC (κ : Nat) : Prop := ∀ (X : jj_X) (y : Nat) (R : Room) (k n pc a b d : Nat) (c : Int32) (st : List Value) (σ τ : jj_S) (u : Option Value) (as rest : List Value) (mc ms : Nat)
  (p : Program) (e : Env) (s : State) (m : MethodId) (args : Array Value) (below : List Frame) (meth : Method) (cc : Code) (H : Heap) (locs : List Loc) (ls : Array Slot),
  jt_fr y ≤ R.frames → jt_lo y ≤ R.locals → decode (jt_B y) pc = .ok (jx_I pc (κ, a, b, d, c)) → jx_lok y (κ, a, b, d, c) = true → jx_cal (κ, a, b, d, c) st σ = some (as, rest) → k + mc ≤ R.cells → n + ms ≤ R.slots →
  Met X.1 (jt_N b) (jt_ws b) (jj_rm b mc ms) (jj_Pc X as σ) (jj_Q X u τ) mc ms (jj_A X) →
  jj_V X y p s m args meth cc → jj_P X σ H → va_S (jj_A X) s.heap H locs → ls.size = jt_L y → H.size = X.2.2.1 + σ.2.2.2.1 →
  va_Run p X.1 e R s m args below meth cc H locs k n mc ms (F0 m pc ls (st.map (jj_cv X))) (rest.map (jj_cv X)) (jj_Q X u τ (as.map (jj_cv X)).toArray) (jj_A X)
theorem jx_cal_of {o : jx_O} {st as rest : List Value} {σ : jj_S} (h : jx_cal o st σ = some (as, rest)) : as = (st.take o.2.2.2.1).reverse ∧ rest = st.drop o.2.2.2.1 ∧ as.length = o.2.2.2.1 ∧ rest.length ≤ 8 ∧ (∀ v ∈ as, v.category = 1) ∧ (∀ v ∈ rest, v.category = 1) ∧ jx_rcv o σ as = true := by
  unfold jx_cal at h
  split at h
  · rename_i hh
    obtain ⟨h1, h2, h3, h4⟩ := hh
    cases h
    have hc := jx_c1_of h3
    refine ⟨rfl, rfl, ?_, ?_, fun v hv => hc v (List.mem_of_mem_take (List.mem_reverse.mp hv)), fun v hv => hc v (List.mem_of_mem_drop hv), h4⟩
    · rw [List.length_reverse, List.length_take]; omega
    · rw [List.length_drop]; omega
  · cases h
theorem jc_81 : jx_SndC 81 := by
  intro X y R k n pc a b d c st σ τ u as rest mc ms p e s m args below meth cc H locs ls hfr hlo hd hc hcal hk hn hM V P S hls hsz
  obtain ⟨hm, hc2⟩ := jx_and (a := decide ((jt_c y, a, b) ∈ jt_lm)) (b := (decide (b ∈ jt_is) && jx_rm y b d 0)) hc
  obtain ⟨hi, hrm⟩ := jx_and hc2
  have hm := of_decide_eq_true hm
  have hi := of_decide_eq_true hi
  obtain ⟨r1, r2, r3, r4, r5⟩ := jx_rm_of hrm
  obtain ⟨c1, c2, c3, c4, c5, c6, c7⟩ := jx_cal_of hcal
  have hstk : st.map (jj_cv X) = (as.map (jj_cv X)).reverse ++ rest.map (jj_cv X) := by rw [c2]; exact jj_stk c1
  have h8 : ((rest.map (jj_cv X)).map fun v => v.category).sum ≤ 8 := by rw [jj_catsum X rest c6]; exact c4
  have hR : (jj_rm b mc ms).frames + 1 ≤ R.frames ∧ 8 + (jt_L b + 11) + (jj_rm b mc ms).locals ≤ R.locals := ⟨Nat.le_trans r1 hfr, Nat.le_trans r2 hlo⟩
  have hini := V.2.2.2.2.1 _ (jt_met r5).2.1
  have hpc : ∀ U : State, U.heap = H → s.WarmedH U.vm → jj_Pc X as σ (as.map (jj_cv X)).toArray U := fun U hU hW => ⟨rfl, by rw [hU]; exact P, V.2.2.2.2.2.2.2.2.1.to hW hU S, by rw [hU, hsz], by rw [hU, hsz]; omega⟩
  have c3' : as.length = d := c3
  exact va_runS (As := as.map (jj_cv X)) ⟨V.1, V.2.1, V.2.2.1, V.2.2.2.1, V.2.2.2.2.1⟩ hM ⟨callB_of (jt_np.getD b 0) V.2.2.2.2.1 (jt_goodIn r5) rfl rfl rfl hini (V.2.2.2.2.1 _ (jt_lm_ok hm)) ⟨(jt_met r5).2.2.2.1, (jt_met r5).2.2.2.2.1, (jt_met r5).2.2.2.2.2⟩ hR, V.2.2.2.2.1 _ (jt_is_ok hi)⟩ ⟨jj_blind, hpc⟩ rfl (by rw [List.length_map]; omega) hls hstk (lv_room h8) hd ⟨hk, hn⟩
theorem jc_84 : jx_SndC 84 := by
  intro X y R k n pc a b d c st σ τ u as rest mc ms p e s m args below meth cc H locs ls hfr hlo hd hc hcal hk hn hM V P S hls hsz
  obtain ⟨hm, hc2⟩ := jx_and (a := decide ((jt_c y, a, b) ∈ jt_lmn)) (b := (decide (b ∈ jt_is) && jx_rm y b d 0)) hc
  obtain ⟨hi, hrm⟩ := jx_and hc2
  have hm := of_decide_eq_true hm
  have hi := of_decide_eq_true hi
  obtain ⟨r1, r2, r3, r4, r5⟩ := jx_rm_of hrm
  obtain ⟨c1, c2, c3, c4, c5, c6, c7⟩ := jx_cal_of hcal
  have hstk : st.map (jj_cv X) = (as.map (jj_cv X)).reverse ++ rest.map (jj_cv X) := by rw [c2]; exact jj_stk c1
  have h8 : ((rest.map (jj_cv X)).map fun v => v.category).sum ≤ 8 := by rw [jj_catsum X rest c6]; exact c4
  have hR : (jj_rm b mc ms).frames + 1 ≤ R.frames ∧ 8 + (jt_L b + 11) + (jj_rm b mc ms).locals ≤ R.locals := ⟨Nat.le_trans r1 hfr, Nat.le_trans r2 hlo⟩
  have hini := V.2.2.2.2.1 _ (jt_met r5).2.1
  have hpc : ∀ U : State, U.heap = H → s.WarmedH U.vm → jj_Pc X as σ (as.map (jj_cv X)).toArray U := fun U hU hW => ⟨rfl, by rw [hU]; exact P, V.2.2.2.2.2.2.2.2.1.to hW hU S, by rw [hU, hsz], by rw [hU, hsz]; omega⟩
  have c3' : as.length = d := c3
  exact va_runSN (As := as.map (jj_cv X)) ⟨V.1, V.2.1, V.2.2.1, V.2.2.2.1, V.2.2.2.2.1⟩ hM ⟨va_cnB (jt_np.getD b 0) V.2.2.2.2.1 (jt_goodIn r5) rfl rfl rfl (V.2.2.2.2.2.2.2.2.1.2.2.1 (jt_c y, a, b) hm) hini ⟨(jt_met r5).2.2.2.1, (jt_met r5).2.2.2.2.1, (jt_met r5).2.2.2.2.2⟩ hR, V.2.2.2.2.1 _ (jt_is_ok hi), trivial⟩ ⟨jj_blind, hpc⟩ rfl (by rw [List.length_map]; omega) hls hstk (lv_room h8) hd ⟨hk, hn⟩
theorem jc_80 : jx_SndC 80 := by
  intro X y R k n pc a b d c st σ τ u as rest mc ms p e s m args below meth cc H locs ls hfr hlo hd hc hcal hk hn hM V P S hls hsz
  obtain ⟨hm, hc2⟩ := jx_and (a := decide ((jt_c y, a, b) ∈ jt_lm)) (b := (decide (b ∈ jt_iv) && jx_rm y b d 1)) hc
  obtain ⟨hi, hrm⟩ := jx_and hc2
  have hm := of_decide_eq_true hm
  have hi := of_decide_eq_true hi
  obtain ⟨r1, r2, r3, r4, r5⟩ := jx_rm_of hrm
  obtain ⟨c1, c2, c3, c4, c5, c6, c7⟩ := jx_cal_of hcal
  have hstk : st.map (jj_cv X) = (as.map (jj_cv X)).reverse ++ rest.map (jj_cv X) := by rw [c2]; exact jj_stk c1
  have h8 : ((rest.map (jj_cv X)).map fun v => v.category).sum ≤ 8 := by rw [jj_catsum X rest c6]; exact c4
  have hR : (jj_rm b mc ms).frames + 1 ≤ R.frames ∧ 8 + (jt_L b + 11) + (jj_rm b mc ms).locals ≤ R.locals := ⟨Nat.le_trans r1 hfr, Nat.le_trans r2 hlo⟩
  have hini := V.2.2.2.2.1 _ (jt_met r5).2.1
  have hpc : ∀ U : State, U.heap = H → s.WarmedH U.vm → jj_Pc X as σ (as.map (jj_cv X)).toArray U := fun U hU hW => ⟨rfl, by rw [hU]; exact P, V.2.2.2.2.2.2.2.2.1.to hW hU S, by rw [hU, hsz], by rw [hU, hsz]; omega⟩
  have c3' : as.length = d := c3
  obtain ⟨i, as', rfl, hi2⟩ : ∃ i as', as = .ref i :: as' ∧ (i < σ.2.2.2.1 ∧ (σ.2.2.1 i).1 = 0 ∧ (σ.2.2.1 i).2.1 = jt_rc.getD b 99) := by
    match as, c7 with
    | .ref i :: as', c7 => exact ⟨i, as', rfl, of_decide_eq_true c7⟩
    | [], c7 => cases (show false = true from c7)
    | .int _ :: _, c7 => cases (show false = true from c7)
    | .long _ :: _, c7 => cases (show false = true from c7)
    | .float _ :: _, c7 => cases (show false = true from c7)
    | .double _ :: _, c7 => cases (show false = true from c7)
    | .null :: _, c7 => cases (show false = true from c7)
    | .retAddr _ :: _, c7 => cases (show false = true from c7)
  have hlen : (as'.map (jj_cv X)).length = jt_np.getD b 0 := by
    have : (Value.ref i :: as').length = d := c3'
    rw [List.length_cons] at this
    rw [List.length_map]
    omega
  have hstk2 : st.map (jj_cv X) = (as'.map (jj_cv X)).reverse ++ .ref (jj_ad X i) :: rest.map (jj_cv X) := by
    rw [hstk, List.map_cons, List.reverse_cons, List.append_assoc]
    rfl
  obtain ⟨w1, w2, w3, w4⟩ := jt_iv_ok hi
  have hrecv : ∃ cellB : Cell, H[jj_ad X i]? = some cellB ∧ cellB.vm.isStatics = false ∧ s.vm.findClass (jt_N b).cls = some cellB.cls := by
    have hE : (jj_wl X σ)[i]? = some (jj_ad X i, .inr (jt_rc.getD b 99, jj_fs X σ i (jt_rc.getD b 99))) := by rw [jj_wl_at hi2.1, jj_E0 hi2.2.1, hi2.2.2]
    obtain ⟨r, hr, cell, q1, q2, q3, q4⟩ := P.2 i _ hE
    have hr2 : r = (jt_C.getD (jt_rc.getD b 99) "", jt_T (jt_rc.getD b 99), jt_n (jt_rc.getD b 99)) := Option.some.inj (hr.symm.trans (jt_cl_at w4))
    have hKn := V.2.2.2.2.2.2.2.2.1.1.1 _ _ (jt_cl_at w4)
    refine ⟨cell, q1, by rw [q3]; rfl, ?_⟩
    rw [q2, ← w3]
    exact hKn.2.1
  exact va_runV (As := as'.map (jj_cv X)) (C := (jt_N b).cls) ⟨V.1, V.2.1, V.2.2.1, V.2.2.2.1, V.2.2.2.2.1⟩ hM ⟨callB_of (jt_np.getD b 0) V.2.2.2.2.1 (jt_goodIn r5) rfl rfl rfl hini (V.2.2.2.2.1 _ (jt_lm_ok hm)) ⟨(jt_met r5).2.2.2.1, (jt_met r5).2.2.2.2.1, (jt_met r5).2.2.2.2.2⟩ hR, V.2.2.2.2.1 _ w1, V.2.2.2.2.1 _ w2⟩ ⟨jj_blind, hrecv, hpc⟩ rfl hlen hls hstk2 (lv_room h8) hd ⟨hk, hn⟩
theorem jc_83 : jx_SndC 83 := by
  intro X y R k n pc a b d c st σ τ u as rest mc ms p e s m args below meth cc H locs ls hfr hlo hd hc hcal hk hn hM V P S hls hsz
  obtain ⟨hm, hc2⟩ := jx_and (a := decide ((jt_c y, a, b) ∈ jt_lmn)) (b := (decide (b ∈ jt_iv) && jx_rm y b d 1)) hc
  obtain ⟨hi, hrm⟩ := jx_and hc2
  have hm := of_decide_eq_true hm
  have hi := of_decide_eq_true hi
  obtain ⟨r1, r2, r3, r4, r5⟩ := jx_rm_of hrm
  obtain ⟨c1, c2, c3, c4, c5, c6, c7⟩ := jx_cal_of hcal
  have hstk : st.map (jj_cv X) = (as.map (jj_cv X)).reverse ++ rest.map (jj_cv X) := by rw [c2]; exact jj_stk c1
  have h8 : ((rest.map (jj_cv X)).map fun v => v.category).sum ≤ 8 := by rw [jj_catsum X rest c6]; exact c4
  have hR : (jj_rm b mc ms).frames + 1 ≤ R.frames ∧ 8 + (jt_L b + 11) + (jj_rm b mc ms).locals ≤ R.locals := ⟨Nat.le_trans r1 hfr, Nat.le_trans r2 hlo⟩
  have hini := V.2.2.2.2.1 _ (jt_met r5).2.1
  have hpc : ∀ U : State, U.heap = H → s.WarmedH U.vm → jj_Pc X as σ (as.map (jj_cv X)).toArray U := fun U hU hW => ⟨rfl, by rw [hU]; exact P, V.2.2.2.2.2.2.2.2.1.to hW hU S, by rw [hU, hsz], by rw [hU, hsz]; omega⟩
  have c3' : as.length = d := c3
  obtain ⟨i, as', rfl, hi2⟩ : ∃ i as', as = .ref i :: as' ∧ (i < σ.2.2.2.1 ∧ (σ.2.2.1 i).1 = 0 ∧ (σ.2.2.1 i).2.1 = jt_rc.getD b 99) := by
    match as, c7 with
    | .ref i :: as', c7 => exact ⟨i, as', rfl, of_decide_eq_true c7⟩
    | [], c7 => cases (show false = true from c7)
    | .int _ :: _, c7 => cases (show false = true from c7)
    | .long _ :: _, c7 => cases (show false = true from c7)
    | .float _ :: _, c7 => cases (show false = true from c7)
    | .double _ :: _, c7 => cases (show false = true from c7)
    | .null :: _, c7 => cases (show false = true from c7)
    | .retAddr _ :: _, c7 => cases (show false = true from c7)
  have hlen : (as'.map (jj_cv X)).length = jt_np.getD b 0 := by
    have : (Value.ref i :: as').length = d := c3'
    rw [List.length_cons] at this
    rw [List.length_map]
    omega
  have hstk2 : st.map (jj_cv X) = (as'.map (jj_cv X)).reverse ++ .ref (jj_ad X i) :: rest.map (jj_cv X) := by
    rw [hstk, List.map_cons, List.reverse_cons, List.append_assoc]
    rfl
  obtain ⟨w1, w2, w3, w4⟩ := jt_iv_ok hi
  have hrecv : ∃ cellB : Cell, H[jj_ad X i]? = some cellB ∧ cellB.vm.isStatics = false ∧ s.vm.findClass (jt_N b).cls = some cellB.cls := by
    have hE : (jj_wl X σ)[i]? = some (jj_ad X i, .inr (jt_rc.getD b 99, jj_fs X σ i (jt_rc.getD b 99))) := by rw [jj_wl_at hi2.1, jj_E0 hi2.2.1, hi2.2.2]
    obtain ⟨r, hr, cell, q1, q2, q3, q4⟩ := P.2 i _ hE
    have hr2 : r = (jt_C.getD (jt_rc.getD b 99) "", jt_T (jt_rc.getD b 99), jt_n (jt_rc.getD b 99)) := Option.some.inj (hr.symm.trans (jt_cl_at w4))
    have hKn := V.2.2.2.2.2.2.2.2.1.1.1 _ _ (jt_cl_at w4)
    refine ⟨cell, q1, by rw [q3]; rfl, ?_⟩
    rw [q2, ← w3]
    exact hKn.2.1
  exact va_runVN (As := as'.map (jj_cv X)) (C := (jt_N b).cls) ⟨V.1, V.2.1, V.2.2.1, V.2.2.2.1, V.2.2.2.2.1⟩ hM ⟨va_cnB (jt_np.getD b 0) V.2.2.2.2.1 (jt_goodIn r5) rfl rfl rfl (V.2.2.2.2.2.2.2.2.1.2.2.1 (jt_c y, a, b) hm) hini ⟨(jt_met r5).2.2.2.1, (jt_met r5).2.2.2.2.1, (jt_met r5).2.2.2.2.2⟩ hR, V.2.2.2.2.1 _ w1, V.2.2.2.2.1 _ w2⟩ ⟨jj_blind, hrecv, hpc⟩ rfl hlen hls hstk2 (lv_room h8) hd ⟨hk, hn⟩
theorem jc_86 : jx_SndC 86 := by
  intro X y R k n pc a b d c st σ τ u as rest mc ms p e s m args below meth cc H locs ls hfr hlo hd hc hcal hk hn hM V P S hls hsz
  obtain ⟨hm, hc2⟩ := jx_and (a := decide ((jt_c y, a, b) ∈ jt_lm)) (b := (decide (b ∈ jt_it) && jx_rm y b d 1)) hc
  obtain ⟨hi, hrm⟩ := jx_and hc2
  have hm := of_decide_eq_true hm
  have hi := of_decide_eq_true hi
  obtain ⟨r1, r2, r3, r4, r5⟩ := jx_rm_of hrm
  obtain ⟨c1, c2, c3, c4, c5, c6, c7⟩ := jx_cal_of hcal
  have hstk : st.map (jj_cv X) = (as.map (jj_cv X)).reverse ++ rest.map (jj_cv X) := by rw [c2]; exact jj_stk c1
  have h8 : ((rest.map (jj_cv X)).map fun v => v.category).sum ≤ 8 := by rw [jj_catsum X rest c6]; exact c4
  have hR : (jj_rm b mc ms).frames + 1 ≤ R.frames ∧ 8 + (jt_L b + 11) + (jj_rm b mc ms).locals ≤ R.locals := ⟨Nat.le_trans r1 hfr, Nat.le_trans r2 hlo⟩
  have hini := V.2.2.2.2.1 _ (jt_met r5).2.1
  have hpc : ∀ U : State, U.heap = H → s.WarmedH U.vm → jj_Pc X as σ (as.map (jj_cv X)).toArray U := fun U hU hW => ⟨rfl, by rw [hU]; exact P, V.2.2.2.2.2.2.2.2.1.to hW hU S, by rw [hU, hsz], by rw [hU, hsz]; omega⟩
  have c3' : as.length = d := c3
  obtain ⟨i, as', rfl, hi2⟩ : ∃ i as', as = .ref i :: as' ∧ (1000000 ≤ i ∧ i < 1000000 + jt_sb.length) := by
    match as, c7 with
    | .ref i :: as', c7 => exact ⟨i, as', rfl, of_decide_eq_true c7⟩
    | [], c7 => cases (show false = true from c7)
    | .int _ :: _, c7 => cases (show false = true from c7)
    | .long _ :: _, c7 => cases (show false = true from c7)
    | .float _ :: _, c7 => cases (show false = true from c7)
    | .double _ :: _, c7 => cases (show false = true from c7)
    | .null :: _, c7 => cases (show false = true from c7)
    | .retAddr _ :: _, c7 => cases (show false = true from c7)
  have hlen : (as'.map (jj_cv X)).length = jt_np.getD b 0 := by
    have : (Value.ref i :: as').length = d := c3'
    rw [List.length_cons] at this
    rw [List.length_map]
    omega
  have hstk2 : st.map (jj_cv X) = (as'.map (jj_cv X)).reverse ++ .ref (jj_ad X i) :: rest.map (jj_cv X) := by
    rw [hstk, List.map_cons, List.reverse_cons, List.append_assoc]
    rfl
  obtain ⟨w1, w2, w3⟩ := jt_it_ok hi
  obtain ⟨j, rfl, hj⟩ := jx_off hi2
  have hrecv : ∃ cellB : Cell, H[jj_ad X (1000000 + j)]? = some cellB ∧ cellB.vm.isStatics = false ∧ s.vm.findClass (jt_N b).cls = some cellB.cls := by
    rw [jj_ad_hi (by omega), w3]
    exact vk_recv V.2.2.2.2.2.2.2.2.1.2.2.2.2.1 (i := j) hj S
  exact va_runV (As := as'.map (jj_cv X)) (C := (jt_N b).cls) ⟨V.1, V.2.1, V.2.2.1, V.2.2.2.1, V.2.2.2.2.1⟩ hM ⟨callB_of (jt_np.getD b 0) V.2.2.2.2.1 (jt_goodIn r5) rfl rfl rfl hini (V.2.2.2.2.1 _ (jt_lm_ok hm)) ⟨(jt_met r5).2.2.2.1, (jt_met r5).2.2.2.2.1, (jt_met r5).2.2.2.2.2⟩ hR, V.2.2.2.2.1 _ w1, V.2.2.2.2.1 _ w2⟩ ⟨jj_blind, hrecv, hpc⟩ rfl hlen hls hstk2 (lv_room h8) hd ⟨hk, hn⟩
theorem jc_82 : jx_SndC 82 := by
  intro X y R k n pc a b d c st σ τ u as rest mc ms p e s m args below meth cc H locs ls hfr hlo hd hc hcal hk hn hM V P S hls hsz
  obtain ⟨hm, hc2⟩ := jx_and (a := decide ((jt_c y, a, b) ∈ jt_lm)) (b := (decide (b ∈ jt_ii) && jx_rm y b d 1)) hc
  obtain ⟨hi, hrm⟩ := jx_and hc2
  have hm := of_decide_eq_true hm
  have hi := of_decide_eq_true hi
  obtain ⟨r1, r2, r3, r4, r5⟩ := jx_rm_of hrm
  obtain ⟨c1, c2, c3, c4, c5, c6, c7⟩ := jx_cal_of hcal
  have hstk : st.map (jj_cv X) = (as.map (jj_cv X)).reverse ++ rest.map (jj_cv X) := by rw [c2]; exact jj_stk c1
  have h8 : ((rest.map (jj_cv X)).map fun v => v.category).sum ≤ 8 := by rw [jj_catsum X rest c6]; exact c4
  have hR : (jj_rm b mc ms).frames + 1 ≤ R.frames ∧ 8 + (jt_L b + 11) + (jj_rm b mc ms).locals ≤ R.locals := ⟨Nat.le_trans r1 hfr, Nat.le_trans r2 hlo⟩
  have hini := V.2.2.2.2.1 _ (jt_met r5).2.1
  have hpc : ∀ U : State, U.heap = H → s.WarmedH U.vm → jj_Pc X as σ (as.map (jj_cv X)).toArray U := fun U hU hW => ⟨rfl, by rw [hU]; exact P, V.2.2.2.2.2.2.2.2.1.to hW hU S, by rw [hU, hsz], by rw [hU, hsz]; omega⟩
  have c3' : as.length = d := c3
  obtain ⟨i, as', rfl, hi2⟩ : ∃ i as', as = .ref i :: as' ∧ (True) := by
    match as, c7 with
    | .ref i :: as', c7 => exact ⟨i, as', rfl, trivial⟩
    | [], c7 => cases (show false = true from c7)
    | .int _ :: _, c7 => cases (show false = true from c7)
    | .long _ :: _, c7 => cases (show false = true from c7)
    | .float _ :: _, c7 => cases (show false = true from c7)
    | .double _ :: _, c7 => cases (show false = true from c7)
    | .null :: _, c7 => cases (show false = true from c7)
    | .retAddr _ :: _, c7 => cases (show false = true from c7)
  have hlen : (as'.map (jj_cv X)).length = jt_np.getD b 0 := by
    have : (Value.ref i :: as').length = d := c3'
    rw [List.length_cons] at this
    rw [List.length_map]
    omega
  have hstk2 : st.map (jj_cv X) = (as'.map (jj_cv X)).reverse ++ .ref (jj_ad X i) :: rest.map (jj_cv X) := by
    rw [hstk, List.map_cons, List.reverse_cons, List.append_assoc]
    rfl
  obtain ⟨w1, w2, w3⟩ := jt_ii_ok hi
  have hcw := callB_of (jt_np.getD b 0) V.2.2.2.2.1 (jt_goodIn r5) rfl rfl rfl hini (V.2.2.2.2.1 _ (jt_lm_ok hm)) ⟨(jt_met r5).2.2.2.1, (jt_met r5).2.2.2.2.1, (jt_met r5).2.2.2.2.2⟩ hR
  rw [w3] at hcw
  exact va_runI (As := as'.map (jj_cv X)) ⟨V.1, V.2.1, V.2.2.1, V.2.2.2.1, V.2.2.2.2.1⟩ hM ⟨hcw, w2, V.2.2.2.2.1 _ w1⟩ ⟨jj_blind, hpc⟩ rfl hlen hls hstk2 (lv_room h8) hd ⟨hk, hn⟩
theorem jc_85 : jx_SndC 85 := by
  intro X y R k n pc a b d c st σ τ u as rest mc ms p e s m args below meth cc H locs ls hfr hlo hd hc hcal hk hn hM V P S hls hsz
  obtain ⟨hm, hc2⟩ := jx_and (a := decide ((jt_c y, a, b) ∈ jt_lmn)) (b := (decide (b ∈ jt_ii) && jx_rm y b d 1)) hc
  obtain ⟨hi, hrm⟩ := jx_and hc2
  have hm := of_decide_eq_true hm
  have hi := of_decide_eq_true hi
  obtain ⟨r1, r2, r3, r4, r5⟩ := jx_rm_of hrm
  obtain ⟨c1, c2, c3, c4, c5, c6, c7⟩ := jx_cal_of hcal
  have hstk : st.map (jj_cv X) = (as.map (jj_cv X)).reverse ++ rest.map (jj_cv X) := by rw [c2]; exact jj_stk c1
  have h8 : ((rest.map (jj_cv X)).map fun v => v.category).sum ≤ 8 := by rw [jj_catsum X rest c6]; exact c4
  have hR : (jj_rm b mc ms).frames + 1 ≤ R.frames ∧ 8 + (jt_L b + 11) + (jj_rm b mc ms).locals ≤ R.locals := ⟨Nat.le_trans r1 hfr, Nat.le_trans r2 hlo⟩
  have hini := V.2.2.2.2.1 _ (jt_met r5).2.1
  have hpc : ∀ U : State, U.heap = H → s.WarmedH U.vm → jj_Pc X as σ (as.map (jj_cv X)).toArray U := fun U hU hW => ⟨rfl, by rw [hU]; exact P, V.2.2.2.2.2.2.2.2.1.to hW hU S, by rw [hU, hsz], by rw [hU, hsz]; omega⟩
  have c3' : as.length = d := c3
  obtain ⟨i, as', rfl, hi2⟩ : ∃ i as', as = .ref i :: as' ∧ (True) := by
    match as, c7 with
    | .ref i :: as', c7 => exact ⟨i, as', rfl, trivial⟩
    | [], c7 => cases (show false = true from c7)
    | .int _ :: _, c7 => cases (show false = true from c7)
    | .long _ :: _, c7 => cases (show false = true from c7)
    | .float _ :: _, c7 => cases (show false = true from c7)
    | .double _ :: _, c7 => cases (show false = true from c7)
    | .null :: _, c7 => cases (show false = true from c7)
    | .retAddr _ :: _, c7 => cases (show false = true from c7)
  have hlen : (as'.map (jj_cv X)).length = jt_np.getD b 0 := by
    have : (Value.ref i :: as').length = d := c3'
    rw [List.length_cons] at this
    rw [List.length_map]
    omega
  have hstk2 : st.map (jj_cv X) = (as'.map (jj_cv X)).reverse ++ .ref (jj_ad X i) :: rest.map (jj_cv X) := by
    rw [hstk, List.map_cons, List.reverse_cons, List.append_assoc]
    rfl
  obtain ⟨w1, w2, w3⟩ := jt_ii_ok hi
  have hcw := va_cnB (jt_np.getD b 0) V.2.2.2.2.1 (jt_goodIn r5) rfl rfl rfl (V.2.2.2.2.2.2.2.2.1.2.2.1 (jt_c y, a, b) hm) hini ⟨(jt_met r5).2.2.2.1, (jt_met r5).2.2.2.2.1, (jt_met r5).2.2.2.2.2⟩ hR
  rw [w3] at hcw
  exact va_runIN (As := as'.map (jj_cv X)) ⟨V.1, V.2.1, V.2.2.1, V.2.2.2.1, V.2.2.2.2.1⟩ hM ⟨hcw, w2, V.2.2.2.2.1 _ w1⟩ ⟨jj_blind, hpc⟩ rfl hlen hls hstk2 (lv_room h8) hd ⟨hk, hn⟩
end
section
def jj_End (X : jj_X) (y : Nat) (R : Room) (Z : List Frame → Array Value → State → State → Prop) (r : Option Value) (τ : jj_S) (K N : Nat) : Prop :=
  ∀ (p : Program) (e : Env) (s : State) (m : MethodId) (args : Array Value) (below : List Frame) (meth : Method) (c : Code) (H : Heap) (locs : List Loc) (ls : Array Slot) (pc : Nat), jj_V X y p s m args meth c → jj_P X τ H → va_S (jj_A X) s.heap H locs →
  (r = none → jt_R y = none → decode (jt_B y) pc = .ok (.return_, 1) → W p X.1 e R s m args below meth c H locs K N (Z below args s) (F0 m pc ls [])) ∧
  (∀ (v : Int32) (ty : FieldType), r = some (.int v) → jt_R y = some ty → narrow ty (.int v) = .int v → decode (jt_B y) pc = .ok (.ireturn, 1) → W p X.1 e R s m args below meth c H locs K N (Z below args s) (F0 m pc ls [.int v])) ∧
  (∀ (i : Nat) (ty : FieldType), r = some (.ref i) → jt_R y = some ty → ((∃ n, ty = .object n) ∨ ∃ t, ty = .array t) → decode (jt_B y) pc = .ok (.areturn, 1) → W p X.1 e R s m args below meth c H locs K N (Z below args s) (F0 m pc ls [.ref (jj_ad X i)]))
theorem jj_end {X : jj_X} {y : Nat} {R : Room} {r : Option Value} {τ : jj_S} {K N : Nat} : jj_End X y R (jj_Z X r τ K N) r τ K N := by
  intro p e s m args below meth c H locs ls pc V P S
  refine ⟨fun hr hR hd => ?_, fun v ty hr hR hn hd => ?_, fun i ty hr hR hty hd => ?_⟩
  · subst hr
    exact W.vret V.1 V.2.1 (V.2.2.2.2.2.1.trans hR) (fun t ht hW => ⟨⟨rfl, by rw [ht]; exact P⟩, S.F ht⟩) S.2.2 hd V.2.2.2.2.2.2.1
  · subst hr
    exact W.zret V.1 V.2.1 (V.2.2.2.2.2.1.trans hR) hn (fun t ht hW => ⟨⟨rfl, by rw [ht]; exact P⟩, S.F ht⟩) S.2.2 hd V.2.2.2.2.2.2.1
  · subst hr
    exact W.aret V.1 V.2.1 (V.2.2.2.2.2.1.trans hR) hty (Or.inr ⟨_, rfl⟩) (fun t ht hW => ⟨⟨rfl, by rw [ht]; exact P⟩, S.F ht⟩) S.2.2 hd V.2.2.2.2.2.2.1
theorem js_no (κ : Nat) (h : ∀ xs, (jx_tb xs).getD κ jx_no = jx_no) : jx_Snd κ := by
  intro X y R Z k n pc a b d c L st σ q hfr hlo hk0 hn0 hd hc hs g
  have hs' : ((jx_tb X.2.2.2.2.2).getD κ jx_no) pc a b d c L st σ = some q := hs
  rw [h] at hs'
  cases (show none = some q from hs')
theorem js_4 : jx_Snd 4 := by
  intro X y R Z k n pc a b d c L st σ q hfr hlo hk0 hn0 hd hc h g
  have hq := Option.some.inj h
  subst hq
  intro p e s m args below meth cc H locs ls V P S hl hz T hT Y
  obtain ⟨t, a1, b1⟩ := g p e s m args below meth cc H locs ls V P S hl hz T hT Y
  exact ⟨t, va_ldcwI Y V.1 V.2.2.2.1 (V.2.2.2.2.1 _ (jt_lc_ok (of_decide_eq_true (p := (jt_c y, a, c) ∈ jt_lc) hc))) (g := F0 m pc ls (st.map (jj_cv X))) rfl (by rw [V.2.1]; exact hd) t a1, b1⟩
theorem jx_snd : ∀ κ : Nat, κ < 72 → jx_Snd κ
  | 0, _ => js_0
  | 1, _ => js_1
  | 2, _ => js_2
  | 3, _ => js_3
  | 4, _ => js_4
  | 5, _ => js_5
  | 6, _ => js_6
  | 7, _ => js_7
  | 8, _ => js_8
  | 9, _ => js_9
  | 10, _ => js_10
  | 11, _ => js_11
  | 12, _ => js_12
  | 13, _ => js_13
  | 14, _ => js_14
  | 15, _ => js_15
  | 16, _ => js_16
  | 17, _ => js_17
  | 18, _ => js_18
  | 19, _ => js_19
  | 20, _ => js_20
  | 21, _ => js_21
  | 22, _ => js_22
  | 23, _ => js_23
  | 24, _ => js_24
  | 25, _ => js_25
  | 26, _ => js_26
  | 27, _ => js_27
  | 28, _ => js_28
  | 29, _ => js_29
  | 30, _ => js_30
  | 31, _ => js_31
  | 32, _ => js_32
  | 33, _ => js_33
  | 34, _ => js_34
  | 35, _ => js_35
  | 36, _ => js_36
  | 37, _ => js_37
  | 38, _ => js_38
  | 39, _ => js_39
  | 40, _ => js_40
  | 41, _ => js_41
  | 42, _ => js_42
  | 43, _ => js_43
  | 44, _ => js_44
  | 45, _ => js_45
  | 46, _ => js_46
  | 47, _ => js_47
  | 48, _ => js_48
  | 49, _ => js_49
  | 50, _ => js_50
  | 51, _ => js_51
  | 52, _ => js_52
  | 53, _ => js_53
  | 54, _ => js_54
  | 55, _ => js_55
  | 56, _ => js_56
  | 57, _ => js_57
  | 58, _ => js_58
  | 59, _ => js_59
  | 60, _ => js_60
  | 61, _ => js_61
  | 62, _ => js_62
  | 63, _ => js_63
  | 64, _ => js_64
  | 65, _ => js_65
  | 66, _ => js_66
  | 67, _ => js_67
  | 68, _ => js_68
  | 69, _ => js_69
  | 70, _ => js_70
  | 71, _ => js_no 71 (fun _ => rfl)
  | n + 72, h => absurd h (by omega)
theorem jx_sndN : ∀ κ : Nat, 72 ≤ κ → κ < 80 → jx_SndN κ := by
  intro κ h1 h2 X y R Z k n pc a b d c L st σ q hd hc h hk hn g
  by_cases e1 : κ = 72
  · subst e1; exact jn_72 X y R Z k n pc a b d c L st σ q hd hc h hk hn g
  · by_cases e2 : κ = 73
    · subst e2; exact jn_73 X y R Z k n pc a b d c L st σ q hd hc h hk hn g
    · by_cases e3 : κ = 74
      · subst e3; exact jn_74 X y R Z k n pc a b d c L st σ q hd hc h hk hn g
      · exfalso
        unfold jx_new at h
        split at h
        · split at h
          · split at h <;> cases h
          · cases h
        · cases h
theorem jx_sndC : ∀ κ : Nat, 80 ≤ κ → κ < 90 → jx_SndC κ := by
  intro κ h1 h2 X y R k n pc a b d c st σ τ u as rest mc ms p e s m args below meth cc H locs ls hfr hlo hd hc hcal
  by_cases e80 : κ = 80
  · subst e80; exact jc_80 X y R k n pc a b d c st σ τ u as rest mc ms p e s m args below meth cc H locs ls hfr hlo hd hc hcal
  by_cases e81 : κ = 81
  · subst e81; exact jc_81 X y R k n pc a b d c st σ τ u as rest mc ms p e s m args below meth cc H locs ls hfr hlo hd hc hcal
  by_cases e82 : κ = 82
  · subst e82; exact jc_82 X y R k n pc a b d c st σ τ u as rest mc ms p e s m args below meth cc H locs ls hfr hlo hd hc hcal
  by_cases e83 : κ = 83
  · subst e83; exact jc_83 X y R k n pc a b d c st σ τ u as rest mc ms p e s m args below meth cc H locs ls hfr hlo hd hc hcal
  by_cases e84 : κ = 84
  · subst e84; exact jc_84 X y R k n pc a b d c st σ τ u as rest mc ms p e s m args below meth cc H locs ls hfr hlo hd hc hcal
  by_cases e85 : κ = 85
  · subst e85; exact jc_85 X y R k n pc a b d c st σ τ u as rest mc ms p e s m args below meth cc H locs ls hfr hlo hd hc hcal
  by_cases e86 : κ = 86
  · subst e86; exact jc_86 X y R k n pc a b d c st σ τ u as rest mc ms p e s m args below meth cc H locs ls hfr hlo hd hc hcal
  exfalso
  have c7 := (jx_cal_of hcal).2.2.2.2.2.2
  unfold jx_rcv at c7
  dsimp only at c7
  rw [if_neg (by omega)] at c7
  split at c7
  · rw [if_neg e86, if_neg (by omega)] at c7
    have := of_decide_eq_true c7
    omega
  · cases c7
theorem jx_lok_call {κ y a b d : Nat} {c : Int32} (h1 : 80 ≤ κ) (h2 : κ < 90) (h : jx_lok y (κ, a, b, d, c) = true) : κ ≤ 86 → b < jt_law ∧ d ≤ jt_L b := by
  intro h3
  have key : ∀ {m1 m2 : Bool} {rc : Nat}, (m1 && (m2 && jx_rm y b d rc)) = true → b < jt_law ∧ d ≤ jt_L b := fun hh => ⟨(jx_rm_of (jx_and (jx_and hh).2).2).2.2.2.2, (jx_rm_of (jx_and (jx_and hh).2).2).2.2.2.1⟩
  obtain rfl | rfl | rfl | rfl | rfl | rfl | rfl : κ = 80 ∨ κ = 81 ∨ κ = 82 ∨ κ = 83 ∨ κ = 84 ∨ κ = 85 ∨ κ = 86 := by omega
  · exact key (m1 := decide ((jt_c y, a, b) ∈ jt_lm)) (m2 := decide (b ∈ jt_iv)) (rc := 1) h
  · exact key (m1 := decide ((jt_c y, a, b) ∈ jt_lm)) (m2 := decide (b ∈ jt_is)) (rc := 0) h
  · exact key (m1 := decide ((jt_c y, a, b) ∈ jt_lm)) (m2 := decide (b ∈ jt_ii)) (rc := 1) h
  · exact key (m1 := decide ((jt_c y, a, b) ∈ jt_lmn)) (m2 := decide (b ∈ jt_iv)) (rc := 1) h
  · exact key (m1 := decide ((jt_c y, a, b) ∈ jt_lmn)) (m2 := decide (b ∈ jt_is)) (rc := 0) h
  · exact key (m1 := decide ((jt_c y, a, b) ∈ jt_lmn)) (m2 := decide (b ∈ jt_ii)) (rc := 1) h
  · exact key (m1 := decide ((jt_c y, a, b) ∈ jt_lm)) (m2 := decide (b ∈ jt_it)) (rc := 1) h
theorem jx_cal_86 {κ a b d : Nat} {c : Int32} {st as rest : List Value} {σ : jj_S} (h1 : 80 ≤ κ) (h2 : κ < 90) (hcal : jx_cal (κ, a, b, d, c) st σ = some (as, rest)) : κ ≤ 86 := by
  by_cases h : κ ≤ 86
  · exact h
  exfalso
  have c7 := (jx_cal_of hcal).2.2.2.2.2.2
  unfold jx_rcv at c7
  dsimp only at c7
  rw [if_neg (by omega)] at c7
  split at c7
  · rw [if_neg (by omega), if_neg (by omega)] at c7
    have := of_decide_eq_true c7
    omega
  · cases c7
theorem jx_sound {X : jj_X} : ∀ (f : Nat) {y pc : Nat} {L : jx_L} {st : List Value} {σ : jj_S} {r : Option Value} {τ : jj_S}, jx_run X.2.2.2.2.2 f y pc L st σ = some (r, τ) → ∀ {R : Room} {Z : List Frame → Array Value → State → State → Prop} {k n K N : Nat},
    jt_fr y ≤ R.frames → jt_lo y ≤ R.locals → K + σ.2.2.2.1 = k + τ.2.2.2.1 → N + σ.2.2.2.2 = n + τ.2.2.2.2 → K ≤ R.cells → N ≤ R.slots → jj_End X y R Z r τ K N → jj_G X y R Z pc L st k n σ := by
  intro f
  induction f with
  | zero => intro y pc L st σ r τ h; cases (show none = some (r, τ) from h)
  | succ f ih =>
    intro y pc L st σ r τ h R Z k n K N hfr hlo hK hN hKR hNR hE
    rw [jx_run] at h
    cases ho : jx_op y pc with
    | none => rw [ho] at h; cases h
    | some o =>
      rw [ho] at h
      dsimp only at h
      obtain ⟨hd, hc⟩ := jx_and (jt_ok ho)
      have hd := of_decide_eq_true hd
      obtain ⟨κ, a, b, d, c⟩ := o
      dsimp only at h
      by_cases h1 : κ < 72
      · rw [if_pos h1] at h
        cases hq : jx_sem X.2.2.2.2.2 (κ, a, b, d, c) pc L st σ with
        | none => rw [hq] at h; cases h
        | some q =>
          rw [hq] at h
          have hg := jx_grow f h
          have hg1 : σ.2.2.2.1 ≤ τ.2.2.2.1 := hg.1
          have hg2 : σ.2.2.2.2 ≤ τ.2.2.2.2 := hg.2
          exact jx_snd κ h1 X y R Z k n pc a b d c L st σ q hfr hlo (by omega) (by omega) hd hc hq (ih h hfr hlo hK hN hKR hNR hE)
      · rw [if_neg h1] at h
        by_cases h2 : κ < 80
        · rw [if_pos h2] at h
          cases hq : jx_new (κ, a, b, d, c) st σ with
          | none => rw [hq] at h; cases h
          | some q =>
            rw [hq] at h
            dsimp only at h
            have hg := jx_grow f h
            have hg1 : σ.2.2.2.1 + 1 ≤ τ.2.2.2.1 := hg.1
            have hg2 : σ.2.2.2.2 + q.2.1.2.2 ≤ τ.2.2.2.2 := hg.2
            exact jx_sndN κ (by omega) h2 X y R Z k n pc a b d c L st σ q hd hc hq (by omega) (by omega) (ih h hfr hlo (by show K + (σ.2.2.2.1 + 1) = _; omega) (by show N + (σ.2.2.2.2 + q.2.1.2.2) = _; omega) hKR hNR hE)
        · rw [if_neg h2] at h
          by_cases h3 : κ < 90
          · rw [if_pos h3] at h
            cases hq : jx_cal (κ, a, b, d, c) st σ with
            | none => rw [hq] at h; cases h
            | some q =>
              rw [hq] at h
              dsimp only at h
              cases hr : jx_run X.2.2.2.2.2 f b 0 (jx_ent b q.1) [] σ with
              | none => rw [hr] at h; cases h
              | some u =>
                rw [hr] at h
                dsimp only at h
                have ga := jx_grow f hr
                have gb := jx_grow f h
                have gb1 : u.2.2.2.2.1 ≤ τ.2.2.2.1 := gb.1
                have gb2 : u.2.2.2.2.2 ≤ τ.2.2.2.2 := gb.2
                obtain ⟨c1, c2, c3, c4, c5, c6, c7⟩ := jx_cal_of (as := q.1) (rest := q.2) hq
                have hb : b < jt_law ∧ d ≤ jt_L b := jx_lok_call (by omega) h3 hc (jx_cal_86 (as := q.1) (rest := q.2) (by omega) h3 hq)
                have hcal : Met X.1 (jt_N b) (jt_ws b) (jj_rm b (u.2.2.2.2.1 - σ.2.2.2.1) (u.2.2.2.2.2 - σ.2.2.2.2)) (jj_Pc X q.1 σ) (jj_Q X u.1 u.2) (u.2.2.2.2.1 - σ.2.2.2.1) (u.2.2.2.2.2 - σ.2.2.2.2) (jj_A X) :=
                  jj_met hb.1 c5 (Nat.le_trans (Nat.le_of_eq c3) hb.2) (ih hr (R := jj_rm b _ _) (k := 0) (n := 0) (K := u.2.2.2.2.1 - σ.2.2.2.1) (N := u.2.2.2.2.2 - σ.2.2.2.2) (Nat.le_refl _) (Nat.le_refl _) (by omega) (by omega) (Nat.le_refl _) (Nat.le_refl _) jj_end)
                have hcont : jj_G X y R Z (pc + 3) L (u.1.toList ++ q.2) (k + (u.2.2.2.2.1 - σ.2.2.2.1)) (n + (u.2.2.2.2.2 - σ.2.2.2.2)) u.2 := ih h hfr hlo (by omega) (by omega) hKR hNR hE
                intro p e s m args below meth cc H locs ls V P S hl hz T hT Y
                have hsz := jj_size P S V.2.2.2.2.2.2.2.2.2.1 hz hT Y
                have hrun := jx_sndC κ (by omega) h3 X y R k n pc a b d c st σ u.2 u.1 q.1 q.2 (u.2.2.2.2.1 - σ.2.2.2.1) (u.2.2.2.2.2 - σ.2.2.2.2) p e s m args below meth cc H locs ls hfr hlo hd hc hq (by omega) (by omega) hcal V P S hl.1 hsz
                refine jj_back hrun S (fun H1 locs1 hP1 hS1 => ?_) T hT Y
                have g2 := hcont p e s m args below meth cc H1 locs1 ls V hP1 hS1 hl (by omega)
                refine W.eq ?_ g2
                show F0 _ _ _ _ = F0 _ _ _ _
                rw [List.map_append]
                congr 2
                cases u.1 <;> rfl
          · rw [if_neg h3] at h
            cases hq : jx_ret y (κ, a, b, d, c) st with
            | none => rw [hq] at h; cases h
            | some v =>
              rw [hq] at h
              cases h
              have hk : K = k := by omega
              have hn : N = n := by omega
              subst hk
              subst hn
              intro p e s m args below meth cc H locs ls V P S hl hz
              obtain ⟨e1, e2, e3⟩ := hE p e s m args below meth cc H locs ls pc V P S
              unfold jx_ret at hq
              split at hq
              · split at hq
                · rename_i hh
                  obtain ⟨hh1, hh2⟩ := hh
                  dsimp only at hh1
                  subst hh1
                  cases hq
                  exact e1 rfl hh2 hd
                · cases hq
              · split at hq
                · rename_i v0 hh
                  dsimp only at hh
                  subst hh
                  split at hq
                  · rename_i hR; cases hq; exact e2 _ _ rfl hR rfl hd
                  · rename_i hR
                    split at hq
                    · rename_i hv; cases hq
                      exact e2 _ _ rfl hR (by rcases hv with rfl | rfl <;> decide) hd
                    · cases hq
                  · rename_i hR
                    split at hq
                    · rename_i hv; cases hq
                      exact e2 _ _ rfl hR (congrArg Value.int hv) hd
                    · cases hq
                  · rename_i hR
                    split at hq
                    · rename_i hv; cases hq
                      exact e2 _ _ rfl hR (congrArg Value.int hv) hd
                    · cases hq
                  · cases hq
                · cases hq
              · split at hq
                · rename_i i0 hh
                  dsimp only at hh
                  subst hh
                  split at hq
                  · rename_i hR; cases hq; exact e3 _ _ rfl hR (Or.inl ⟨_, rfl⟩) hd
                  · rename_i hR; cases hq; exact e3 _ _ rfl hR (Or.inr ⟨_, rfl⟩) hd
                  · cases hq
                · cases hq
              · cases hq
end
section
/-! Coming to an end: rules for the small machine. -/
def ev (xs : jx_Xs) (y pc : Nat) (L : jx_L) (st : List Value) (σ : jj_S) (Q : Option Value → jj_S → Prop) : Prop := ∃ f r τ, jx_run xs f y pc L st σ = some (r, τ) ∧ Q r τ
/-- one simple instruction -/
def jx_st (xs : jx_Xs) (y pc : Nat) (L : jx_L) (st : List Value) (σ : jj_S) : Option jx_N := match jx_op y pc with
  | none => none
  | some o => if o.1 < 72 then jx_sem xs o pc L st σ else none
/-- some simple instructions -/
def jx_blk (xs : jx_Xs) (y : Nat) : Nat → Nat → jx_L → List Value → jj_S → Option jx_N
  | 0, pc, L, st, σ => some (pc, L, st, σ.1, σ.2.1)
  | n + 1, pc, L, st, σ => match jx_st xs y pc L st σ with
    | none => none
    | some q => jx_blk xs y n q.1 q.2.1 q.2.2.1 (q.2.2.2.1, q.2.2.2.2, σ.2.2)
section EV
variable {xs : jx_Xs} {y pc : Nat} {L : jx_L} {st : List Value} {σ : jj_S} {Q : Option Value → jj_S → Prop}
theorem ev_st0 {q : jx_N} (h : jx_st xs y pc L st σ = some q) (g : ev xs y q.1 q.2.1 q.2.2.1 (q.2.2.2.1, q.2.2.2.2, σ.2.2) Q) : ev xs y pc L st σ Q := by
  obtain ⟨f, r, τ, hr, hq⟩ := g
  refine ⟨f + 1, r, τ, ?_, hq⟩
  unfold jx_st at h
  rw [jx_run]
  cases ho : jx_op y pc with
  | none => rw [ho] at h; cases h
  | some o =>
    rw [ho] at h
    dsimp only at h ⊢
    by_cases h1 : o.1 < 72
    · rw [if_pos h1] at h ⊢
      rw [h]
      exact hr
    · rw [if_neg h1] at h; cases h
theorem ev_blk (n : Nat) {pc' : Nat} {L' : jx_L} {st' : List Value} {m' : Nat → Nat → Int32} {r' : Nat → Nat → Option Nat} (h : jx_blk xs y n pc L st σ = some (pc', L', st', m', r')) (g : ev xs y pc' L' st' (m', r', σ.2.2) Q) : ev xs y pc L st σ Q := by
  induction n generalizing pc L st σ with
  | zero =>
    cases h
    exact g
  | succ n ih =>
    rw [jx_blk] at h
    cases hq : jx_st xs y pc L st σ with
    | none => rw [hq] at h; cases h
    | some q =>
      rw [hq] at h
      exact ev_st0 hq (ih h g)
theorem ev_new {o : jx_O} {q : Nat × (Nat × Nat × Nat) × List Value} (ho : jx_op y pc = some o) (hκ : o.1 = 72 ∨ o.1 = 73 ∨ o.1 = 74) (h : jx_new o st σ = some q) (g : ev xs y (pc + q.1) L (.ref σ.2.2.2.1 :: q.2.2) (jj_nw σ q.2.1) Q) : ev xs y pc L st σ Q := by
  obtain ⟨f, r, τ, hr, hq⟩ := g
  refine ⟨f + 1, r, τ, ?_, hq⟩
  rw [jx_run, ho]
  dsimp only
  rw [if_neg (by omega), if_pos (by omega), h]
  exact hr
theorem ev_call {o : jx_O} {as rest : List Value} (ho : jx_op y pc = some o) (hκ : 80 ≤ o.1 ∧ o.1 < 90) (h : jx_cal o st σ = some (as, rest)) (g : ev xs o.2.2.1 0 (jx_ent o.2.2.1 as) [] σ (fun u τ => ev xs y (pc + 3) L (u.toList ++ rest) τ Q)) : ev xs y pc L st σ Q := by
  obtain ⟨f, u, τ, hr, f2, r, τ2, hr2, hq⟩ := g
  refine ⟨f + f2 + 1, r, τ2, ?_, hq⟩
  rw [jx_run, ho]
  dsimp only
  rw [if_neg (by omega), if_neg (by omega), if_pos (by omega), h]
  dsimp only
  rw [jx_le (Nat.le_add_right f f2) hr]
  exact jx_le (Nat.le_add_left f2 f) hr2
theorem ev_ret {o : jx_O} {v : Option Value} (ho : jx_op y pc = some o) (hκ : 90 ≤ o.1) (h : jx_ret y o st = some v) (g : Q v σ) : ev xs y pc L st σ Q := by
  refine ⟨1, v, σ, ?_, g⟩
  rw [jx_run, ho]
  dsimp only
  rw [if_neg (by omega), if_neg (by omega), if_neg (by omega), h]
theorem ev_mono {Q' : Option Value → jj_S → Prop} (g : ev xs y pc L st σ Q) (h : ∀ r τ, Q r τ → Q' r τ) : ev xs y pc L st σ Q' := by
  obtain ⟨f, r, τ, hr, hq⟩ := g
  exact ⟨f, r, τ, hr, h r τ hq⟩
end EV
end
section
/-! the cells behind the two constructors, by program -/
def z_SL : List (Nat × Nat × Nat) := [(0, 0, 9), (0, 1, 2), (1, 1, 160), (0, 2, 2), (2, 3, 24), (0, 3, 13), (0, 3, 13), (0, 3, 13), (0, 3, 13), (0, 3, 13), (0, 3, 13), (0, 3, 13), (0, 3, 13), (0, 3, 13), (0, 3, 13), (0, 3, 13), (0, 3, 13), (0, 3, 13), (0, 3, 13), (0, 3, 13), (0, 3, 13), (0, 3, 13), (0, 3, 13), (0, 3, 13), (0, 3, 13), (0, 3, 13), (0, 3, 13), (0, 3, 13), (0, 3, 13), (0, 4, 7), (0, 5, 3), (1, 1, 160), (1, 0, 160), (1, 0, 7), (1, 0, 7), (1, 0, 7), (0, 6, 3), (2, 4, 6), (0, 7, 6), (0, 8, 4), (0, 8, 4), (2, 5, 2), (0, 8, 4), (0, 8, 4), (0, 7, 6), (0, 8, 4), (0, 8, 4), (2, 5, 2), (0, 8, 4), (0, 8, 4), (0, 7, 6), (0, 8, 4), (0, 8, 4), (2, 5, 2), (0, 8, 4), (0, 8, 4), (0, 7, 6), (0, 8, 4), (0, 8, 4), (2, 5, 2), (0, 8, 4), (0, 8, 4), (0, 7, 6), (0, 8, 4), (0, 8, 4), (2, 5, 2), (0, 8, 4), (0, 8, 4), (0, 7, 6), (0, 8, 4), (0, 8, 4), (2, 5, 2), (0, 8, 4), (0, 8, 4), (0, 9, 8), (1, 0, 64), (1, 0, 6), (1, 0, 6), (2, 6, 24), (0, 10, 4), (1, 1, 10), (0, 10, 4), (1, 1, 10), (0, 10, 4), (1, 1, 10), (0, 10, 4), (1, 1, 10), (0, 10, 4), (1, 1, 10), (0, 10, 4), (1, 1, 10), (0, 10, 4), (1, 1, 10), (0, 10, 4), (1, 1, 10), (0, 10, 4), (1, 1, 10), (0, 10, 4), (1, 1, 10), (0, 10, 4), (1, 1, 10), (0, 10, 4), (1, 1, 10), (0, 10, 4), (1, 1, 10), (0, 10, 4), (1, 1, 10), (0, 10, 4), (1, 1, 10), (0, 10, 4), (1, 1, 10), (0, 10, 4), (1, 1, 10), (0, 10, 4), (1, 1, 10), (0, 10, 4), (1, 1, 10), (0, 10, 4), (1, 1, 10), (0, 10, 4), (1, 1, 10), (0, 10, 4), (1, 1, 10), (0, 10, 4), (1, 1, 10), (0, 10, 4), (1, 1, 10), (0, 10, 4), (1, 1, 10), (0, 11, 6), (1, 1, 160), (0, 12, 46), (1, 0, 160), (1, 0, 160), (1, 0, 160), (1, 0, 24), (1, 0, 24), (1, 0, 24), (1, 0, 24), (1, 0, 24), (1, 0, 24), (1, 0, 24), (1, 0, 24), (1, 2, 24), (1, 0, 48), (1, 0, 48), (1, 0, 7), (1, 0, 7), (1, 0, 7), (1, 0, 6), (1, 0, 6), (1, 0, 6), (1, 0, 6), (1, 2, 6), (1, 2, 6), (1, 0, 6), (1, 0, 6), (1, 0, 6), (1, 0, 6), (1, 0, 6), (1, 0, 12), (1, 0, 12), (1, 0, 12), (1, 0, 12), (1, 0, 6), (1, 0, 6), (1, 0, 64), (1, 0, 24), (1, 0, 24), (1, 0, 10), (1, 0, 10), (1, 0, 160)]
def z_RL : List (List (Option Nat)) := [[some 1, some 3, some 29, some 36, some 74, some 129], [some 2], [], [some 4], [some 5, some 6, some 7, some 8, some 9, some 10, some 11, some 12, some 13, some 14, some 15, some 16, some 17, some 18, some 19, some 20, some 21, some 22, some 23, some 24, some 25, some 26, some 27, some 28], [], [], [], [], [], [], [], [], [], [], [], [], [], [], [], [], [], [], [], [], [], [], [], [], [some 3, some 30, some 33, some 34, some 35], [some 31, some 32], [], [], [], [], [], [some 37], [some 38, some 44, some 50, some 56, some 62, some 68], [some 39, some 40, some 41], [], [], [some 42, some 43], [], [], [some 45, some 46, some 47], [], [], [some 48, some 49], [], [], [some 51, some 52, some 53], [], [], [some 54, some 55], [], [], [some 57, some 58, some 59], [], [], [some 60, some 61], [], [], [some 63, some 64, some 65], [], [], [some 66, some 67], [], [], [some 69, some 70, some 71], [], [], [some 72, some 73], [], [], [some 3, some 36, some 75, some 76, some 77, some 78, some 79], [], [], [], [some 81, some 83, some 85, some 87, some 89, some 91, some 93, some 95, some 97, some 99, some 101, some 103, some 105, some 107, some 109, some 111, some 113, some 115, some 117, some 119, some 121, some 123, some 125, some 127], [some 80], [], [some 82], [], [some 84], [], [some 86], [], [some 88], [], [some 90], [], [some 92], [], [some 94], [], [some 96], [], [some 98], [], [some 100], [], [some 102], [], [some 104], [], [some 106], [], [some 108], [], [some 110], [], [some 112], [], [some 114], [], [some 116], [], [some 118], [], [some 120], [], [some 122], [], [some 124], [], [some 126], [], [some 128], [], [some 3, some 74, some 130], [], [none, some 132, none, some 133, some 134, none, some 135, some 136, some 137, some 138, some 139, some 140, some 141, some 142, some 143, some 144, some 145, some 146, some 147, some 148, none, none, some 149, some 150, some 151, some 152, some 153, some 154, some 155, some 156, some 157, some 158, some 159, some 160, some 161, some 162, some 163, some 164, some 165, some 166, none, some 167, some 168, some 169, some 170, some 171], [], [], [], [], [], [], [], [], [], [], [], [], [], [], [], [], [], [], [], [], [], [], [], [], [], [], [], [], [], [], [], [], [], [], [], [], [], [], [], []]
def z_H : Nat → Nat × Nat × Nat := fun i => z_SL.getD i (9, 0, 0)
def z_R : Nat → Nat → Option Nat := fun i k => (z_RL.getD i []).getD k none
def z_S (m : Nat → Nat → Int32) : jj_S := (m, z_R, z_H, 172, 2914)
end
section
/-! Runs behind the constructors: no cell is made, no reference changes; only numbers vary. -/
abbrev zM : Type := Nat → Nat → Int32
def ez (xs : jx_Xs) (y pc : Nat) (L : jx_L) (st : List Value) (m : zM) (Q : Option Value → zM → Prop) : Prop := ev xs y pc L st (z_S m) (fun r τ => ∃ m', τ = z_S m' ∧ Q r m')
section EZ
variable {xs : jx_Xs} {y pc a b d c0 : Nat} {c : Int32} {L : jx_L} {st r : List Value} {m : zM} {Q : Option Value → zM → Prop}
theorem ez_blk (n : Nat) {pc' : Nat} {L' : jx_L} {st' : List Value} {m' : zM} (h : jx_blk xs y n pc L st (z_S m) = some (pc', L', st', m', z_R)) (g : ez xs y pc' L' st' m' Q) : ez xs y pc L st m Q := ev_blk n h g
theorem ez_st {pc' : Nat} {L' : jx_L} {st' : List Value} {m' : zM} (h : jx_st xs y pc L st (z_S m) = some (pc', L', st', m', z_R)) (g : ez xs y pc' L' st' m' Q) : ez xs y pc L st m Q := ev_st0 h g
theorem ez_call {o : jx_O} {as rest : List Value} (ho : jx_op y pc = some o) (hκ : 80 ≤ o.1 ∧ o.1 < 90) (h : jx_cal o st (z_S m) = some (as, rest)) (g : ez xs o.2.2.1 0 (jx_ent o.2.2.1 as) [] m (fun u m' => ez xs y (pc + 3) L (u.toList ++ rest) m' Q)) : ez xs y pc L st m Q :=
  ev_call ho hκ h (ev_mono g (fun u τ hh => by obtain ⟨m', rfl, hh⟩ := hh; exact hh))
theorem ez_ret {o : jx_O} {v : Option Value} (ho : jx_op y pc = some o) (hκ : 90 ≤ o.1) (h : jx_ret y o st = some v) (g : Q v m) : ez xs y pc L st m Q := ev_ret ho hκ h ⟨m, rfl, g⟩
theorem ez_mono {Q' : Option Value → zM → Prop} (g : ez xs y pc L st m Q) (h : ∀ r m', Q r m' → Q' r m') : ez xs y pc L st m Q' := ev_mono g (fun r τ hh => by obtain ⟨m', rfl, hh⟩ := hh; exact ⟨m', rfl, h r m' hh⟩)
/-- a branch on one number: both ways -/
theorem ez_br1 {q : Int32 → Bool} {x : Int32} (ho : jx_st xs y pc L (.int x :: r) (z_S m) = some (if q x = true then a else c0, L, r, m, z_R)) (gt : q x = true → ez xs y a L r m Q) (gf : q x = false → ez xs y c0 L r m Q) : ez xs y pc L (.int x :: r) m Q := by
  refine ez_st ho ?_
  by_cases hq : q x = true
  · rw [if_pos hq]; exact gt hq
  · rw [if_neg hq]; exact gf (by simpa using hq)
theorem ez_br2 {q : Int32 → Int32 → Bool} {x v : Int32} (ho : jx_st xs y pc L (.int v :: .int x :: r) (z_S m) = some (if q x v = true then a else c0, L, r, m, z_R)) (gt : q x v = true → ez xs y a L r m Q) (gf : q x v = false → ez xs y c0 L r m Q) : ez xs y pc L (.int v :: .int x :: r) m Q := by
  refine ez_st ho ?_
  by_cases hq : q x v = true
  · rw [if_pos hq]; exact gt hq
  · rw [if_neg hq]; exact gf (by simpa using hq)
end EZ
theorem z_arr {m : zM} {q t i n j : Nat} (hi : i < 172) (hs : z_H i = (q, t, n)) (hj : j < n) (hn : n < 2 ^ 31) : jx_arr (z_S m) q t i (nI j) = true := by
  unfold jx_arr
  have h1 : (z_S m).2.2.1 i = (q, t, n) := hs
  have h2 : (z_S m).2.2.2.1 = 172 := rfl
  rw [h1, h2, nI_clamp (by omega)]
  simp [hi, hj, nI_pos (show j < 2 ^ 31 by omega)]
theorem z_obj {m : zM} {i b d n : Nat} (hi : i < 172) (hs : z_H i = (0, b, n)) (hd : d < jt_n b) : jx_obj (z_S m) i b d = true := by
  unfold jx_obj
  have h1 : (z_S m).2.2.1 i = (0, b, n) := hs
  have h2 : (z_S m).2.2.2.1 = 172 := rfl
  rw [h1, h2]
  simp [hi, hd]
section EZ2
variable {xs : jx_Xs} {y pc a b d : Nat} {c : Int32} {L : jx_L} {st r : List Value} {m : zM} {Q : Option Value → zM → Prop}
theorem ez_iald {i n j : Nat} (ho : jx_op y pc = some (50, a, b, d, c)) (hi : i < 172) (hs : z_H i = (1, 0, n)) (hj : j < n) (hn : n < 2 ^ 31) (g : ez xs y (pc + 1) L (.int (m i j) :: r) m Q) : ez xs y pc L (.int (nI j) :: .ref i :: r) m Q := by
  refine ez_st (m' := m) ?_ g
  unfold jx_st
  rw [ho]
  show (if 50 < 72 then jx_nld 0 pc a b d c L (.int (nI j) :: .ref i :: r) (z_S m) else none) = _
  rw [if_pos (by decide)]
  unfold jx_nld
  dsimp only
  rw [if_pos (z_arr hi hs hj hn), nI_clamp (by omega)]
  rfl
theorem ez_cald {i n j : Nat} (ho : jx_op y pc = some (51, a, b, d, c)) (hi : i < 172) (hs : z_H i = (1, 1, n)) (hj : j < n) (hn : n < 2 ^ 31) (g : ez xs y (pc + 1) L (.int (m i j) :: r) m Q) : ez xs y pc L (.int (nI j) :: .ref i :: r) m Q := by
  refine ez_st (m' := m) ?_ g
  unfold jx_st
  rw [ho]
  show (if 51 < 72 then jx_nld 1 pc a b d c L (.int (nI j) :: .ref i :: r) (z_S m) else none) = _
  rw [if_pos (by decide)]
  unfold jx_nld
  dsimp only
  rw [if_pos (z_arr hi hs hj hn), nI_clamp (by omega)]
  rfl
theorem ez_zald {i n j : Nat} (ho : jx_op y pc = some (52, a, b, d, c)) (hi : i < 172) (hs : z_H i = (1, 2, n)) (hj : j < n) (hn : n < 2 ^ 31) (g : ez xs y (pc + 1) L (.int (m i j) :: r) m Q) : ez xs y pc L (.int (nI j) :: .ref i :: r) m Q := by
  refine ez_st (m' := m) ?_ g
  unfold jx_st
  rw [ho]
  show (if 52 < 72 then jx_nld 2 pc a b d c L (.int (nI j) :: .ref i :: r) (z_S m) else none) = _
  rw [if_pos (by decide)]
  unfold jx_nld
  dsimp only
  rw [if_pos (z_arr hi hs hj hn), nI_clamp (by omega)]
  rfl
theorem ez_iast {i n j : Nat} {v : Int32} (ho : jx_op y pc = some (55, a, b, d, c)) (hi : i < 172) (hs : z_H i = (1, 0, n)) (hj : j < n) (hn : n < 2 ^ 31) (g : ez xs y (pc + 1) L r (jj_up m i j v) Q) : ez xs y pc L (.int v :: .int (nI j) :: .ref i :: r) m Q := by
  refine ez_st (m' := jj_up m i j v) ?_ g
  unfold jx_st
  rw [ho]
  show (if 55 < 72 then jx_nst 0 (fun v => v) pc a b d c L (.int v :: .int (nI j) :: .ref i :: r) (z_S m) else none) = _
  rw [if_pos (by decide)]
  unfold jx_nst
  dsimp only
  rw [if_pos (z_arr hi hs hj hn), nI_clamp (by omega)]
  rfl
theorem ez_cast {i n j : Nat} {v : Int32} (ho : jx_op y pc = some (56, a, b, d, c)) (hi : i < 172) (hs : z_H i = (1, 1, n)) (hj : j < n) (hn : n < 2 ^ 31) (g : ez xs y (pc + 1) L r (jj_up m i j (vp_nar .char v)) Q) : ez xs y pc L (.int v :: .int (nI j) :: .ref i :: r) m Q := by
  refine ez_st (m' := jj_up m i j (vp_nar .char v)) ?_ g
  unfold jx_st
  rw [ho]
  show (if 56 < 72 then jx_nst 1 (vp_nar .char) pc a b d c L (.int v :: .int (nI j) :: .ref i :: r) (z_S m) else none) = _
  rw [if_pos (by decide)]
  unfold jx_nst
  dsimp only
  rw [if_pos (z_arr hi hs hj hn), nI_clamp (by omega)]
  rfl
theorem ez_zast {i n j : Nat} {v : Int32} (ho : jx_op y pc = some (57, a, b, d, c)) (hi : i < 172) (hs : z_H i = (1, 2, n)) (hj : j < n) (hn : n < 2 ^ 31) (g : ez xs y (pc + 1) L r (jj_up m i j (vp_nar .boolean v)) Q) : ez xs y pc L (.int v :: .int (nI j) :: .ref i :: r) m Q := by
  refine ez_st (m' := jj_up m i j (vp_nar .boolean v)) ?_ g
  unfold jx_st
  rw [ho]
  show (if 57 < 72 then jx_nst 2 (vp_nar .boolean) pc a b d c L (.int v :: .int (nI j) :: .ref i :: r) (z_S m) else none) = _
  rw [if_pos (by decide)]
  unfold jx_nst
  dsimp only
  rw [if_pos (z_arr hi hs hj hn), nI_clamp (by omega)]
  rfl
theorem ez_rld {i t n j k : Nat} (ho : jx_op y pc = some (53, a, b, d, c)) (hi : i < 172) (hs : z_H i = (2, t, n)) (hob : jx_obt t = true) (hj : j < n) (hn : n < 2 ^ 31) (hr : z_R i j = some k) (g : ez xs y (pc + 1) L (.ref k :: r) m Q) : ez xs y pc L (.int (nI j) :: .ref i :: r) m Q := by
  refine ez_st (m' := m) ?_ g
  unfold jx_st
  rw [ho]
  show (if 53 < 72 then jx_rld pc a b d c L (.int (nI j) :: .ref i :: r) (z_S m) else none) = _
  rw [if_pos (by decide)]
  unfold jx_rld
  dsimp only
  have h1 : (z_S m).2.2.1 i = (2, t, n) := hs
  have h2 : (z_S m).2.1 i j = some k := hr
  rw [h1, if_pos ⟨z_arr hi hs hj hn, hob⟩, nI_clamp (by omega), h2]
  rfl
theorem ez_get {i n : Nat} (ho : jx_op y pc = some (45, a, b, d, c)) (hi : i < 172) (hs : z_H i = (0, b, n)) (hd : d < jt_n b) (hf : jt_rf b d = false) (g : ez xs y (pc + 3) L (.int (m i d) :: r) m Q) : ez xs y pc L (.ref i :: r) m Q := by
  refine ez_st (m' := m) ?_ g
  unfold jx_st
  rw [ho]
  show (if 45 < 72 then jx_get pc a b d c L (.ref i :: r) (z_S m) else none) = _
  rw [if_pos (by decide)]
  unfold jx_get
  dsimp only
  rw [if_pos (z_obj hi hs hd), hf]
  rfl
theorem ez_getr {i n k : Nat} (ho : jx_op y pc = some (45, a, b, d, c)) (hi : i < 172) (hs : z_H i = (0, b, n)) (hd : d < jt_n b) (hf : jt_rf b d = true) (hr : z_R i d = some k) (g : ez xs y (pc + 3) L (.ref k :: r) m Q) : ez xs y pc L (.ref i :: r) m Q := by
  refine ez_st (m' := m) ?_ g
  unfold jx_st
  rw [ho]
  show (if 45 < 72 then jx_get pc a b d c L (.ref i :: r) (z_S m) else none) = _
  rw [if_pos (by decide)]
  unfold jx_get
  dsimp only
  have h2 : (z_S m).2.1 i d = some k := hr
  rw [if_pos (z_obj hi hs hd), hf, if_pos rfl, h2]
  rfl
theorem ez_getN {i n : Nat} (ho : jx_op y pc = some (46, a, b, d, c)) (hi : i < 172) (hs : z_H i = (0, b, n)) (hd : d < jt_n b) (hf : jt_rf b d = false) (g : ez xs y (pc + 3) L (.int (m i d) :: r) m Q) : ez xs y pc L (.ref i :: r) m Q := by
  refine ez_st (m' := m) ?_ g
  unfold jx_st
  rw [ho]
  show (if 46 < 72 then jx_get pc a b d c L (.ref i :: r) (z_S m) else none) = _
  rw [if_pos (by decide)]
  unfold jx_get
  dsimp only
  rw [if_pos (z_obj hi hs hd), hf]
  rfl
theorem ez_getNr {i n k : Nat} (ho : jx_op y pc = some (46, a, b, d, c)) (hi : i < 172) (hs : z_H i = (0, b, n)) (hd : d < jt_n b) (hf : jt_rf b d = true) (hr : z_R i d = some k) (g : ez xs y (pc + 3) L (.ref k :: r) m Q) : ez xs y pc L (.ref i :: r) m Q := by
  refine ez_st (m' := m) ?_ g
  unfold jx_st
  rw [ho]
  show (if 46 < 72 then jx_get pc a b d c L (.ref i :: r) (z_S m) else none) = _
  rw [if_pos (by decide)]
  unfold jx_get
  dsimp only
  have h2 : (z_S m).2.1 i d = some k := hr
  rw [if_pos (z_obj hi hs hd), hf, if_pos rfl, h2]
  rfl
theorem ez_put {i n : Nat} {x : Int32} (ho : jx_op y pc = some (47, a, b, d, c)) (hi : i < 172) (hs : z_H i = (0, b, n)) (hd : d < jt_n b) (hf : jt_rf b d = false) (hfit : jx_fit (jt_ft b d) x = true) (g : ez xs y (pc + 3) L r (jj_up m i d x) Q) : ez xs y pc L (.int x :: .ref i :: r) m Q := by
  refine ez_st (m' := jj_up m i d x) ?_ g
  unfold jx_st
  rw [ho]
  show (if 47 < 72 then jx_put pc a b d c L (.int x :: .ref i :: r) (z_S m) else none) = _
  rw [if_pos (by decide)]
  unfold jx_put
  dsimp only
  rw [if_pos (z_obj hi hs hd), if_pos ⟨hf, hfit⟩]
  rfl
theorem ez_putN {i n : Nat} {x : Int32} (ho : jx_op y pc = some (49, a, b, d, c)) (hi : i < 172) (hs : z_H i = (0, b, n)) (hd : d < jt_n b) (hf : jt_rf b d = false) (hfit : jx_fit (jt_ft b d) x = true) (g : ez xs y (pc + 3) L r (jj_up m i d x) Q) : ez xs y pc L (.int x :: .ref i :: r) m Q := by
  refine ez_st (m' := jj_up m i d x) ?_ g
  unfold jx_st
  rw [ho]
  show (if 49 < 72 then jx_put pc a b d c L (.int x :: .ref i :: r) (z_S m) else none) = _
  rw [if_pos (by decide)]
  unfold jx_put
  dsimp only
  rw [if_pos (z_obj hi hs hd), if_pos ⟨hf, hfit⟩]
  rfl
end EZ2
end
section
/-! THE CLAIM OUT OF ONE WALK OF THE LAW'S BODY. Your part is whole_start (and what it stands on); all else here is the same for every law, but numbers. -/
def R_law : String := "PathPatcherLaw"
def lw_P (b : Addr) (xs : List Int32) (args : Array Value) (s : State) : Prop := args = #[.ref b] ∧ s.IntsAt b xs ∧ xs.length ≤ 3072 ∧ (Jvm.Cond.and given_1 narrow_1).before args s = true
def lw_Q (_ : Array Value) (s : State) (o : Outcome) (t : State) : Prop := o = .returned (some (.int 1)) ∧ Framed s o t [] 600000 7302249
def lw_Z (below : List Frame) (a : Array Value) (s : State) : State → Prop := fun t => ∃ o, t.status = .running ∧ Ended t below o ∧ lw_Q a s o t
/-- the law's own end, with 1 on the stack, nothing written that was there before, its room as the claim has it -/
theorem lw_ret {p : Program} {l : Launch} {e : Env} {s : State} {m : MethodId} {below : List Frame} {meth : Method} {c : Code} {b : Nat} (hx : p.tables.exec = Jvm.exec) (hb : c.code = code) (hr : meth.sig.returnType = ret) (hlocks : meth.locks = false) {pc : Nat} {H : Heap} {ls : Array Slot} (hdg : decode code pc = .ok (.ireturn, 1)) : W p l e room_1 s m #[Value.ref b] below meth c H [] 600000 7302249 (lw_Z below #[Value.ref b] s) (F0 m pc ls [.int 1]) := by
  intro T hT X
  obtain ⟨fs, hret, hrun, hended, hW, hframe⟩ := X.leave (v := some (.int 1)) (hlocks := hlocks) (fun h => by rw [hr] at h; cases h)
  have hmeth' : T.vm.method? m = some meth := X.method'
  refine ⟨T.setFrames fs, ?_, .returned (some (.int 1)), hrun, hended, rfl, ⟨_, rfl⟩, hW, hframe⟩
  jvm_step X.here [X.here.top, hx, hb, hdg, hmeth', hr, ret, narrow_b1]
  (try refine ⟨rfl, ?_⟩); (try refine ⟨rfl, ?_⟩)
  first | (intro acts; rw [hret _ acts rfl rfl rfl]) | rw [hret _ _ rfl rfl rfl]
  exact Steps.refl _
/-- what holds at the law's entry: the machine, the code, the tables' words (any of lw_tbl by 'hts w (by decide +kernel)'), the script of L ints xs at the cell b, what the Statement gives of the start (any of its parts by flat_of_before) -/
def lw_At (p : Program) (s : State) (m : MethodId) (meth : Method) (c : Code) (b L : Nat) (xs : Nat → Int32) : Prop :=
  p.tables.exec = Jvm.exec ∧ c.code = code ∧ meth.sig.returnType = ret ∧ c.maxLocals = 4 ∧ s.vm.findClass R_law = some m.cls ∧ (∀ w ∈ lw_tbl, w.before #[Value.ref b] s = true) ∧ va_X b L xs s s.heap ∧ b < s.heap.size ∧ meth.locks = false ∧ (Jvm.Cond.and given_1 narrow_1).before #[Value.ref b] s = true
end
section
set_option maxRecDepth 100000 in
theorem jt_ln_in {q : Nat × Nat × Nat × Nat} (h : q ∈ jt_ln) : Cond.fieldLinkNest (jt_on.getD q.1 "") q.2.1 (jt_T q.2.2.1 q.2.2.2).1 (jt_T q.2.2.1 q.2.2.2).2.1 (jt_T q.2.2.1 q.2.2.2).2.2.1 jt_host ∈ tables_1 := jx_all (P := fun q : Nat × Nat × Nat × Nat => Cond.fieldLinkNest (jt_on.getD q.1 "") q.2.1 (jt_T q.2.2.1 q.2.2.2).1 (jt_T q.2.2.1 q.2.2.2).2.1 (jt_T q.2.2.1 q.2.2.2).2.2.1 jt_host ∈ tables_1) (l := jt_ln) (jx_c (jm_1 _ (List.mem_of_getElem? (i := 67) rfl)) (
  jx_c (jm_1 _ (List.mem_of_getElem? (i := 77) rfl)) (
  jx_c (jm_1 _ (List.mem_of_getElem? (i := 80) rfl)) (
  jx_c (jm_1 _ (List.mem_of_getElem? (i := 83) rfl)) (
  jx_c (jm_1 _ (List.mem_of_getElem? (i := 78) rfl)) (
  jx_c (jm_1 _ (List.mem_of_getElem? (i := 75) rfl)) (
  jx_c (jm_1 _ (List.mem_of_getElem? (i := 68) rfl)) (
  jx_c (jm_1 _ (List.mem_of_getElem? (i := 88) rfl)) (
  jx_c (jm_1 _ (List.mem_of_getElem? (i := 58) rfl)) (
  jx_c (jm_1 _ (List.mem_of_getElem? (i := 86) rfl)) (
  jx_c (jm_1 _ (List.mem_of_getElem? (i := 81) rfl)) (
  jx_c (jm_1 _ (List.mem_of_getElem? (i := 84) rfl)) (
  jx_c (jm_1 _ (List.mem_of_getElem? (i := 71) rfl)) (
  jx_c (jm_1 _ (List.mem_of_getElem? (i := 207) rfl)) (
  jx_c (jm_1 _ (List.mem_of_getElem? (i := 218) rfl)) (
  jx_c (jm_1 _ (List.mem_of_getElem? (i := 188) rfl)) (
  jx_c (jm_1 _ (List.mem_of_getElem? (i := 59) rfl)) (
  jx_c (jm_1 _ (List.mem_of_getElem? (i := 61) rfl)) (
  jx_c (jm_1 _ (List.mem_of_getElem? (i := 63) rfl)) (
  jx_c (jm_1 _ (List.mem_of_getElem? (i := 65) rfl)) (
  jx_c (jm_1 _ (List.mem_of_getElem? (i := 217) rfl)) (
  jx_c (jm_1 _ (List.mem_of_getElem? (i := 209) rfl)) (
  jx_c (jm_1 _ (List.mem_of_getElem? (i := 206) rfl)) (
  jx_c (jm_1 _ (List.mem_of_getElem? (i := 191) rfl)) (
  jx_c (jm_1 _ (List.mem_of_getElem? (i := 189) rfl)) (
  jx_c (jm_1 _ (List.mem_of_getElem? (i := 193) rfl)) (
  jx_c (jm_1 _ (List.mem_of_getElem? (i := 215) rfl)) (
  jx_c (jm_1 _ (List.mem_of_getElem? (i := 213) rfl)) (
  jx_c (jm_1 _ (List.mem_of_getElem? (i := 211) rfl)) (
  jx_c (jm_2 _ (List.mem_of_getElem? (i := 17) rfl)) (
  jx_c (jm_2 _ (List.mem_of_getElem? (i := 20) rfl)) (
  jx_c (jm_2 _ (List.mem_of_getElem? (i := 22) rfl)) (
  jx_c (jm_2 _ (List.mem_of_getElem? (i := 16) rfl)) (
  jx_c (jm_1 _ (List.mem_of_getElem? (i := 70) rfl)) (
  jx_c (jm_1 _ (List.mem_of_getElem? (i := 73) rfl)) (
  jx_e)))))))))))))))))))))))))))))))))))) q h
set_option maxRecDepth 100000 in
theorem jt_lmn_in {q : Nat × Nat × Nat} (h : q ∈ jt_lmn) : Cond.methodLinkNest (jt_on.getD q.1 "") q.2.1 (jt_N q.2.2) jt_host ∈ tables_1 := jx_all (P := fun q : Nat × Nat × Nat => Cond.methodLinkNest (jt_on.getD q.1 "") q.2.1 (jt_N q.2.2) jt_host ∈ tables_1) (l := jt_lmn) (jx_c (jm_1 _ (List.mem_of_getElem? (i := 53) rfl)) (
  jx_c (jm_1 _ (List.mem_of_getElem? (i := 131) rfl)) (
  jx_c (jm_1 _ (List.mem_of_getElem? (i := 183) rfl)) (
  jx_c (jm_2 _ (List.mem_of_getElem? (i := 11) rfl)) (
  jx_c (jm_1 _ (List.mem_of_getElem? (i := 32) rfl)) (
  jx_e)))))) q h
set_option maxRecDepth 100000 in
theorem jt_ao_in {q : String} (h : q ∈ jt_ao) : Cond.arrayOver (.object q) ∈ tables_1 := jx_all (P := fun q : String => Cond.arrayOver (.object q) ∈ tables_1) (l := jt_ao) (jx_c (jm_1 _ (List.mem_of_getElem? (i := 51) rfl)) (
  jx_c (jm_1 _ (List.mem_of_getElem? (i := 175) rfl)) (
  jx_c (jm_1 _ (List.mem_of_getElem? (i := 204) rfl)) (
  jx_c (jm_2 _ (List.mem_of_getElem? (i := 9) rfl)) (
  jx_e))))) q h
theorem jt_instA : jx_All (fun b : Nat => Cond.instantiable (jt_C.getD b "") (jt_n b) ∈ jt_W) [0, 1, 2, 3, 4, 5, 6, 7, 8, 9, 10, 11, 12] := jx_c (jW (jm_1 _ (List.mem_of_getElem? (i := 23) rfl)) rfl) (
  jx_c (jW (jm_1 _ (List.mem_of_getElem? (i := 31) rfl)) rfl) (
  jx_c (jW (jm_1 _ (List.mem_of_getElem? (i := 45) rfl)) rfl) (
  jx_c (jW (jm_1 _ (List.mem_of_getElem? (i := 52) rfl)) rfl) (
  jx_c (jW (jm_1 _ (List.mem_of_getElem? (i := 124) rfl)) rfl) (
  jx_c (jW (jm_1 _ (List.mem_of_getElem? (i := 130) rfl)) rfl) (
  jx_c (jW (jm_1 _ (List.mem_of_getElem? (i := 169) rfl)) rfl) (
  jx_c (jW (jm_1 _ (List.mem_of_getElem? (i := 176) rfl)) rfl) (
  jx_c (jW (jm_1 _ (List.mem_of_getElem? (i := 182) rfl)) rfl) (
  jx_c (jW (jm_2 _ (List.mem_of_getElem? (i := 3) rfl)) rfl) (
  jx_c (jW (jm_2 _ (List.mem_of_getElem? (i := 10) rfl)) rfl) (
  jx_c (jW (jm_2 _ (List.mem_of_getElem? (i := 58) rfl)) rfl) (
  jx_c (jW (jm_4 _ (List.mem_of_getElem? (i := 194) rfl)) rfl) (
  jx_e)))))))))))))
theorem jt_inst {b : Nat} (h : b < jt_C.length) : Cond.instantiable (jt_C.getD b "") (jt_n b) ∈ jt_W := jx_all jt_instA b (by have h2 : b < 13 := h; rw [show [0, 1, 2, 3, 4, 5, 6, 7, 8, 9, 10, 11, 12] = List.range 13 from by decide +kernel]; exact List.mem_range.mpr h2)
set_option maxRecDepth 100000 in
theorem jt_ls_in {q : Nat × Nat × Nat} (h : q ∈ jt_ls) : Cond.stringRef (jt_on.getD q.1 "") q.2.1 (jt_st.getD q.2.2 "") ∈ tables_1 := jx_all (P := fun q : Nat × Nat × Nat => Cond.stringRef (jt_on.getD q.1 "") q.2.1 (jt_st.getD q.2.2 "") ∈ tables_1) (l := jt_ls) (jx_c (jm_2 _ (List.mem_of_getElem? (i := 209) rfl)) (
  jx_c (jm_3 _ (List.mem_of_getElem? (i := 80) rfl)) (
  jx_c (jm_4 _ (List.mem_of_getElem? (i := 79) rfl)) (
  jx_c (jm_4 _ (List.mem_of_getElem? (i := 53) rfl)) (
  jx_e))))) q h
theorem jt_zw0 : Cond.laysStatic jt_z0.1 jt_z0.2.1 jt_z0.2.2 ∈ tables_1 ∧ Cond.initialized jt_z0.1 ∈ tables_1 := ⟨(jm_2 _ (List.mem_of_getElem? (i := 223) rfl)), (jm_1 _ (List.mem_of_getElem? (i := 14) rfl))⟩
theorem jt_zw1 : Cond.laysStatic jt_z1.1 jt_z1.2.1 jt_z1.2.2 ∈ tables_1 ∧ Cond.initialized jt_z1.1 ∈ tables_1 := ⟨(jm_3 _ (List.mem_of_getElem? (i := 26) rfl)), (jm_1 _ (List.mem_of_getElem? (i := 18) rfl))⟩
def jt_tm (i : Nat) : Term := if i = 0 then (Term.string "PathPatcher$Parser" 87) else (Term.string "PathPatcher$Parser" 70)
/-- the texts, the statics, the tables at the law's entry -/
theorem jj_init {p : Program} {s : State} {m : MethodId} {meth : Method} {c : Code} {b L : Nat} {xs : Nat → Int32} (l : Launch) (C0 : lw_At p s m meth c b L xs) : ∃ X : jj_X, X.1 = l ∧ X.2.2.1 = s.heap.size ∧ X.2.2.2.1 4000000 = b ∧ X.2.2.2.2.2 = (L, xs) ∧ jj_K X s := by
  obtain ⟨hx, hb, hr, hml, hown, hts, hX, hbl, hlk, hgv⟩ := C0
  have hT : ∀ w ∈ tables_1, w.before #[Value.ref b] s = true := fun w hw => hts w (List.mem_append_right _ hw)
  have hW : ∀ w ∈ jt_W, w.before #[Value.ref b] s = true := fun w hw => hts w (List.mem_filter.mp hw).1
  have hs := flat_of_before _ hgv
  have hA : ∀ a : Nat, a < s.heap.size → ¬ (fun q => s.heap.size ≤ q) a := fun a h1 h2 => absurd h1 (Nat.not_lt.mpr h2)
  -- the object kinds
  have hk : ∀ ci : Nat, ∃ q : ClassId × (Nat → Nat), ci < jt_C.length → u_Kn s (jt_C.getD ci "") (jt_T ci) (jt_n ci) q.1 q.2 := fun ci => by
    by_cases h : ci < jt_C.length
    · obtain ⟨a1, a2, h3⟩ := u_known hW (jt_lays h) (hW _ (jt_inst h))
      exact ⟨(a1, a2), fun _ => h3⟩
    · exact ⟨(0, fun _ => 0), fun h2 => absurd h2 h⟩
  -- the array classes
  have hr1 : ∀ ty : FieldType, Cond.arrayClass ty ∈ jt_W → ∃ cA, ArrOfT s cA ty ∧ s.vm.findClass ("[" ++ ty.toString) = some cA := fun ty hw => by
    obtain ⟨cA, kA, comp, h1, h2, h3⟩ := Cond.arrayClass_spec (hW _ hw)
    exact ⟨cA, fun n z => ⟨fun k h => (by cases h), kA, h2, comp, h3⟩, h1⟩
  have hr2 : ∀ C : String, C ∈ jt_ao → ∃ cA, ArrOfT s cA (.object C) ∧ va_RA s cA (.object C) := fun C hC => by
    obtain ⟨comp, cA, kA, h1, h2, h3, h4, h5⟩ := Cond.arrayOver_spec (hT _ (jt_ao_in hC))
    exact ⟨cA, fun n z => ⟨fun k h => (by cases h), kA, h3, comp, h4⟩, kA, comp, h3, h4, h1, h5⟩
  have hty : ∀ t : Nat, ∃ cA : ClassId, t < jt_ty.length → ArrOfT s cA (jt_ty.getD t .int) ∧ va_RA s cA (jt_ty.getD t .int) := fun t => by
    match t with
    | 0 => obtain ⟨cA, h1, h2⟩ := hr1 .int jt_arr.1; exact ⟨cA, fun _ => ⟨h1, h2⟩⟩
    | 1 => obtain ⟨cA, h1, h2⟩ := hr1 .char jt_arr.2.1; exact ⟨cA, fun _ => ⟨h1, h2⟩⟩
    | 2 => obtain ⟨cA, h1, h2⟩ := hr1 .boolean jt_arr.2.2; exact ⟨cA, fun _ => ⟨h1, h2⟩⟩
    | 3 => obtain ⟨cA, h1, h2⟩ := hr2 "PathPatcher$Node" (by decide +kernel); exact ⟨cA, fun _ => ⟨h1, h2⟩⟩
    | 4 => obtain ⟨cA, h1, h2⟩ := hr2 "PathPatcher$Item" (by decide +kernel); exact ⟨cA, fun _ => ⟨h1, h2⟩⟩
    | 5 => obtain ⟨cA, h1, h2⟩ := hr2 "PathPatcher$Pattern" (by decide +kernel); exact ⟨cA, fun _ => ⟨h1, h2⟩⟩
    | 6 => obtain ⟨cA, h1, h2⟩ := hr2 "PathPatcher$Edit" (by decide +kernel); exact ⟨cA, fun _ => ⟨h1, h2⟩⟩
    | n + 7 => exact ⟨0, fun h => absurd h (by show ¬ n + 7 < 7; omega)⟩
  -- the texts
  obtain ⟨adK, adV, hS, hE⟩ := vk_Sof (args := #[Value.ref b]) (s := s) (N := 2) (tm := jt_tm) (len := jt_sb.map List.length) (byt := jt_sb) (A := fun q => s.heap.size ≤ q)
    (fun i hi => by
      match i, hi with
      | 0, _ => exact (by decide)
      | 1, _ => exact (by decide))
    (fun i hi => by
      match i, hi with
      | 0, _ => exact hs (.exactly (Term.string "PathPatcher$Parser" 87) "java/lang/String") (by decide +kernel)
      | 1, _ => exact hs (.exactly (Term.string "PathPatcher$Parser" 70) "java/lang/String") (by decide +kernel))
    (fun i hi => by
      match i, hi with
      | 0, _ => exact hs (.eq (.field (Term.string "PathPatcher$Parser" 87) "java/lang/String" "coder" "B") (.int 0)) (by decide +kernel)
      | 1, _ => exact hs (.eq (.field (Term.string "PathPatcher$Parser" 70) "java/lang/String" "coder" "B") (.int 0)) (by decide +kernel))
    (fun i hi => by
      match i, hi with
      | 0, _ => exact hs (.arrayOf (.field (Term.string "PathPatcher$Parser" 87) "java/lang/String" "value" "[B") .byte) (by decide +kernel)
      | 1, _ => exact hs (.arrayOf (.field (Term.string "PathPatcher$Parser" 70) "java/lang/String" "value" "[B") .byte) (by decide +kernel))
    (fun i hi => by
      match i, hi with
      | 0, _ => exact hs (.eq (.length (.field (Term.string "PathPatcher$Parser" 87) "java/lang/String" "value" "[B")) (.int 4)) (by decide +kernel)
      | 1, _ => exact hs (.eq (.length (.field (Term.string "PathPatcher$Parser" 70) "java/lang/String" "value" "[B")) (.int 3)) (by decide +kernel))
    (fun i hi => by
      match i, hi with
      | 0, _ =>
        intro k hk
        match k, hk with
        | 0, _ => exact hs (.eq (.elem (.field (Term.string "PathPatcher$Parser" 87) "java/lang/String" "value" "[B") (.int 0)) (.int 97)) (by decide +kernel)
        | 1, _ => exact hs (.eq (.elem (.field (Term.string "PathPatcher$Parser" 87) "java/lang/String" "value" "[B") (.int 1)) (.int 98)) (by decide +kernel)
        | 2, _ => exact hs (.eq (.elem (.field (Term.string "PathPatcher$Parser" 87) "java/lang/String" "value" "[B") (.int 2)) (.int 99)) (by decide +kernel)
        | 3, _ => exact hs (.eq (.elem (.field (Term.string "PathPatcher$Parser" 87) "java/lang/String" "value" "[B") (.int 3)) (.int 100)) (by decide +kernel)
        | k + 4, hk => exact absurd hk (by show ¬ k + 4 < 4; omega)
      | 1, _ =>
        intro k hk
        match k, hk with
        | 0, _ => exact hs (.eq (.elem (.field (Term.string "PathPatcher$Parser" 70) "java/lang/String" "value" "[B") (.int 0)) (.int 102)) (by decide +kernel)
        | 1, _ => exact hs (.eq (.elem (.field (Term.string "PathPatcher$Parser" 70) "java/lang/String" "value" "[B") (.int 1)) (.int 103)) (by decide +kernel)
        | 2, _ => exact hs (.eq (.elem (.field (Term.string "PathPatcher$Parser" 70) "java/lang/String" "value" "[B") (.int 2)) (.int 104)) (by decide +kernel)
        | k + 3, hk => exact absurd hk (by show ¬ k + 3 < 3; omega)
      | n + 2, hi => exact absurd hi (by omega))
    (fun i j hi hj hij => by
      match i, hi, j, hj with
      | 0, _, 0, _ => exact absurd rfl hij
      | 1, _, 1, _ => exact absurd rfl hij
      | 0, _, 1, _ => exact Or.inl (hs (.not (.eq (Term.string "PathPatcher$Parser" 87) (Term.string "PathPatcher$Parser" 70))) (by decide +kernel))
      | 1, _, 0, _ => exact Or.inr (hs (.not (.eq (Term.string "PathPatcher$Parser" 87) (Term.string "PathPatcher$Parser" 70))) (by decide +kernel))
      | n + 2, hi, _, _ => exact absurd hi (by omega)
      | 0, _, n + 2, hj => exact absurd hj (by omega)
      | 1, _, n + 2, hj => exact absurd hj (by omega)) hA
  have e0 : (Term.string "PathPatcher$Parser" 87).eval #[Value.ref b] s none [] s = some (.ref (adK 0)) := hE 0 (by decide)
  have e1 : (Term.string "PathPatcher$Parser" 70).eval #[Value.ref b] s none [] s = some (.ref (adK 1)) := hE 1 (by decide)
  -- the statics
  have hz0 : va_Z jt_z0.1 jt_z0.2.1 jt_z0.2.2 (.int 1) (fun q => s.heap.size ≤ q) s s.heap := va_Zof (hT _ jt_zw0.1) (hT _ jt_zw0.2) (va_eqi (hs (.eq (.static jt_z0.1 jt_z0.2.1 jt_z0.2.2) (.int 1)) (by decide +kernel))) hA
  have hz1 : ∃ o : Option Nat, va_Z jt_z1.1 jt_z1.2.1 jt_z1.2.2 (va_rf o) (fun q => s.heap.size ≤ q) s s.heap := by
    rcases va_Zqof (hT _ jt_zw1.1) (hT _ jt_zw1.2) (hs (.isRef (.static jt_z1.1 jt_z1.2.1 jt_z1.2.2)) (by decide +kernel)) hA with h | ⟨t, h⟩
    · exact ⟨none, h⟩
    · exact ⟨some t, h⟩
  obtain ⟨fo, hz1⟩ := hz1
  have kad : ∃ K : Nat → Nat, (∀ i, i < 2 → K (1000000 + i) = adK i) ∧ (∀ i, i < 2 → K (2000000 + i) = adV i) ∧ (if K 3000001 = 0 then none else some (K 3000000)) = fo ∧ K 4000000 = b := by
    refine ⟨fun i => if i < 2000000 then adK (i - 1000000) else if i < 3000000 then adV (i - 2000000) else if i = 3000000 then fo.getD 0 else if i = 3000001 then (match fo with | none => 0 | some _ => 1) else b, fun i hi => ?_, fun i hi => ?_, ?_, ?_⟩
    · show (if 1000000 + i < 2000000 then adK (1000000 + i - 1000000) else _) = _
      rw [if_pos (by omega), show 1000000 + i - 1000000 = i by omega]
    · show (if 2000000 + i < 2000000 then _ else if 2000000 + i < 3000000 then adV (2000000 + i - 2000000) else _) = _
      rw [if_neg (by omega), if_pos (by omega), show 2000000 + i - 2000000 = i by omega]
    · cases fo <;> rfl
    · rfl
  obtain ⟨K, k0, k1, k2, k3⟩ := kad
  refine ⟨(l, (fun ci => (hk ci).choose.1, fun ci => (hk ci).choose.2), s.heap.size, K, fun t => (hty t).choose, (L, xs)), rfl, rfl, k3, rfl, ⟨fun ci q hq => ?_, fun t q hq => ?_⟩, fun q hq => va_Nw.of rfl (hT _ (jt_ln_in hq)), fun q hq => va_Nw.of rfl (hT _ (jt_lmn_in hq)), fun C hC => va_AO.of (hT _ (jt_ao_in hC)), ?_, hz0, ?_, ?_⟩
  · have hci : ci < jt_C.length := by
      have h := (List.getElem?_eq_some_iff.mp hq).1
      have h2 : ci < 13 := by simpa [jt_cl] using h
      exact h2
    rw [jt_cl_at hci] at hq
    cases hq
    exact (hk ci).choose_spec hci
  · have hl : t < jt_ty.length := by
      have h := (List.getElem?_eq_some_iff.mp hq).1
      simpa [jj_tys] using h
    have ht2 : jt_ty[t]? = some (jt_ty.getD t .int) := by
      rw [List.getD_eq_getElem?_getD, List.getElem?_eq_getElem hl]
      rfl
    rw [jj_tys_at ht2] at hq
    cases hq
    exact (hty t).choose_spec hl
  · refine ⟨fun i hi => ?_, fun i j hi hj hij => ?_⟩
    · have h := hS.1 i hi
      show va_O _ (K (1000000 + i)) _ _ _ ∧ va_OF _ _ _ _ (K (1000000 + i)) _ _ _ ∧ va_OF _ _ _ (.ref (K (2000000 + i))) (K (1000000 + i)) _ _ _ ∧ va_T _ (K (2000000 + i)) _ _ _ _ _
      rw [k0 i hi, k1 i hi]
      exact h
    · have hij' : K (1000000 + i) = K (1000000 + j) := hij
      rw [k0 i hi, k0 j hj] at hij'
      exact hS.2 i j hi hj hij'
  · have : jj_fo (l, (fun ci => (hk ci).choose.1, fun ci => (hk ci).choose.2), s.heap.size, K, fun t => (hty t).choose, (L, xs)) = fo := k2
    rw [this]
    exact hz1
  · intro q hq
    have hst := hT _ (jt_ls_in hq)
    have key : (Term.string (jt_on.getD q.1 "") q.2.1).eval #[Value.ref b] s none [] s = some (.ref (adK q.2.2)) ∧ q.2.2 < 2 :=
      jx_all (P := fun q : Nat × Nat × Nat => (Term.string (jt_on.getD q.1 "") q.2.1).eval #[Value.ref b] s none [] s = some (.ref (adK q.2.2)) ∧ q.2.2 < 2) (l := jt_ls) (jx_c ⟨e0, by decide⟩ (
  jx_c ⟨e1, by decide⟩ (
  jx_c ⟨va_eqR (hs (.eq (Term.string "PathPatcher$Parser" 70) (Term.string "PathPatcher$Pattern" 39)) (by decide +kernel)) e1, by decide⟩ (
  jx_c ⟨va_eqR (hs (.eq (Term.string "PathPatcher$Parser" 87) (Term.string "PathPatcher$Edit" 43)) (by decide +kernel)) e0, by decide⟩ (
  jx_e))))) q hq
    exact vk_R.of hst (by rw [show ((l, (fun ci => (hk ci).choose.1, fun ci => (hk ci).choose.2), s.heap.size, K, fun t => (hty t).choose, (L, xs)) : jj_X).2.2.2.1 (1000000 + q.2.2) = adK q.2.2 from k0 _ key.2]; exact key.1)
end
section
/-! The law's head: the two constructors run on the small machine; then the store has its fixed shape. -/
theorem jx_tb_xs (xs xt : jx_Xs) : ∀ κ : Nat, κ ≠ 67 → κ ≠ 68 → (jx_tb xs).getD κ jx_no = (jx_tb xt).getD κ jx_no
  | 0, _, _ => rfl
  | 1, _, _ => rfl
  | 2, _, _ => rfl
  | 3, _, _ => rfl
  | 4, _, _ => rfl
  | 5, _, _ => rfl
  | 6, _, _ => rfl
  | 7, _, _ => rfl
  | 8, _, _ => rfl
  | 9, _, _ => rfl
  | 10, _, _ => rfl
  | 11, _, _ => rfl
  | 12, _, _ => rfl
  | 13, _, _ => rfl
  | 14, _, _ => rfl
  | 15, _, _ => rfl
  | 16, _, _ => rfl
  | 17, _, _ => rfl
  | 18, _, _ => rfl
  | 19, _, _ => rfl
  | 20, _, _ => rfl
  | 21, _, _ => rfl
  | 22, _, _ => rfl
  | 23, _, _ => rfl
  | 24, _, _ => rfl
  | 25, _, _ => rfl
  | 26, _, _ => rfl
  | 27, _, _ => rfl
  | 28, _, _ => rfl
  | 29, _, _ => rfl
  | 30, _, _ => rfl
  | 31, _, _ => rfl
  | 32, _, _ => rfl
  | 33, _, _ => rfl
  | 34, _, _ => rfl
  | 35, _, _ => rfl
  | 36, _, _ => rfl
  | 37, _, _ => rfl
  | 38, _, _ => rfl
  | 39, _, _ => rfl
  | 40, _, _ => rfl
  | 41, _, _ => rfl
  | 42, _, _ => rfl
  | 43, _, _ => rfl
  | 44, _, _ => rfl
  | 45, _, _ => rfl
  | 46, _, _ => rfl
  | 47, _, _ => rfl
  | 48, _, _ => rfl
  | 49, _, _ => rfl
  | 50, _, _ => rfl
  | 51, _, _ => rfl
  | 52, _, _ => rfl
  | 53, _, _ => rfl
  | 54, _, _ => rfl
  | 55, _, _ => rfl
  | 56, _, _ => rfl
  | 57, _, _ => rfl
  | 58, _, _ => rfl
  | 59, _, _ => rfl
  | 60, _, _ => rfl
  | 61, _, _ => rfl
  | 62, _, _ => rfl
  | 63, _, _ => rfl
  | 64, _, _ => rfl
  | 65, _, _ => rfl
  | 66, _, _ => rfl
  | 67, h, g => absurd rfl h
  | 68, h, g => absurd rfl g
  | 69, _, _ => rfl
  | 70, _, _ => rfl
  | _ + 71, _, _ => rfl
/-- only the law reads the script -/
theorem jx_xs (xs xt : jx_Xs) : ∀ (f : Nat) {y pc : Nat} {L : jx_L} {st : List Value} {σ : jj_S}, y < jt_law → jx_run xs f y pc L st σ = jx_run xt f y pc L st σ := by
  intro f
  induction f with
  | zero => intro y pc L st σ _; rfl
  | succ f ih =>
    intro y pc L st σ hy
    rw [jx_run, jx_run]
    cases ho : jx_op y pc with
    | none => rfl
    | some o =>
      obtain ⟨hd, hc⟩ := jx_and (jt_ok ho)
      obtain ⟨κ, a, b, d, c⟩ := o
      dsimp only
      by_cases h1 : κ < 72
      · rw [if_pos h1, if_pos h1]
        have n1 : κ ≠ 67 := fun e => by subst e; exact absurd (of_decide_eq_true (p := y = jt_law) hc) (Nat.ne_of_lt hy)
        have n2 : κ ≠ 68 := fun e => by subst e; exact absurd (of_decide_eq_true (p := y = jt_law) hc) (Nat.ne_of_lt hy)
        have hs : jx_sem xs (κ, a, b, d, c) pc L st σ = jx_sem xt (κ, a, b, d, c) pc L st σ := by
          show ((jx_tb xs).getD κ jx_no) pc a b d c L st σ = ((jx_tb xt).getD κ jx_no) pc a b d c L st σ
          rw [jx_tb_xs xs xt κ n1 n2]
        rw [hs]
        cases jx_sem xt (κ, a, b, d, c) pc L st σ with
        | none => rfl
        | some q => exact ih hy
      · rw [if_neg h1, if_neg h1]
        by_cases h2 : κ < 80
        · rw [if_pos h2, if_pos h2]
          cases jx_new (κ, a, b, d, c) st σ with
          | none => rfl
          | some q => exact ih hy
        · rw [if_neg h2, if_neg h2]
          by_cases h3 : κ < 90
          · rw [if_pos h3, if_pos h3]
            cases hq : jx_cal (κ, a, b, d, c) st σ with
            | none => rfl
            | some q =>
              dsimp only
              have hb : b < jt_law ∧ d ≤ jt_L b := jx_lok_call (by omega) h3 hc (jx_cal_86 (as := q.1) (rest := q.2) (by omega) h3 hq)
              rw [ih (y := b) hb.1]
              cases jx_run xt f b 0 (jx_ent b q.1) [] σ with
              | none => rfl
              | some u => exact ih hy
          · rw [if_neg h3, if_neg h3]
section JG
variable {X : jj_X} {y : Nat} {R : Room} {Z : List Frame → Array Value → State → State → Prop} {pc k n : Nat} {L : jx_L} {st : List Value} {σ : jj_S}
theorem jg_st (hfr : jt_fr y ≤ R.frames) (hlo : jt_lo y ≤ R.locals) (hk : k ≤ R.cells) (hn : n ≤ R.slots) {pc' : Nat} {L' : jx_L} {st' : List Value} {m' : Nat → Nat → Int32} {r' : Nat → Nat → Option Nat} (h : jx_st X.2.2.2.2.2 y pc L st σ = some (pc', L', st', m', r')) (g : jj_G X y R Z pc' L' st' k n (m', r', σ.2.2)) : jj_G X y R Z pc L st k n σ := by
  unfold jx_st at h
  cases ho : jx_op y pc with
  | none => rw [ho] at h; cases h
  | some o =>
    rw [ho] at h
    dsimp only at h
    obtain ⟨hd, hc⟩ := jx_and (jt_ok ho)
    have hd := of_decide_eq_true hd
    obtain ⟨κ, a, b, d, c⟩ := o
    by_cases h1 : κ < 72
    · rw [if_pos h1] at h
      exact jx_snd κ h1 X y R Z k n pc a b d c L st σ _ hfr hlo hk hn hd hc h g
    · rw [if_neg h1] at h; cases h
theorem jg_new {o : jx_O} {q : Nat × (Nat × Nat × Nat) × List Value} (ho : jx_op y pc = some o) (hκ : 72 ≤ o.1 ∧ o.1 < 80) (h : jx_new o st σ = some q) (hk : k + 1 ≤ R.cells) (hn : n + q.2.1.2.2 ≤ R.slots) (g : jj_G X y R Z (pc + q.1) L (.ref σ.2.2.2.1 :: q.2.2) (k + 1) (n + q.2.1.2.2) (jj_nw σ q.2.1)) : jj_G X y R Z pc L st k n σ := by
  obtain ⟨hd, hc⟩ := jx_and (jt_ok ho)
  have hd := of_decide_eq_true hd
  obtain ⟨κ, a, b, d, c⟩ := o
  exact jx_sndN κ hκ.1 hκ.2 X y R Z k n pc a b d c L st σ q hd hc h hk hn g
theorem jg_call {o : jx_O} {as rest : List Value} {u : Option Value} {τ : jj_S} (f : Nat) (hfr : jt_fr y ≤ R.frames) (hlo : jt_lo y ≤ R.locals) (ho : jx_op y pc = some o) (hκ : 80 ≤ o.1 ∧ o.1 < 90) (h : jx_cal o st σ = some (as, rest)) (hr : jx_run X.2.2.2.2.2 f o.2.2.1 0 (jx_ent o.2.2.1 as) [] σ = some (u, τ))
    (hk : k + (τ.2.2.2.1 - σ.2.2.2.1) ≤ R.cells) (hn : n + (τ.2.2.2.2 - σ.2.2.2.2) ≤ R.slots) (g : jj_G X y R Z (pc + 3) L (u.toList ++ rest) (k + (τ.2.2.2.1 - σ.2.2.2.1)) (n + (τ.2.2.2.2 - σ.2.2.2.2)) τ) : jj_G X y R Z pc L st k n σ := by
  obtain ⟨hd, hc⟩ := jx_and (jt_ok ho)
  have hd := of_decide_eq_true hd
  obtain ⟨κ, a, b, d, c⟩ := o
  have ga := jx_grow f hr
  have ga1 : σ.2.2.2.1 ≤ τ.2.2.2.1 := ga.1
  have ga2 : σ.2.2.2.2 ≤ τ.2.2.2.2 := ga.2
  obtain ⟨c1, c2, c3, c4, c5, c6, c7⟩ := jx_cal_of h
  have hb : b < jt_law ∧ d ≤ jt_L b := jx_lok_call hκ.1 hκ.2 hc (jx_cal_86 hκ.1 hκ.2 h)
  have hcal : Met X.1 (jt_N b) (jt_ws b) (jj_rm b (τ.2.2.2.1 - σ.2.2.2.1) (τ.2.2.2.2 - σ.2.2.2.2)) (jj_Pc X as σ) (jj_Q X u τ) (τ.2.2.2.1 - σ.2.2.2.1) (τ.2.2.2.2 - σ.2.2.2.2) (jj_A X) :=
    jj_met hb.1 c5 (Nat.le_trans (Nat.le_of_eq c3) hb.2) (jx_sound f hr (R := jj_rm b _ _) (k := 0) (n := 0) (K := τ.2.2.2.1 - σ.2.2.2.1) (N := τ.2.2.2.2 - σ.2.2.2.2) (Nat.le_refl _) (Nat.le_refl _) (by omega) (by omega) (Nat.le_refl _) (Nat.le_refl _) jj_end)
  intro p e s m args below meth cc H locs ls V P S hl hz T hT Y
  have hsz := jj_size P S V.2.2.2.2.2.2.2.2.2.1 hz hT Y
  have hrun := jx_sndC κ hκ.1 hκ.2 X y R k n pc a b d c st σ τ u as rest (τ.2.2.2.1 - σ.2.2.2.1) (τ.2.2.2.2 - σ.2.2.2.2) p e s m args below meth cc H locs ls hfr hlo hd hc h hk hn hcal V P S hl.1 hsz
  refine jj_back hrun S (fun H1 locs1 hP1 hS1 => ?_) T hT Y
  have g2 := g p e s m args below meth cc H1 locs1 ls V hP1 hS1 hl (by omega)
  refine W.eq ?_ g2
  show F0 _ _ _ _ = F0 _ _ _ _
  rw [List.map_append]
  congr 2
  cases u <;> rfl
/-- another store with the same cells -/
theorem jg_same {τ : jj_S} (ht : τ.2.2.2.1 = σ.2.2.2.1) (h : ∀ (H : Heap), jj_P X σ H → jj_P X τ H) (g : jj_G X y R Z pc L st k n τ) : jj_G X y R Z pc L st k n σ :=
  fun p e s m args below meth c H locs ls V P S hl hz => g p e s m args below meth c H locs ls V (h H P) S hl (by rw [ht]; exact hz)
end JG
theorem arrV_same {cA : ClassId} {n : Nat} {f g : Nat → Value} (h : ∀ j, j < n → f j = g j) : arrV cA n f = arrV cA n g := by
  unfold arrV
  congr 1
  apply Array.ext
  · simp
  · intro i h1 h2
    simp only [Array.getElem_ofFn]
    exact h i (by simpa using h1)
/-- the same shapes; the same numbers; the same references wherever a cell has one -/
theorem jj_P.same {X : jj_X} {σ τ : jj_S} {H : Heap} (hm : τ.1 = σ.1) (ht : τ.2.2.2.1 = σ.2.2.2.1) (hs : ∀ i, i < σ.2.2.2.1 → τ.2.2.1 i = σ.2.2.1 i)
    (ho : ∀ i, i < σ.2.2.2.1 → (σ.2.2.1 i).1 = 0 → ∀ k, k < jt_n (σ.2.2.1 i).2.1 → τ.2.1 i k = σ.2.1 i k) (ha : ∀ i, i < σ.2.2.2.1 → (σ.2.2.1 i).1 ≠ 0 → (σ.2.2.1 i).1 ≠ 1 → ∀ k, k < (σ.2.2.1 i).2.2 → τ.2.1 i k = σ.2.1 i k) (P : jj_P X σ H) : jj_P X τ H := by
  refine ⟨by rw [ht]; exact P.1, fun i q hq => ?_⟩
  obtain ⟨hl, rfl⟩ := jj_wl_lt hq
  rw [ht] at hl
  have h0 := P.2 i _ (jj_wl_at hl)
  have e3 := hs i hl
  by_cases c0 : (σ.2.2.1 i).1 = 0
  · rw [jj_E0 c0] at h0
    rw [jj_E0 (by rw [e3]; exact c0), e3]
    have ef : jj_fs X τ i (σ.2.2.1 i).2.1 = jj_fs X σ i (σ.2.2.1 i).2.1 := by
      apply List.ext_getElem?
      intro j
      by_cases hj : j < jt_n (σ.2.2.1 i).2.1
      · rw [jj_fs_at hj, jj_fs_at hj, ho i hl c0 j hj, hm]
      · rw [List.getElem?_eq_none (by rw [jj_fs_len]; omega), List.getElem?_eq_none (by rw [jj_fs_len]; omega)]
    rw [ef]
    exact h0
  · by_cases c1 : (σ.2.2.1 i).1 = 1
    · rw [jj_E1 c1] at h0
      rw [jj_E1 (by rw [e3]; exact c1), e3, hm]
      exact h0
    · have hE : ∀ ρ : jj_S, (ρ.2.2.1 i).1 ≠ 0 → (ρ.2.2.1 i).1 ≠ 1 → jj_E X ρ i = .inl (X.2.2.2.2.1 (ρ.2.2.1 i).2.1, (ρ.2.2.1 i).2.2, .inr (.inr (.inr (.inr fun j => (ρ.2.1 i j).map (jj_ad X))))) := by
        intro ρ r0 r1
        unfold jj_E
        rw [if_neg r0, if_neg r1]
      rw [hE σ c0 c1] at h0
      rw [hE τ (by rw [e3]; exact c0) (by rw [e3]; exact c1), e3]
      have h1 : H[jj_ad X i]? = some (vp_cell (X.2.2.2.2.1 (σ.2.2.1 i).2.1) ((σ.2.2.1 i).2.2, .inr (.inr (.inr (.inr fun j => (σ.2.1 i j).map (jj_ad X)))))) := h0
      show H[jj_ad X i]? = some (vp_cell _ _)
      rw [h1]
      congr 1
      dsimp only
      rw [vp_cell_q, vp_cell_q]
      refine arrV_same fun j hj => ?_
      rw [ha i hl c0 c1 j hj]
end
section
/-! The two constructors, run by the kernel. -/
def z_x0 : jx_Xs := (0, fun _ => 0)
def z_s0 : jj_S := (fun _ _ => 0, fun _ _ => none, fun _ => (9, 0, 0), 0, 0)
def z_s1 : jj_S := jj_nw z_s0 (0, 0, 9)
def z_c1 : Option (Option Value × jj_S) := jx_run z_x0 4000 11 0 (jx_ent 11 [.ref 0]) [] z_s1
def z_t1 : jj_S := match z_c1 with
  | some q => q.2
  | none => z_s0
theorem z_c1_some : z_c1.map (fun q => q.1) = some none := by decide +kernel
theorem z_c1_eq : z_c1 = some (none, z_t1) := by
  have h := z_c1_some
  unfold z_t1
  cases hc : z_c1 with
  | none => rw [hc] at h; cases h
  | some q =>
    rw [hc] at h
    have h1 : q.1 = none := Option.some.inj h
    rw [← h1]
def z_s2 : jj_S := jj_nw z_t1 (0, 12, 46)
def z_c2 : Option (Option Value × jj_S) := jx_run z_x0 400 12 0 (jx_ent 12 [.ref 131]) [] z_s2
def z_t2 : jj_S := match z_c2 with
  | some q => q.2
  | none => z_s0
theorem z_c2_some : z_c2.map (fun q => q.1) = some none := by decide +kernel
theorem z_c2_eq : z_c2 = some (none, z_t2) := by
  have h := z_c2_some
  unfold z_t2
  cases hc : z_c2 with
  | none => rw [hc] at h; cases h
  | some q =>
    rw [hc] at h
    have h1 : q.1 = none := Option.some.inj h
    rw [← h1]
theorem z_tops : z_t1.2.2.2.1 = 131 ∧ z_t1.2.2.2.2 = 1637 ∧ z_t2.2.2.2.1 = 172 ∧ z_t2.2.2.2.2 = (z_S (fun _ _ => 0)).2.2.2.2 := by decide +kernel
def z_m0 : zM := z_t2.1
theorem z_shB : (List.range 172).all (fun i => decide (z_H i = z_t2.2.2.1 i)) = true := by decide +kernel
theorem z_rfB : (List.range 172).all (fun i => decide ((z_H i).1 = 1) || (List.range (z_H i).2.2).all (fun k => decide (z_R i k = z_t2.2.1 i k))) = true := by decide +kernel
theorem z_nB : (List.range 172).all (fun i => !decide ((z_H i).1 = 0) || decide (jt_n (z_H i).2.1 = (z_H i).2.2)) = true := by decide +kernel
/-- what the numbers are at the start -/
def z_i0 (i k : Nat) : Int32 := if (z_H i).1 = 0 ∧ (z_H i).2.1 = 8 ∧ k = 0 then -1 else 0
theorem z_m0B : (List.range 172).all (fun i => (List.range (z_H i).2.2).all (fun k => decide (z_m0 i k = z_i0 i k))) = true := by decide +kernel
theorem z_m0_at {i k : Nat} (hi : i < 172) (hk : k < (z_H i).2.2) : z_m0 i k = z_i0 i k :=
  of_decide_eq_true (List.all_eq_true.mp (List.all_eq_true.mp z_m0B i (List.mem_range.mpr hi)) k (List.mem_range.mpr hk))
/-- behind the constructors the store is z_S z_m0 -/
theorem z_same0 {X : jj_X} {u : jj_S} (htop : u.2.2.2.1 = 172) (hsh : ∀ i, i < 172 → z_H i = u.2.2.1 i) (hrf : ∀ i, i < 172 → (z_H i).1 ≠ 1 → ∀ k, k < (z_H i).2.2 → z_R i k = u.2.1 i k) (H : Heap) (P : jj_P X u H) : jj_P X (z_S u.1) H := by
  refine jj_P.same (σ := u) (τ := z_S u.1) rfl htop.symm (fun i hi => hsh i (by omega)) (fun i hi h0 k hk => ?_) (fun i hi h0 h1 k hk => ?_) P
  · have hi : i < 172 := by omega
    rw [← hsh i hi] at h0 hk
    have a := List.all_eq_true.mp z_nB i (List.mem_range.mpr hi)
    rw [decide_eq_true h0] at a
    have a : jt_n (z_H i).2.1 = (z_H i).2.2 := of_decide_eq_true a
    exact hrf i hi (by omega) k (by omega)
  · have hi : i < 172 := by omega
    rw [← hsh i hi] at h1 hk
    exact hrf i hi h1 k hk
theorem z_same {X : jj_X} : ∀ (H : Heap), jj_P X z_t2 H → jj_P X (z_S z_t2.1) H := by
  refine z_same0 z_tops.2.2.1 (fun i hi => of_decide_eq_true (List.all_eq_true.mp z_shB i (List.mem_range.mpr hi))) (fun i hi h1 k hk => ?_)
  have a := List.all_eq_true.mp z_rfB i (List.mem_range.mpr hi)
  rw [decide_eq_false h1, Bool.false_or] at a
  exact of_decide_eq_true (List.all_eq_true.mp a k (List.mem_range.mpr hk))
set_option maxHeartbeats 4000000 in
/-- the law's head: up to its loop -/
theorem z_head0 {X : jj_X} {Z : List Frame → Array Value → State → State → Prop} {u v : jj_S} {m : zM} (t1 : u.2.2.2.1 = 131) (t2 : u.2.2.2.2 = 1637) (t3 : v.2.2.2.1 = 172) (t4 : v.2.2.2.2 = (z_S (fun _ _ => 0)).2.2.2.2) (c1 : jx_run X.2.2.2.2.2 4000 11 0 (jx_ent 11 [.ref 0]) [] z_s1 = some (none, u)) (c2 : jx_run X.2.2.2.2.2 400 12 0 (jx_ent 12 [.ref 131]) [] (jj_nw u (0, 12, 46)) = some (none, v)) (hsame : ∀ (H : Heap), jj_P X v H → jj_P X (z_S m) H)
    (g : jj_G X 179 room_1 Z 18 [some (.ref 4000000), some (.ref 0), some (.ref 131), some (.int 0)] [] 172 (z_S (fun _ _ => 0)).2.2.2.2 (z_S m)) : jj_G X 179 room_1 Z 0 (jx_ent 179 [.ref 4000000]) [] 0 0 z_s0 := by
  have f1 : jt_fr 179 ≤ room_1.frames := by decide +kernel
  have f2 : jt_lo 179 ≤ room_1.locals := by decide +kernel
  have s1 : z_s1.2.2.2.1 = 1 ∧ z_s1.2.2.2.2 = 9 := ⟨rfl, rfl⟩
  have s2 : (jj_nw u (0, 12, 46)).2.2.2.1 = 132 ∧ (jj_nw u (0, 12, 46)).2.2.2.2 = 1683 := by
    refine ⟨?_, ?_⟩
    · show u.2.2.2.1 + 1 = 132
      rw [t1]
    · show u.2.2.2.2 + 46 = 1683
      rw [t2]
  refine jg_new (o := (72, 7, 0, 0, 0)) (q := (3, (0, 0, 9), [])) rfl ⟨by decide, by decide⟩ rfl (by decide +kernel) (by decide +kernel) ?_
  show jj_G X 179 room_1 Z 3 [some (.ref 4000000), none, none, none] [.ref 0] 1 9 z_s1
  refine jg_st f1 f2 (by decide +kernel) (by decide +kernel) rfl ?_
  show jj_G X 179 room_1 Z 4 [some (.ref 4000000), none, none, none] [.ref 0, .ref 0] 1 9 z_s1
  refine jg_call (o := (82, 9, 11, 1, 0)) (as := [.ref 0]) (rest := [.ref 0]) 4000 f1 f2 rfl ⟨by decide, by decide⟩ rfl c1 (by rw [t1, s1.1]; decide +kernel) (by rw [t2, s1.2]; decide +kernel) ?_
  rw [t1, t2, s1.1, s1.2]
  show jj_G X 179 room_1 Z 7 [some (.ref 4000000), none, none, none] [.ref 0] 131 1637 u
  refine jg_st f1 f2 (by decide +kernel) (by decide +kernel) rfl ?_
  show jj_G X 179 room_1 Z 8 [some (.ref 4000000), some (.ref 0), none, none] [] 131 1637 u
  have hn : jx_new (72, 10, 12, 0, 0) [] u = some (3, (0, 12, 46), []) := by
    unfold jx_new
    rw [t1]
    rfl
  refine jg_new (o := (72, 10, 12, 0, 0)) (q := (3, (0, 12, 46), [])) rfl ⟨by decide, by decide⟩ hn (by decide +kernel) (by decide +kernel) ?_
  rw [t1]
  show jj_G X 179 room_1 Z 11 [some (.ref 4000000), some (.ref 0), none, none] [.ref 131] 132 1683 (jj_nw u (0, 12, 46))
  refine jg_st f1 f2 (by decide +kernel) (by decide +kernel) rfl ?_
  show jj_G X 179 room_1 Z 12 [some (.ref 4000000), some (.ref 0), none, none] [.ref 131, .ref 131] 132 1683 (jj_nw u (0, 12, 46))
  refine jg_call (o := (82, 12, 12, 1, 0)) (as := [.ref 131]) (rest := [.ref 131]) 400 f1 f2 rfl ⟨by decide, by decide⟩ rfl c2 (by rw [t3, s2.1]; decide +kernel) (by rw [t4, s2.2]; decide +kernel) ?_
  rw [t3, t4, s2.1, s2.2]
  show jj_G X 179 room_1 Z 15 [some (.ref 4000000), some (.ref 0), none, none] [.ref 131] 172 (z_S (fun _ _ => 0)).2.2.2.2 v
  refine jg_same (τ := z_S m) t3.symm hsame ?_
  refine jg_st f1 f2 (by decide +kernel) (by decide +kernel) rfl ?_
  show jj_G X 179 room_1 Z 16 [some (.ref 4000000), some (.ref 0), some (.ref 131), none] [] 172 (z_S (fun _ _ => 0)).2.2.2.2 (z_S m)
  refine jg_st f1 f2 (by decide +kernel) (by decide +kernel) rfl ?_
  show jj_G X 179 room_1 Z 17 [some (.ref 4000000), some (.ref 0), some (.ref 131), none] [.int 0] 172 (z_S (fun _ _ => 0)).2.2.2.2 (z_S m)
  refine jg_st f1 f2 (by decide +kernel) (by decide +kernel) rfl ?_
  exact g
theorem z_c1x (xs : jx_Xs) : jx_run xs 4000 11 0 (jx_ent 11 [.ref 0]) [] z_s1 = some (none, z_t1) := (jx_xs xs z_x0 4000 (by decide)).trans z_c1_eq
theorem z_c2x (xs : jx_Xs) : jx_run xs 400 12 0 (jx_ent 12 [.ref 131]) [] (jj_nw z_t1 (0, 12, 46)) = some (none, z_t2) := (jx_xs xs z_x0 400 (by decide)).trans z_c2_eq
theorem z_head {X : jj_X} {Z : List Frame → Array Value → State → State → Prop} (g : jj_G X 179 room_1 Z 18 [some (.ref 4000000), some (.ref 0), some (.ref 131), some (.int 0)] [] 172 (z_S (fun _ _ => 0)).2.2.2.2 (z_S z_t2.1)) : jj_G X 179 room_1 Z 0 (jx_ent 179 [.ref 4000000]) [] 0 0 z_s0 :=
  z_head0 z_tops.1 z_tops.2.1 z_tops.2.2.1 z_tops.2.2.2 (z_c1x _) (z_c2x _) z_same g
/-- the law's end -/
theorem z_end {X : jj_X} {τ : jj_S} {K N : Nat} (hK : K ≤ 600000) (hN : N ≤ 7302249) : jj_End X 179 room_1 lw_Z (some (.int 1)) τ K N := by
  intro p e s m args below meth c H locs ls pc V P S
  refine ⟨fun h => (by cases h), fun v ty hr hR hn hd => ?_, fun i ty h => (by cases h)⟩
  cases hr
  obtain ⟨-, -, -, ha, hs⟩ := V.2.2.2.2.2.2.2.2.2.2 rfl
  subst ha
  refine va_forget (fun q hq => ?_) (W.widen hK hN (lw_ret V.1 V.2.1 V.2.2.2.2.2.1 V.2.2.2.2.2.2.1 hd))
  rw [← hs]
  exact S.2.2 q hq
/-- what is left: the law's loop on the small machine -/
def z_Loop : Prop := ∀ (N : Nat) (xs : Nat → Int32), N ≤ 3072 → ez (N, xs) 179 18 [some (.ref 4000000), some (.ref 0), some (.ref 131), some (.int 0)] [] z_t2.1 (fun r _ => r = some (.int 1))
theorem z_loop_G {X : jj_X} {m : zM} (hloop : ez X.2.2.2.2.2 179 18 [some (.ref 4000000), some (.ref 0), some (.ref 131), some (.int 0)] [] m (fun r _ => r = some (.int 1))) : jj_G X 179 room_1 lw_Z 18 [some (.ref 4000000), some (.ref 0), some (.ref 131), some (.int 0)] [] 172 (z_S (fun _ _ => 0)).2.2.2.2 (z_S m) := by
  obtain ⟨f, r, τ, hrun, m', rfl, rfl⟩ := hloop
  exact jx_sound f hrun (R := room_1) (K := 172) (N := (z_S (fun _ _ => 0)).2.2.2.2) (by decide +kernel) (by decide +kernel) rfl rfl (by decide +kernel) (by decide +kernel) (z_end (by decide) (by decide +kernel))
set_option maxHeartbeats 4000000 in
theorem whole_start_open (hloop : z_Loop) {p : Program} {e : Env} {s : State} {m : MethodId} {below : List Frame} {meth : Method} {c : Code} (l : Launch) {b L : Nat} {xs : Nat → Int32} (hL : L ≤ 3072) (C0 : lw_At p s m meth c b L xs) : W p l e room_1 s m #[Value.ref b] below meth c s.heap [] 0 0 (lw_Z below #[Value.ref b] s) (entryFrame m ([Value.ref b] : List Value).toArray 4) := by
  obtain ⟨X, x1, x2, x3, x4, hK⟩ := jj_init l C0
  obtain ⟨hx, hb, hr, hml, hown, hts, hX, hbl, hlk, hgv⟩ := C0
  subst x1
  subst x3
  have hlp := hloop L xs hL
  rw [← x4] at hlp
  have hG : jj_G X 179 room_1 lw_Z 0 (jx_ent 179 [.ref 4000000]) [] 0 0 z_s0 := z_head (z_loop_G hlp)
  have hl := lv_entry ([Value.ref (X.2.2.2.1 4000000)]) (n := 4) (Nat.le_of_ble_eq_true rfl)
  rw [lg_entry_eq]
  generalize (lg_sl ([Value.ref (X.2.2.2.1 4000000)]) ++ List.replicate (4 - (lg_sl ([Value.ref (X.2.2.2.1 4000000)])).length) Slot.unset).toArray = ls at hl ⊢
  refine hG p e s m _ below meth c s.heap [] ls ⟨hx, hb, hml, hown, fun w hw => hts w (List.mem_filter.mp hw).1, hr, hlk, fun h => absurd h (by decide +kernel), hK, Nat.le_of_eq x2, fun _ => ⟨?_, hbl, ?_, rfl, x2⟩⟩ ⟨by decide, fun i q hq => by cases hq⟩ va_S.rf ?_ (by rw [x2]; rfl)
  · rw [x4]
    exact hX
  · show ¬ X.2.2.1 ≤ _
    rw [x2]
    exact Nat.not_le.mpr hbl
  · exact jj_entry (X := X) (y := 179) (as := [.ref 4000000]) (fun v hv => by rw [List.mem_singleton.mp hv]; rfl) (by decide) hl
end
section
/-! More rules: branches, the script. -/
section EZ3
variable {xs : jx_Xs} {y pc a b d tgt : Nat} {c x v : Int32} {L : jx_L} {st r : List Value} {m : zM} {Q : Option Value → zM → Prop}
theorem ez_if_eq (ho : jx_op y pc = some (30, tgt, b, d, c)) (gt : x = 0 → ez xs y tgt L r m Q) (gf : ¬ x = 0 → ez xs y (pc + 3) L r m Q) : ez xs y pc L (.int x :: r) m Q := by
  by_cases h : x = 0
  · refine ez_st (m' := m) (pc' := tgt) (L' := L) (st' := r) ?_ (gt h)
    unfold jx_st
    rw [ho]
    show (if 30 < 72 then jx_br1 (fun x => decide (x = 0)) pc tgt b d c L (.int x :: r) (z_S m) else none) = _
    rw [if_pos (by decide)]
    unfold jx_br1
    dsimp only
    rw [if_pos (decide_eq_true h)]
    rfl
  · refine ez_st (m' := m) (pc' := pc + 3) (L' := L) (st' := r) ?_ (gf h)
    unfold jx_st
    rw [ho]
    show (if 30 < 72 then jx_br1 (fun x => decide (x = 0)) pc tgt b d c L (.int x :: r) (z_S m) else none) = _
    rw [if_pos (by decide)]
    unfold jx_br1
    dsimp only
    rw [if_neg (fun h1 => h (of_decide_eq_true h1))]
    rfl
theorem ez_icmp_eq (ho : jx_op y pc = some (36, tgt, b, d, c)) (gt : x = v → ez xs y tgt L r m Q) (gf : ¬ x = v → ez xs y (pc + 3) L r m Q) : ez xs y pc L (.int v :: .int x :: r) m Q := by
  by_cases h : x = v
  · refine ez_st (m' := m) (pc' := tgt) (L' := L) (st' := r) ?_ (gt h)
    unfold jx_st
    rw [ho]
    show (if 36 < 72 then jx_br2 (fun x y => decide (x = y)) pc tgt b d c L (.int v :: .int x :: r) (z_S m) else none) = _
    rw [if_pos (by decide)]
    unfold jx_br2
    dsimp only
    rw [if_pos (decide_eq_true h)]
    rfl
  · refine ez_st (m' := m) (pc' := pc + 3) (L' := L) (st' := r) ?_ (gf h)
    unfold jx_st
    rw [ho]
    show (if 36 < 72 then jx_br2 (fun x y => decide (x = y)) pc tgt b d c L (.int v :: .int x :: r) (z_S m) else none) = _
    rw [if_pos (by decide)]
    unfold jx_br2
    dsimp only
    rw [if_neg (fun h1 => h (of_decide_eq_true h1))]
    rfl
theorem ez_if_ne (ho : jx_op y pc = some (31, tgt, b, d, c)) (gt : ¬ x = 0 → ez xs y tgt L r m Q) (gf : x = 0 → ez xs y (pc + 3) L r m Q) : ez xs y pc L (.int x :: r) m Q := by
  by_cases h : ¬ x = 0
  · refine ez_st (m' := m) (pc' := tgt) (L' := L) (st' := r) ?_ (gt h)
    unfold jx_st
    rw [ho]
    show (if 31 < 72 then jx_br1 (fun x => decide (¬ x = 0)) pc tgt b d c L (.int x :: r) (z_S m) else none) = _
    rw [if_pos (by decide)]
    unfold jx_br1
    dsimp only
    rw [if_pos (decide_eq_true h)]
    rfl
  · refine ez_st (m' := m) (pc' := pc + 3) (L' := L) (st' := r) ?_ (gf (Decidable.of_not_not h))
    unfold jx_st
    rw [ho]
    show (if 31 < 72 then jx_br1 (fun x => decide (¬ x = 0)) pc tgt b d c L (.int x :: r) (z_S m) else none) = _
    rw [if_pos (by decide)]
    unfold jx_br1
    dsimp only
    rw [if_neg (fun h1 => h (of_decide_eq_true h1))]
    rfl
theorem ez_icmp_ne (ho : jx_op y pc = some (37, tgt, b, d, c)) (gt : ¬ x = v → ez xs y tgt L r m Q) (gf : x = v → ez xs y (pc + 3) L r m Q) : ez xs y pc L (.int v :: .int x :: r) m Q := by
  by_cases h : ¬ x = v
  · refine ez_st (m' := m) (pc' := tgt) (L' := L) (st' := r) ?_ (gt h)
    unfold jx_st
    rw [ho]
    show (if 37 < 72 then jx_br2 (fun x y => decide (¬ x = y)) pc tgt b d c L (.int v :: .int x :: r) (z_S m) else none) = _
    rw [if_pos (by decide)]
    unfold jx_br2
    dsimp only
    rw [if_pos (decide_eq_true h)]
    rfl
  · refine ez_st (m' := m) (pc' := pc + 3) (L' := L) (st' := r) ?_ (gf (Decidable.of_not_not h))
    unfold jx_st
    rw [ho]
    show (if 37 < 72 then jx_br2 (fun x y => decide (¬ x = y)) pc tgt b d c L (.int v :: .int x :: r) (z_S m) else none) = _
    rw [if_pos (by decide)]
    unfold jx_br2
    dsimp only
    rw [if_neg (fun h1 => h (of_decide_eq_true h1))]
    rfl
theorem ez_if_lt (ho : jx_op y pc = some (32, tgt, b, d, c)) (gt : x < 0 → ez xs y tgt L r m Q) (gf : ¬ x < 0 → ez xs y (pc + 3) L r m Q) : ez xs y pc L (.int x :: r) m Q := by
  by_cases h : x < 0
  · refine ez_st (m' := m) (pc' := tgt) (L' := L) (st' := r) ?_ (gt h)
    unfold jx_st
    rw [ho]
    show (if 32 < 72 then jx_br1 (fun x => decide (x < 0)) pc tgt b d c L (.int x :: r) (z_S m) else none) = _
    rw [if_pos (by decide)]
    unfold jx_br1
    dsimp only
    rw [if_pos (decide_eq_true h)]
    rfl
  · refine ez_st (m' := m) (pc' := pc + 3) (L' := L) (st' := r) ?_ (gf h)
    unfold jx_st
    rw [ho]
    show (if 32 < 72 then jx_br1 (fun x => decide (x < 0)) pc tgt b d c L (.int x :: r) (z_S m) else none) = _
    rw [if_pos (by decide)]
    unfold jx_br1
    dsimp only
    rw [if_neg (fun h1 => h (of_decide_eq_true h1))]
    rfl
theorem ez_icmp_lt (ho : jx_op y pc = some (38, tgt, b, d, c)) (gt : x < v → ez xs y tgt L r m Q) (gf : ¬ x < v → ez xs y (pc + 3) L r m Q) : ez xs y pc L (.int v :: .int x :: r) m Q := by
  by_cases h : x < v
  · refine ez_st (m' := m) (pc' := tgt) (L' := L) (st' := r) ?_ (gt h)
    unfold jx_st
    rw [ho]
    show (if 38 < 72 then jx_br2 (fun x y => decide (x < y)) pc tgt b d c L (.int v :: .int x :: r) (z_S m) else none) = _
    rw [if_pos (by decide)]
    unfold jx_br2
    dsimp only
    rw [if_pos (decide_eq_true h)]
    rfl
  · refine ez_st (m' := m) (pc' := pc + 3) (L' := L) (st' := r) ?_ (gf h)
    unfold jx_st
    rw [ho]
    show (if 38 < 72 then jx_br2 (fun x y => decide (x < y)) pc tgt b d c L (.int v :: .int x :: r) (z_S m) else none) = _
    rw [if_pos (by decide)]
    unfold jx_br2
    dsimp only
    rw [if_neg (fun h1 => h (of_decide_eq_true h1))]
    rfl
theorem ez_if_ge (ho : jx_op y pc = some (33, tgt, b, d, c)) (gt : 0 ≤ x → ez xs y tgt L r m Q) (gf : ¬ 0 ≤ x → ez xs y (pc + 3) L r m Q) : ez xs y pc L (.int x :: r) m Q := by
  by_cases h : 0 ≤ x
  · refine ez_st (m' := m) (pc' := tgt) (L' := L) (st' := r) ?_ (gt h)
    unfold jx_st
    rw [ho]
    show (if 33 < 72 then jx_br1 (fun x => decide (0 ≤ x)) pc tgt b d c L (.int x :: r) (z_S m) else none) = _
    rw [if_pos (by decide)]
    unfold jx_br1
    dsimp only
    rw [if_pos (decide_eq_true h)]
    rfl
  · refine ez_st (m' := m) (pc' := pc + 3) (L' := L) (st' := r) ?_ (gf h)
    unfold jx_st
    rw [ho]
    show (if 33 < 72 then jx_br1 (fun x => decide (0 ≤ x)) pc tgt b d c L (.int x :: r) (z_S m) else none) = _
    rw [if_pos (by decide)]
    unfold jx_br1
    dsimp only
    rw [if_neg (fun h1 => h (of_decide_eq_true h1))]
    rfl
theorem ez_icmp_ge (ho : jx_op y pc = some (39, tgt, b, d, c)) (gt : v ≤ x → ez xs y tgt L r m Q) (gf : ¬ v ≤ x → ez xs y (pc + 3) L r m Q) : ez xs y pc L (.int v :: .int x :: r) m Q := by
  by_cases h : v ≤ x
  · refine ez_st (m' := m) (pc' := tgt) (L' := L) (st' := r) ?_ (gt h)
    unfold jx_st
    rw [ho]
    show (if 39 < 72 then jx_br2 (fun x y => decide (y ≤ x)) pc tgt b d c L (.int v :: .int x :: r) (z_S m) else none) = _
    rw [if_pos (by decide)]
    unfold jx_br2
    dsimp only
    rw [if_pos (decide_eq_true h)]
    rfl
  · refine ez_st (m' := m) (pc' := pc + 3) (L' := L) (st' := r) ?_ (gf h)
    unfold jx_st
    rw [ho]
    show (if 39 < 72 then jx_br2 (fun x y => decide (y ≤ x)) pc tgt b d c L (.int v :: .int x :: r) (z_S m) else none) = _
    rw [if_pos (by decide)]
    unfold jx_br2
    dsimp only
    rw [if_neg (fun h1 => h (of_decide_eq_true h1))]
    rfl
theorem ez_if_gt (ho : jx_op y pc = some (34, tgt, b, d, c)) (gt : 0 < x → ez xs y tgt L r m Q) (gf : ¬ 0 < x → ez xs y (pc + 3) L r m Q) : ez xs y pc L (.int x :: r) m Q := by
  by_cases h : 0 < x
  · refine ez_st (m' := m) (pc' := tgt) (L' := L) (st' := r) ?_ (gt h)
    unfold jx_st
    rw [ho]
    show (if 34 < 72 then jx_br1 (fun x => decide (0 < x)) pc tgt b d c L (.int x :: r) (z_S m) else none) = _
    rw [if_pos (by decide)]
    unfold jx_br1
    dsimp only
    rw [if_pos (decide_eq_true h)]
    rfl
  · refine ez_st (m' := m) (pc' := pc + 3) (L' := L) (st' := r) ?_ (gf h)
    unfold jx_st
    rw [ho]
    show (if 34 < 72 then jx_br1 (fun x => decide (0 < x)) pc tgt b d c L (.int x :: r) (z_S m) else none) = _
    rw [if_pos (by decide)]
    unfold jx_br1
    dsimp only
    rw [if_neg (fun h1 => h (of_decide_eq_true h1))]
    rfl
theorem ez_icmp_gt (ho : jx_op y pc = some (40, tgt, b, d, c)) (gt : v < x → ez xs y tgt L r m Q) (gf : ¬ v < x → ez xs y (pc + 3) L r m Q) : ez xs y pc L (.int v :: .int x :: r) m Q := by
  by_cases h : v < x
  · refine ez_st (m' := m) (pc' := tgt) (L' := L) (st' := r) ?_ (gt h)
    unfold jx_st
    rw [ho]
    show (if 40 < 72 then jx_br2 (fun x y => decide (y < x)) pc tgt b d c L (.int v :: .int x :: r) (z_S m) else none) = _
    rw [if_pos (by decide)]
    unfold jx_br2
    dsimp only
    rw [if_pos (decide_eq_true h)]
    rfl
  · refine ez_st (m' := m) (pc' := pc + 3) (L' := L) (st' := r) ?_ (gf h)
    unfold jx_st
    rw [ho]
    show (if 40 < 72 then jx_br2 (fun x y => decide (y < x)) pc tgt b d c L (.int v :: .int x :: r) (z_S m) else none) = _
    rw [if_pos (by decide)]
    unfold jx_br2
    dsimp only
    rw [if_neg (fun h1 => h (of_decide_eq_true h1))]
    rfl
theorem ez_if_le (ho : jx_op y pc = some (35, tgt, b, d, c)) (gt : x ≤ 0 → ez xs y tgt L r m Q) (gf : ¬ x ≤ 0 → ez xs y (pc + 3) L r m Q) : ez xs y pc L (.int x :: r) m Q := by
  by_cases h : x ≤ 0
  · refine ez_st (m' := m) (pc' := tgt) (L' := L) (st' := r) ?_ (gt h)
    unfold jx_st
    rw [ho]
    show (if 35 < 72 then jx_br1 (fun x => decide (x ≤ 0)) pc tgt b d c L (.int x :: r) (z_S m) else none) = _
    rw [if_pos (by decide)]
    unfold jx_br1
    dsimp only
    rw [if_pos (decide_eq_true h)]
    rfl
  · refine ez_st (m' := m) (pc' := pc + 3) (L' := L) (st' := r) ?_ (gf h)
    unfold jx_st
    rw [ho]
    show (if 35 < 72 then jx_br1 (fun x => decide (x ≤ 0)) pc tgt b d c L (.int x :: r) (z_S m) else none) = _
    rw [if_pos (by decide)]
    unfold jx_br1
    dsimp only
    rw [if_neg (fun h1 => h (of_decide_eq_true h1))]
    rfl
theorem ez_icmp_le (ho : jx_op y pc = some (41, tgt, b, d, c)) (gt : x ≤ v → ez xs y tgt L r m Q) (gf : ¬ x ≤ v → ez xs y (pc + 3) L r m Q) : ez xs y pc L (.int v :: .int x :: r) m Q := by
  by_cases h : x ≤ v
  · refine ez_st (m' := m) (pc' := tgt) (L' := L) (st' := r) ?_ (gt h)
    unfold jx_st
    rw [ho]
    show (if 41 < 72 then jx_br2 (fun x y => decide (x ≤ y)) pc tgt b d c L (.int v :: .int x :: r) (z_S m) else none) = _
    rw [if_pos (by decide)]
    unfold jx_br2
    dsimp only
    rw [if_pos (decide_eq_true h)]
    rfl
  · refine ez_st (m' := m) (pc' := pc + 3) (L' := L) (st' := r) ?_ (gf h)
    unfold jx_st
    rw [ho]
    show (if 41 < 72 then jx_br2 (fun x y => decide (x ≤ y)) pc tgt b d c L (.int v :: .int x :: r) (z_S m) else none) = _
    rw [if_pos (by decide)]
    unfold jx_br2
    dsimp only
    rw [if_neg (fun h1 => h (of_decide_eq_true h1))]
    rfl
theorem ez_sld {N j : Nat} {xf : Nat → Int32} (ho : jx_op y pc = some (67, a, b, d, c)) (hx : x = nI j) (hj : j < N) (hN : N < 2 ^ 31) (g : ez (N, xf) y (pc + 1) L (.int (xf j) :: r) m Q) : ez (N, xf) y pc L (.int x :: .ref 4000000 :: r) m Q := by
  subst hx
  refine ez_st (m' := m) ?_ g
  unfold jx_st
  rw [ho]
  show (if 67 < 72 then jx_sld (N, xf) pc a b d c L (.int (nI j) :: .ref 4000000 :: r) (z_S m) else none) = _
  rw [if_pos (by decide)]
  unfold jx_sld
  dsimp only
  rw [if_pos ⟨rfl, nI_pos (by omega), by rw [nI_clamp (by omega)]; exact hj⟩, nI_clamp (by omega)]
  rfl
end EZ3
end
section
/-! The law's loop, out of one contract a call: the class's answer, then the reference's, the same. -/
def zo (R : zM → Prop) (xs : jx_Xs) (yc ym : Nat) (as : List Value) : Prop := ∀ m, R m → ez xs yc 0 (jx_ent yc (.ref 0 :: as)) [] m (fun r m1 => ∃ v, r = some (.int v) ∧ ez xs ym 0 (jx_ent ym (.ref 131 :: as)) [] m1 (fun r2 m2 => r2 = some (.int v) ∧ R m2))
def zov (R : zM → Prop) (xs : jx_Xs) (yc ym : Nat) (as : List Value) : Prop := ∀ m, R m → ez xs yc 0 (jx_ent yc (.ref 0 :: as)) [] m (fun r m1 => r = none ∧ ez xs ym 0 (jx_ent ym (.ref 131 :: as)) [] m1 (fun r2 m2 => r2 = none ∧ R m2))
set_option maxRecDepth 100000 in
set_option maxHeartbeats 4000000 in
theorem zl_0 {R : zM → Prop} {N i : Nat} {xf : Nat → Int32} {m : zM} {Q : Option Value → zM → Prop} (hN : N ≤ 3072) (hi : i + 6 ≤ N) (hop : zo R (N, xf) 15 16 [.int ((xf (i + 1)).toUInt32 % 65536).toInt32]) (hR : R m) (cont : ∀ m, R m → ez (N, xf) 179 527 [some (.ref 4000000), some (.ref 0), some (.ref 131), some (.int (nI i))] [] m Q) : ez (N, xf) 179 108 [some (.ref 4000000), some (.ref 0), some (.ref 131), some (.int (nI i))] [] m Q := by
  refine ez_blk 5 rfl ?_
  show ez (N, xf) 179 113 [some (.ref 4000000), some (.ref 0), some (.ref 131), some (.int (nI i))] [.int (nI i + 1), .ref 4000000, .ref 0] m Q
  refine ez_sld (j := i + 1) rfl (nI_add i 1) (by omega) (by omega) ?_
  show ez (N, xf) 179 114 [some (.ref 4000000), some (.ref 0), some (.ref 131), some (.int (nI i))] [.int (xf (i + 1)), .ref 0] m Q
  refine ez_blk 1 rfl ?_
  show ez (N, xf) 179 115 [some (.ref 4000000), some (.ref 0), some (.ref 131), some (.int (nI i))] [.int ((xf (i + 1)).toUInt32 % 65536).toInt32, .ref 0] m Q
  refine ez_call (as := [.ref 0, .int ((xf (i + 1)).toUInt32 % 65536).toInt32]) (rest := []) rfl (by decide) rfl ?_
  refine ez_mono (hop m hR) (fun r1 m1 h1 => ?_)
  obtain ⟨v, rfl, h2⟩ := h1
  show ez (N, xf) 179 118 [some (.ref 4000000), some (.ref 0), some (.ref 131), some (.int (nI i))] [.int v] m1 Q
  refine ez_blk 5 rfl ?_
  show ez (N, xf) 179 123 [some (.ref 4000000), some (.ref 0), some (.ref 131), some (.int (nI i))] [.int (nI i + 1), .ref 4000000, .ref 131, .int v] m1 Q
  refine ez_sld (j := i + 1) rfl (nI_add i 1) (by omega) (by omega) ?_
  show ez (N, xf) 179 124 [some (.ref 4000000), some (.ref 0), some (.ref 131), some (.int (nI i))] [.int (xf (i + 1)), .ref 131, .int v] m1 Q
  refine ez_blk 1 rfl ?_
  show ez (N, xf) 179 125 [some (.ref 4000000), some (.ref 0), some (.ref 131), some (.int (nI i))] [.int ((xf (i + 1)).toUInt32 % 65536).toInt32, .ref 131, .int v] m1 Q
  refine ez_call (as := [.ref 131, .int ((xf (i + 1)).toUInt32 % 65536).toInt32]) (rest := [.int v]) rfl (by decide) rfl ?_
  refine ez_mono h2 (fun r2 m2 h3 => ?_)
  obtain ⟨rfl, hR⟩ := h3
  show ez (N, xf) 179 128 [some (.ref 4000000), some (.ref 0), some (.ref 131), some (.int (nI i))] [.int v, .int v] m2 Q
  refine ez_icmp_eq rfl (fun _ => ?_) (fun h => absurd rfl h)
  exact cont m2 hR
set_option maxRecDepth 100000 in
set_option maxHeartbeats 4000000 in
theorem zl_1 {R : zM → Prop} {N i : Nat} {xf : Nat → Int32} {m : zM} {Q : Option Value → zM → Prop} (hN : N ≤ 3072) (hi : i + 6 ≤ N) (hop : zov R (N, xf) 18 19 []) (hR : R m) (cont : ∀ m, R m → ez (N, xf) 179 527 [some (.ref 4000000), some (.ref 0), some (.ref 131), some (.int (nI i))] [] m Q) : ez (N, xf) 179 133 [some (.ref 4000000), some (.ref 0), some (.ref 131), some (.int (nI i))] [] m Q := by
  refine ez_blk 1 rfl ?_
  show ez (N, xf) 179 134 [some (.ref 4000000), some (.ref 0), some (.ref 131), some (.int (nI i))] [.ref 0] m Q
  refine ez_call (as := [.ref 0]) (rest := []) rfl (by decide) rfl ?_
  refine ez_mono (hop m hR) (fun r1 m1 h1 => ?_)
  obtain ⟨rfl, h2⟩ := h1
  show ez (N, xf) 179 137 [some (.ref 4000000), some (.ref 0), some (.ref 131), some (.int (nI i))] [] m1 Q
  refine ez_blk 1 rfl ?_
  show ez (N, xf) 179 138 [some (.ref 4000000), some (.ref 0), some (.ref 131), some (.int (nI i))] [.ref 131] m1 Q
  refine ez_call (as := [.ref 131]) (rest := []) rfl (by decide) rfl ?_
  refine ez_mono h2 (fun r2 m2 h3 => ?_)
  obtain ⟨rfl, hR⟩ := h3
  show ez (N, xf) 179 141 [some (.ref 4000000), some (.ref 0), some (.ref 131), some (.int (nI i))] [] m2 Q
  refine ez_blk 1 rfl ?_
  show ez (N, xf) 179 527 [some (.ref 4000000), some (.ref 0), some (.ref 131), some (.int (nI i))] [] m2 Q
  exact cont m2 hR
set_option maxRecDepth 100000 in
set_option maxHeartbeats 4000000 in
theorem zl_2 {R : zM → Prop} {N i : Nat} {xf : Nat → Int32} {m : zM} {Q : Option Value → zM → Prop} (hN : N ≤ 3072) (hi : i + 6 ≤ N) (hop : zo R (N, xf) 21 22 []) (hR : R m) (cont : ∀ m, R m → ez (N, xf) 179 527 [some (.ref 4000000), some (.ref 0), some (.ref 131), some (.int (nI i))] [] m Q) : ez (N, xf) 179 144 [some (.ref 4000000), some (.ref 0), some (.ref 131), some (.int (nI i))] [] m Q := by
  refine ez_blk 1 rfl ?_
  show ez (N, xf) 179 145 [some (.ref 4000000), some (.ref 0), some (.ref 131), some (.int (nI i))] [.ref 0] m Q
  refine ez_call (as := [.ref 0]) (rest := []) rfl (by decide) rfl ?_
  refine ez_mono (hop m hR) (fun r1 m1 h1 => ?_)
  obtain ⟨v, rfl, h2⟩ := h1
  show ez (N, xf) 179 148 [some (.ref 4000000), some (.ref 0), some (.ref 131), some (.int (nI i))] [.int v] m1 Q
  refine ez_blk 1 rfl ?_
  show ez (N, xf) 179 149 [some (.ref 4000000), some (.ref 0), some (.ref 131), some (.int (nI i))] [.ref 131, .int v] m1 Q
  refine ez_call (as := [.ref 131]) (rest := [.int v]) rfl (by decide) rfl ?_
  refine ez_mono h2 (fun r2 m2 h3 => ?_)
  obtain ⟨rfl, hR⟩ := h3
  show ez (N, xf) 179 152 [some (.ref 4000000), some (.ref 0), some (.ref 131), some (.int (nI i))] [.int v, .int v] m2 Q
  refine ez_icmp_eq rfl (fun _ => ?_) (fun h => absurd rfl h)
  exact cont m2 hR
set_option maxRecDepth 100000 in
set_option maxHeartbeats 4000000 in
theorem zl_3 {R : zM → Prop} {N i : Nat} {xf : Nat → Int32} {m : zM} {Q : Option Value → zM → Prop} (hN : N ≤ 3072) (hi : i + 6 ≤ N) (hop : zo R (N, xf) 25 26 [.int (xf (i + 1))]) (hR : R m) (cont : ∀ m, R m → ez (N, xf) 179 527 [some (.ref 4000000), some (.ref 0), some (.ref 131), some (.int (nI i))] [] m Q) : ez (N, xf) 179 157 [some (.ref 4000000), some (.ref 0), some (.ref 131), some (.int (nI i))] [] m Q := by
  refine ez_blk 5 rfl ?_
  show ez (N, xf) 179 162 [some (.ref 4000000), some (.ref 0), some (.ref 131), some (.int (nI i))] [.int (nI i + 1), .ref 4000000, .ref 0] m Q
  refine ez_sld (j := i + 1) rfl (nI_add i 1) (by omega) (by omega) ?_
  show ez (N, xf) 179 163 [some (.ref 4000000), some (.ref 0), some (.ref 131), some (.int (nI i))] [.int (xf (i + 1)), .ref 0] m Q
  refine ez_call (as := [.ref 0, .int (xf (i + 1))]) (rest := []) rfl (by decide) rfl ?_
  refine ez_mono (hop m hR) (fun r1 m1 h1 => ?_)
  obtain ⟨v, rfl, h2⟩ := h1
  show ez (N, xf) 179 166 [some (.ref 4000000), some (.ref 0), some (.ref 131), some (.int (nI i))] [.int v] m1 Q
  refine ez_blk 5 rfl ?_
  show ez (N, xf) 179 171 [some (.ref 4000000), some (.ref 0), some (.ref 131), some (.int (nI i))] [.int (nI i + 1), .ref 4000000, .ref 131, .int v] m1 Q
  refine ez_sld (j := i + 1) rfl (nI_add i 1) (by omega) (by omega) ?_
  show ez (N, xf) 179 172 [some (.ref 4000000), some (.ref 0), some (.ref 131), some (.int (nI i))] [.int (xf (i + 1)), .ref 131, .int v] m1 Q
  refine ez_call (as := [.ref 131, .int (xf (i + 1))]) (rest := [.int v]) rfl (by decide) rfl ?_
  refine ez_mono h2 (fun r2 m2 h3 => ?_)
  obtain ⟨rfl, hR⟩ := h3
  show ez (N, xf) 179 175 [some (.ref 4000000), some (.ref 0), some (.ref 131), some (.int (nI i))] [.int v, .int v] m2 Q
  refine ez_icmp_eq rfl (fun _ => ?_) (fun h => absurd rfl h)
  exact cont m2 hR
set_option maxRecDepth 100000 in
set_option maxHeartbeats 4000000 in
theorem zl_4 {R : zM → Prop} {N i : Nat} {xf : Nat → Int32} {m : zM} {Q : Option Value → zM → Prop} (hN : N ≤ 3072) (hi : i + 6 ≤ N) (hop : zo R (N, xf) 60 72 []) (hR : R m) (cont : ∀ m, R m → ez (N, xf) 179 527 [some (.ref 4000000), some (.ref 0), some (.ref 131), some (.int (nI i))] [] m Q) : ez (N, xf) 179 180 [some (.ref 4000000), some (.ref 0), some (.ref 131), some (.int (nI i))] [] m Q := by
  refine ez_blk 1 rfl ?_
  show ez (N, xf) 179 181 [some (.ref 4000000), some (.ref 0), some (.ref 131), some (.int (nI i))] [.ref 0] m Q
  refine ez_call (as := [.ref 0]) (rest := []) rfl (by decide) rfl ?_
  refine ez_mono (hop m hR) (fun r1 m1 h1 => ?_)
  obtain ⟨v, rfl, h2⟩ := h1
  show ez (N, xf) 179 184 [some (.ref 4000000), some (.ref 0), some (.ref 131), some (.int (nI i))] [.int v] m1 Q
  refine ez_blk 1 rfl ?_
  show ez (N, xf) 179 185 [some (.ref 4000000), some (.ref 0), some (.ref 131), some (.int (nI i))] [.ref 131, .int v] m1 Q
  refine ez_call (as := [.ref 131]) (rest := [.int v]) rfl (by decide) rfl ?_
  refine ez_mono h2 (fun r2 m2 h3 => ?_)
  obtain ⟨rfl, hR⟩ := h3
  show ez (N, xf) 179 188 [some (.ref 4000000), some (.ref 0), some (.ref 131), some (.int (nI i))] [.int v, .int v] m2 Q
  refine ez_icmp_eq rfl (fun _ => ?_) (fun h => absurd rfl h)
  exact cont m2 hR
set_option maxRecDepth 100000 in
set_option maxHeartbeats 4000000 in
theorem zl_5 {R : zM → Prop} {N i : Nat} {xf : Nat → Int32} {m : zM} {Q : Option Value → zM → Prop} (hN : N ≤ 3072) (hi : i + 6 ≤ N) (hop : zo R (N, xf) 75 76 [.int (xf (i + 1)), .int (xf (i + 2))]) (hR : R m) (cont : ∀ m, R m → ez (N, xf) 179 527 [some (.ref 4000000), some (.ref 0), some (.ref 131), some (.int (nI i))] [] m Q) : ez (N, xf) 179 193 [some (.ref 4000000), some (.ref 0), some (.ref 131), some (.int (nI i))] [] m Q := by
  refine ez_blk 5 rfl ?_
  show ez (N, xf) 179 198 [some (.ref 4000000), some (.ref 0), some (.ref 131), some (.int (nI i))] [.int (nI i + 1), .ref 4000000, .ref 0] m Q
  refine ez_sld (j := i + 1) rfl (nI_add i 1) (by omega) (by omega) ?_
  show ez (N, xf) 179 199 [some (.ref 4000000), some (.ref 0), some (.ref 131), some (.int (nI i))] [.int (xf (i + 1)), .ref 0] m Q
  refine ez_blk 4 rfl ?_
  show ez (N, xf) 179 203 [some (.ref 4000000), some (.ref 0), some (.ref 131), some (.int (nI i))] [.int (nI i + 2), .ref 4000000, .int (xf (i + 1)), .ref 0] m Q
  refine ez_sld (j := i + 2) rfl (nI_add i 2) (by omega) (by omega) ?_
  show ez (N, xf) 179 204 [some (.ref 4000000), some (.ref 0), some (.ref 131), some (.int (nI i))] [.int (xf (i + 2)), .int (xf (i + 1)), .ref 0] m Q
  refine ez_call (as := [.ref 0, .int (xf (i + 1)), .int (xf (i + 2))]) (rest := []) rfl (by decide) rfl ?_
  refine ez_mono (hop m hR) (fun r1 m1 h1 => ?_)
  obtain ⟨v, rfl, h2⟩ := h1
  show ez (N, xf) 179 207 [some (.ref 4000000), some (.ref 0), some (.ref 131), some (.int (nI i))] [.int v] m1 Q
  refine ez_blk 5 rfl ?_
  show ez (N, xf) 179 212 [some (.ref 4000000), some (.ref 0), some (.ref 131), some (.int (nI i))] [.int (nI i + 1), .ref 4000000, .ref 131, .int v] m1 Q
  refine ez_sld (j := i + 1) rfl (nI_add i 1) (by omega) (by omega) ?_
  show ez (N, xf) 179 213 [some (.ref 4000000), some (.ref 0), some (.ref 131), some (.int (nI i))] [.int (xf (i + 1)), .ref 131, .int v] m1 Q
  refine ez_blk 4 rfl ?_
  show ez (N, xf) 179 217 [some (.ref 4000000), some (.ref 0), some (.ref 131), some (.int (nI i))] [.int (nI i + 2), .ref 4000000, .int (xf (i + 1)), .ref 131, .int v] m1 Q
  refine ez_sld (j := i + 2) rfl (nI_add i 2) (by omega) (by omega) ?_
  show ez (N, xf) 179 218 [some (.ref 4000000), some (.ref 0), some (.ref 131), some (.int (nI i))] [.int (xf (i + 2)), .int (xf (i + 1)), .ref 131, .int v] m1 Q
  refine ez_call (as := [.ref 131, .int (xf (i + 1)), .int (xf (i + 2))]) (rest := [.int v]) rfl (by decide) rfl ?_
  refine ez_mono h2 (fun r2 m2 h3 => ?_)
  obtain ⟨rfl, hR⟩ := h3
  show ez (N, xf) 179 221 [some (.ref 4000000), some (.ref 0), some (.ref 131), some (.int (nI i))] [.int v, .int v] m2 Q
  refine ez_icmp_eq rfl (fun _ => ?_) (fun h => absurd rfl h)
  exact cont m2 hR
set_option maxRecDepth 100000 in
set_option maxHeartbeats 4000000 in
theorem zl_6 {R : zM → Prop} {N i : Nat} {xf : Nat → Int32} {m : zM} {Q : Option Value → zM → Prop} (hN : N ≤ 3072) (hi : i + 6 ≤ N) (hop : zo R (N, xf) 77 78 [.int (xf (i + 1))]) (hR : R m) (cont : ∀ m, R m → ez (N, xf) 179 527 [some (.ref 4000000), some (.ref 0), some (.ref 131), some (.int (nI i))] [] m Q) : ez (N, xf) 179 226 [some (.ref 4000000), some (.ref 0), some (.ref 131), some (.int (nI i))] [] m Q := by
  refine ez_blk 5 rfl ?_
  show ez (N, xf) 179 231 [some (.ref 4000000), some (.ref 0), some (.ref 131), some (.int (nI i))] [.int (nI i + 1), .ref 4000000, .ref 0] m Q
  refine ez_sld (j := i + 1) rfl (nI_add i 1) (by omega) (by omega) ?_
  show ez (N, xf) 179 232 [some (.ref 4000000), some (.ref 0), some (.ref 131), some (.int (nI i))] [.int (xf (i + 1)), .ref 0] m Q
  refine ez_call (as := [.ref 0, .int (xf (i + 1))]) (rest := []) rfl (by decide) rfl ?_
  refine ez_mono (hop m hR) (fun r1 m1 h1 => ?_)
  obtain ⟨v, rfl, h2⟩ := h1
  show ez (N, xf) 179 235 [some (.ref 4000000), some (.ref 0), some (.ref 131), some (.int (nI i))] [.int v] m1 Q
  refine ez_blk 5 rfl ?_
  show ez (N, xf) 179 240 [some (.ref 4000000), some (.ref 0), some (.ref 131), some (.int (nI i))] [.int (nI i + 1), .ref 4000000, .ref 131, .int v] m1 Q
  refine ez_sld (j := i + 1) rfl (nI_add i 1) (by omega) (by omega) ?_
  show ez (N, xf) 179 241 [some (.ref 4000000), some (.ref 0), some (.ref 131), some (.int (nI i))] [.int (xf (i + 1)), .ref 131, .int v] m1 Q
  refine ez_call (as := [.ref 131, .int (xf (i + 1))]) (rest := [.int v]) rfl (by decide) rfl ?_
  refine ez_mono h2 (fun r2 m2 h3 => ?_)
  obtain ⟨rfl, hR⟩ := h3
  show ez (N, xf) 179 244 [some (.ref 4000000), some (.ref 0), some (.ref 131), some (.int (nI i))] [.int v, .int v] m2 Q
  refine ez_icmp_eq rfl (fun _ => ?_) (fun h => absurd rfl h)
  exact cont m2 hR
set_option maxRecDepth 100000 in
set_option maxHeartbeats 4000000 in
theorem zl_7 {R : zM → Prop} {N i : Nat} {xf : Nat → Int32} {m : zM} {Q : Option Value → zM → Prop} (hN : N ≤ 3072) (hi : i + 6 ≤ N) (hop0 : zo R (N, xf) 89 91 [.int 0, .int (xf (i + 2)), .int (xf (i + 3)), .int (xf (i + 4)), .int (xf (i + 5))]) (hop1 : zo R (N, xf) 89 91 [.int 1, .int (xf (i + 2)), .int (xf (i + 3)), .int (xf (i + 4)), .int (xf (i + 5))]) (hR : R m) (cont : ∀ m, R m → ez (N, xf) 179 527 [some (.ref 4000000), some (.ref 0), some (.ref 131), some (.int (nI i))] [] m Q) : ez (N, xf) 179 249 [some (.ref 4000000), some (.ref 0), some (.ref 131), some (.int (nI i))] [] m Q := by
  refine ez_blk 5 rfl ?_
  show ez (N, xf) 179 254 [some (.ref 4000000), some (.ref 0), some (.ref 131), some (.int (nI i))] [.int (nI i + 1), .ref 4000000, .ref 0] m Q
  refine ez_sld (j := i + 1) rfl (nI_add i 1) (by omega) (by omega) ?_
  show ez (N, xf) 179 255 [some (.ref 4000000), some (.ref 0), some (.ref 131), some (.int (nI i))] [.int (xf (i + 1)), .ref 0] m Q
  refine ez_if_eq rfl (fun hz => ?_) (fun hz => ?_)
  · show ez (N, xf) 179 262 [some (.ref 4000000), some (.ref 0), some (.ref 131), some (.int (nI i))] [.ref 0] m Q
    refine ez_blk 5 rfl ?_
    show ez (N, xf) 179 267 [some (.ref 4000000), some (.ref 0), some (.ref 131), some (.int (nI i))] [.int (nI i + 2), .ref 4000000, .int 0, .ref 0] m Q
    refine ez_sld (j := i + 2) rfl (nI_add i 2) (by omega) (by omega) ?_
    show ez (N, xf) 179 268 [some (.ref 4000000), some (.ref 0), some (.ref 131), some (.int (nI i))] [.int (xf (i + 2)), .int 0, .ref 0] m Q
    refine ez_blk 4 rfl ?_
    show ez (N, xf) 179 272 [some (.ref 4000000), some (.ref 0), some (.ref 131), some (.int (nI i))] [.int (nI i + 3), .ref 4000000, .int (xf (i + 2)), .int 0, .ref 0] m Q
    refine ez_sld (j := i + 3) rfl (nI_add i 3) (by omega) (by omega) ?_
    show ez (N, xf) 179 273 [some (.ref 4000000), some (.ref 0), some (.ref 131), some (.int (nI i))] [.int (xf (i + 3)), .int (xf (i + 2)), .int 0, .ref 0] m Q
    refine ez_blk 4 rfl ?_
    show ez (N, xf) 179 277 [some (.ref 4000000), some (.ref 0), some (.ref 131), some (.int (nI i))] [.int (nI i + 4), .ref 4000000, .int (xf (i + 3)), .int (xf (i + 2)), .int 0, .ref 0] m Q
    refine ez_sld (j := i + 4) rfl (nI_add i 4) (by omega) (by omega) ?_
    show ez (N, xf) 179 278 [some (.ref 4000000), some (.ref 0), some (.ref 131), some (.int (nI i))] [.int (xf (i + 4)), .int (xf (i + 3)), .int (xf (i + 2)), .int 0, .ref 0] m Q
    refine ez_blk 4 rfl ?_
    show ez (N, xf) 179 282 [some (.ref 4000000), some (.ref 0), some (.ref 131), some (.int (nI i))] [.int (nI i + 5), .ref 4000000, .int (xf (i + 4)), .int (xf (i + 3)), .int (xf (i + 2)), .int 0, .ref 0] m Q
    refine ez_sld (j := i + 5) rfl (nI_add i 5) (by omega) (by omega) ?_
    show ez (N, xf) 179 283 [some (.ref 4000000), some (.ref 0), some (.ref 131), some (.int (nI i))] [.int (xf (i + 5)), .int (xf (i + 4)), .int (xf (i + 3)), .int (xf (i + 2)), .int 0, .ref 0] m Q
    refine ez_call (as := [.ref 0, .int 0, .int (xf (i + 2)), .int (xf (i + 3)), .int (xf (i + 4)), .int (xf (i + 5))]) (rest := []) rfl (by decide) rfl ?_
    refine ez_mono (hop0 m hR) (fun r1 m1 h1 => ?_)
    obtain ⟨v, rfl, h2⟩ := h1
    show ez (N, xf) 179 286 [some (.ref 4000000), some (.ref 0), some (.ref 131), some (.int (nI i))] [.int v] m1 Q
    refine ez_blk 5 rfl ?_
    show ez (N, xf) 179 291 [some (.ref 4000000), some (.ref 0), some (.ref 131), some (.int (nI i))] [.int (nI i + 1), .ref 4000000, .ref 131, .int v] m1 Q
    refine ez_sld (j := i + 1) rfl (nI_add i 1) (by omega) (by omega) ?_
    show ez (N, xf) 179 292 [some (.ref 4000000), some (.ref 0), some (.ref 131), some (.int (nI i))] [.int (xf (i + 1)), .ref 131, .int v] m1 Q
    refine ez_if_eq rfl (fun _ => ?_) (fun h => absurd hz h)
    show ez (N, xf) 179 299 [some (.ref 4000000), some (.ref 0), some (.ref 131), some (.int (nI i))] [.ref 131, .int v] m1 Q
    refine ez_blk 5 rfl ?_
    show ez (N, xf) 179 304 [some (.ref 4000000), some (.ref 0), some (.ref 131), some (.int (nI i))] [.int (nI i + 2), .ref 4000000, .int 0, .ref 131, .int v] m1 Q
    refine ez_sld (j := i + 2) rfl (nI_add i 2) (by omega) (by omega) ?_
    show ez (N, xf) 179 305 [some (.ref 4000000), some (.ref 0), some (.ref 131), some (.int (nI i))] [.int (xf (i + 2)), .int 0, .ref 131, .int v] m1 Q
    refine ez_blk 4 rfl ?_
    show ez (N, xf) 179 309 [some (.ref 4000000), some (.ref 0), some (.ref 131), some (.int (nI i))] [.int (nI i + 3), .ref 4000000, .int (xf (i + 2)), .int 0, .ref 131, .int v] m1 Q
    refine ez_sld (j := i + 3) rfl (nI_add i 3) (by omega) (by omega) ?_
    show ez (N, xf) 179 310 [some (.ref 4000000), some (.ref 0), some (.ref 131), some (.int (nI i))] [.int (xf (i + 3)), .int (xf (i + 2)), .int 0, .ref 131, .int v] m1 Q
    refine ez_blk 4 rfl ?_
    show ez (N, xf) 179 314 [some (.ref 4000000), some (.ref 0), some (.ref 131), some (.int (nI i))] [.int (nI i + 4), .ref 4000000, .int (xf (i + 3)), .int (xf (i + 2)), .int 0, .ref 131, .int v] m1 Q
    refine ez_sld (j := i + 4) rfl (nI_add i 4) (by omega) (by omega) ?_
    show ez (N, xf) 179 315 [some (.ref 4000000), some (.ref 0), some (.ref 131), some (.int (nI i))] [.int (xf (i + 4)), .int (xf (i + 3)), .int (xf (i + 2)), .int 0, .ref 131, .int v] m1 Q
    refine ez_blk 4 rfl ?_
    show ez (N, xf) 179 319 [some (.ref 4000000), some (.ref 0), some (.ref 131), some (.int (nI i))] [.int (nI i + 5), .ref 4000000, .int (xf (i + 4)), .int (xf (i + 3)), .int (xf (i + 2)), .int 0, .ref 131, .int v] m1 Q
    refine ez_sld (j := i + 5) rfl (nI_add i 5) (by omega) (by omega) ?_
    show ez (N, xf) 179 320 [some (.ref 4000000), some (.ref 0), some (.ref 131), some (.int (nI i))] [.int (xf (i + 5)), .int (xf (i + 4)), .int (xf (i + 3)), .int (xf (i + 2)), .int 0, .ref 131, .int v] m1 Q
    refine ez_call (as := [.ref 131, .int 0, .int (xf (i + 2)), .int (xf (i + 3)), .int (xf (i + 4)), .int (xf (i + 5))]) (rest := [.int v]) rfl (by decide) rfl ?_
    refine ez_mono h2 (fun r2 m2 h3 => ?_)
    obtain ⟨rfl, hR⟩ := h3
    show ez (N, xf) 179 323 [some (.ref 4000000), some (.ref 0), some (.ref 131), some (.int (nI i))] [.int v, .int v] m2 Q
    refine ez_icmp_eq rfl (fun _ => ?_) (fun h => absurd rfl h)
    exact cont m2 hR
  · show ez (N, xf) 179 258 [some (.ref 4000000), some (.ref 0), some (.ref 131), some (.int (nI i))] [.ref 0] m Q
    refine ez_blk 6 rfl ?_
    show ez (N, xf) 179 267 [some (.ref 4000000), some (.ref 0), some (.ref 131), some (.int (nI i))] [.int (nI i + 2), .ref 4000000, .int 1, .ref 0] m Q
    refine ez_sld (j := i + 2) rfl (nI_add i 2) (by omega) (by omega) ?_
    show ez (N, xf) 179 268 [some (.ref 4000000), some (.ref 0), some (.ref 131), some (.int (nI i))] [.int (xf (i + 2)), .int 1, .ref 0] m Q
    refine ez_blk 4 rfl ?_
    show ez (N, xf) 179 272 [some (.ref 4000000), some (.ref 0), some (.ref 131), some (.int (nI i))] [.int (nI i + 3), .ref 4000000, .int (xf (i + 2)), .int 1, .ref 0] m Q
    refine ez_sld (j := i + 3) rfl (nI_add i 3) (by omega) (by omega) ?_
    show ez (N, xf) 179 273 [some (.ref 4000000), some (.ref 0), some (.ref 131), some (.int (nI i))] [.int (xf (i + 3)), .int (xf (i + 2)), .int 1, .ref 0] m Q
    refine ez_blk 4 rfl ?_
    show ez (N, xf) 179 277 [some (.ref 4000000), some (.ref 0), some (.ref 131), some (.int (nI i))] [.int (nI i + 4), .ref 4000000, .int (xf (i + 3)), .int (xf (i + 2)), .int 1, .ref 0] m Q
    refine ez_sld (j := i + 4) rfl (nI_add i 4) (by omega) (by omega) ?_
    show ez (N, xf) 179 278 [some (.ref 4000000), some (.ref 0), some (.ref 131), some (.int (nI i))] [.int (xf (i + 4)), .int (xf (i + 3)), .int (xf (i + 2)), .int 1, .ref 0] m Q
    refine ez_blk 4 rfl ?_
    show ez (N, xf) 179 282 [some (.ref 4000000), some (.ref 0), some (.ref 131), some (.int (nI i))] [.int (nI i + 5), .ref 4000000, .int (xf (i + 4)), .int (xf (i + 3)), .int (xf (i + 2)), .int 1, .ref 0] m Q
    refine ez_sld (j := i + 5) rfl (nI_add i 5) (by omega) (by omega) ?_
    show ez (N, xf) 179 283 [some (.ref 4000000), some (.ref 0), some (.ref 131), some (.int (nI i))] [.int (xf (i + 5)), .int (xf (i + 4)), .int (xf (i + 3)), .int (xf (i + 2)), .int 1, .ref 0] m Q
    refine ez_call (as := [.ref 0, .int 1, .int (xf (i + 2)), .int (xf (i + 3)), .int (xf (i + 4)), .int (xf (i + 5))]) (rest := []) rfl (by decide) rfl ?_
    refine ez_mono (hop1 m hR) (fun r1 m1 h1 => ?_)
    obtain ⟨v, rfl, h2⟩ := h1
    show ez (N, xf) 179 286 [some (.ref 4000000), some (.ref 0), some (.ref 131), some (.int (nI i))] [.int v] m1 Q
    refine ez_blk 5 rfl ?_
    show ez (N, xf) 179 291 [some (.ref 4000000), some (.ref 0), some (.ref 131), some (.int (nI i))] [.int (nI i + 1), .ref 4000000, .ref 131, .int v] m1 Q
    refine ez_sld (j := i + 1) rfl (nI_add i 1) (by omega) (by omega) ?_
    show ez (N, xf) 179 292 [some (.ref 4000000), some (.ref 0), some (.ref 131), some (.int (nI i))] [.int (xf (i + 1)), .ref 131, .int v] m1 Q
    refine ez_if_eq rfl (fun h => absurd h hz) (fun _ => ?_)
    show ez (N, xf) 179 295 [some (.ref 4000000), some (.ref 0), some (.ref 131), some (.int (nI i))] [.ref 131, .int v] m1 Q
    refine ez_blk 6 rfl ?_
    show ez (N, xf) 179 304 [some (.ref 4000000), some (.ref 0), some (.ref 131), some (.int (nI i))] [.int (nI i + 2), .ref 4000000, .int 1, .ref 131, .int v] m1 Q
    refine ez_sld (j := i + 2) rfl (nI_add i 2) (by omega) (by omega) ?_
    show ez (N, xf) 179 305 [some (.ref 4000000), some (.ref 0), some (.ref 131), some (.int (nI i))] [.int (xf (i + 2)), .int 1, .ref 131, .int v] m1 Q
    refine ez_blk 4 rfl ?_
    show ez (N, xf) 179 309 [some (.ref 4000000), some (.ref 0), some (.ref 131), some (.int (nI i))] [.int (nI i + 3), .ref 4000000, .int (xf (i + 2)), .int 1, .ref 131, .int v] m1 Q
    refine ez_sld (j := i + 3) rfl (nI_add i 3) (by omega) (by omega) ?_
    show ez (N, xf) 179 310 [some (.ref 4000000), some (.ref 0), some (.ref 131), some (.int (nI i))] [.int (xf (i + 3)), .int (xf (i + 2)), .int 1, .ref 131, .int v] m1 Q
    refine ez_blk 4 rfl ?_
    show ez (N, xf) 179 314 [some (.ref 4000000), some (.ref 0), some (.ref 131), some (.int (nI i))] [.int (nI i + 4), .ref 4000000, .int (xf (i + 3)), .int (xf (i + 2)), .int 1, .ref 131, .int v] m1 Q
    refine ez_sld (j := i + 4) rfl (nI_add i 4) (by omega) (by omega) ?_
    show ez (N, xf) 179 315 [some (.ref 4000000), some (.ref 0), some (.ref 131), some (.int (nI i))] [.int (xf (i + 4)), .int (xf (i + 3)), .int (xf (i + 2)), .int 1, .ref 131, .int v] m1 Q
    refine ez_blk 4 rfl ?_
    show ez (N, xf) 179 319 [some (.ref 4000000), some (.ref 0), some (.ref 131), some (.int (nI i))] [.int (nI i + 5), .ref 4000000, .int (xf (i + 4)), .int (xf (i + 3)), .int (xf (i + 2)), .int 1, .ref 131, .int v] m1 Q
    refine ez_sld (j := i + 5) rfl (nI_add i 5) (by omega) (by omega) ?_
    show ez (N, xf) 179 320 [some (.ref 4000000), some (.ref 0), some (.ref 131), some (.int (nI i))] [.int (xf (i + 5)), .int (xf (i + 4)), .int (xf (i + 3)), .int (xf (i + 2)), .int 1, .ref 131, .int v] m1 Q
    refine ez_call (as := [.ref 131, .int 1, .int (xf (i + 2)), .int (xf (i + 3)), .int (xf (i + 4)), .int (xf (i + 5))]) (rest := [.int v]) rfl (by decide) rfl ?_
    refine ez_mono h2 (fun r2 m2 h3 => ?_)
    obtain ⟨rfl, hR⟩ := h3
    show ez (N, xf) 179 323 [some (.ref 4000000), some (.ref 0), some (.ref 131), some (.int (nI i))] [.int v, .int v] m2 Q
    refine ez_icmp_eq rfl (fun _ => ?_) (fun h => absurd rfl h)
    exact cont m2 hR
set_option maxRecDepth 100000 in
set_option maxHeartbeats 4000000 in
theorem zl_8 {R : zM → Prop} {N i : Nat} {xf : Nat → Int32} {m : zM} {Q : Option Value → zM → Prop} (hN : N ≤ 3072) (hi : i + 6 ≤ N) (hop : zo R (N, xf) 99 104 [.int (xf (i + 1)), .int (xf (i + 2)), .int (xf (i + 3)), .int (xf (i + 4))]) (hR : R m) (cont : ∀ m, R m → ez (N, xf) 179 527 [some (.ref 4000000), some (.ref 0), some (.ref 131), some (.int (nI i))] [] m Q) : ez (N, xf) 179 328 [some (.ref 4000000), some (.ref 0), some (.ref 131), some (.int (nI i))] [] m Q := by
  refine ez_blk 5 rfl ?_
  show ez (N, xf) 179 333 [some (.ref 4000000), some (.ref 0), some (.ref 131), some (.int (nI i))] [.int (nI i + 1), .ref 4000000, .ref 0] m Q
  refine ez_sld (j := i + 1) rfl (nI_add i 1) (by omega) (by omega) ?_
  show ez (N, xf) 179 334 [some (.ref 4000000), some (.ref 0), some (.ref 131), some (.int (nI i))] [.int (xf (i + 1)), .ref 0] m Q
  refine ez_blk 4 rfl ?_
  show ez (N, xf) 179 338 [some (.ref 4000000), some (.ref 0), some (.ref 131), some (.int (nI i))] [.int (nI i + 2), .ref 4000000, .int (xf (i + 1)), .ref 0] m Q
  refine ez_sld (j := i + 2) rfl (nI_add i 2) (by omega) (by omega) ?_
  show ez (N, xf) 179 339 [some (.ref 4000000), some (.ref 0), some (.ref 131), some (.int (nI i))] [.int (xf (i + 2)), .int (xf (i + 1)), .ref 0] m Q
  refine ez_blk 4 rfl ?_
  show ez (N, xf) 179 343 [some (.ref 4000000), some (.ref 0), some (.ref 131), some (.int (nI i))] [.int (nI i + 3), .ref 4000000, .int (xf (i + 2)), .int (xf (i + 1)), .ref 0] m Q
  refine ez_sld (j := i + 3) rfl (nI_add i 3) (by omega) (by omega) ?_
  show ez (N, xf) 179 344 [some (.ref 4000000), some (.ref 0), some (.ref 131), some (.int (nI i))] [.int (xf (i + 3)), .int (xf (i + 2)), .int (xf (i + 1)), .ref 0] m Q
  refine ez_blk 4 rfl ?_
  show ez (N, xf) 179 348 [some (.ref 4000000), some (.ref 0), some (.ref 131), some (.int (nI i))] [.int (nI i + 4), .ref 4000000, .int (xf (i + 3)), .int (xf (i + 2)), .int (xf (i + 1)), .ref 0] m Q
  refine ez_sld (j := i + 4) rfl (nI_add i 4) (by omega) (by omega) ?_
  show ez (N, xf) 179 349 [some (.ref 4000000), some (.ref 0), some (.ref 131), some (.int (nI i))] [.int (xf (i + 4)), .int (xf (i + 3)), .int (xf (i + 2)), .int (xf (i + 1)), .ref 0] m Q
  refine ez_call (as := [.ref 0, .int (xf (i + 1)), .int (xf (i + 2)), .int (xf (i + 3)), .int (xf (i + 4))]) (rest := []) rfl (by decide) rfl ?_
  refine ez_mono (hop m hR) (fun r1 m1 h1 => ?_)
  obtain ⟨v, rfl, h2⟩ := h1
  show ez (N, xf) 179 352 [some (.ref 4000000), some (.ref 0), some (.ref 131), some (.int (nI i))] [.int v] m1 Q
  refine ez_blk 5 rfl ?_
  show ez (N, xf) 179 357 [some (.ref 4000000), some (.ref 0), some (.ref 131), some (.int (nI i))] [.int (nI i + 1), .ref 4000000, .ref 131, .int v] m1 Q
  refine ez_sld (j := i + 1) rfl (nI_add i 1) (by omega) (by omega) ?_
  show ez (N, xf) 179 358 [some (.ref 4000000), some (.ref 0), some (.ref 131), some (.int (nI i))] [.int (xf (i + 1)), .ref 131, .int v] m1 Q
  refine ez_blk 4 rfl ?_
  show ez (N, xf) 179 362 [some (.ref 4000000), some (.ref 0), some (.ref 131), some (.int (nI i))] [.int (nI i + 2), .ref 4000000, .int (xf (i + 1)), .ref 131, .int v] m1 Q
  refine ez_sld (j := i + 2) rfl (nI_add i 2) (by omega) (by omega) ?_
  show ez (N, xf) 179 363 [some (.ref 4000000), some (.ref 0), some (.ref 131), some (.int (nI i))] [.int (xf (i + 2)), .int (xf (i + 1)), .ref 131, .int v] m1 Q
  refine ez_blk 4 rfl ?_
  show ez (N, xf) 179 367 [some (.ref 4000000), some (.ref 0), some (.ref 131), some (.int (nI i))] [.int (nI i + 3), .ref 4000000, .int (xf (i + 2)), .int (xf (i + 1)), .ref 131, .int v] m1 Q
  refine ez_sld (j := i + 3) rfl (nI_add i 3) (by omega) (by omega) ?_
  show ez (N, xf) 179 368 [some (.ref 4000000), some (.ref 0), some (.ref 131), some (.int (nI i))] [.int (xf (i + 3)), .int (xf (i + 2)), .int (xf (i + 1)), .ref 131, .int v] m1 Q
  refine ez_blk 4 rfl ?_
  show ez (N, xf) 179 372 [some (.ref 4000000), some (.ref 0), some (.ref 131), some (.int (nI i))] [.int (nI i + 4), .ref 4000000, .int (xf (i + 3)), .int (xf (i + 2)), .int (xf (i + 1)), .ref 131, .int v] m1 Q
  refine ez_sld (j := i + 4) rfl (nI_add i 4) (by omega) (by omega) ?_
  show ez (N, xf) 179 373 [some (.ref 4000000), some (.ref 0), some (.ref 131), some (.int (nI i))] [.int (xf (i + 4)), .int (xf (i + 3)), .int (xf (i + 2)), .int (xf (i + 1)), .ref 131, .int v] m1 Q
  refine ez_call (as := [.ref 131, .int (xf (i + 1)), .int (xf (i + 2)), .int (xf (i + 3)), .int (xf (i + 4))]) (rest := [.int v]) rfl (by decide) rfl ?_
  refine ez_mono h2 (fun r2 m2 h3 => ?_)
  obtain ⟨rfl, hR⟩ := h3
  show ez (N, xf) 179 376 [some (.ref 4000000), some (.ref 0), some (.ref 131), some (.int (nI i))] [.int v, .int v] m2 Q
  refine ez_icmp_eq rfl (fun _ => ?_) (fun h => absurd rfl h)
  exact cont m2 hR
set_option maxRecDepth 100000 in
set_option maxHeartbeats 4000000 in
theorem zl_9 {R : zM → Prop} {N i : Nat} {xf : Nat → Int32} {m : zM} {Q : Option Value → zM → Prop} (hN : N ≤ 3072) (hi : i + 6 ≤ N) (hop : zo R (N, xf) 107 108 [.int (xf (i + 1)), .int (xf (i + 2)), .int (xf (i + 3)), .int (xf (i + 4))]) (hR : R m) (cont : ∀ m, R m → ez (N, xf) 179 527 [some (.ref 4000000), some (.ref 0), some (.ref 131), some (.int (nI i))] [] m Q) : ez (N, xf) 179 381 [some (.ref 4000000), some (.ref 0), some (.ref 131), some (.int (nI i))] [] m Q := by
  refine ez_blk 5 rfl ?_
  show ez (N, xf) 179 386 [some (.ref 4000000), some (.ref 0), some (.ref 131), some (.int (nI i))] [.int (nI i + 1), .ref 4000000, .ref 0] m Q
  refine ez_sld (j := i + 1) rfl (nI_add i 1) (by omega) (by omega) ?_
  show ez (N, xf) 179 387 [some (.ref 4000000), some (.ref 0), some (.ref 131), some (.int (nI i))] [.int (xf (i + 1)), .ref 0] m Q
  refine ez_blk 4 rfl ?_
  show ez (N, xf) 179 391 [some (.ref 4000000), some (.ref 0), some (.ref 131), some (.int (nI i))] [.int (nI i + 2), .ref 4000000, .int (xf (i + 1)), .ref 0] m Q
  refine ez_sld (j := i + 2) rfl (nI_add i 2) (by omega) (by omega) ?_
  show ez (N, xf) 179 392 [some (.ref 4000000), some (.ref 0), some (.ref 131), some (.int (nI i))] [.int (xf (i + 2)), .int (xf (i + 1)), .ref 0] m Q
  refine ez_blk 4 rfl ?_
  show ez (N, xf) 179 396 [some (.ref 4000000), some (.ref 0), some (.ref 131), some (.int (nI i))] [.int (nI i + 3), .ref 4000000, .int (xf (i + 2)), .int (xf (i + 1)), .ref 0] m Q
  refine ez_sld (j := i + 3) rfl (nI_add i 3) (by omega) (by omega) ?_
  show ez (N, xf) 179 397 [some (.ref 4000000), some (.ref 0), some (.ref 131), some (.int (nI i))] [.int (xf (i + 3)), .int (xf (i + 2)), .int (xf (i + 1)), .ref 0] m Q
  refine ez_blk 4 rfl ?_
  show ez (N, xf) 179 401 [some (.ref 4000000), some (.ref 0), some (.ref 131), some (.int (nI i))] [.int (nI i + 4), .ref 4000000, .int (xf (i + 3)), .int (xf (i + 2)), .int (xf (i + 1)), .ref 0] m Q
  refine ez_sld (j := i + 4) rfl (nI_add i 4) (by omega) (by omega) ?_
  show ez (N, xf) 179 402 [some (.ref 4000000), some (.ref 0), some (.ref 131), some (.int (nI i))] [.int (xf (i + 4)), .int (xf (i + 3)), .int (xf (i + 2)), .int (xf (i + 1)), .ref 0] m Q
  refine ez_call (as := [.ref 0, .int (xf (i + 1)), .int (xf (i + 2)), .int (xf (i + 3)), .int (xf (i + 4))]) (rest := []) rfl (by decide) rfl ?_
  refine ez_mono (hop m hR) (fun r1 m1 h1 => ?_)
  obtain ⟨v, rfl, h2⟩ := h1
  show ez (N, xf) 179 405 [some (.ref 4000000), some (.ref 0), some (.ref 131), some (.int (nI i))] [.int v] m1 Q
  refine ez_blk 5 rfl ?_
  show ez (N, xf) 179 410 [some (.ref 4000000), some (.ref 0), some (.ref 131), some (.int (nI i))] [.int (nI i + 1), .ref 4000000, .ref 131, .int v] m1 Q
  refine ez_sld (j := i + 1) rfl (nI_add i 1) (by omega) (by omega) ?_
  show ez (N, xf) 179 411 [some (.ref 4000000), some (.ref 0), some (.ref 131), some (.int (nI i))] [.int (xf (i + 1)), .ref 131, .int v] m1 Q
  refine ez_blk 4 rfl ?_
  show ez (N, xf) 179 415 [some (.ref 4000000), some (.ref 0), some (.ref 131), some (.int (nI i))] [.int (nI i + 2), .ref 4000000, .int (xf (i + 1)), .ref 131, .int v] m1 Q
  refine ez_sld (j := i + 2) rfl (nI_add i 2) (by omega) (by omega) ?_
  show ez (N, xf) 179 416 [some (.ref 4000000), some (.ref 0), some (.ref 131), some (.int (nI i))] [.int (xf (i + 2)), .int (xf (i + 1)), .ref 131, .int v] m1 Q
  refine ez_blk 4 rfl ?_
  show ez (N, xf) 179 420 [some (.ref 4000000), some (.ref 0), some (.ref 131), some (.int (nI i))] [.int (nI i + 3), .ref 4000000, .int (xf (i + 2)), .int (xf (i + 1)), .ref 131, .int v] m1 Q
  refine ez_sld (j := i + 3) rfl (nI_add i 3) (by omega) (by omega) ?_
  show ez (N, xf) 179 421 [some (.ref 4000000), some (.ref 0), some (.ref 131), some (.int (nI i))] [.int (xf (i + 3)), .int (xf (i + 2)), .int (xf (i + 1)), .ref 131, .int v] m1 Q
  refine ez_blk 4 rfl ?_
  show ez (N, xf) 179 425 [some (.ref 4000000), some (.ref 0), some (.ref 131), some (.int (nI i))] [.int (nI i + 4), .ref 4000000, .int (xf (i + 3)), .int (xf (i + 2)), .int (xf (i + 1)), .ref 131, .int v] m1 Q
  refine ez_sld (j := i + 4) rfl (nI_add i 4) (by omega) (by omega) ?_
  show ez (N, xf) 179 426 [some (.ref 4000000), some (.ref 0), some (.ref 131), some (.int (nI i))] [.int (xf (i + 4)), .int (xf (i + 3)), .int (xf (i + 2)), .int (xf (i + 1)), .ref 131, .int v] m1 Q
  refine ez_call (as := [.ref 131, .int (xf (i + 1)), .int (xf (i + 2)), .int (xf (i + 3)), .int (xf (i + 4))]) (rest := [.int v]) rfl (by decide) rfl ?_
  refine ez_mono h2 (fun r2 m2 h3 => ?_)
  obtain ⟨rfl, hR⟩ := h3
  show ez (N, xf) 179 429 [some (.ref 4000000), some (.ref 0), some (.ref 131), some (.int (nI i))] [.int v, .int v] m2 Q
  refine ez_icmp_eq rfl (fun _ => ?_) (fun h => absurd rfl h)
  exact cont m2 hR
set_option maxRecDepth 100000 in
set_option maxHeartbeats 4000000 in
theorem zl_10 {R : zM → Prop} {N i : Nat} {xf : Nat → Int32} {m : zM} {Q : Option Value → zM → Prop} (hN : N ≤ 3072) (hi : i + 6 ≤ N) (hop : zov R (N, xf) 110 111 []) (hR : R m) (cont : ∀ m, R m → ez (N, xf) 179 527 [some (.ref 4000000), some (.ref 0), some (.ref 131), some (.int (nI i))] [] m Q) : ez (N, xf) 179 434 [some (.ref 4000000), some (.ref 0), some (.ref 131), some (.int (nI i))] [] m Q := by
  refine ez_blk 1 rfl ?_
  show ez (N, xf) 179 435 [some (.ref 4000000), some (.ref 0), some (.ref 131), some (.int (nI i))] [.ref 0] m Q
  refine ez_call (as := [.ref 0]) (rest := []) rfl (by decide) rfl ?_
  refine ez_mono (hop m hR) (fun r1 m1 h1 => ?_)
  obtain ⟨rfl, h2⟩ := h1
  show ez (N, xf) 179 438 [some (.ref 4000000), some (.ref 0), some (.ref 131), some (.int (nI i))] [] m1 Q
  refine ez_blk 1 rfl ?_
  show ez (N, xf) 179 439 [some (.ref 4000000), some (.ref 0), some (.ref 131), some (.int (nI i))] [.ref 131] m1 Q
  refine ez_call (as := [.ref 131]) (rest := []) rfl (by decide) rfl ?_
  refine ez_mono h2 (fun r2 m2 h3 => ?_)
  obtain ⟨rfl, hR⟩ := h3
  show ez (N, xf) 179 442 [some (.ref 4000000), some (.ref 0), some (.ref 131), some (.int (nI i))] [] m2 Q
  refine ez_blk 1 rfl ?_
  show ez (N, xf) 179 527 [some (.ref 4000000), some (.ref 0), some (.ref 131), some (.int (nI i))] [] m2 Q
  exact cont m2 hR
set_option maxRecDepth 100000 in
set_option maxHeartbeats 4000000 in
theorem zl_11 {R : zM → Prop} {N i : Nat} {xf : Nat → Int32} {m : zM} {Q : Option Value → zM → Prop} (hN : N ≤ 3072) (hi : i + 6 ≤ N) (hop : zo R (N, xf) 143 153 []) (hR : R m) (cont : ∀ m, R m → ez (N, xf) 179 527 [some (.ref 4000000), some (.ref 0), some (.ref 131), some (.int (nI i))] [] m Q) : ez (N, xf) 179 445 [some (.ref 4000000), some (.ref 0), some (.ref 131), some (.int (nI i))] [] m Q := by
  refine ez_blk 1 rfl ?_
  show ez (N, xf) 179 446 [some (.ref 4000000), some (.ref 0), some (.ref 131), some (.int (nI i))] [.ref 0] m Q
  refine ez_call (as := [.ref 0]) (rest := []) rfl (by decide) rfl ?_
  refine ez_mono (hop m hR) (fun r1 m1 h1 => ?_)
  obtain ⟨v, rfl, h2⟩ := h1
  show ez (N, xf) 179 449 [some (.ref 4000000), some (.ref 0), some (.ref 131), some (.int (nI i))] [.int v] m1 Q
  refine ez_blk 1 rfl ?_
  show ez (N, xf) 179 450 [some (.ref 4000000), some (.ref 0), some (.ref 131), some (.int (nI i))] [.ref 131, .int v] m1 Q
  refine ez_call (as := [.ref 131]) (rest := [.int v]) rfl (by decide) rfl ?_
  refine ez_mono h2 (fun r2 m2 h3 => ?_)
  obtain ⟨rfl, hR⟩ := h3
  show ez (N, xf) 179 453 [some (.ref 4000000), some (.ref 0), some (.ref 131), some (.int (nI i))] [.int v, .int v] m2 Q
  refine ez_icmp_eq rfl (fun _ => ?_) (fun h => absurd rfl h)
  exact cont m2 hR
set_option maxRecDepth 100000 in
set_option maxHeartbeats 4000000 in
theorem zl_12 {R : zM → Prop} {N i : Nat} {xf : Nat → Int32} {m : zM} {Q : Option Value → zM → Prop} (hN : N ≤ 3072) (hi : i + 6 ≤ N) (hop : zo R (N, xf) 155 156 [.int (xf (i + 1))]) (hR : R m) (cont : ∀ m, R m → ez (N, xf) 179 527 [some (.ref 4000000), some (.ref 0), some (.ref 131), some (.int (nI i))] [] m Q) : ez (N, xf) 179 458 [some (.ref 4000000), some (.ref 0), some (.ref 131), some (.int (nI i))] [] m Q := by
  refine ez_blk 5 rfl ?_
  show ez (N, xf) 179 463 [some (.ref 4000000), some (.ref 0), some (.ref 131), some (.int (nI i))] [.int (nI i + 1), .ref 4000000, .ref 0] m Q
  refine ez_sld (j := i + 1) rfl (nI_add i 1) (by omega) (by omega) ?_
  show ez (N, xf) 179 464 [some (.ref 4000000), some (.ref 0), some (.ref 131), some (.int (nI i))] [.int (xf (i + 1)), .ref 0] m Q
  refine ez_call (as := [.ref 0, .int (xf (i + 1))]) (rest := []) rfl (by decide) rfl ?_
  refine ez_mono (hop m hR) (fun r1 m1 h1 => ?_)
  obtain ⟨v, rfl, h2⟩ := h1
  show ez (N, xf) 179 467 [some (.ref 4000000), some (.ref 0), some (.ref 131), some (.int (nI i))] [.int v] m1 Q
  refine ez_blk 5 rfl ?_
  show ez (N, xf) 179 472 [some (.ref 4000000), some (.ref 0), some (.ref 131), some (.int (nI i))] [.int (nI i + 1), .ref 4000000, .ref 131, .int v] m1 Q
  refine ez_sld (j := i + 1) rfl (nI_add i 1) (by omega) (by omega) ?_
  show ez (N, xf) 179 473 [some (.ref 4000000), some (.ref 0), some (.ref 131), some (.int (nI i))] [.int (xf (i + 1)), .ref 131, .int v] m1 Q
  refine ez_call (as := [.ref 131, .int (xf (i + 1))]) (rest := [.int v]) rfl (by decide) rfl ?_
  refine ez_mono h2 (fun r2 m2 h3 => ?_)
  obtain ⟨rfl, hR⟩ := h3
  show ez (N, xf) 179 476 [some (.ref 4000000), some (.ref 0), some (.ref 131), some (.int (nI i))] [.int v, .int v] m2 Q
  refine ez_icmp_eq rfl (fun _ => ?_) (fun h => absurd rfl h)
  exact cont m2 hR
set_option maxRecDepth 100000 in
set_option maxHeartbeats 4000000 in
theorem zl_13 {R : zM → Prop} {N i : Nat} {xf : Nat → Int32} {m : zM} {Q : Option Value → zM → Prop} (hN : N ≤ 3072) (hi : i + 6 ≤ N) (hop : zo R (N, xf) 158 161 [.int (xf (i + 1)), .int (xf (i + 2))]) (hR : R m) (cont : ∀ m, R m → ez (N, xf) 179 527 [some (.ref 4000000), some (.ref 0), some (.ref 131), some (.int (nI i))] [] m Q) : ez (N, xf) 179 481 [some (.ref 4000000), some (.ref 0), some (.ref 131), some (.int (nI i))] [] m Q := by
  refine ez_blk 5 rfl ?_
  show ez (N, xf) 179 486 [some (.ref 4000000), some (.ref 0), some (.ref 131), some (.int (nI i))] [.int (nI i + 1), .ref 4000000, .ref 0] m Q
  refine ez_sld (j := i + 1) rfl (nI_add i 1) (by omega) (by omega) ?_
  show ez (N, xf) 179 487 [some (.ref 4000000), some (.ref 0), some (.ref 131), some (.int (nI i))] [.int (xf (i + 1)), .ref 0] m Q
  refine ez_blk 4 rfl ?_
  show ez (N, xf) 179 491 [some (.ref 4000000), some (.ref 0), some (.ref 131), some (.int (nI i))] [.int (nI i + 2), .ref 4000000, .int (xf (i + 1)), .ref 0] m Q
  refine ez_sld (j := i + 2) rfl (nI_add i 2) (by omega) (by omega) ?_
  show ez (N, xf) 179 492 [some (.ref 4000000), some (.ref 0), some (.ref 131), some (.int (nI i))] [.int (xf (i + 2)), .int (xf (i + 1)), .ref 0] m Q
  refine ez_call (as := [.ref 0, .int (xf (i + 1)), .int (xf (i + 2))]) (rest := []) rfl (by decide) rfl ?_
  refine ez_mono (hop m hR) (fun r1 m1 h1 => ?_)
  obtain ⟨v, rfl, h2⟩ := h1
  show ez (N, xf) 179 495 [some (.ref 4000000), some (.ref 0), some (.ref 131), some (.int (nI i))] [.int v] m1 Q
  refine ez_blk 5 rfl ?_
  show ez (N, xf) 179 500 [some (.ref 4000000), some (.ref 0), some (.ref 131), some (.int (nI i))] [.int (nI i + 1), .ref 4000000, .ref 131, .int v] m1 Q
  refine ez_sld (j := i + 1) rfl (nI_add i 1) (by omega) (by omega) ?_
  show ez (N, xf) 179 501 [some (.ref 4000000), some (.ref 0), some (.ref 131), some (.int (nI i))] [.int (xf (i + 1)), .ref 131, .int v] m1 Q
  refine ez_blk 4 rfl ?_
  show ez (N, xf) 179 505 [some (.ref 4000000), some (.ref 0), some (.ref 131), some (.int (nI i))] [.int (nI i + 2), .ref 4000000, .int (xf (i + 1)), .ref 131, .int v] m1 Q
  refine ez_sld (j := i + 2) rfl (nI_add i 2) (by omega) (by omega) ?_
  show ez (N, xf) 179 506 [some (.ref 4000000), some (.ref 0), some (.ref 131), some (.int (nI i))] [.int (xf (i + 2)), .int (xf (i + 1)), .ref 131, .int v] m1 Q
  refine ez_call (as := [.ref 131, .int (xf (i + 1)), .int (xf (i + 2))]) (rest := [.int v]) rfl (by decide) rfl ?_
  refine ez_mono h2 (fun r2 m2 h3 => ?_)
  obtain ⟨rfl, hR⟩ := h3
  show ez (N, xf) 179 509 [some (.ref 4000000), some (.ref 0), some (.ref 131), some (.int (nI i))] [.int v, .int v] m2 Q
  refine ez_icmp_eq rfl (fun _ => ?_) (fun h => absurd rfl h)
  exact cont m2 hR
set_option maxRecDepth 100000 in
set_option maxHeartbeats 4000000 in
theorem zl_14 {R : zM → Prop} {N i : Nat} {xf : Nat → Int32} {m : zM} {Q : Option Value → zM → Prop} (hN : N ≤ 3072) (hi : i + 6 ≤ N) (hop : zo R (N, xf) 172 178 []) (hR : R m) (cont : ∀ m, R m → ez (N, xf) 179 527 [some (.ref 4000000), some (.ref 0), some (.ref 131), some (.int (nI i))] [] m Q) : ez (N, xf) 179 514 [some (.ref 4000000), some (.ref 0), some (.ref 131), some (.int (nI i))] [] m Q := by
  refine ez_blk 1 rfl ?_
  show ez (N, xf) 179 515 [some (.ref 4000000), some (.ref 0), some (.ref 131), some (.int (nI i))] [.ref 0] m Q
  refine ez_call (as := [.ref 0]) (rest := []) rfl (by decide) rfl ?_
  refine ez_mono (hop m hR) (fun r1 m1 h1 => ?_)
  obtain ⟨v, rfl, h2⟩ := h1
  show ez (N, xf) 179 518 [some (.ref 4000000), some (.ref 0), some (.ref 131), some (.int (nI i))] [.int v] m1 Q
  refine ez_blk 1 rfl ?_
  show ez (N, xf) 179 519 [some (.ref 4000000), some (.ref 0), some (.ref 131), some (.int (nI i))] [.ref 131, .int v] m1 Q
  refine ez_call (as := [.ref 131]) (rest := [.int v]) rfl (by decide) rfl ?_
  refine ez_mono h2 (fun r2 m2 h3 => ?_)
  obtain ⟨rfl, hR⟩ := h3
  show ez (N, xf) 179 522 [some (.ref 4000000), some (.ref 0), some (.ref 131), some (.int (nI i))] [.int v, .int v] m2 Q
  refine ez_icmp_eq rfl (fun _ => ?_) (fun h => absurd rfl h)
  exact cont m2 hR
/-- what each call owes: its answer is the reference's, and the relation stays -/
def z_Ops (R : zM → Prop) : Prop :=
  (∀ (xs : jx_Xs) (v1 : Int32), zo R xs 15 16 [.int (v1.toUInt32 % 65536).toInt32]) ∧
  (∀ (xs : jx_Xs), zov R xs 18 19 []) ∧
  (∀ (xs : jx_Xs), zo R xs 21 22 []) ∧
  (∀ (xs : jx_Xs) (v1 : Int32), zo R xs 25 26 [.int v1]) ∧
  (∀ (xs : jx_Xs), zo R xs 60 72 []) ∧
  (∀ (xs : jx_Xs) (v1 v2 : Int32), zo R xs 75 76 [.int v1, .int v2]) ∧
  (∀ (xs : jx_Xs) (v1 : Int32), zo R xs 77 78 [.int v1]) ∧
  (∀ (xs : jx_Xs) (v2 v3 v4 v5 : Int32), zo R xs 89 91 [.int 0, .int v2, .int v3, .int v4, .int v5]) ∧ (∀ (xs : jx_Xs) (v2 v3 v4 v5 : Int32), zo R xs 89 91 [.int 1, .int v2, .int v3, .int v4, .int v5]) ∧
  (∀ (xs : jx_Xs) (v1 v2 v3 v4 : Int32), zo R xs 99 104 [.int v1, .int v2, .int v3, .int v4]) ∧
  (∀ (xs : jx_Xs) (v1 v2 v3 v4 : Int32), zo R xs 107 108 [.int v1, .int v2, .int v3, .int v4]) ∧
  (∀ (xs : jx_Xs), zov R xs 110 111 []) ∧
  (∀ (xs : jx_Xs), zo R xs 143 153 []) ∧
  (∀ (xs : jx_Xs) (v1 : Int32), zo R xs 155 156 [.int v1]) ∧
  (∀ (xs : jx_Xs) (v1 v2 : Int32), zo R xs 158 161 [.int v1, .int v2]) ∧
  (∀ (xs : jx_Xs), zo R xs 172 178 [])
theorem z_gt {N i : Nat} (hN : N ≤ 3072) (hi : i ≤ N + 5) : nI N - 6 < nI i ↔ N < i + 6 := by
  have h6 : (6 : Int32) = nI 6 := rfl
  rw [h6, Int32.lt_iff_toInt_lt, pk_sub_toInt (by omega) (by omega), nI_toInt (by omega)]
  omega
set_option maxRecDepth 100000 in
set_option maxHeartbeats 4000000 in
/-- the loop -/
theorem z_loop_of {R : zM → Prop} (ops : z_Ops R) {N : Nat} {xf : Nat → Int32} (hN : N ≤ 3072) : ∀ (n i : Nat) (m : zM), N < i + n → i ≤ N + 5 → R m → ez (N, xf) 179 18 [some (.ref 4000000), some (.ref 0), some (.ref 131), some (.int (nI i))] [] m (fun r _ => r = some (.int 1)) := by
  intro n
  induction n with
  | zero =>
    intro i m h1 h2 hR
    refine ez_blk 5 rfl ?_
    show ez (N, xf) 179 24 [some (.ref 4000000), some (.ref 0), some (.ref 131), some (.int (nI i))] [.int (nI N - 6), .int (nI i)] m _
    refine ez_icmp_gt rfl (fun h => ?_) (fun h => absurd ((z_gt hN h2).mpr (by omega)) h)
    show ez (N, xf) 179 533 [some (.ref 4000000), some (.ref 0), some (.ref 131), some (.int (nI i))] [] m _
    refine ez_blk 1 rfl ?_
    exact ez_ret (o := (90, 0, 0, 0, 0)) (v := some (.int 1)) rfl (by decide) rfl rfl
  | succ n ih =>
    intro i m h1 h2 hR
    refine ez_blk 5 rfl ?_
    show ez (N, xf) 179 24 [some (.ref 4000000), some (.ref 0), some (.ref 131), some (.int (nI i))] [.int (nI N - 6), .int (nI i)] m _
    refine ez_icmp_gt rfl (fun h => ?_) (fun h => ?_)
    · show ez (N, xf) 179 533 [some (.ref 4000000), some (.ref 0), some (.ref 131), some (.int (nI i))] [] m _
      refine ez_blk 1 rfl ?_
      exact ez_ret (o := (90, 0, 0, 0, 0)) (v := some (.int 1)) rfl (by decide) rfl rfl
    have hi : i + 6 ≤ N := by
      have := mt (z_gt hN h2).mpr h
      omega
    have next : ∀ m, R m → ez (N, xf) 179 527 [some (.ref 4000000), some (.ref 0), some (.ref 131), some (.int (nI i))] [] m (fun r _ => r = some (.int 1)) := by
      intro m hR
      refine ez_blk 2 rfl ?_
      show ez (N, xf) 179 18 [some (.ref 4000000), some (.ref 0), some (.ref 131), some (.int (nI i + 6))] [] m _
      rw [show nI i + 6 = nI (i + 6) from nI_add i 6]
      exact ih (i + 6) m (by omega) (by omega) hR
    show ez (N, xf) 179 27 [some (.ref 4000000), some (.ref 0), some (.ref 131), some (.int (nI i))] [] m _
    refine ez_blk 2 rfl ?_
    show ez (N, xf) 179 29 [some (.ref 4000000), some (.ref 0), some (.ref 131), some (.int (nI i))] [.int (nI i), .ref 4000000] m _
    refine ez_sld (j := i) rfl rfl (by omega) (by omega) ?_
    show ez (N, xf) 179 30 [some (.ref 4000000), some (.ref 0), some (.ref 131), some (.int (nI i))] [.int (xf i)] m _
    refine ez_blk 2 rfl ?_
    show ez (N, xf) 179 33 [some (.ref 4000000), some (.ref 0), some (.ref 131), some (.int (nI i))] [.int (xf i &&& 15)] m _
    obtain ⟨j, hj, he⟩ := pk_andE (xf i) (m := 15) 4 (by decide)
    rw [he]
    have hj : j < 16 := hj
    refine ez_blk 1 (pc' := ([108, 133, 144, 157, 180, 193, 226, 249, 328, 381, 434, 445, 458, 481, 514] : List Nat).getD j 527) (L' := [some (.ref 4000000), some (.ref 0), some (.ref 131), some (.int (nI i))]) (st' := []) (m' := m) ?_ ?_
    · match j, hj with
      | 0, _ => exact rfl
      | 1, _ => exact rfl
      | 2, _ => exact rfl
      | 3, _ => exact rfl
      | 4, _ => exact rfl
      | 5, _ => exact rfl
      | 6, _ => exact rfl
      | 7, _ => exact rfl
      | 8, _ => exact rfl
      | 9, _ => exact rfl
      | 10, _ => exact rfl
      | 11, _ => exact rfl
      | 12, _ => exact rfl
      | 13, _ => exact rfl
      | 14, _ => exact rfl
      | 15, _ => exact rfl
      | j + 16, h => exact absurd h (by omega)
    match j, hj with
    | 0, _ => exact zl_0 hN hi (ops.1 (N, xf) _) hR next
    | 1, _ => exact zl_1 hN hi (ops.2.1 (N, xf)) hR next
    | 2, _ => exact zl_2 hN hi (ops.2.2.1 (N, xf)) hR next
    | 3, _ => exact zl_3 hN hi (ops.2.2.2.1 (N, xf) _) hR next
    | 4, _ => exact zl_4 hN hi (ops.2.2.2.2.1 (N, xf)) hR next
    | 5, _ => exact zl_5 hN hi (ops.2.2.2.2.2.1 (N, xf) _ _) hR next
    | 6, _ => exact zl_6 hN hi (ops.2.2.2.2.2.2.1 (N, xf) _) hR next
    | 7, _ => exact zl_7 hN hi (ops.2.2.2.2.2.2.2.1 (N, xf) _ _ _ _) (ops.2.2.2.2.2.2.2.2.1 (N, xf) _ _ _ _) hR next
    | 8, _ => exact zl_8 hN hi (ops.2.2.2.2.2.2.2.2.2.1 (N, xf) _ _ _ _) hR next
    | 9, _ => exact zl_9 hN hi (ops.2.2.2.2.2.2.2.2.2.2.1 (N, xf) _ _ _ _) hR next
    | 10, _ => exact zl_10 hN hi (ops.2.2.2.2.2.2.2.2.2.2.2.1 (N, xf)) hR next
    | 11, _ => exact zl_11 hN hi (ops.2.2.2.2.2.2.2.2.2.2.2.2.1 (N, xf)) hR next
    | 12, _ => exact zl_12 hN hi (ops.2.2.2.2.2.2.2.2.2.2.2.2.2.1 (N, xf) _) hR next
    | 13, _ => exact zl_13 hN hi (ops.2.2.2.2.2.2.2.2.2.2.2.2.2.2.1 (N, xf) _ _) hR next
    | 14, _ => exact zl_14 hN hi (ops.2.2.2.2.2.2.2.2.2.2.2.2.2.2.2 (N, xf)) hR next
    | 15, _ => exact next m hR
    | j + 16, h => exact absurd h (by omega)
theorem z_Loop_of {R : zM → Prop} (ops : z_Ops R) (h0 : R z_t2.1) : z_Loop := fun N xs hN => z_loop_of ops hN (N + 1) 0 z_t2.1 (by omega) (by omega) h0
end
section
/-! Rules with any index; returns of truth values and characters. -/
theorem z_arrv {m : zM} {q t i n : Nat} {x : Int32} (hi : i < 172) (hs : z_H i = (q, t, n)) (hx : vp_in x n) : jx_arr (z_S m) q t i x = true := by
  unfold jx_arr
  have h1 : (z_S m).2.2.1 i = (q, t, n) := hs
  have h2 : (z_S m).2.2.2.1 = 172 := rfl
  rw [h1, h2]
  have h3 : ¬ x < 0 := fun h => hx (Or.inl h)
  have h4 : x.toNatClampNeg < n := Nat.not_le.mp fun h => hx (Or.inr h)
  simp [hi, h3, h4]
section EZ4
variable {xs : jx_Xs} {y pc a b d : Nat} {c x v : Int32} {L : jx_L} {st r : List Value} {m : zM} {Q : Option Value → zM → Prop}
theorem ez_ialdv {i n : Nat} (ho : jx_op y pc = some (50, a, b, d, c)) (hi : i < 172) (hs : z_H i = (1, 0, n)) (hx : vp_in x n) (g : ez xs y (pc + 1) L (.int (m i x.toNatClampNeg) :: r) m Q) : ez xs y pc L (.int x :: .ref i :: r) m Q := by
  refine ez_st (m' := m) ?_ g
  unfold jx_st
  rw [ho]
  show (if 50 < 72 then jx_nld 0 pc a b d c L (.int x :: .ref i :: r) (z_S m) else none) = _
  rw [if_pos (by decide)]
  unfold jx_nld
  dsimp only
  rw [if_pos (z_arrv hi hs hx)]
  rfl
theorem ez_caldv {i n : Nat} (ho : jx_op y pc = some (51, a, b, d, c)) (hi : i < 172) (hs : z_H i = (1, 1, n)) (hx : vp_in x n) (g : ez xs y (pc + 1) L (.int (m i x.toNatClampNeg) :: r) m Q) : ez xs y pc L (.int x :: .ref i :: r) m Q := by
  refine ez_st (m' := m) ?_ g
  unfold jx_st
  rw [ho]
  show (if 51 < 72 then jx_nld 1 pc a b d c L (.int x :: .ref i :: r) (z_S m) else none) = _
  rw [if_pos (by decide)]
  unfold jx_nld
  dsimp only
  rw [if_pos (z_arrv hi hs hx)]
  rfl
theorem ez_zaldv {i n : Nat} (ho : jx_op y pc = some (52, a, b, d, c)) (hi : i < 172) (hs : z_H i = (1, 2, n)) (hx : vp_in x n) (g : ez xs y (pc + 1) L (.int (m i x.toNatClampNeg) :: r) m Q) : ez xs y pc L (.int x :: .ref i :: r) m Q := by
  refine ez_st (m' := m) ?_ g
  unfold jx_st
  rw [ho]
  show (if 52 < 72 then jx_nld 2 pc a b d c L (.int x :: .ref i :: r) (z_S m) else none) = _
  rw [if_pos (by decide)]
  unfold jx_nld
  dsimp only
  rw [if_pos (z_arrv hi hs hx)]
  rfl
theorem ez_iastv {i n : Nat} (ho : jx_op y pc = some (55, a, b, d, c)) (hi : i < 172) (hs : z_H i = (1, 0, n)) (hx : vp_in x n) (g : ez xs y (pc + 1) L r (jj_up m i x.toNatClampNeg v) Q) : ez xs y pc L (.int v :: .int x :: .ref i :: r) m Q := by
  refine ez_st (m' := jj_up m i x.toNatClampNeg v) ?_ g
  unfold jx_st
  rw [ho]
  show (if 55 < 72 then jx_nst 0 (fun v => v) pc a b d c L (.int v :: .int x :: .ref i :: r) (z_S m) else none) = _
  rw [if_pos (by decide)]
  unfold jx_nst
  dsimp only
  rw [if_pos (z_arrv hi hs hx)]
  rfl
theorem ez_castv {i n : Nat} (ho : jx_op y pc = some (56, a, b, d, c)) (hi : i < 172) (hs : z_H i = (1, 1, n)) (hx : vp_in x n) (g : ez xs y (pc + 1) L r (jj_up m i x.toNatClampNeg (vp_nar .char v)) Q) : ez xs y pc L (.int v :: .int x :: .ref i :: r) m Q := by
  refine ez_st (m' := jj_up m i x.toNatClampNeg (vp_nar .char v)) ?_ g
  unfold jx_st
  rw [ho]
  show (if 56 < 72 then jx_nst 1 (vp_nar .char) pc a b d c L (.int v :: .int x :: .ref i :: r) (z_S m) else none) = _
  rw [if_pos (by decide)]
  unfold jx_nst
  dsimp only
  rw [if_pos (z_arrv hi hs hx)]
  rfl
theorem ez_zastv {i n : Nat} (ho : jx_op y pc = some (57, a, b, d, c)) (hi : i < 172) (hs : z_H i = (1, 2, n)) (hx : vp_in x n) (g : ez xs y (pc + 1) L r (jj_up m i x.toNatClampNeg (vp_nar .boolean v)) Q) : ez xs y pc L (.int v :: .int x :: .ref i :: r) m Q := by
  refine ez_st (m' := jj_up m i x.toNatClampNeg (vp_nar .boolean v)) ?_ g
  unfold jx_st
  rw [ho]
  show (if 57 < 72 then jx_nst 2 (vp_nar .boolean) pc a b d c L (.int v :: .int x :: .ref i :: r) (z_S m) else none) = _
  rw [if_pos (by decide)]
  unfold jx_nst
  dsimp only
  rw [if_pos (z_arrv hi hs hx)]
  rfl
theorem ez_retz (ho : jx_op y pc = some (90, a, b, d, c)) (hR : jt_R y = some .boolean) (hv : v = 0 ∨ v = 1) (g : Q (some (.int v)) m) : ez xs y pc L [.int v] m Q := by
  refine ez_ret ho (Nat.le_refl _) ?_ g
  unfold jx_ret
  rw [hR]
  dsimp only
  rw [if_pos rfl, if_pos hv]
theorem ez_retc (ho : jx_op y pc = some (90, a, b, d, c)) (hR : jt_R y = some .char) (hv : vp_nar .char v = v) (g : Q (some (.int v)) m) : ez xs y pc L [.int v] m Q := by
  refine ez_ret ho (Nat.le_refl _) ?_ g
  unfold jx_ret
  rw [hR]
  dsimp only
  rw [if_pos rfl, if_pos hv]
end EZ4
end
section
/-! Methods without loops, by program: one hypothesis a way, one a bound. -/
set_option maxRecDepth 100000 in
set_option maxHeartbeats 2000000 in
theorem c_Source_size {xs : jx_Xs} {m : zM} {Q : Option Value → zM → Prop}
    (g1 : Q (some (.int (m 1 1))) m) : ez xs 20 0 (jx_ent 20 [.ref 1]) [] m Q := by
  refine ez_blk 2 rfl ?_
  show ez xs 20 4 [some (.ref 1)] [.int (m 1 1)] m Q
  exact ez_ret rfl (by decide) rfl (g1)
set_option maxRecDepth 100000 in
set_option maxHeartbeats 2000000 in
theorem c_Source_empty {xs : jx_Xs} {m : zM} {Q : Option Value → zM → Prop}
    (g1 : Q none (jj_up m 1 1 0)) : ez xs 17 0 (jx_ent 17 [.ref 1]) [] m Q := by
  refine ez_blk 3 rfl ?_
  show ez xs 17 5 [some (.ref 1)] [] (jj_up m 1 1 0) Q
  exact ez_ret rfl (by decide) rfl (g1)
set_option maxRecDepth 100000 in
set_option maxHeartbeats 2000000 in
theorem c_Source_holds {xs : jx_Xs} {m : zM} {Q : Option Value → zM → Prop} {i : Int32}
    (g1 : (i < 0) → Q (some (.int 0)) m)
    (g2 : (¬ i < 0) → (m 1 1 ≤ i) → Q (some (.int 0)) m)
    (g3 : (¬ i < 0) → (¬ m 1 1 ≤ i) → Q (some (.int 1)) m) : ez xs 23 0 (jx_ent 23 [.ref 1, .int i]) [] m Q := by
  refine ez_blk 1 rfl ?_
  show ez xs 23 1 [some (.ref 1), some (.int i)] [.int i] m Q
  refine ez_if_lt rfl (fun h1 => ?_) (fun h1 => ?_)
  · show ez xs 23 16 [some (.ref 1), some (.int i)] [] m Q
    refine ez_blk 1 rfl ?_
    show ez xs 23 17 [some (.ref 1), some (.int i)] [.int 0] m Q
    exact ez_ret rfl (by decide) rfl (g1 h1)
  · show ez xs 23 4 [some (.ref 1), some (.int i)] [] m Q
    refine ez_blk 3 rfl ?_
    show ez xs 23 9 [some (.ref 1), some (.int i)] [.int (m 1 1), .int i] m Q
    refine ez_icmp_ge rfl (fun h2 => ?_) (fun h2 => ?_)
    · show ez xs 23 16 [some (.ref 1), some (.int i)] [] m Q
      refine ez_blk 1 rfl ?_
      show ez xs 23 17 [some (.ref 1), some (.int i)] [.int 0] m Q
      exact ez_ret rfl (by decide) rfl (g2 h1 h2)
    · show ez xs 23 12 [some (.ref 1), some (.int i)] [] m Q
      refine ez_blk 2 rfl ?_
      show ez xs 23 17 [some (.ref 1), some (.int i)] [.int 1] m Q
      exact ez_ret rfl (by decide) rfl (g3 h1 h2)
def f_Source_holds (m : zM) (i : Int32) : Int32 := if i < 0 then 0 else if m 1 1 ≤ i then 0 else 1
theorem d_Source_holds {xs : jx_Xs} {m : zM} {Q : Option Value → zM → Prop} {i : Int32}
    (g : Q (some (.int (f_Source_holds m i))) m) : ez xs 23 0 (jx_ent 23 [.ref 1, .int i]) [] m Q := by
  refine c_Source_holds (fun e0 => by rw [show f_Source_holds m i = 0 from by unfold f_Source_holds; rw [if_pos e0]] at g; exact g) (fun e0 e1 => by rw [show f_Source_holds m i = 0 from by unfold f_Source_holds; rw [if_neg e0, if_pos e1]] at g; exact g) (fun e0 e1 => by rw [show f_Source_holds m i = 1 from by unfold f_Source_holds; rw [if_neg e0, if_neg e1]] at g; exact g)
set_option maxRecDepth 100000 in
set_option maxHeartbeats 2000000 in
theorem c_Source_charOf {xs : jx_Xs} {m : zM} {Q : Option Value → zM → Prop} {i : Int32}
    (b1 : (¬ f_Source_holds m i = 0) → vp_in i 160)
    (b2 : (¬ f_Source_holds m i = 0) → vp_nar .char (m 2 i.toNatClampNeg) = m 2 i.toNatClampNeg)
    (g1 : (f_Source_holds m i = 0) → Q (some (.int 0)) m)
    (g2 : (¬ f_Source_holds m i = 0) → Q (some (.int (m 2 i.toNatClampNeg))) m) : ez xs 24 0 (jx_ent 24 [.ref 1, .int i]) [] m Q := by
  refine ez_blk 2 rfl ?_
  show ez xs 24 2 [some (.ref 1), some (.int i)] [.int i, .ref 1] m Q
  refine ez_call (as := [.ref 1, .int i]) (rest := []) rfl (by decide) rfl ?_
  refine d_Source_holds ?_
  show ez xs 24 5 [some (.ref 1), some (.int i)] [.int (f_Source_holds m i)] m Q
  refine ez_if_eq rfl (fun h1 => ?_) (fun h1 => ?_)
  · show ez xs 24 17 [some (.ref 1), some (.int i)] [] m Q
    refine ez_blk 1 rfl ?_
    show ez xs 24 18 [some (.ref 1), some (.int i)] [.int 0] m Q
    exact ez_ret rfl (by decide) rfl (g1 h1)
  · show ez xs 24 8 [some (.ref 1), some (.int i)] [] m Q
    refine ez_blk 3 rfl ?_
    show ez xs 24 13 [some (.ref 1), some (.int i)] [.int i, .ref 2] m Q
    refine ez_caldv rfl (by decide) rfl (b1 h1) ?_
    show ez xs 24 14 [some (.ref 1), some (.int i)] [.int (m 2 i.toNatClampNeg)] m Q
    refine ez_blk 1 rfl ?_
    show ez xs 24 18 [some (.ref 1), some (.int i)] [.int (m 2 i.toNatClampNeg)] m Q
    exact ez_retc rfl rfl (b2 h1) (g2 h1)
def f_Source_charOf (m : zM) (i : Int32) : Int32 := if f_Source_holds m i = 0 then 0 else (m 2 i.toNatClampNeg)
theorem d_Source_charOf {xs : jx_Xs} {m : zM} {Q : Option Value → zM → Prop} {i : Int32}
    (b1 : (¬ f_Source_holds m i = 0) → vp_in i 160)
    (b2 : (¬ f_Source_holds m i = 0) → vp_nar .char (m 2 i.toNatClampNeg) = m 2 i.toNatClampNeg)
    (g : Q (some (.int (f_Source_charOf m i))) m) : ez xs 24 0 (jx_ent 24 [.ref 1, .int i]) [] m Q := by
  refine c_Source_charOf b1 b2 (fun e0 => by rw [show f_Source_charOf m i = 0 from by unfold f_Source_charOf; rw [if_pos e0]] at g; exact g) (fun e0 => by rw [show f_Source_charOf m i = (m 2 i.toNatClampNeg) from by unfold f_Source_charOf; rw [if_neg e0]] at g; exact g)
set_option maxRecDepth 100000 in
set_option maxHeartbeats 2000000 in
theorem c_Source_append {xs : jx_Xs} {m : zM} {Q : Option Value → zM → Prop} {c : Int32}
    (b1 : (¬ 160 ≤ m 1 1) → (¬ c < 32) → (c ≤ 126) → vp_in (m 1 1) 160)
    (g1 : (160 ≤ m 1 1) → Q (some (.int 0)) m)
    (g2 : (¬ 160 ≤ m 1 1) → (c < 32) → Q (some (.int 0)) m)
    (g3 : (¬ 160 ≤ m 1 1) → (¬ c < 32) → (c ≤ 126) → Q (some (.int 1)) (jj_up (jj_up m 2 ((m 1 1).toNatClampNeg) (vp_nar .char c)) 1 1 ((m 1 1) + 1)))
    (g4 : (¬ 160 ≤ m 1 1) → (¬ c < 32) → (¬ c ≤ 126) → Q (some (.int 0)) m) : ez xs 13 0 (jx_ent 13 [.ref 1, .int c]) [] m Q := by
  refine ez_blk 3 rfl ?_
  show ez xs 13 7 [some (.ref 1), some (.int c)] [.int 160, .int (m 1 1)] m Q
  refine ez_icmp_ge rfl (fun h1 => ?_) (fun h1 => ?_)
  · show ez xs 13 22 [some (.ref 1), some (.int c)] [] m Q
    refine ez_blk 1 rfl ?_
    show ez xs 13 23 [some (.ref 1), some (.int c)] [.int 0] m Q
    exact ez_ret rfl (by decide) rfl (g1 h1)
  · show ez xs 13 10 [some (.ref 1), some (.int c)] [] m Q
    refine ez_blk 2 rfl ?_
    show ez xs 13 13 [some (.ref 1), some (.int c)] [.int 32, .int c] m Q
    refine ez_icmp_lt rfl (fun h2 => ?_) (fun h2 => ?_)
    · show ez xs 13 22 [some (.ref 1), some (.int c)] [] m Q
      refine ez_blk 1 rfl ?_
      show ez xs 13 23 [some (.ref 1), some (.int c)] [.int 0] m Q
      exact ez_ret rfl (by decide) rfl (g2 h1 h2)
    · show ez xs 13 16 [some (.ref 1), some (.int c)] [] m Q
      refine ez_blk 2 rfl ?_
      show ez xs 13 19 [some (.ref 1), some (.int c)] [.int 126, .int c] m Q
      refine ez_icmp_le rfl (fun h3 => ?_) (fun h3 => ?_)
      · show ez xs 13 24 [some (.ref 1), some (.int c)] [] m Q
        refine ez_blk 5 rfl ?_
        show ez xs 13 33 [some (.ref 1), some (.int c)] [.int c, .int (m 1 1), .ref 2] m Q
        refine ez_castv rfl (by decide) rfl (b1 h1 h2 h3) ?_
        show ez xs 13 34 [some (.ref 1), some (.int c)] [] (jj_up m 2 ((m 1 1).toNatClampNeg) (vp_nar .char c)) Q
        refine ez_blk 7 rfl ?_
        show ez xs 13 45 [some (.ref 1), some (.int c)] [.int 1] (jj_up (jj_up m 2 ((m 1 1).toNatClampNeg) (vp_nar .char c)) 1 1 ((m 1 1) + 1)) Q
        exact ez_ret rfl (by decide) rfl (g3 h1 h2 h3)
      · show ez xs 13 22 [some (.ref 1), some (.int c)] [] m Q
        refine ez_blk 1 rfl ?_
        show ez xs 13 23 [some (.ref 1), some (.int c)] [.int 0] m Q
        exact ez_ret rfl (by decide) rfl (g4 h1 h2 h3)
set_option maxRecDepth 100000 in
set_option maxHeartbeats 2000000 in
theorem c_PathPatcher_noteNewText {xs : jx_Xs} {m : zM} {Q : Option Value → zM → Prop}
    (g1 : Q none (jj_up (jj_up m 0 7 0) 0 8 0)) : ez xs 14 0 (jx_ent 14 [.ref 0]) [] m Q := by
  refine ez_blk 6 rfl ?_
  show ez xs 14 10 [some (.ref 0)] [] (jj_up (jj_up m 0 7 0) 0 8 0) Q
  exact ez_ret rfl (by decide) rfl (g1)
set_option maxRecDepth 100000 in
set_option maxHeartbeats 2000000 in
theorem c_PathPatcher_type {xs : jx_Xs} {m : zM} {Q : Option Value → zM → Prop} {c : Int32}
    (b1 : (¬ 160 ≤ m 1 1) → (¬ c < 32) → (c ≤ 126) → vp_in (m 1 1) 160)
    (g1 : (160 ≤ m 1 1) → Q (some (.int 0)) m)
    (g2 : (¬ 160 ≤ m 1 1) → (c < 32) → Q (some (.int 0)) m)
    (g3 : (¬ 160 ≤ m 1 1) → (¬ c < 32) → (c ≤ 126) → Q (some (.int 1)) (jj_up (jj_up (jj_up (jj_up m 2 ((m 1 1).toNatClampNeg) (vp_nar .char c)) 1 1 ((m 1 1) + 1)) 0 7 0) 0 8 0))
    (g4 : (¬ 160 ≤ m 1 1) → (¬ c < 32) → (¬ c ≤ 126) → Q (some (.int 0)) m) : ez xs 15 0 (jx_ent 15 [.ref 0, .int c]) [] m Q := by
  refine ez_blk 3 rfl ?_
  show ez xs 15 5 [some (.ref 0), some (.int c)] [.int c, .ref 1] m Q
  refine ez_call (as := [.ref 1, .int c]) (rest := []) rfl (by decide) rfl ?_
  refine c_Source_append (fun h1 h2 h3 => b1 h1 h2 h3) (fun h4 => ?_) (fun h5 h6 => ?_) (fun h7 h8 h9 => ?_) (fun h10 h11 h12 => ?_)
  · show ez xs 15 8 [some (.ref 0), some (.int c)] [.int 0] m Q
    refine ez_if_ne rfl (fun h => False.elim (by revert h; decide)) (fun _ => ?_)
    show ez xs 15 11 [some (.ref 0), some (.int c)] [] m Q
    refine ez_blk 1 rfl ?_
    show ez xs 15 12 [some (.ref 0), some (.int c)] [.int 0] m Q
    exact ez_ret rfl (by decide) rfl (g1 h4)
  · show ez xs 15 8 [some (.ref 0), some (.int c)] [.int 0] m Q
    refine ez_if_ne rfl (fun h => False.elim (by revert h; decide)) (fun _ => ?_)
    show ez xs 15 11 [some (.ref 0), some (.int c)] [] m Q
    refine ez_blk 1 rfl ?_
    show ez xs 15 12 [some (.ref 0), some (.int c)] [.int 0] m Q
    exact ez_ret rfl (by decide) rfl (g2 h5 h6)
  · show ez xs 15 8 [some (.ref 0), some (.int c)] [.int 1] (jj_up (jj_up m 2 ((m 1 1).toNatClampNeg) (vp_nar .char c)) 1 1 ((m 1 1) + 1)) Q
    refine ez_if_ne rfl (fun _ => ?_) (fun h => False.elim (by revert h; decide))
    show ez xs 15 13 [some (.ref 0), some (.int c)] [] (jj_up (jj_up m 2 ((m 1 1).toNatClampNeg) (vp_nar .char c)) 1 1 ((m 1 1) + 1)) Q
    refine ez_blk 1 rfl ?_
    show ez xs 15 14 [some (.ref 0), some (.int c)] [.ref 0] (jj_up (jj_up m 2 ((m 1 1).toNatClampNeg) (vp_nar .char c)) 1 1 ((m 1 1) + 1)) Q
    refine ez_call (as := [.ref 0]) (rest := []) rfl (by decide) rfl ?_
    refine c_PathPatcher_noteNewText ?_
    show ez xs 15 17 [some (.ref 0), some (.int c)] [] (jj_up (jj_up (jj_up (jj_up m 2 ((m 1 1).toNatClampNeg) (vp_nar .char c)) 1 1 ((m 1 1) + 1)) 0 7 0) 0 8 0) Q
    refine ez_blk 1 rfl ?_
    show ez xs 15 18 [some (.ref 0), some (.int c)] [.int 1] (jj_up (jj_up (jj_up (jj_up m 2 ((m 1 1).toNatClampNeg) (vp_nar .char c)) 1 1 ((m 1 1) + 1)) 0 7 0) 0 8 0) Q
    exact ez_ret rfl (by decide) rfl (g3 h7 h8 h9)
  · show ez xs 15 8 [some (.ref 0), some (.int c)] [.int 0] m Q
    refine ez_if_ne rfl (fun h => False.elim (by revert h; decide)) (fun _ => ?_)
    show ez xs 15 11 [some (.ref 0), some (.int c)] [] m Q
    refine ez_blk 1 rfl ?_
    show ez xs 15 12 [some (.ref 0), some (.int c)] [.int 0] m Q
    exact ez_ret rfl (by decide) rfl (g4 h10 h11 h12)
set_option maxRecDepth 100000 in
set_option maxHeartbeats 2000000 in
theorem c_PathPatcher_clear {xs : jx_Xs} {m : zM} {Q : Option Value → zM → Prop}
    (g1 : Q none (jj_up (jj_up (jj_up m 1 1 0) 0 7 0) 0 8 0)) : ez xs 18 0 (jx_ent 18 [.ref 0]) [] m Q := by
  refine ez_blk 2 rfl ?_
  show ez xs 18 4 [some (.ref 0)] [.ref 1] m Q
  refine ez_call (as := [.ref 1]) (rest := []) rfl (by decide) rfl ?_
  refine c_Source_empty ?_
  show ez xs 18 7 [some (.ref 0)] [] (jj_up m 1 1 0) Q
  refine ez_blk 1 rfl ?_
  show ez xs 18 8 [some (.ref 0)] [.ref 0] (jj_up m 1 1 0) Q
  refine ez_call (as := [.ref 0]) (rest := []) rfl (by decide) rfl ?_
  refine c_PathPatcher_noteNewText ?_
  show ez xs 18 11 [some (.ref 0)] [] (jj_up (jj_up (jj_up m 1 1 0) 0 7 0) 0 8 0) Q
  exact ez_ret rfl (by decide) rfl (g1)
set_option maxRecDepth 100000 in
set_option maxHeartbeats 2000000 in
theorem c_PathPatcher_length {xs : jx_Xs} {m : zM} {Q : Option Value → zM → Prop}
    (g1 : Q (some (.int (m 1 1))) m) : ez xs 21 0 (jx_ent 21 [.ref 0]) [] m Q := by
  refine ez_blk 2 rfl ?_
  show ez xs 21 4 [some (.ref 0)] [.ref 1] m Q
  refine ez_call (as := [.ref 1]) (rest := []) rfl (by decide) rfl ?_
  refine c_Source_size ?_
  show ez xs 21 7 [some (.ref 0)] [.int (m 1 1)] m Q
  exact ez_ret rfl (by decide) rfl (g1)
set_option maxRecDepth 100000 in
set_option maxHeartbeats 2000000 in
theorem c_PathPatcher_at {xs : jx_Xs} {m : zM} {Q : Option Value → zM → Prop} {i : Int32}
    (b1 : (¬ f_Source_holds m i = 0) → (¬ f_Source_holds m i = 0) → vp_in i 160)
    (b2 : (¬ f_Source_holds m i = 0) → (¬ f_Source_holds m i = 0) → vp_nar .char (m 2 i.toNatClampNeg) = m 2 i.toNatClampNeg)
    (g1 : (f_Source_holds m i = 0) → Q (some (.int (-1))) m)
    (g2 : (¬ f_Source_holds m i = 0) → Q (some (.int (f_Source_charOf m i))) m) : ez xs 25 0 (jx_ent 25 [.ref 0, .int i]) [] m Q := by
  refine ez_blk 3 rfl ?_
  show ez xs 25 5 [some (.ref 0), some (.int i)] [.int i, .ref 1] m Q
  refine ez_call (as := [.ref 1, .int i]) (rest := []) rfl (by decide) rfl ?_
  refine d_Source_holds ?_
  show ez xs 25 8 [some (.ref 0), some (.int i)] [.int (f_Source_holds m i)] m Q
  refine ez_if_eq rfl (fun h1 => ?_) (fun h1 => ?_)
  · show ez xs 25 22 [some (.ref 0), some (.int i)] [] m Q
    refine ez_blk 1 rfl ?_
    show ez xs 25 23 [some (.ref 0), some (.int i)] [.int (-1)] m Q
    exact ez_ret rfl (by decide) rfl (g1 h1)
  · show ez xs 25 11 [some (.ref 0), some (.int i)] [] m Q
    refine ez_blk 3 rfl ?_
    show ez xs 25 16 [some (.ref 0), some (.int i)] [.int i, .ref 1] m Q
    refine ez_call (as := [.ref 1, .int i]) (rest := []) rfl (by decide) rfl ?_
    refine d_Source_charOf (fun h2 => b1 h1 h2) (fun h3 => b2 h1 h3) ?_
    show ez xs 25 19 [some (.ref 0), some (.int i)] [.int (f_Source_charOf m i)] m Q
    refine ez_blk 1 rfl ?_
    show ez xs 25 23 [some (.ref 0), some (.int i)] [.int (f_Source_charOf m i)] m Q
    exact ez_ret rfl (by decide) rfl (g2 h1)
def f_PathPatcher_at (m : zM) (i : Int32) : Int32 := if f_Source_holds m i = 0 then (-1) else (f_Source_charOf m i)
theorem d_PathPatcher_at {xs : jx_Xs} {m : zM} {Q : Option Value → zM → Prop} {i : Int32}
    (b1 : (¬ f_Source_holds m i = 0) → (¬ f_Source_holds m i = 0) → vp_in i 160)
    (b2 : (¬ f_Source_holds m i = 0) → (¬ f_Source_holds m i = 0) → vp_nar .char (m 2 i.toNatClampNeg) = m 2 i.toNatClampNeg)
    (g : Q (some (.int (f_PathPatcher_at m i))) m) : ez xs 25 0 (jx_ent 25 [.ref 0, .int i]) [] m Q := by
  refine c_PathPatcher_at b1 b2 (fun e0 => by rw [show f_PathPatcher_at m i = (-1) from by unfold f_PathPatcher_at; rw [if_pos e0]] at g; exact g) (fun e0 => by rw [show f_PathPatcher_at m i = (f_Source_charOf m i) from by unfold f_PathPatcher_at; rw [if_neg e0]] at g; exact g)
set_option maxRecDepth 100000 in
set_option maxHeartbeats 2000000 in
theorem c_M_type {xs : jx_Xs} {m : zM} {Q : Option Value → zM → Prop} {c : Int32}
    (b1 : (¬ m 131 0 = 160) → (¬ c < 32) → (c ≤ 126) → vp_in (m 131 0) 160)
    (g1 : (m 131 0 = 160) → Q (some (.int 0)) m)
    (g2 : (¬ m 131 0 = 160) → (c < 32) → Q (some (.int 0)) m)
    (g3 : (¬ m 131 0 = 160) → (¬ c < 32) → (c ≤ 126) → Q (some (.int 1)) (jj_up (jj_up m 132 ((m 131 0).toNatClampNeg) c) 131 0 ((m 131 0) + 1)))
    (g4 : (¬ m 131 0 = 160) → (¬ c < 32) → (¬ c ≤ 126) → Q (some (.int 0)) m) : ez xs 16 0 (jx_ent 16 [.ref 131, .int c]) [] m Q := by
  refine ez_blk 3 rfl ?_
  show ez xs 16 7 [some (.ref 131), some (.int c)] [.int 160, .int (m 131 0)] m Q
  refine ez_icmp_eq rfl (fun h1 => ?_) (fun h1 => ?_)
  · show ez xs 16 22 [some (.ref 131), some (.int c)] [] m Q
    refine ez_blk 1 rfl ?_
    show ez xs 16 23 [some (.ref 131), some (.int c)] [.int 0] m Q
    exact ez_ret rfl (by decide) rfl (g1 h1)
  · show ez xs 16 10 [some (.ref 131), some (.int c)] [] m Q
    refine ez_blk 2 rfl ?_
    show ez xs 16 13 [some (.ref 131), some (.int c)] [.int 32, .int c] m Q
    refine ez_icmp_lt rfl (fun h2 => ?_) (fun h2 => ?_)
    · show ez xs 16 22 [some (.ref 131), some (.int c)] [] m Q
      refine ez_blk 1 rfl ?_
      show ez xs 16 23 [some (.ref 131), some (.int c)] [.int 0] m Q
      exact ez_ret rfl (by decide) rfl (g2 h1 h2)
    · show ez xs 16 16 [some (.ref 131), some (.int c)] [] m Q
      refine ez_blk 2 rfl ?_
      show ez xs 16 19 [some (.ref 131), some (.int c)] [.int 126, .int c] m Q
      refine ez_icmp_le rfl (fun h3 => ?_) (fun h3 => ?_)
      · show ez xs 16 24 [some (.ref 131), some (.int c)] [] m Q
        refine ez_blk 5 rfl ?_
        show ez xs 16 33 [some (.ref 131), some (.int c)] [.int c, .int (m 131 0), .ref 132] m Q
        refine ez_iastv rfl (by decide) rfl (b1 h1 h2 h3) ?_
        show ez xs 16 34 [some (.ref 131), some (.int c)] [] (jj_up m 132 ((m 131 0).toNatClampNeg) c) Q
        refine ez_blk 7 rfl ?_
        show ez xs 16 45 [some (.ref 131), some (.int c)] [.int 1] (jj_up (jj_up m 132 ((m 131 0).toNatClampNeg) c) 131 0 ((m 131 0) + 1)) Q
        exact ez_ret rfl (by decide) rfl (g3 h1 h2 h3)
      · show ez xs 16 22 [some (.ref 131), some (.int c)] [] m Q
        refine ez_blk 1 rfl ?_
        show ez xs 16 23 [some (.ref 131), some (.int c)] [.int 0] m Q
        exact ez_ret rfl (by decide) rfl (g4 h1 h2 h3)
set_option maxRecDepth 100000 in
set_option maxHeartbeats 2000000 in
theorem c_M_clear {xs : jx_Xs} {m : zM} {Q : Option Value → zM → Prop}
    (g1 : Q none (jj_up m 131 0 0)) : ez xs 19 0 (jx_ent 19 [.ref 131]) [] m Q := by
  refine ez_blk 3 rfl ?_
  show ez xs 19 5 [some (.ref 131)] [] (jj_up m 131 0 0) Q
  exact ez_ret rfl (by decide) rfl (g1)
set_option maxRecDepth 100000 in
set_option maxHeartbeats 2000000 in
theorem c_M_length {xs : jx_Xs} {m : zM} {Q : Option Value → zM → Prop}
    (g1 : Q (some (.int (m 131 0))) m) : ez xs 22 0 (jx_ent 22 [.ref 131]) [] m Q := by
  refine ez_blk 2 rfl ?_
  show ez xs 22 4 [some (.ref 131)] [.int (m 131 0)] m Q
  exact ez_ret rfl (by decide) rfl (g1)
set_option maxRecDepth 100000 in
set_option maxHeartbeats 2000000 in
theorem c_M_at {xs : jx_Xs} {m : zM} {Q : Option Value → zM → Prop} {i : Int32}
    (b1 : (¬ i < 0) → (i < m 131 0) → vp_in i 160)
    (g1 : (i < 0) → Q (some (.int (-1))) m)
    (g2 : (¬ i < 0) → (i < m 131 0) → Q (some (.int (m 132 i.toNatClampNeg))) m)
    (g3 : (¬ i < 0) → (¬ i < m 131 0) → Q (some (.int (-1))) m) : ez xs 26 0 (jx_ent 26 [.ref 131, .int i]) [] m Q := by
  refine ez_blk 1 rfl ?_
  show ez xs 26 1 [some (.ref 131), some (.int i)] [.int i] m Q
  refine ez_if_lt rfl (fun h1 => ?_) (fun h1 => ?_)
  · show ez xs 26 12 [some (.ref 131), some (.int i)] [] m Q
    refine ez_blk 2 rfl ?_
    show ez xs 26 22 [some (.ref 131), some (.int i)] [.int (-1)] m Q
    exact ez_ret rfl (by decide) rfl (g1 h1)
  · show ez xs 26 4 [some (.ref 131), some (.int i)] [] m Q
    refine ez_blk 3 rfl ?_
    show ez xs 26 9 [some (.ref 131), some (.int i)] [.int (m 131 0), .int i] m Q
    refine ez_icmp_lt rfl (fun h2 => ?_) (fun h2 => ?_)
    · show ez xs 26 16 [some (.ref 131), some (.int i)] [] m Q
      refine ez_blk 3 rfl ?_
      show ez xs 26 21 [some (.ref 131), some (.int i)] [.int i, .ref 132] m Q
      refine ez_ialdv rfl (by decide) rfl (b1 h1 h2) ?_
      show ez xs 26 22 [some (.ref 131), some (.int i)] [.int (m 132 i.toNatClampNeg)] m Q
      exact ez_ret rfl (by decide) rfl (g2 h1 h2)
    · show ez xs 26 12 [some (.ref 131), some (.int i)] [] m Q
      refine ez_blk 2 rfl ?_
      show ez xs 26 22 [some (.ref 131), some (.int i)] [.int (-1)] m Q
      exact ez_ret rfl (by decide) rfl (g3 h1 h2)
def f_M_at (m : zM) (i : Int32) : Int32 := if i < 0 then (-1) else if i < m 131 0 then (m 132 i.toNatClampNeg) else (-1)
theorem d_M_at {xs : jx_Xs} {m : zM} {Q : Option Value → zM → Prop} {i : Int32}
    (b1 : (¬ i < 0) → (i < m 131 0) → vp_in i 160)
    (g : Q (some (.int (f_M_at m i))) m) : ez xs 26 0 (jx_ent 26 [.ref 131, .int i]) [] m Q := by
  refine c_M_at b1 (fun e0 => by rw [show f_M_at m i = (-1) from by unfold f_M_at; rw [if_pos e0]] at g; exact g) (fun e0 e1 => by rw [show f_M_at m i = (m 132 i.toNatClampNeg) from by unfold f_M_at; rw [if_neg e0, if_pos e1]] at g; exact g) (fun e0 e1 => by rw [show f_M_at m i = (-1) from by unfold f_M_at; rw [if_neg e0, if_neg e1]] at g; exact g)
set_option maxRecDepth 100000 in
set_option maxHeartbeats 2000000 in
theorem c_Tokens_size {xs : jx_Xs} {m : zM} {Q : Option Value → zM → Prop}
    (g1 : Q (some (.int (m 30 2))) m) : ez xs 30 0 (jx_ent 30 [.ref 30]) [] m Q := by
  refine ez_blk 2 rfl ?_
  show ez xs 30 4 [some (.ref 30)] [.int (m 30 2)] m Q
  exact ez_ret rfl (by decide) rfl (g1)
set_option maxRecDepth 100000 in
set_option maxHeartbeats 2000000 in
theorem c_Tokens_append {xs : jx_Xs} {m : zM} {Q : Option Value → zM → Prop} {c p : Int32}
    (b1 : (¬ 160 ≤ m 30 2) → vp_in (m 30 2) 160)
    (b2 : (¬ 160 ≤ m 30 2) → vp_in (m 30 2) 160)
    (g1 : (160 ≤ m 30 2) → Q none m)
    (g2 : (¬ 160 ≤ m 30 2) → Q none (jj_up (jj_up (jj_up m 31 ((m 30 2).toNatClampNeg) (vp_nar .char c)) 32 ((m 30 2).toNatClampNeg) p) 30 2 ((m 30 2) + 1))) : ez xs 28 0 (jx_ent 28 [.ref 30, .int c, .int p]) [] m Q := by
  refine ez_blk 3 rfl ?_
  show ez xs 28 7 [some (.ref 30), some (.int c), some (.int p)] [.int 160, .int (m 30 2)] m Q
  refine ez_icmp_ge rfl (fun h1 => ?_) (fun h1 => ?_)
  · show ez xs 28 40 [some (.ref 30), some (.int c), some (.int p)] [] m Q
    exact ez_ret rfl (by decide) rfl (g1 h1)
  · show ez xs 28 10 [some (.ref 30), some (.int c), some (.int p)] [] m Q
    refine ez_blk 5 rfl ?_
    show ez xs 28 19 [some (.ref 30), some (.int c), some (.int p)] [.int c, .int (m 30 2), .ref 31] m Q
    refine ez_castv rfl (by decide) rfl (b1 h1) ?_
    show ez xs 28 20 [some (.ref 30), some (.int c), some (.int p)] [] (jj_up m 31 ((m 30 2).toNatClampNeg) (vp_nar .char c)) Q
    refine ez_blk 5 rfl ?_
    show ez xs 28 29 [some (.ref 30), some (.int c), some (.int p)] [.int p, .int (m 30 2), .ref 32] (jj_up m 31 ((m 30 2).toNatClampNeg) (vp_nar .char c)) Q
    refine ez_iastv rfl (by decide) rfl (b2 h1) ?_
    show ez xs 28 30 [some (.ref 30), some (.int c), some (.int p)] [] (jj_up (jj_up m 31 ((m 30 2).toNatClampNeg) (vp_nar .char c)) 32 ((m 30 2).toNatClampNeg) p) Q
    refine ez_blk 6 rfl ?_
    show ez xs 28 40 [some (.ref 30), some (.int c), some (.int p)] [] (jj_up (jj_up (jj_up m 31 ((m 30 2).toNatClampNeg) (vp_nar .char c)) 32 ((m 30 2).toNatClampNeg) p) 30 2 ((m 30 2) + 1)) Q
    exact ez_ret rfl (by decide) rfl (g2 h1)
set_option maxRecDepth 100000 in
set_option maxHeartbeats 2000000 in
theorem c_Tokens_sign {xs : jx_Xs} {m : zM} {Q : Option Value → zM → Prop} {i : Int32}
    (b1 : (¬ i < 0) → (¬ m 30 2 ≤ i) → vp_in i 160)
    (b2 : (¬ i < 0) → (¬ m 30 2 ≤ i) → vp_nar .char (m 31 i.toNatClampNeg) = m 31 i.toNatClampNeg)
    (g1 : (i < 0) → Q (some (.int 0)) m)
    (g2 : (¬ i < 0) → (m 30 2 ≤ i) → Q (some (.int 0)) m)
    (g3 : (¬ i < 0) → (¬ m 30 2 ≤ i) → Q (some (.int (m 31 i.toNatClampNeg))) m) : ez xs 31 0 (jx_ent 31 [.ref 30, .int i]) [] m Q := by
  refine ez_blk 1 rfl ?_
  show ez xs 31 1 [some (.ref 30), some (.int i)] [.int i] m Q
  refine ez_if_lt rfl (fun h1 => ?_) (fun h1 => ?_)
  · show ez xs 31 21 [some (.ref 30), some (.int i)] [] m Q
    refine ez_blk 1 rfl ?_
    show ez xs 31 22 [some (.ref 30), some (.int i)] [.int 0] m Q
    exact ez_ret rfl (by decide) rfl (g1 h1)
  · show ez xs 31 4 [some (.ref 30), some (.int i)] [] m Q
    refine ez_blk 3 rfl ?_
    show ez xs 31 9 [some (.ref 30), some (.int i)] [.int (m 30 2), .int i] m Q
    refine ez_icmp_ge rfl (fun h2 => ?_) (fun h2 => ?_)
    · show ez xs 31 21 [some (.ref 30), some (.int i)] [] m Q
      refine ez_blk 1 rfl ?_
      show ez xs 31 22 [some (.ref 30), some (.int i)] [.int 0] m Q
      exact ez_ret rfl (by decide) rfl (g2 h1 h2)
    · show ez xs 31 12 [some (.ref 30), some (.int i)] [] m Q
      refine ez_blk 3 rfl ?_
      show ez xs 31 17 [some (.ref 30), some (.int i)] [.int i, .ref 31] m Q
      refine ez_caldv rfl (by decide) rfl (b1 h1 h2) ?_
      show ez xs 31 18 [some (.ref 30), some (.int i)] [.int (m 31 i.toNatClampNeg)] m Q
      refine ez_blk 1 rfl ?_
      show ez xs 31 22 [some (.ref 30), some (.int i)] [.int (m 31 i.toNatClampNeg)] m Q
      exact ez_retc rfl rfl (b2 h1 h2) (g3 h1 h2)
def f_Tokens_sign (m : zM) (i : Int32) : Int32 := if i < 0 then 0 else if m 30 2 ≤ i then 0 else (m 31 i.toNatClampNeg)
theorem d_Tokens_sign {xs : jx_Xs} {m : zM} {Q : Option Value → zM → Prop} {i : Int32}
    (b1 : (¬ i < 0) → (¬ m 30 2 ≤ i) → vp_in i 160)
    (b2 : (¬ i < 0) → (¬ m 30 2 ≤ i) → vp_nar .char (m 31 i.toNatClampNeg) = m 31 i.toNatClampNeg)
    (g : Q (some (.int (f_Tokens_sign m i))) m) : ez xs 31 0 (jx_ent 31 [.ref 30, .int i]) [] m Q := by
  refine c_Tokens_sign b1 b2 (fun e0 => by rw [show f_Tokens_sign m i = 0 from by unfold f_Tokens_sign; rw [if_pos e0]] at g; exact g) (fun e0 e1 => by rw [show f_Tokens_sign m i = 0 from by unfold f_Tokens_sign; rw [if_neg e0, if_pos e1]] at g; exact g) (fun e0 e1 => by rw [show f_Tokens_sign m i = (m 31 i.toNatClampNeg) from by unfold f_Tokens_sign; rw [if_neg e0, if_neg e1]] at g; exact g)
set_option maxRecDepth 100000 in
set_option maxHeartbeats 2000000 in
theorem c_Tokens_place {xs : jx_Xs} {m : zM} {Q : Option Value → zM → Prop} {i : Int32}
    (b1 : (¬ i < 0) → (¬ m 30 2 ≤ i) → vp_in i 160)
    (g1 : (i < 0) → Q (some (.int (-1))) m)
    (g2 : (¬ i < 0) → (m 30 2 ≤ i) → Q (some (.int (-1))) m)
    (g3 : (¬ i < 0) → (¬ m 30 2 ≤ i) → Q (some (.int (m 32 i.toNatClampNeg))) m) : ez xs 46 0 (jx_ent 46 [.ref 30, .int i]) [] m Q := by
  refine ez_blk 1 rfl ?_
  show ez xs 46 1 [some (.ref 30), some (.int i)] [.int i] m Q
  refine ez_if_lt rfl (fun h1 => ?_) (fun h1 => ?_)
  · show ez xs 46 21 [some (.ref 30), some (.int i)] [] m Q
    refine ez_blk 1 rfl ?_
    show ez xs 46 22 [some (.ref 30), some (.int i)] [.int (-1)] m Q
    exact ez_ret rfl (by decide) rfl (g1 h1)
  · show ez xs 46 4 [some (.ref 30), some (.int i)] [] m Q
    refine ez_blk 3 rfl ?_
    show ez xs 46 9 [some (.ref 30), some (.int i)] [.int (m 30 2), .int i] m Q
    refine ez_icmp_ge rfl (fun h2 => ?_) (fun h2 => ?_)
    · show ez xs 46 21 [some (.ref 30), some (.int i)] [] m Q
      refine ez_blk 1 rfl ?_
      show ez xs 46 22 [some (.ref 30), some (.int i)] [.int (-1)] m Q
      exact ez_ret rfl (by decide) rfl (g2 h1 h2)
    · show ez xs 46 12 [some (.ref 30), some (.int i)] [] m Q
      refine ez_blk 3 rfl ?_
      show ez xs 46 17 [some (.ref 30), some (.int i)] [.int i, .ref 32] m Q
      refine ez_ialdv rfl (by decide) rfl (b1 h1 h2) ?_
      show ez xs 46 18 [some (.ref 30), some (.int i)] [.int (m 32 i.toNatClampNeg)] m Q
      refine ez_blk 1 rfl ?_
      show ez xs 46 22 [some (.ref 30), some (.int i)] [.int (m 32 i.toNatClampNeg)] m Q
      exact ez_ret rfl (by decide) rfl (g3 h1 h2)
def f_Tokens_place (m : zM) (i : Int32) : Int32 := if i < 0 then (-1) else if m 30 2 ≤ i then (-1) else (m 32 i.toNatClampNeg)
theorem d_Tokens_place {xs : jx_Xs} {m : zM} {Q : Option Value → zM → Prop} {i : Int32}
    (b1 : (¬ i < 0) → (¬ m 30 2 ≤ i) → vp_in i 160)
    (g : Q (some (.int (f_Tokens_place m i))) m) : ez xs 46 0 (jx_ent 46 [.ref 30, .int i]) [] m Q := by
  refine c_Tokens_place b1 (fun e0 => by rw [show f_Tokens_place m i = (-1) from by unfold f_Tokens_place; rw [if_pos e0]] at g; exact g) (fun e0 e1 => by rw [show f_Tokens_place m i = (-1) from by unfold f_Tokens_place; rw [if_neg e0, if_pos e1]] at g; exact g) (fun e0 e1 => by rw [show f_Tokens_place m i = (m 32 i.toNatClampNeg) from by unfold f_Tokens_place; rw [if_neg e0, if_neg e1]] at g; exact g)
set_option maxRecDepth 100000 in
set_option maxHeartbeats 2000000 in
theorem c_Parser_ahead {xs : jx_Xs} {m : zM} {Q : Option Value → zM → Prop} {i : Int32}
    (b1 : (¬ ((m 29 6) + i) < 0) → (¬ m 30 2 ≤ ((m 29 6) + i)) → vp_in ((m 29 6) + i) 160)
    (b2 : (¬ ((m 29 6) + i) < 0) → (¬ m 30 2 ≤ ((m 29 6) + i)) → vp_nar .char (m 31 ((m 29 6) + i).toNatClampNeg) = m 31 ((m 29 6) + i).toNatClampNeg)
    (b3 : vp_nar .char (f_Tokens_sign m ((m 29 6) + i)) = f_Tokens_sign m ((m 29 6) + i))
    (g1 : Q (some (.int (f_Tokens_sign m ((m 29 6) + i)))) m) : ez xs 32 0 (jx_ent 32 [.ref 29, .int i]) [] m Q := by
  refine ez_blk 6 rfl ?_
  show ez xs 32 10 [some (.ref 29), some (.int i)] [.int ((m 29 6) + i), .ref 30] m Q
  refine ez_call (as := [.ref 30, .int ((m 29 6) + i)]) (rest := []) rfl (by decide) rfl ?_
  refine d_Tokens_sign (fun h1 h2 => b1 h1 h2) (fun h3 h4 => b2 h3 h4) ?_
  show ez xs 32 13 [some (.ref 29), some (.int i)] [.int (f_Tokens_sign m ((m 29 6) + i))] m Q
  exact ez_retc rfl rfl (b3) (g1)
set_option maxRecDepth 100000 in
set_option maxHeartbeats 2000000 in
theorem c_Program_size {xs : jx_Xs} {m : zM} {Q : Option Value → zM → Prop}
    (g1 : Q (some (.int (m 3 1))) m) : ez xs 59 0 (jx_ent 59 [.ref 3]) [] m Q := by
  refine ez_blk 2 rfl ?_
  show ez xs 59 4 [some (.ref 3)] [.int (m 3 1)] m Q
  exact ez_ret rfl (by decide) rfl (g1)
set_option maxRecDepth 100000 in
set_option maxHeartbeats 2000000 in
theorem c_Program_holds {xs : jx_Xs} {m : zM} {Q : Option Value → zM → Prop} {n : Int32}
    (g1 : (n < 0) → Q (some (.int 0)) m)
    (g2 : (¬ n < 0) → (m 3 1 ≤ n) → Q (some (.int 0)) m)
    (g3 : (¬ n < 0) → (¬ m 3 1 ≤ n) → Q (some (.int 1)) m) : ez xs 73 0 (jx_ent 73 [.ref 3, .int n]) [] m Q := by
  refine ez_blk 1 rfl ?_
  show ez xs 73 1 [some (.ref 3), some (.int n)] [.int n] m Q
  refine ez_if_lt rfl (fun h1 => ?_) (fun h1 => ?_)
  · show ez xs 73 16 [some (.ref 3), some (.int n)] [] m Q
    refine ez_blk 1 rfl ?_
    show ez xs 73 17 [some (.ref 3), some (.int n)] [.int 0] m Q
    exact ez_ret rfl (by decide) rfl (g1 h1)
  · show ez xs 73 4 [some (.ref 3), some (.int n)] [] m Q
    refine ez_blk 3 rfl ?_
    show ez xs 73 9 [some (.ref 3), some (.int n)] [.int (m 3 1), .int n] m Q
    refine ez_icmp_ge rfl (fun h2 => ?_) (fun h2 => ?_)
    · show ez xs 73 16 [some (.ref 3), some (.int n)] [] m Q
      refine ez_blk 1 rfl ?_
      show ez xs 73 17 [some (.ref 3), some (.int n)] [.int 0] m Q
      exact ez_ret rfl (by decide) rfl (g2 h1 h2)
    · show ez xs 73 12 [some (.ref 3), some (.int n)] [] m Q
      refine ez_blk 2 rfl ?_
      show ez xs 73 17 [some (.ref 3), some (.int n)] [.int 1] m Q
      exact ez_ret rfl (by decide) rfl (g3 h1 h2)
def f_Program_holds (m : zM) (n : Int32) : Int32 := if n < 0 then 0 else if m 3 1 ≤ n then 0 else 1
theorem d_Program_holds {xs : jx_Xs} {m : zM} {Q : Option Value → zM → Prop} {n : Int32}
    (g : Q (some (.int (f_Program_holds m n))) m) : ez xs 73 0 (jx_ent 73 [.ref 3, .int n]) [] m Q := by
  refine c_Program_holds (fun e0 => by rw [show f_Program_holds m n = 0 from by unfold f_Program_holds; rw [if_pos e0]] at g; exact g) (fun e0 e1 => by rw [show f_Program_holds m n = 0 from by unfold f_Program_holds; rw [if_neg e0, if_pos e1]] at g; exact g) (fun e0 e1 => by rw [show f_Program_holds m n = 1 from by unfold f_Program_holds; rw [if_neg e0, if_neg e1]] at g; exact g)
set_option maxRecDepth 100000 in
set_option maxHeartbeats 2000000 in
theorem c_Program_empty {xs : jx_Xs} {m : zM} {Q : Option Value → zM → Prop}
    (g1 : Q none (jj_up m 3 1 0)) : ez xs 27 0 (jx_ent 27 [.ref 3]) [] m Q := by
  refine ez_blk 3 rfl ?_
  show ez xs 27 5 [some (.ref 3)] [] (jj_up m 3 1 0) Q
  exact ez_ret rfl (by decide) rfl (g1)
set_option maxRecDepth 100000 in
set_option maxHeartbeats 2000000 in
theorem c_Program_isFull {xs : jx_Xs} {m : zM} {Q : Option Value → zM → Prop}
    (g1 : (m 3 1 < 24) → Q (some (.int 0)) m)
    (g2 : (¬ m 3 1 < 24) → Q (some (.int 1)) m) : ez xs 36 0 (jx_ent 36 [.ref 3]) [] m Q := by
  refine ez_blk 3 rfl ?_
  show ez xs 36 6 [some (.ref 3)] [.int 24, .int (m 3 1)] m Q
  refine ez_icmp_lt rfl (fun h1 => ?_) (fun h1 => ?_)
  · show ez xs 36 13 [some (.ref 3)] [] m Q
    refine ez_blk 1 rfl ?_
    show ez xs 36 14 [some (.ref 3)] [.int 0] m Q
    exact ez_ret rfl (by decide) rfl (g1 h1)
  · show ez xs 36 9 [some (.ref 3)] [] m Q
    refine ez_blk 2 rfl ?_
    show ez xs 36 14 [some (.ref 3)] [.int 1] m Q
    exact ez_ret rfl (by decide) rfl (g2 h1)
def f_Program_isFull (m : zM) : Int32 := if m 3 1 < 24 then 0 else 1
theorem d_Program_isFull {xs : jx_Xs} {m : zM} {Q : Option Value → zM → Prop}
    (g : Q (some (.int (f_Program_isFull m))) m) : ez xs 36 0 (jx_ent 36 [.ref 3]) [] m Q := by
  refine c_Program_isFull (fun e0 => by rw [show f_Program_isFull m = 0 from by unfold f_Program_isFull; rw [if_pos e0]] at g; exact g) (fun e0 => by rw [show f_Program_isFull m = 1 from by unfold f_Program_isFull; rw [if_neg e0]] at g; exact g)
set_option maxRecDepth 100000 in
set_option maxHeartbeats 2000000 in
theorem c_Program_append {xs : jx_Xs} {m : zM} {Q : Option Value → zM → Prop}
    (g1 : (24 ≤ m 3 1) → Q (some (.int ((m 3 1) - 1))) m)
    (g2 : (¬ 24 ≤ m 3 1) → Q (some (.int (((m 3 1) + 1) - 1))) (jj_up m 3 1 ((m 3 1) + 1))) : ez xs 45 0 (jx_ent 45 [.ref 3]) [] m Q := by
  refine ez_blk 3 rfl ?_
  show ez xs 45 6 [some (.ref 3)] [.int 24, .int (m 3 1)] m Q
  refine ez_icmp_ge rfl (fun h1 => ?_) (fun h1 => ?_)
  · show ez xs 45 19 [some (.ref 3)] [] m Q
    refine ez_blk 4 rfl ?_
    show ez xs 45 25 [some (.ref 3)] [.int ((m 3 1) - 1)] m Q
    exact ez_ret rfl (by decide) rfl (g1 h1)
  · show ez xs 45 9 [some (.ref 3)] [] m Q
    refine ez_blk 10 rfl ?_
    show ez xs 45 25 [some (.ref 3)] [.int (((m 3 1) + 1) - 1)] (jj_up m 3 1 ((m 3 1) + 1)) Q
    exact ez_ret rfl (by decide) rfl (g2 h1)
set_option maxRecDepth 100000 in
set_option maxHeartbeats 2000000 in
theorem c_Program_exitBit {xs : jx_Xs} {m : zM} {Q : Option Value → zM → Prop}
    (g1 : Q (some (.int ((1 : Int32) <<< ((m 3 1) &&& 31)))) m) : ez xs 118 0 (jx_ent 118 [.ref 3]) [] m Q := by
  refine ez_blk 4 rfl ?_
  show ez xs 118 6 [some (.ref 3)] [.int ((1 : Int32) <<< ((m 3 1) &&& 31))] m Q
  exact ez_ret rfl (by decide) rfl (g1)
set_option maxRecDepth 100000 in
set_option maxHeartbeats 2000000 in
theorem c_M_look {xs : jx_Xs} {m : zM} {Q : Option Value → zM → Prop} {i : Int32}
    (b1 : (¬ m 131 2 ≤ i) → vp_in i 160)
    (g1 : (m 131 2 ≤ i) → Q (some (.int 0)) m)
    (g2 : (¬ m 131 2 ≤ i) → Q (some (.int (m 133 i.toNatClampNeg))) m) : ez xs 62 0 (jx_ent 62 [.ref 131, .int i]) [] m Q := by
  refine ez_blk 3 rfl ?_
  show ez xs 62 5 [some (.ref 131), some (.int i)] [.int (m 131 2), .int i] m Q
  refine ez_icmp_ge rfl (fun h1 => ?_) (fun h1 => ?_)
  · show ez xs 62 17 [some (.ref 131), some (.int i)] [] m Q
    refine ez_blk 1 rfl ?_
    show ez xs 62 18 [some (.ref 131), some (.int i)] [.int 0] m Q
    exact ez_ret rfl (by decide) rfl (g1 h1)
  · show ez xs 62 8 [some (.ref 131), some (.int i)] [] m Q
    refine ez_blk 3 rfl ?_
    show ez xs 62 13 [some (.ref 131), some (.int i)] [.int i, .ref 133] m Q
    refine ez_ialdv rfl (by decide) rfl (b1 h1) ?_
    show ez xs 62 14 [some (.ref 131), some (.int i)] [.int (m 133 i.toNatClampNeg)] m Q
    refine ez_blk 1 rfl ?_
    show ez xs 62 18 [some (.ref 131), some (.int i)] [.int (m 133 i.toNatClampNeg)] m Q
    exact ez_ret rfl (by decide) rfl (g2 h1)
def f_M_look (m : zM) (i : Int32) : Int32 := if m 131 2 ≤ i then 0 else (m 133 i.toNatClampNeg)
theorem d_M_look {xs : jx_Xs} {m : zM} {Q : Option Value → zM → Prop} {i : Int32}
    (b1 : (¬ m 131 2 ≤ i) → vp_in i 160)
    (g : Q (some (.int (f_M_look m i))) m) : ez xs 62 0 (jx_ent 62 [.ref 131, .int i]) [] m Q := by
  refine c_M_look b1 (fun e0 => by rw [show f_M_look m i = 0 from by unfold f_M_look; rw [if_pos e0]] at g; exact g) (fun e0 => by rw [show f_M_look m i = (m 133 i.toNatClampNeg) from by unfold f_M_look; rw [if_neg e0]] at g; exact g)
set_option maxRecDepth 100000 in
set_option maxHeartbeats 2000000 in
theorem c_M_variable {xs : jx_Xs} {m : zM} {Q : Option Value → zM → Prop} {i : Int32}
    (b1 : (¬ m 131 2 ≤ i) → vp_in i 160)
    (b2 : (¬ f_M_look m i < 97) → (¬ m 131 2 ≤ i) → vp_in i 160)
    (g1 : (f_M_look m i < 97) → Q (some (.int 0)) m)
    (g2 : (¬ f_M_look m i < 97) → (100 < f_M_look m i) → Q (some (.int 0)) m)
    (g3 : (¬ f_M_look m i < 97) → (¬ 100 < f_M_look m i) → Q (some (.int 1)) m) : ez xs 65 0 (jx_ent 65 [.ref 131, .int i]) [] m Q := by
  refine ez_blk 2 rfl ?_
  show ez xs 65 2 [some (.ref 131), some (.int i)] [.int i, .ref 131] m Q
  refine ez_call (as := [.ref 131, .int i]) (rest := []) rfl (by decide) rfl ?_
  refine d_M_look (fun h1 => b1 h1) ?_
  show ez xs 65 5 [some (.ref 131), some (.int i)] [.int (f_M_look m i)] m Q
  refine ez_blk 1 rfl ?_
  show ez xs 65 7 [some (.ref 131), some (.int i)] [.int 97, .int (f_M_look m i)] m Q
  refine ez_icmp_lt rfl (fun h2 => ?_) (fun h2 => ?_)
  · show ez xs 65 24 [some (.ref 131), some (.int i)] [] m Q
    refine ez_blk 1 rfl ?_
    show ez xs 65 25 [some (.ref 131), some (.int i)] [.int 0] m Q
    exact ez_ret rfl (by decide) rfl (g1 h2)
  · show ez xs 65 10 [some (.ref 131), some (.int i)] [] m Q
    refine ez_blk 2 rfl ?_
    show ez xs 65 12 [some (.ref 131), some (.int i)] [.int i, .ref 131] m Q
    refine ez_call (as := [.ref 131, .int i]) (rest := []) rfl (by decide) rfl ?_
    refine d_M_look (fun h3 => b2 h2 h3) ?_
    show ez xs 65 15 [some (.ref 131), some (.int i)] [.int (f_M_look m i)] m Q
    refine ez_blk 1 rfl ?_
    show ez xs 65 17 [some (.ref 131), some (.int i)] [.int 100, .int (f_M_look m i)] m Q
    refine ez_icmp_gt rfl (fun h4 => ?_) (fun h4 => ?_)
    · show ez xs 65 24 [some (.ref 131), some (.int i)] [] m Q
      refine ez_blk 1 rfl ?_
      show ez xs 65 25 [some (.ref 131), some (.int i)] [.int 0] m Q
      exact ez_ret rfl (by decide) rfl (g2 h2 h4)
    · show ez xs 65 20 [some (.ref 131), some (.int i)] [] m Q
      refine ez_blk 2 rfl ?_
      show ez xs 65 25 [some (.ref 131), some (.int i)] [.int 1] m Q
      exact ez_ret rfl (by decide) rfl (g3 h2 h4)
def f_M_variable (m : zM) (i : Int32) : Int32 := if f_M_look m i < 97 then 0 else if 100 < f_M_look m i then 0 else 1
theorem d_M_variable {xs : jx_Xs} {m : zM} {Q : Option Value → zM → Prop} {i : Int32}
    (b1 : (¬ m 131 2 ≤ i) → vp_in i 160)
    (b2 : (¬ f_M_look m i < 97) → (¬ m 131 2 ≤ i) → vp_in i 160)
    (g : Q (some (.int (f_M_variable m i))) m) : ez xs 65 0 (jx_ent 65 [.ref 131, .int i]) [] m Q := by
  refine c_M_variable b1 b2 (fun e0 => by rw [show f_M_variable m i = 0 from by unfold f_M_variable; rw [if_pos e0]] at g; exact g) (fun e0 e1 => by rw [show f_M_variable m i = 0 from by unfold f_M_variable; rw [if_neg e0, if_pos e1]] at g; exact g) (fun e0 e1 => by rw [show f_M_variable m i = 1 from by unfold f_M_variable; rw [if_neg e0, if_neg e1]] at g; exact g)
set_option maxRecDepth 100000 in
set_option maxHeartbeats 2000000 in
theorem c_M_function {xs : jx_Xs} {m : zM} {Q : Option Value → zM → Prop} {i : Int32}
    (b1 : (¬ m 131 2 ≤ i) → vp_in i 160)
    (b2 : (¬ f_M_look m i < 102) → (¬ m 131 2 ≤ i) → vp_in i 160)
    (g1 : (f_M_look m i < 102) → Q (some (.int 0)) m)
    (g2 : (¬ f_M_look m i < 102) → (104 < f_M_look m i) → Q (some (.int 0)) m)
    (g3 : (¬ f_M_look m i < 102) → (¬ 104 < f_M_look m i) → Q (some (.int 1)) m) : ez xs 67 0 (jx_ent 67 [.ref 131, .int i]) [] m Q := by
  refine ez_blk 2 rfl ?_
  show ez xs 67 2 [some (.ref 131), some (.int i)] [.int i, .ref 131] m Q
  refine ez_call (as := [.ref 131, .int i]) (rest := []) rfl (by decide) rfl ?_
  refine d_M_look (fun h1 => b1 h1) ?_
  show ez xs 67 5 [some (.ref 131), some (.int i)] [.int (f_M_look m i)] m Q
  refine ez_blk 1 rfl ?_
  show ez xs 67 7 [some (.ref 131), some (.int i)] [.int 102, .int (f_M_look m i)] m Q
  refine ez_icmp_lt rfl (fun h2 => ?_) (fun h2 => ?_)
  · show ez xs 67 24 [some (.ref 131), some (.int i)] [] m Q
    refine ez_blk 1 rfl ?_
    show ez xs 67 25 [some (.ref 131), some (.int i)] [.int 0] m Q
    exact ez_ret rfl (by decide) rfl (g1 h2)
  · show ez xs 67 10 [some (.ref 131), some (.int i)] [] m Q
    refine ez_blk 2 rfl ?_
    show ez xs 67 12 [some (.ref 131), some (.int i)] [.int i, .ref 131] m Q
    refine ez_call (as := [.ref 131, .int i]) (rest := []) rfl (by decide) rfl ?_
    refine d_M_look (fun h3 => b2 h2 h3) ?_
    show ez xs 67 15 [some (.ref 131), some (.int i)] [.int (f_M_look m i)] m Q
    refine ez_blk 1 rfl ?_
    show ez xs 67 17 [some (.ref 131), some (.int i)] [.int 104, .int (f_M_look m i)] m Q
    refine ez_icmp_gt rfl (fun h4 => ?_) (fun h4 => ?_)
    · show ez xs 67 24 [some (.ref 131), some (.int i)] [] m Q
      refine ez_blk 1 rfl ?_
      show ez xs 67 25 [some (.ref 131), some (.int i)] [.int 0] m Q
      exact ez_ret rfl (by decide) rfl (g2 h2 h4)
    · show ez xs 67 20 [some (.ref 131), some (.int i)] [] m Q
      refine ez_blk 2 rfl ?_
      show ez xs 67 25 [some (.ref 131), some (.int i)] [.int 1] m Q
      exact ez_ret rfl (by decide) rfl (g3 h2 h4)
def f_M_function (m : zM) (i : Int32) : Int32 := if f_M_look m i < 102 then 0 else if 104 < f_M_look m i then 0 else 1
theorem d_M_function {xs : jx_Xs} {m : zM} {Q : Option Value → zM → Prop} {i : Int32}
    (b1 : (¬ m 131 2 ≤ i) → vp_in i 160)
    (b2 : (¬ f_M_look m i < 102) → (¬ m 131 2 ≤ i) → vp_in i 160)
    (g : Q (some (.int (f_M_function m i))) m) : ez xs 67 0 (jx_ent 67 [.ref 131, .int i]) [] m Q := by
  refine c_M_function b1 b2 (fun e0 => by rw [show f_M_function m i = 0 from by unfold f_M_function; rw [if_pos e0]] at g; exact g) (fun e0 e1 => by rw [show f_M_function m i = 0 from by unfold f_M_function; rw [if_neg e0, if_pos e1]] at g; exact g) (fun e0 e1 => by rw [show f_M_function m i = 1 from by unfold f_M_function; rw [if_neg e0, if_neg e1]] at g; exact g)
set_option maxRecDepth 100000 in
set_option maxHeartbeats 2000000 in
theorem c_M_open {xs : jx_Xs} {m : zM} {Q : Option Value → zM → Prop} {t w : Int32}
    (b1 : (¬ m 131 20 = 6) → vp_in ((m 131 20) + 1) 7)
    (b2 : (¬ m 131 20 = 6) → vp_in ((m 131 20) + 1) 7)
    (b3 : (¬ m 131 20 = 6) → vp_in ((m 131 20) + 1) 7)
    (g1 : (¬ m 131 20 = 6) → Q (some (.int 1)) (jj_up (jj_up (jj_up (jj_up m 131 20 ((m 131 20) + 1)) 146 (((m 131 20) + 1).toNatClampNeg) t) 147 (((m 131 20) + 1).toNatClampNeg) w) 148 (((m 131 20) + 1).toNatClampNeg) (-1)))
    (g2 : (m 131 20 = 6) → Q (some (.int 0)) m) : ez xs 63 0 (jx_ent 63 [.ref 131, .int t, .int w]) [] m Q := by
  refine ez_blk 3 rfl ?_
  show ez xs 63 6 [some (.ref 131), some (.int t), some (.int w)] [.int 6, .int (m 131 20)] m Q
  refine ez_icmp_ne rfl (fun h1 => ?_) (fun h1 => ?_)
  · show ez xs 63 11 [some (.ref 131), some (.int t), some (.int w)] [] m Q
    refine ez_blk 11 rfl ?_
    show ez xs 63 30 [some (.ref 131), some (.int t), some (.int w)] [.int t, .int ((m 131 20) + 1), .ref 146] (jj_up m 131 20 ((m 131 20) + 1)) Q
    refine ez_iastv rfl (by decide) rfl (b1 h1) ?_
    show ez xs 63 31 [some (.ref 131), some (.int t), some (.int w)] [] (jj_up (jj_up m 131 20 ((m 131 20) + 1)) 146 (((m 131 20) + 1).toNatClampNeg) t) Q
    refine ez_blk 5 rfl ?_
    show ez xs 63 40 [some (.ref 131), some (.int t), some (.int w)] [.int w, .int ((m 131 20) + 1), .ref 147] (jj_up (jj_up m 131 20 ((m 131 20) + 1)) 146 (((m 131 20) + 1).toNatClampNeg) t) Q
    refine ez_iastv rfl (by decide) rfl (b2 h1) ?_
    show ez xs 63 41 [some (.ref 131), some (.int t), some (.int w)] [] (jj_up (jj_up (jj_up m 131 20 ((m 131 20) + 1)) 146 (((m 131 20) + 1).toNatClampNeg) t) 147 (((m 131 20) + 1).toNatClampNeg) w) Q
    refine ez_blk 5 rfl ?_
    show ez xs 63 50 [some (.ref 131), some (.int t), some (.int w)] [.int (-1), .int ((m 131 20) + 1), .ref 148] (jj_up (jj_up (jj_up m 131 20 ((m 131 20) + 1)) 146 (((m 131 20) + 1).toNatClampNeg) t) 147 (((m 131 20) + 1).toNatClampNeg) w) Q
    refine ez_iastv rfl (by decide) rfl (b3 h1) ?_
    show ez xs 63 51 [some (.ref 131), some (.int t), some (.int w)] [] (jj_up (jj_up (jj_up (jj_up m 131 20 ((m 131 20) + 1)) 146 (((m 131 20) + 1).toNatClampNeg) t) 147 (((m 131 20) + 1).toNatClampNeg) w) 148 (((m 131 20) + 1).toNatClampNeg) (-1)) Q
    refine ez_blk 1 rfl ?_
    show ez xs 63 52 [some (.ref 131), some (.int t), some (.int w)] [.int 1] (jj_up (jj_up (jj_up (jj_up m 131 20 ((m 131 20) + 1)) 146 (((m 131 20) + 1).toNatClampNeg) t) 147 (((m 131 20) + 1).toNatClampNeg) w) 148 (((m 131 20) + 1).toNatClampNeg) (-1)) Q
    exact ez_ret rfl (by decide) rfl (g1 h1)
  · show ez xs 63 9 [some (.ref 131), some (.int t), some (.int w)] [] m Q
    refine ez_blk 1 rfl ?_
    show ez xs 63 10 [some (.ref 131), some (.int t), some (.int w)] [.int 0] m Q
    exact ez_ret rfl (by decide) rfl (g2 h1)
set_option maxRecDepth 100000 in
set_option maxHeartbeats 2000000 in
theorem c_M_valid {xs : jx_Xs} {m : zM} {Q : Option Value → zM → Prop} {o f x y : Int32}
    (g1 : (o < 0) → Q (some (.int 0)) m)
    (g2 : (¬ o < 0) → (3 < o) → Q (some (.int 0)) m)
    (g3 : (¬ o < 0) → (¬ 3 < o) → (x < 0) → Q (some (.int 0)) m)
    (g4 : (¬ o < 0) → (¬ 3 < o) → (¬ x < 0) → (6 < x) → Q (some (.int 0)) m)
    (g5 : (¬ o < 0) → (¬ 3 < o) → (¬ x < 0) → (¬ 6 < x) → (¬ o = 0) → (¬ o = 1) → Q (some (.int 1)) m)
    (g6 : (¬ o < 0) → (¬ 3 < o) → (¬ x < 0) → (¬ 6 < x) → (¬ o = 0) → (o = 1) → (y < 0) → Q (some (.int 0)) m)
    (g7 : (¬ o < 0) → (¬ 3 < o) → (¬ x < 0) → (¬ 6 < x) → (¬ o = 0) → (o = 1) → (¬ y < 0) → (6 < y) → Q (some (.int 0)) m)
    (g8 : (¬ o < 0) → (¬ 3 < o) → (¬ x < 0) → (¬ 6 < x) → (¬ o = 0) → (o = 1) → (¬ y < 0) → (¬ 6 < y) → Q (some (.int 1)) m)
    (g9 : (¬ o < 0) → (¬ 3 < o) → (¬ x < 0) → (¬ 6 < x) → (o = 0) → (f < 0) → Q (some (.int 0)) m)
    (g10 : (¬ o < 0) → (¬ 3 < o) → (¬ x < 0) → (¬ 6 < x) → (o = 0) → (¬ f < 0) → (2 < f) → Q (some (.int 0)) m)
    (g11 : (¬ o < 0) → (¬ 3 < o) → (¬ x < 0) → (¬ 6 < x) → (o = 0) → (¬ f < 0) → (¬ 2 < f) → (¬ o = 1) → Q (some (.int 1)) m)
    (g12 : (¬ o < 0) → (¬ 3 < o) → (¬ x < 0) → (¬ 6 < x) → (o = 0) → (¬ f < 0) → (¬ 2 < f) → (o = 1) → (y < 0) → Q (some (.int 0)) m)
    (g13 : (¬ o < 0) → (¬ 3 < o) → (¬ x < 0) → (¬ 6 < x) → (o = 0) → (¬ f < 0) → (¬ 2 < f) → (o = 1) → (¬ y < 0) → (6 < y) → Q (some (.int 0)) m)
    (g14 : (¬ o < 0) → (¬ 3 < o) → (¬ x < 0) → (¬ 6 < x) → (o = 0) → (¬ f < 0) → (¬ 2 < f) → (o = 1) → (¬ y < 0) → (¬ 6 < y) → Q (some (.int 1)) m) : ez xs 90 0 (jx_ent 90 [.ref 131, .int o, .int f, .int x, .int y]) [] m Q := by
  refine ez_blk 1 rfl ?_
  show ez xs 90 1 [some (.ref 131), some (.int o), some (.int f), some (.int x), some (.int y), none] [.int o] m Q
  refine ez_if_lt rfl (fun h1 => ?_) (fun h1 => ?_)
  · show ez xs 90 23 [some (.ref 131), some (.int o), some (.int f), some (.int x), some (.int y), none] [] m Q
    refine ez_blk 3 rfl ?_
    show ez xs 90 28 [some (.ref 131), some (.int o), some (.int f), some (.int x), some (.int y), some (.int 0)] [.int 0] m Q
    refine ez_if_eq rfl (fun _ => ?_) (fun h => False.elim (by revert h; decide))
    show ez xs 90 65 [some (.ref 131), some (.int o), some (.int f), some (.int x), some (.int y), some (.int 0)] [] m Q
    refine ez_blk 1 rfl ?_
    show ez xs 90 66 [some (.ref 131), some (.int o), some (.int f), some (.int x), some (.int y), some (.int 0)] [.int 0] m Q
    exact ez_ret rfl (by decide) rfl (g1 h1)
  · show ez xs 90 4 [some (.ref 131), some (.int o), some (.int f), some (.int x), some (.int y), none] [] m Q
    refine ez_blk 2 rfl ?_
    show ez xs 90 6 [some (.ref 131), some (.int o), some (.int f), some (.int x), some (.int y), none] [.int 3, .int o] m Q
    refine ez_icmp_gt rfl (fun h2 => ?_) (fun h2 => ?_)
    · show ez xs 90 23 [some (.ref 131), some (.int o), some (.int f), some (.int x), some (.int y), none] [] m Q
      refine ez_blk 3 rfl ?_
      show ez xs 90 28 [some (.ref 131), some (.int o), some (.int f), some (.int x), some (.int y), some (.int 0)] [.int 0] m Q
      refine ez_if_eq rfl (fun _ => ?_) (fun h => False.elim (by revert h; decide))
      show ez xs 90 65 [some (.ref 131), some (.int o), some (.int f), some (.int x), some (.int y), some (.int 0)] [] m Q
      refine ez_blk 1 rfl ?_
      show ez xs 90 66 [some (.ref 131), some (.int o), some (.int f), some (.int x), some (.int y), some (.int 0)] [.int 0] m Q
      exact ez_ret rfl (by decide) rfl (g2 h1 h2)
    · show ez xs 90 9 [some (.ref 131), some (.int o), some (.int f), some (.int x), some (.int y), none] [] m Q
      refine ez_blk 1 rfl ?_
      show ez xs 90 10 [some (.ref 131), some (.int o), some (.int f), some (.int x), some (.int y), none] [.int x] m Q
      refine ez_if_lt rfl (fun h3 => ?_) (fun h3 => ?_)
      · show ez xs 90 23 [some (.ref 131), some (.int o), some (.int f), some (.int x), some (.int y), none] [] m Q
        refine ez_blk 3 rfl ?_
        show ez xs 90 28 [some (.ref 131), some (.int o), some (.int f), some (.int x), some (.int y), some (.int 0)] [.int 0] m Q
        refine ez_if_eq rfl (fun _ => ?_) (fun h => False.elim (by revert h; decide))
        show ez xs 90 65 [some (.ref 131), some (.int o), some (.int f), some (.int x), some (.int y), some (.int 0)] [] m Q
        refine ez_blk 1 rfl ?_
        show ez xs 90 66 [some (.ref 131), some (.int o), some (.int f), some (.int x), some (.int y), some (.int 0)] [.int 0] m Q
        exact ez_ret rfl (by decide) rfl (g3 h1 h2 h3)
      · show ez xs 90 13 [some (.ref 131), some (.int o), some (.int f), some (.int x), some (.int y), none] [] m Q
        refine ez_blk 2 rfl ?_
        show ez xs 90 16 [some (.ref 131), some (.int o), some (.int f), some (.int x), some (.int y), none] [.int 6, .int x] m Q
        refine ez_icmp_gt rfl (fun h4 => ?_) (fun h4 => ?_)
        · show ez xs 90 23 [some (.ref 131), some (.int o), some (.int f), some (.int x), some (.int y), none] [] m Q
          refine ez_blk 3 rfl ?_
          show ez xs 90 28 [some (.ref 131), some (.int o), some (.int f), some (.int x), some (.int y), some (.int 0)] [.int 0] m Q
          refine ez_if_eq rfl (fun _ => ?_) (fun h => False.elim (by revert h; decide))
          show ez xs 90 65 [some (.ref 131), some (.int o), some (.int f), some (.int x), some (.int y), some (.int 0)] [] m Q
          refine ez_blk 1 rfl ?_
          show ez xs 90 66 [some (.ref 131), some (.int o), some (.int f), some (.int x), some (.int y), some (.int 0)] [.int 0] m Q
          exact ez_ret rfl (by decide) rfl (g4 h1 h2 h3 h4)
        · show ez xs 90 19 [some (.ref 131), some (.int o), some (.int f), some (.int x), some (.int y), none] [] m Q
          refine ez_blk 4 rfl ?_
          show ez xs 90 28 [some (.ref 131), some (.int o), some (.int f), some (.int x), some (.int y), some (.int 1)] [.int 1] m Q
          refine ez_if_eq rfl (fun h => False.elim (by revert h; decide)) (fun _ => ?_)
          show ez xs 90 31 [some (.ref 131), some (.int o), some (.int f), some (.int x), some (.int y), some (.int 1)] [] m Q
          refine ez_blk 1 rfl ?_
          show ez xs 90 32 [some (.ref 131), some (.int o), some (.int f), some (.int x), some (.int y), some (.int 1)] [.int o] m Q
          refine ez_if_ne rfl (fun h5 => ?_) (fun h5 => ?_)
          · show ez xs 90 44 [some (.ref 131), some (.int o), some (.int f), some (.int x), some (.int y), some (.int 1)] [] m Q
            refine ez_blk 2 rfl ?_
            show ez xs 90 46 [some (.ref 131), some (.int o), some (.int f), some (.int x), some (.int y), some (.int 1)] [.int 1, .int o] m Q
            refine ez_icmp_ne rfl (fun h6 => ?_) (fun h6 => ?_)
            · show ez xs 90 61 [some (.ref 131), some (.int o), some (.int f), some (.int x), some (.int y), some (.int 1)] [] m Q
              refine ez_blk 2 rfl ?_
              show ez xs 90 66 [some (.ref 131), some (.int o), some (.int f), some (.int x), some (.int y), some (.int 1)] [.int 1] m Q
              exact ez_ret rfl (by decide) rfl (g5 h1 h2 h3 h4 h5 h6)
            · show ez xs 90 49 [some (.ref 131), some (.int o), some (.int f), some (.int x), some (.int y), some (.int 1)] [] m Q
              refine ez_blk 1 rfl ?_
              show ez xs 90 51 [some (.ref 131), some (.int o), some (.int f), some (.int x), some (.int y), some (.int 1)] [.int y] m Q
              refine ez_if_lt rfl (fun h7 => ?_) (fun h7 => ?_)
              · show ez xs 90 65 [some (.ref 131), some (.int o), some (.int f), some (.int x), some (.int y), some (.int 1)] [] m Q
                refine ez_blk 1 rfl ?_
                show ez xs 90 66 [some (.ref 131), some (.int o), some (.int f), some (.int x), some (.int y), some (.int 1)] [.int 0] m Q
                exact ez_ret rfl (by decide) rfl (g6 h1 h2 h3 h4 h5 h6 h7)
              · show ez xs 90 54 [some (.ref 131), some (.int o), some (.int f), some (.int x), some (.int y), some (.int 1)] [] m Q
                refine ez_blk 2 rfl ?_
                show ez xs 90 58 [some (.ref 131), some (.int o), some (.int f), some (.int x), some (.int y), some (.int 1)] [.int 6, .int y] m Q
                refine ez_icmp_gt rfl (fun h8 => ?_) (fun h8 => ?_)
                · show ez xs 90 65 [some (.ref 131), some (.int o), some (.int f), some (.int x), some (.int y), some (.int 1)] [] m Q
                  refine ez_blk 1 rfl ?_
                  show ez xs 90 66 [some (.ref 131), some (.int o), some (.int f), some (.int x), some (.int y), some (.int 1)] [.int 0] m Q
                  exact ez_ret rfl (by decide) rfl (g7 h1 h2 h3 h4 h5 h6 h7 h8)
                · show ez xs 90 61 [some (.ref 131), some (.int o), some (.int f), some (.int x), some (.int y), some (.int 1)] [] m Q
                  refine ez_blk 2 rfl ?_
                  show ez xs 90 66 [some (.ref 131), some (.int o), some (.int f), some (.int x), some (.int y), some (.int 1)] [.int 1] m Q
                  exact ez_ret rfl (by decide) rfl (g8 h1 h2 h3 h4 h5 h6 h7 h8)
          · show ez xs 90 35 [some (.ref 131), some (.int o), some (.int f), some (.int x), some (.int y), some (.int 1)] [] m Q
            refine ez_blk 1 rfl ?_
            show ez xs 90 36 [some (.ref 131), some (.int o), some (.int f), some (.int x), some (.int y), some (.int 1)] [.int f] m Q
            refine ez_if_lt rfl (fun h9 => ?_) (fun h9 => ?_)
            · show ez xs 90 65 [some (.ref 131), some (.int o), some (.int f), some (.int x), some (.int y), some (.int 1)] [] m Q
              refine ez_blk 1 rfl ?_
              show ez xs 90 66 [some (.ref 131), some (.int o), some (.int f), some (.int x), some (.int y), some (.int 1)] [.int 0] m Q
              exact ez_ret rfl (by decide) rfl (g9 h1 h2 h3 h4 h5 h9)
            · show ez xs 90 39 [some (.ref 131), some (.int o), some (.int f), some (.int x), some (.int y), some (.int 1)] [] m Q
              refine ez_blk 2 rfl ?_
              show ez xs 90 41 [some (.ref 131), some (.int o), some (.int f), some (.int x), some (.int y), some (.int 1)] [.int 2, .int f] m Q
              refine ez_icmp_gt rfl (fun h10 => ?_) (fun h10 => ?_)
              · show ez xs 90 65 [some (.ref 131), some (.int o), some (.int f), some (.int x), some (.int y), some (.int 1)] [] m Q
                refine ez_blk 1 rfl ?_
                show ez xs 90 66 [some (.ref 131), some (.int o), some (.int f), some (.int x), some (.int y), some (.int 1)] [.int 0] m Q
                exact ez_ret rfl (by decide) rfl (g10 h1 h2 h3 h4 h5 h9 h10)
              · show ez xs 90 44 [some (.ref 131), some (.int o), some (.int f), some (.int x), some (.int y), some (.int 1)] [] m Q
                refine ez_blk 2 rfl ?_
                show ez xs 90 46 [some (.ref 131), some (.int o), some (.int f), some (.int x), some (.int y), some (.int 1)] [.int 1, .int o] m Q
                refine ez_icmp_ne rfl (fun h11 => ?_) (fun h11 => ?_)
                · show ez xs 90 61 [some (.ref 131), some (.int o), some (.int f), some (.int x), some (.int y), some (.int 1)] [] m Q
                  refine ez_blk 2 rfl ?_
                  show ez xs 90 66 [some (.ref 131), some (.int o), some (.int f), some (.int x), some (.int y), some (.int 1)] [.int 1] m Q
                  exact ez_ret rfl (by decide) rfl (g11 h1 h2 h3 h4 h5 h9 h10 h11)
                · show ez xs 90 49 [some (.ref 131), some (.int o), some (.int f), some (.int x), some (.int y), some (.int 1)] [] m Q
                  refine ez_blk 1 rfl ?_
                  show ez xs 90 51 [some (.ref 131), some (.int o), some (.int f), some (.int x), some (.int y), some (.int 1)] [.int y] m Q
                  refine ez_if_lt rfl (fun h12 => ?_) (fun h12 => ?_)
                  · show ez xs 90 65 [some (.ref 131), some (.int o), some (.int f), some (.int x), some (.int y), some (.int 1)] [] m Q
                    refine ez_blk 1 rfl ?_
                    show ez xs 90 66 [some (.ref 131), some (.int o), some (.int f), some (.int x), some (.int y), some (.int 1)] [.int 0] m Q
                    exact ez_ret rfl (by decide) rfl (g12 h1 h2 h3 h4 h5 h9 h10 h11 h12)
                  · show ez xs 90 54 [some (.ref 131), some (.int o), some (.int f), some (.int x), some (.int y), some (.int 1)] [] m Q
                    refine ez_blk 2 rfl ?_
                    show ez xs 90 58 [some (.ref 131), some (.int o), some (.int f), some (.int x), some (.int y), some (.int 1)] [.int 6, .int y] m Q
                    refine ez_icmp_gt rfl (fun h13 => ?_) (fun h13 => ?_)
                    · show ez xs 90 65 [some (.ref 131), some (.int o), some (.int f), some (.int x), some (.int y), some (.int 1)] [] m Q
                      refine ez_blk 1 rfl ?_
                      show ez xs 90 66 [some (.ref 131), some (.int o), some (.int f), some (.int x), some (.int y), some (.int 1)] [.int 0] m Q
                      exact ez_ret rfl (by decide) rfl (g13 h1 h2 h3 h4 h5 h9 h10 h11 h12 h13)
                    · show ez xs 90 61 [some (.ref 131), some (.int o), some (.int f), some (.int x), some (.int y), some (.int 1)] [] m Q
                      refine ez_blk 2 rfl ?_
                      show ez xs 90 66 [some (.ref 131), some (.int o), some (.int f), some (.int x), some (.int y), some (.int 1)] [.int 1] m Q
                      exact ez_ret rfl (by decide) rfl (g14 h1 h2 h3 h4 h5 h9 h10 h11 h12 h13)
def f_M_valid (m : zM) (o f x y : Int32) : Int32 := if o < 0 then 0 else if 3 < o then 0 else if x < 0 then 0 else if 6 < x then 0 else if o = 0 then if f < 0 then 0 else if 2 < f then 0 else if o = 1 then if y < 0 then 0 else if 6 < y then 0 else 1 else 1 else if o = 1 then if y < 0 then 0 else if 6 < y then 0 else 1 else 1
theorem d_M_valid {xs : jx_Xs} {m : zM} {Q : Option Value → zM → Prop} {o f x y : Int32}
    (g : Q (some (.int (f_M_valid m o f x y))) m) : ez xs 90 0 (jx_ent 90 [.ref 131, .int o, .int f, .int x, .int y]) [] m Q := by
  refine c_M_valid (fun e0 => by rw [show f_M_valid m o f x y = 0 from by unfold f_M_valid; rw [if_pos e0]] at g; exact g) (fun e0 e1 => by rw [show f_M_valid m o f x y = 0 from by unfold f_M_valid; rw [if_neg e0, if_pos e1]] at g; exact g) (fun e0 e1 e2 => by rw [show f_M_valid m o f x y = 0 from by unfold f_M_valid; rw [if_neg e0, if_neg e1, if_pos e2]] at g; exact g) (fun e0 e1 e2 e3 => by rw [show f_M_valid m o f x y = 0 from by unfold f_M_valid; rw [if_neg e0, if_neg e1, if_neg e2, if_pos e3]] at g; exact g) (fun e0 e1 e2 e3 e4 e5 => by rw [show f_M_valid m o f x y = 1 from by unfold f_M_valid; rw [if_neg e0, if_neg e1, if_neg e2, if_neg e3, if_neg e4, if_neg e5]] at g; exact g) (fun e0 e1 e2 e3 e4 e5 e6 => by rw [show f_M_valid m o f x y = 0 from by unfold f_M_valid; rw [if_neg e0, if_neg e1, if_neg e2, if_neg e3, if_neg e4, if_pos e5, if_pos e6]] at g; exact g) (fun e0 e1 e2 e3 e4 e5 e6 e7 => by rw [show f_M_valid m o f x y = 0 from by unfold f_M_valid; rw [if_neg e0, if_neg e1, if_neg e2, if_neg e3, if_neg e4, if_pos e5, if_neg e6, if_pos e7]] at g; exact g) (fun e0 e1 e2 e3 e4 e5 e6 e7 => by rw [show f_M_valid m o f x y = 1 from by unfold f_M_valid; rw [if_neg e0, if_neg e1, if_neg e2, if_neg e3, if_neg e4, if_pos e5, if_neg e6, if_neg e7]] at g; exact g) (fun e0 e1 e2 e3 e4 e5 => by rw [show f_M_valid m o f x y = 0 from by unfold f_M_valid; rw [if_neg e0, if_neg e1, if_neg e2, if_neg e3, if_pos e4, if_pos e5]] at g; exact g) (fun e0 e1 e2 e3 e4 e5 e6 => by rw [show f_M_valid m o f x y = 0 from by unfold f_M_valid; rw [if_neg e0, if_neg e1, if_neg e2, if_neg e3, if_pos e4, if_neg e5, if_pos e6]] at g; exact g) (fun e0 e1 e2 e3 e4 e5 e6 e7 => by rw [show f_M_valid m o f x y = 1 from by unfold f_M_valid; rw [if_neg e0, if_neg e1, if_neg e2, if_neg e3, if_pos e4, if_neg e5, if_neg e6, if_neg e7]] at g; exact g) (fun e0 e1 e2 e3 e4 e5 e6 e7 e8 => by rw [show f_M_valid m o f x y = 0 from by unfold f_M_valid; rw [if_neg e0, if_neg e1, if_neg e2, if_neg e3, if_pos e4, if_neg e5, if_neg e6, if_pos e7, if_pos e8]] at g; exact g) (fun e0 e1 e2 e3 e4 e5 e6 e7 e8 e9 => by rw [show f_M_valid m o f x y = 0 from by unfold f_M_valid; rw [if_neg e0, if_neg e1, if_neg e2, if_neg e3, if_pos e4, if_neg e5, if_neg e6, if_pos e7, if_neg e8, if_pos e9]] at g; exact g) (fun e0 e1 e2 e3 e4 e5 e6 e7 e8 e9 => by rw [show f_M_valid m o f x y = 1 from by unfold f_M_valid; rw [if_neg e0, if_neg e1, if_neg e2, if_neg e3, if_pos e4, if_neg e5, if_neg e6, if_pos e7, if_neg e8, if_neg e9]] at g; exact g)
set_option maxRecDepth 100000 in
set_option maxHeartbeats 2000000 in
theorem c_M_mark {xs : jx_Xs} {m : zM} {Q : Option Value → zM → Prop} {p : Int32}
    (g1 : (p < 4) → Q (some (.int 0)) m)
    (g2 : (¬ p < 4) → Q (some (.int ((1 : Int32) <<< ((p - 4) &&& 31)))) m) : ez xs 101 0 (jx_ent 101 [.ref 131, .int p]) [] m Q := by
  refine ez_blk 2 rfl ?_
  show ez xs 101 2 [some (.ref 131), some (.int p)] [.int 4, .int p] m Q
  refine ez_icmp_lt rfl (fun h1 => ?_) (fun h1 => ?_)
  · show ez xs 101 13 [some (.ref 131), some (.int p)] [] m Q
    refine ez_blk 1 rfl ?_
    show ez xs 101 14 [some (.ref 131), some (.int p)] [.int 0] m Q
    exact ez_ret rfl (by decide) rfl (g1 h1)
  · show ez xs 101 5 [some (.ref 131), some (.int p)] [] m Q
    refine ez_blk 6 rfl ?_
    show ez xs 101 14 [some (.ref 131), some (.int p)] [.int ((1 : Int32) <<< ((p - 4) &&& 31))] m Q
    exact ez_ret rfl (by decide) rfl (g2 h1)
def f_M_mark (m : zM) (p : Int32) : Int32 := if p < 4 then 0 else ((1 : Int32) <<< ((p - 4) &&& 31))
theorem d_M_mark {xs : jx_Xs} {m : zM} {Q : Option Value → zM → Prop} {p : Int32}
    (g : Q (some (.int (f_M_mark m p))) m) : ez xs 101 0 (jx_ent 101 [.ref 131, .int p]) [] m Q := by
  refine c_M_mark (fun e0 => by rw [show f_M_mark m p = 0 from by unfold f_M_mark; rw [if_pos e0]] at g; exact g) (fun e0 => by rw [show f_M_mark m p = ((1 : Int32) <<< ((p - 4) &&& 31)) from by unfold f_M_mark; rw [if_neg e0]] at g; exact g)
set_option maxRecDepth 100000 in
set_option maxHeartbeats 2000000 in
theorem c_M_names {xs : jx_Xs} {m : zM} {Q : Option Value → zM → Prop} {o x y : Int32}
    (g1 : (¬ o = 1) → Q (some (.int ((f_M_mark m x) ||| 0))) m)
    (g2 : (o = 1) → Q (some (.int ((f_M_mark m x) ||| (f_M_mark m y)))) m) : ez xs 102 0 (jx_ent 102 [.ref 131, .int o, .int x, .int y]) [] m Q := by
  refine ez_blk 2 rfl ?_
  show ez xs 102 2 [some (.ref 131), some (.int o), some (.int x), some (.int y)] [.int x, .ref 131] m Q
  refine ez_call (as := [.ref 131, .int x]) (rest := []) rfl (by decide) rfl ?_
  refine d_M_mark ?_
  show ez xs 102 5 [some (.ref 131), some (.int o), some (.int x), some (.int y)] [.int (f_M_mark m x)] m Q
  refine ez_blk 2 rfl ?_
  show ez xs 102 7 [some (.ref 131), some (.int o), some (.int x), some (.int y)] [.int 1, .int o, .int (f_M_mark m x)] m Q
  refine ez_icmp_ne rfl (fun h1 => ?_) (fun h1 => ?_)
  · show ez xs 102 18 [some (.ref 131), some (.int o), some (.int x), some (.int y)] [.int (f_M_mark m x)] m Q
    refine ez_blk 2 rfl ?_
    show ez xs 102 20 [some (.ref 131), some (.int o), some (.int x), some (.int y)] [.int ((f_M_mark m x) ||| 0)] m Q
    exact ez_ret rfl (by decide) rfl (g1 h1)
  · show ez xs 102 10 [some (.ref 131), some (.int o), some (.int x), some (.int y)] [.int (f_M_mark m x)] m Q
    refine ez_blk 2 rfl ?_
    show ez xs 102 12 [some (.ref 131), some (.int o), some (.int x), some (.int y)] [.int y, .ref 131, .int (f_M_mark m x)] m Q
    refine ez_call (as := [.ref 131, .int y]) (rest := [.int (f_M_mark m x)]) rfl (by decide) rfl ?_
    refine d_M_mark ?_
    show ez xs 102 15 [some (.ref 131), some (.int o), some (.int x), some (.int y)] [.int (f_M_mark m y), .int (f_M_mark m x)] m Q
    refine ez_blk 2 rfl ?_
    show ez xs 102 20 [some (.ref 131), some (.int o), some (.int x), some (.int y)] [.int ((f_M_mark m x) ||| (f_M_mark m y))] m Q
    exact ez_ret rfl (by decide) rfl (g2 h1)
def f_M_names (m : zM) (o x y : Int32) : Int32 := if o = 1 then ((f_M_mark m x) ||| (f_M_mark m y)) else ((f_M_mark m x) ||| 0)
theorem d_M_names {xs : jx_Xs} {m : zM} {Q : Option Value → zM → Prop} {o x y : Int32}
    (g : Q (some (.int (f_M_names m o x y))) m) : ez xs 102 0 (jx_ent 102 [.ref 131, .int o, .int x, .int y]) [] m Q := by
  refine c_M_names (fun e0 => by rw [show f_M_names m o x y = ((f_M_mark m x) ||| 0) from by unfold f_M_names; rw [if_neg e0]] at g; exact g) (fun e0 => by rw [show f_M_names m o x y = ((f_M_mark m x) ||| (f_M_mark m y)) from by unfold f_M_names; rw [if_pos e0]] at g; exact g)
set_option maxRecDepth 100000 in
set_option maxHeartbeats 2000000 in
theorem c_M_noLast {xs : jx_Xs} {m : zM} {Q : Option Value → zM → Prop}
    (b1 : (¬ m 131 21 = 0) → vp_in ((m 131 21) - 1) 6)
    (g1 : (m 131 21 = 0) → Q (some (.int 1)) m)
    (g2 : (¬ m 131 21 = 0) → (m 154 ((m 131 21) - 1).toNatClampNeg = 0) → Q (some (.int 0)) m)
    (g3 : (¬ m 131 21 = 0) → (¬ m 154 ((m 131 21) - 1).toNatClampNeg = 0) → Q (some (.int 1)) m) : ez xs 100 0 (jx_ent 100 [.ref 131]) [] m Q := by
  refine ez_blk 2 rfl ?_
  show ez xs 100 4 [some (.ref 131)] [.int (m 131 21)] m Q
  refine ez_if_eq rfl (fun h1 => ?_) (fun h1 => ?_)
  · show ez xs 100 21 [some (.ref 131)] [] m Q
    refine ez_blk 2 rfl ?_
    show ez xs 100 26 [some (.ref 131)] [.int 1] m Q
    exact ez_ret rfl (by decide) rfl (g1 h1)
  · show ez xs 100 7 [some (.ref 131)] [] m Q
    refine ez_blk 6 rfl ?_
    show ez xs 100 17 [some (.ref 131)] [.int ((m 131 21) - 1), .ref 154] m Q
    refine ez_zaldv rfl (by decide) rfl (b1 h1) ?_
    show ez xs 100 18 [some (.ref 131)] [.int (m 154 ((m 131 21) - 1).toNatClampNeg)] m Q
    refine ez_if_eq rfl (fun h2 => ?_) (fun h2 => ?_)
    · show ez xs 100 25 [some (.ref 131)] [] m Q
      refine ez_blk 1 rfl ?_
      show ez xs 100 26 [some (.ref 131)] [.int 0] m Q
      exact ez_ret rfl (by decide) rfl (g2 h1 h2)
    · show ez xs 100 21 [some (.ref 131)] [] m Q
      refine ez_blk 2 rfl ?_
      show ez xs 100 26 [some (.ref 131)] [.int 1] m Q
      exact ez_ret rfl (by decide) rfl (g3 h1 h2)
def f_M_noLast (m : zM) : Int32 := if m 131 21 = 0 then 1 else if m 154 ((m 131 21) - 1).toNatClampNeg = 0 then 0 else 1
theorem d_M_noLast {xs : jx_Xs} {m : zM} {Q : Option Value → zM → Prop}
    (b1 : (¬ m 131 21 = 0) → vp_in ((m 131 21) - 1) 6)
    (g : Q (some (.int (f_M_noLast m))) m) : ez xs 100 0 (jx_ent 100 [.ref 131]) [] m Q := by
  refine c_M_noLast b1 (fun e0 => by rw [show f_M_noLast m = 1 from by unfold f_M_noLast; rw [if_pos e0]] at g; exact g) (fun e0 e1 => by rw [show f_M_noLast m = 0 from by unfold f_M_noLast; rw [if_neg e0, if_pos e1]] at g; exact g) (fun e0 e1 => by rw [show f_M_noLast m = 1 from by unfold f_M_noLast; rw [if_neg e0, if_neg e1]] at g; exact g)
set_option maxRecDepth 100000 in
set_option maxHeartbeats 2000000 in
theorem c_M_forget {xs : jx_Xs} {m : zM} {Q : Option Value → zM → Prop}
    (g1 : Q none (jj_up m 131 21 0)) : ez xs 111 0 (jx_ent 111 [.ref 131]) [] m Q := by
  refine ez_blk 3 rfl ?_
  show ez xs 111 5 [some (.ref 131)] [] (jj_up m 131 21 0) Q
  exact ez_ret rfl (by decide) rfl (g1)
set_option maxRecDepth 100000 in
set_option maxHeartbeats 2000000 in
theorem c_M_item {xs : jx_Xs} {m : zM} {Q : Option Value → zM → Prop} {w o f x y : Int32}
    (b1 : (¬ f_M_valid m o f x y = 0) → (¬ o = 3) → (¬ m 131 21 = 6) → vp_in (m 131 21) 6)
    (b2 : (¬ f_M_valid m o f x y = 0) → (¬ o = 3) → (¬ m 131 21 = 6) → vp_in (m 131 21) 6)
    (b3 : (¬ f_M_valid m o f x y = 0) → (¬ o = 3) → (¬ m 131 21 = 6) → vp_in (m 131 21) 6)
    (b4 : (¬ f_M_valid m o f x y = 0) → (¬ o = 3) → (¬ m 131 21 = 6) → vp_in (m 131 21) 6)
    (b5 : (¬ f_M_valid m o f x y = 0) → (¬ o = 3) → (¬ m 131 21 = 6) → vp_in (m 131 21) 6)
    (b6 : (¬ f_M_valid m o f x y = 0) → (¬ o = 3) → (¬ m 131 21 = 6) → vp_in (m 131 21) 6)
    (b7 : (¬ f_M_valid m o f x y = 0) → (¬ o = 3) → (¬ m 131 21 = 6) → vp_in (m 131 21) 6)
    (b8 : (¬ f_M_valid m o f x y = 0) → (o = 3) → (w = 0) → (¬ m 131 21 = 6) → vp_in (m 131 21) 6)
    (b9 : (¬ f_M_valid m o f x y = 0) → (o = 3) → (w = 0) → (¬ m 131 21 = 6) → vp_in (m 131 21) 6)
    (b10 : (¬ f_M_valid m o f x y = 0) → (o = 3) → (w = 0) → (¬ m 131 21 = 6) → vp_in (m 131 21) 6)
    (b11 : (¬ f_M_valid m o f x y = 0) → (o = 3) → (w = 0) → (¬ m 131 21 = 6) → vp_in (m 131 21) 6)
    (b12 : (¬ f_M_valid m o f x y = 0) → (o = 3) → (w = 0) → (¬ m 131 21 = 6) → vp_in (m 131 21) 6)
    (b13 : (¬ f_M_valid m o f x y = 0) → (o = 3) → (w = 0) → (¬ m 131 21 = 6) → vp_in (m 131 21) 6)
    (b14 : (¬ f_M_valid m o f x y = 0) → (o = 3) → (w = 0) → (¬ m 131 21 = 6) → vp_in (m 131 21) 6)
    (g1 : (¬ f_M_valid m o f x y = 0) → (¬ o = 3) → (¬ m 131 21 = 6) → Q (some (.int ((m 131 21) + 1))) (jj_up (jj_up (jj_up (jj_up (jj_up (jj_up (jj_up (jj_up m 149 ((m 131 21).toNatClampNeg) o) 150 ((m 131 21).toNatClampNeg) f) 151 ((m 131 21).toNatClampNeg) x) 152 ((m 131 21).toNatClampNeg) y) 153 ((m 131 21).toNatClampNeg) (vp_nar .boolean w)) 154 ((m 131 21).toNatClampNeg) (vp_nar .boolean 0)) 159 ((m 131 21).toNatClampNeg) 0) 131 21 ((m 131 21) + 1)))
    (g2 : (¬ f_M_valid m o f x y = 0) → (¬ o = 3) → (m 131 21 = 6) → Q (some (.int (-3))) m)
    (g3 : (¬ f_M_valid m o f x y = 0) → (o = 3) → (w = 0) → (¬ m 131 21 = 6) → Q (some (.int ((m 131 21) + 1))) (jj_up (jj_up (jj_up (jj_up (jj_up (jj_up (jj_up (jj_up m 149 ((m 131 21).toNatClampNeg) o) 150 ((m 131 21).toNatClampNeg) f) 151 ((m 131 21).toNatClampNeg) x) 152 ((m 131 21).toNatClampNeg) y) 153 ((m 131 21).toNatClampNeg) (vp_nar .boolean w)) 154 ((m 131 21).toNatClampNeg) (vp_nar .boolean 0)) 159 ((m 131 21).toNatClampNeg) 0) 131 21 ((m 131 21) + 1)))
    (g4 : (¬ f_M_valid m o f x y = 0) → (o = 3) → (w = 0) → (m 131 21 = 6) → Q (some (.int (-3))) m)
    (g5 : (¬ f_M_valid m o f x y = 0) → (o = 3) → (¬ w = 0) → Q (some (.int (-2))) m)
    (g6 : (f_M_valid m o f x y = 0) → Q (some (.int (-1))) m) : ez xs 91 0 (jx_ent 91 [.ref 131, .int w, .int o, .int f, .int x, .int y]) [] m Q := by
  refine ez_blk 5 rfl ?_
  show ez xs 91 7 [some (.ref 131), some (.int w), some (.int o), some (.int f), some (.int x), some (.int y)] [.int y, .int x, .int f, .int o, .ref 131] m Q
  refine ez_call (as := [.ref 131, .int o, .int f, .int x, .int y]) (rest := []) rfl (by decide) rfl ?_
  refine d_M_valid ?_
  show ez xs 91 10 [some (.ref 131), some (.int w), some (.int o), some (.int f), some (.int x), some (.int y)] [.int (f_M_valid m o f x y)] m Q
  refine ez_if_ne rfl (fun h1 => ?_) (fun h1 => ?_)
  · show ez xs 91 15 [some (.ref 131), some (.int w), some (.int o), some (.int f), some (.int x), some (.int y)] [] m Q
    refine ez_blk 2 rfl ?_
    show ez xs 91 17 [some (.ref 131), some (.int w), some (.int o), some (.int f), some (.int x), some (.int y)] [.int 3, .int o] m Q
    refine ez_icmp_ne rfl (fun h2 => ?_) (fun h2 => ?_)
    · show ez xs 91 27 [some (.ref 131), some (.int w), some (.int o), some (.int f), some (.int x), some (.int y)] [] m Q
      refine ez_blk 3 rfl ?_
      show ez xs 91 33 [some (.ref 131), some (.int w), some (.int o), some (.int f), some (.int x), some (.int y)] [.int 6, .int (m 131 21)] m Q
      refine ez_icmp_ne rfl (fun h3 => ?_) (fun h3 => ?_)
      · show ez xs 91 39 [some (.ref 131), some (.int w), some (.int o), some (.int f), some (.int x), some (.int y)] [] m Q
        refine ez_blk 5 rfl ?_
        show ez xs 91 48 [some (.ref 131), some (.int w), some (.int o), some (.int f), some (.int x), some (.int y)] [.int o, .int (m 131 21), .ref 149] m Q
        refine ez_iastv rfl (by decide) rfl (b1 h1 h2 h3) ?_
        show ez xs 91 49 [some (.ref 131), some (.int w), some (.int o), some (.int f), some (.int x), some (.int y)] [] (jj_up m 149 ((m 131 21).toNatClampNeg) o) Q
        refine ez_blk 5 rfl ?_
        show ez xs 91 58 [some (.ref 131), some (.int w), some (.int o), some (.int f), some (.int x), some (.int y)] [.int f, .int (m 131 21), .ref 150] (jj_up m 149 ((m 131 21).toNatClampNeg) o) Q
        refine ez_iastv rfl (by decide) rfl (b2 h1 h2 h3) ?_
        show ez xs 91 59 [some (.ref 131), some (.int w), some (.int o), some (.int f), some (.int x), some (.int y)] [] (jj_up (jj_up m 149 ((m 131 21).toNatClampNeg) o) 150 ((m 131 21).toNatClampNeg) f) Q
        refine ez_blk 5 rfl ?_
        show ez xs 91 69 [some (.ref 131), some (.int w), some (.int o), some (.int f), some (.int x), some (.int y)] [.int x, .int (m 131 21), .ref 151] (jj_up (jj_up m 149 ((m 131 21).toNatClampNeg) o) 150 ((m 131 21).toNatClampNeg) f) Q
        refine ez_iastv rfl (by decide) rfl (b3 h1 h2 h3) ?_
        show ez xs 91 70 [some (.ref 131), some (.int w), some (.int o), some (.int f), some (.int x), some (.int y)] [] (jj_up (jj_up (jj_up m 149 ((m 131 21).toNatClampNeg) o) 150 ((m 131 21).toNatClampNeg) f) 151 ((m 131 21).toNatClampNeg) x) Q
        refine ez_blk 5 rfl ?_
        show ez xs 91 80 [some (.ref 131), some (.int w), some (.int o), some (.int f), some (.int x), some (.int y)] [.int y, .int (m 131 21), .ref 152] (jj_up (jj_up (jj_up m 149 ((m 131 21).toNatClampNeg) o) 150 ((m 131 21).toNatClampNeg) f) 151 ((m 131 21).toNatClampNeg) x) Q
        refine ez_iastv rfl (by decide) rfl (b4 h1 h2 h3) ?_
        show ez xs 91 81 [some (.ref 131), some (.int w), some (.int o), some (.int f), some (.int x), some (.int y)] [] (jj_up (jj_up (jj_up (jj_up m 149 ((m 131 21).toNatClampNeg) o) 150 ((m 131 21).toNatClampNeg) f) 151 ((m 131 21).toNatClampNeg) x) 152 ((m 131 21).toNatClampNeg) y) Q
        refine ez_blk 5 rfl ?_
        show ez xs 91 90 [some (.ref 131), some (.int w), some (.int o), some (.int f), some (.int x), some (.int y)] [.int w, .int (m 131 21), .ref 153] (jj_up (jj_up (jj_up (jj_up m 149 ((m 131 21).toNatClampNeg) o) 150 ((m 131 21).toNatClampNeg) f) 151 ((m 131 21).toNatClampNeg) x) 152 ((m 131 21).toNatClampNeg) y) Q
        refine ez_zastv rfl (by decide) rfl (b5 h1 h2 h3) ?_
        show ez xs 91 91 [some (.ref 131), some (.int w), some (.int o), some (.int f), some (.int x), some (.int y)] [] (jj_up (jj_up (jj_up (jj_up (jj_up m 149 ((m 131 21).toNatClampNeg) o) 150 ((m 131 21).toNatClampNeg) f) 151 ((m 131 21).toNatClampNeg) x) 152 ((m 131 21).toNatClampNeg) y) 153 ((m 131 21).toNatClampNeg) (vp_nar .boolean w)) Q
        refine ez_blk 5 rfl ?_
        show ez xs 91 100 [some (.ref 131), some (.int w), some (.int o), some (.int f), some (.int x), some (.int y)] [.int 0, .int (m 131 21), .ref 154] (jj_up (jj_up (jj_up (jj_up (jj_up m 149 ((m 131 21).toNatClampNeg) o) 150 ((m 131 21).toNatClampNeg) f) 151 ((m 131 21).toNatClampNeg) x) 152 ((m 131 21).toNatClampNeg) y) 153 ((m 131 21).toNatClampNeg) (vp_nar .boolean w)) Q
        refine ez_zastv rfl (by decide) rfl (b6 h1 h2 h3) ?_
        show ez xs 91 101 [some (.ref 131), some (.int w), some (.int o), some (.int f), some (.int x), some (.int y)] [] (jj_up (jj_up (jj_up (jj_up (jj_up (jj_up m 149 ((m 131 21).toNatClampNeg) o) 150 ((m 131 21).toNatClampNeg) f) 151 ((m 131 21).toNatClampNeg) x) 152 ((m 131 21).toNatClampNeg) y) 153 ((m 131 21).toNatClampNeg) (vp_nar .boolean w)) 154 ((m 131 21).toNatClampNeg) (vp_nar .boolean 0)) Q
        refine ez_blk 5 rfl ?_
        show ez xs 91 110 [some (.ref 131), some (.int w), some (.int o), some (.int f), some (.int x), some (.int y)] [.int 0, .int (m 131 21), .ref 159] (jj_up (jj_up (jj_up (jj_up (jj_up (jj_up m 149 ((m 131 21).toNatClampNeg) o) 150 ((m 131 21).toNatClampNeg) f) 151 ((m 131 21).toNatClampNeg) x) 152 ((m 131 21).toNatClampNeg) y) 153 ((m 131 21).toNatClampNeg) (vp_nar .boolean w)) 154 ((m 131 21).toNatClampNeg) (vp_nar .boolean 0)) Q
        refine ez_iastv rfl (by decide) rfl (b7 h1 h2 h3) ?_
        show ez xs 91 111 [some (.ref 131), some (.int w), some (.int o), some (.int f), some (.int x), some (.int y)] [] (jj_up (jj_up (jj_up (jj_up (jj_up (jj_up (jj_up m 149 ((m 131 21).toNatClampNeg) o) 150 ((m 131 21).toNatClampNeg) f) 151 ((m 131 21).toNatClampNeg) x) 152 ((m 131 21).toNatClampNeg) y) 153 ((m 131 21).toNatClampNeg) (vp_nar .boolean w)) 154 ((m 131 21).toNatClampNeg) (vp_nar .boolean 0)) 159 ((m 131 21).toNatClampNeg) 0) Q
        refine ez_blk 8 rfl ?_
        show ez xs 91 125 [some (.ref 131), some (.int w), some (.int o), some (.int f), some (.int x), some (.int y)] [.int ((m 131 21) + 1)] (jj_up (jj_up (jj_up (jj_up (jj_up (jj_up (jj_up (jj_up m 149 ((m 131 21).toNatClampNeg) o) 150 ((m 131 21).toNatClampNeg) f) 151 ((m 131 21).toNatClampNeg) x) 152 ((m 131 21).toNatClampNeg) y) 153 ((m 131 21).toNatClampNeg) (vp_nar .boolean w)) 154 ((m 131 21).toNatClampNeg) (vp_nar .boolean 0)) 159 ((m 131 21).toNatClampNeg) 0) 131 21 ((m 131 21) + 1)) Q
        exact ez_ret rfl (by decide) rfl (g1 h1 h2 h3)
      · show ez xs 91 36 [some (.ref 131), some (.int w), some (.int o), some (.int f), some (.int x), some (.int y)] [] m Q
        refine ez_blk 1 rfl ?_
        show ez xs 91 38 [some (.ref 131), some (.int w), some (.int o), some (.int f), some (.int x), some (.int y)] [.int (-3)] m Q
        exact ez_ret rfl (by decide) rfl (g2 h1 h2 h3)
    · show ez xs 91 20 [some (.ref 131), some (.int w), some (.int o), some (.int f), some (.int x), some (.int y)] [] m Q
      refine ez_blk 1 rfl ?_
      show ez xs 91 21 [some (.ref 131), some (.int w), some (.int o), some (.int f), some (.int x), some (.int y)] [.int w] m Q
      refine ez_if_eq rfl (fun h4 => ?_) (fun h4 => ?_)
      · show ez xs 91 27 [some (.ref 131), some (.int w), some (.int o), some (.int f), some (.int x), some (.int y)] [] m Q
        refine ez_blk 3 rfl ?_
        show ez xs 91 33 [some (.ref 131), some (.int w), some (.int o), some (.int f), some (.int x), some (.int y)] [.int 6, .int (m 131 21)] m Q
        refine ez_icmp_ne rfl (fun h5 => ?_) (fun h5 => ?_)
        · show ez xs 91 39 [some (.ref 131), some (.int w), some (.int o), some (.int f), some (.int x), some (.int y)] [] m Q
          refine ez_blk 5 rfl ?_
          show ez xs 91 48 [some (.ref 131), some (.int w), some (.int o), some (.int f), some (.int x), some (.int y)] [.int o, .int (m 131 21), .ref 149] m Q
          refine ez_iastv rfl (by decide) rfl (b8 h1 h2 h4 h5) ?_
          show ez xs 91 49 [some (.ref 131), some (.int w), some (.int o), some (.int f), some (.int x), some (.int y)] [] (jj_up m 149 ((m 131 21).toNatClampNeg) o) Q
          refine ez_blk 5 rfl ?_
          show ez xs 91 58 [some (.ref 131), some (.int w), some (.int o), some (.int f), some (.int x), some (.int y)] [.int f, .int (m 131 21), .ref 150] (jj_up m 149 ((m 131 21).toNatClampNeg) o) Q
          refine ez_iastv rfl (by decide) rfl (b9 h1 h2 h4 h5) ?_
          show ez xs 91 59 [some (.ref 131), some (.int w), some (.int o), some (.int f), some (.int x), some (.int y)] [] (jj_up (jj_up m 149 ((m 131 21).toNatClampNeg) o) 150 ((m 131 21).toNatClampNeg) f) Q
          refine ez_blk 5 rfl ?_
          show ez xs 91 69 [some (.ref 131), some (.int w), some (.int o), some (.int f), some (.int x), some (.int y)] [.int x, .int (m 131 21), .ref 151] (jj_up (jj_up m 149 ((m 131 21).toNatClampNeg) o) 150 ((m 131 21).toNatClampNeg) f) Q
          refine ez_iastv rfl (by decide) rfl (b10 h1 h2 h4 h5) ?_
          show ez xs 91 70 [some (.ref 131), some (.int w), some (.int o), some (.int f), some (.int x), some (.int y)] [] (jj_up (jj_up (jj_up m 149 ((m 131 21).toNatClampNeg) o) 150 ((m 131 21).toNatClampNeg) f) 151 ((m 131 21).toNatClampNeg) x) Q
          refine ez_blk 5 rfl ?_
          show ez xs 91 80 [some (.ref 131), some (.int w), some (.int o), some (.int f), some (.int x), some (.int y)] [.int y, .int (m 131 21), .ref 152] (jj_up (jj_up (jj_up m 149 ((m 131 21).toNatClampNeg) o) 150 ((m 131 21).toNatClampNeg) f) 151 ((m 131 21).toNatClampNeg) x) Q
          refine ez_iastv rfl (by decide) rfl (b11 h1 h2 h4 h5) ?_
          show ez xs 91 81 [some (.ref 131), some (.int w), some (.int o), some (.int f), some (.int x), some (.int y)] [] (jj_up (jj_up (jj_up (jj_up m 149 ((m 131 21).toNatClampNeg) o) 150 ((m 131 21).toNatClampNeg) f) 151 ((m 131 21).toNatClampNeg) x) 152 ((m 131 21).toNatClampNeg) y) Q
          refine ez_blk 5 rfl ?_
          show ez xs 91 90 [some (.ref 131), some (.int w), some (.int o), some (.int f), some (.int x), some (.int y)] [.int w, .int (m 131 21), .ref 153] (jj_up (jj_up (jj_up (jj_up m 149 ((m 131 21).toNatClampNeg) o) 150 ((m 131 21).toNatClampNeg) f) 151 ((m 131 21).toNatClampNeg) x) 152 ((m 131 21).toNatClampNeg) y) Q
          refine ez_zastv rfl (by decide) rfl (b12 h1 h2 h4 h5) ?_
          show ez xs 91 91 [some (.ref 131), some (.int w), some (.int o), some (.int f), some (.int x), some (.int y)] [] (jj_up (jj_up (jj_up (jj_up (jj_up m 149 ((m 131 21).toNatClampNeg) o) 150 ((m 131 21).toNatClampNeg) f) 151 ((m 131 21).toNatClampNeg) x) 152 ((m 131 21).toNatClampNeg) y) 153 ((m 131 21).toNatClampNeg) (vp_nar .boolean w)) Q
          refine ez_blk 5 rfl ?_
          show ez xs 91 100 [some (.ref 131), some (.int w), some (.int o), some (.int f), some (.int x), some (.int y)] [.int 0, .int (m 131 21), .ref 154] (jj_up (jj_up (jj_up (jj_up (jj_up m 149 ((m 131 21).toNatClampNeg) o) 150 ((m 131 21).toNatClampNeg) f) 151 ((m 131 21).toNatClampNeg) x) 152 ((m 131 21).toNatClampNeg) y) 153 ((m 131 21).toNatClampNeg) (vp_nar .boolean w)) Q
          refine ez_zastv rfl (by decide) rfl (b13 h1 h2 h4 h5) ?_
          show ez xs 91 101 [some (.ref 131), some (.int w), some (.int o), some (.int f), some (.int x), some (.int y)] [] (jj_up (jj_up (jj_up (jj_up (jj_up (jj_up m 149 ((m 131 21).toNatClampNeg) o) 150 ((m 131 21).toNatClampNeg) f) 151 ((m 131 21).toNatClampNeg) x) 152 ((m 131 21).toNatClampNeg) y) 153 ((m 131 21).toNatClampNeg) (vp_nar .boolean w)) 154 ((m 131 21).toNatClampNeg) (vp_nar .boolean 0)) Q
          refine ez_blk 5 rfl ?_
          show ez xs 91 110 [some (.ref 131), some (.int w), some (.int o), some (.int f), some (.int x), some (.int y)] [.int 0, .int (m 131 21), .ref 159] (jj_up (jj_up (jj_up (jj_up (jj_up (jj_up m 149 ((m 131 21).toNatClampNeg) o) 150 ((m 131 21).toNatClampNeg) f) 151 ((m 131 21).toNatClampNeg) x) 152 ((m 131 21).toNatClampNeg) y) 153 ((m 131 21).toNatClampNeg) (vp_nar .boolean w)) 154 ((m 131 21).toNatClampNeg) (vp_nar .boolean 0)) Q
          refine ez_iastv rfl (by decide) rfl (b14 h1 h2 h4 h5) ?_
          show ez xs 91 111 [some (.ref 131), some (.int w), some (.int o), some (.int f), some (.int x), some (.int y)] [] (jj_up (jj_up (jj_up (jj_up (jj_up (jj_up (jj_up m 149 ((m 131 21).toNatClampNeg) o) 150 ((m 131 21).toNatClampNeg) f) 151 ((m 131 21).toNatClampNeg) x) 152 ((m 131 21).toNatClampNeg) y) 153 ((m 131 21).toNatClampNeg) (vp_nar .boolean w)) 154 ((m 131 21).toNatClampNeg) (vp_nar .boolean 0)) 159 ((m 131 21).toNatClampNeg) 0) Q
          refine ez_blk 8 rfl ?_
          show ez xs 91 125 [some (.ref 131), some (.int w), some (.int o), some (.int f), some (.int x), some (.int y)] [.int ((m 131 21) + 1)] (jj_up (jj_up (jj_up (jj_up (jj_up (jj_up (jj_up (jj_up m 149 ((m 131 21).toNatClampNeg) o) 150 ((m 131 21).toNatClampNeg) f) 151 ((m 131 21).toNatClampNeg) x) 152 ((m 131 21).toNatClampNeg) y) 153 ((m 131 21).toNatClampNeg) (vp_nar .boolean w)) 154 ((m 131 21).toNatClampNeg) (vp_nar .boolean 0)) 159 ((m 131 21).toNatClampNeg) 0) 131 21 ((m 131 21) + 1)) Q
          exact ez_ret rfl (by decide) rfl (g3 h1 h2 h4 h5)
        · show ez xs 91 36 [some (.ref 131), some (.int w), some (.int o), some (.int f), some (.int x), some (.int y)] [] m Q
          refine ez_blk 1 rfl ?_
          show ez xs 91 38 [some (.ref 131), some (.int w), some (.int o), some (.int f), some (.int x), some (.int y)] [.int (-3)] m Q
          exact ez_ret rfl (by decide) rfl (g4 h1 h2 h4 h5)
      · show ez xs 91 24 [some (.ref 131), some (.int w), some (.int o), some (.int f), some (.int x), some (.int y)] [] m Q
        refine ez_blk 1 rfl ?_
        show ez xs 91 26 [some (.ref 131), some (.int w), some (.int o), some (.int f), some (.int x), some (.int y)] [.int (-2)] m Q
        exact ez_ret rfl (by decide) rfl (g5 h1 h2 h4)
  · show ez xs 91 13 [some (.ref 131), some (.int w), some (.int o), some (.int f), some (.int x), some (.int y)] [] m Q
    refine ez_blk 1 rfl ?_
    show ez xs 91 14 [some (.ref 131), some (.int w), some (.int o), some (.int f), some (.int x), some (.int y)] [.int (-1)] m Q
    exact ez_ret rfl (by decide) rfl (g6 h1)
set_option maxRecDepth 100000 in
set_option maxHeartbeats 2000000 in
theorem c_M_value {xs : jx_Xs} {m : zM} {Q : Option Value → zM → Prop} {p b : Int32}
    (g1 : (4 ≤ p) → Q (some (.int ((b >>> (((2 : Int32) * (p - 4)) &&& 31)) &&& 3))) m)
    (g2 : (¬ 4 ≤ p) → Q (some (.int p)) m) : ez xs 146 0 (jx_ent 146 [.ref 131, .int p, .int b]) [] m Q := by
  refine ez_blk 2 rfl ?_
  show ez xs 146 2 [some (.ref 131), some (.int p), some (.int b)] [.int 4, .int p] m Q
  refine ez_icmp_ge rfl (fun h1 => ?_) (fun h1 => ?_)
  · show ez xs 146 9 [some (.ref 131), some (.int p), some (.int b)] [] m Q
    refine ez_blk 9 rfl ?_
    show ez xs 146 18 [some (.ref 131), some (.int p), some (.int b)] [.int ((b >>> (((2 : Int32) * (p - 4)) &&& 31)) &&& 3)] m Q
    exact ez_ret rfl (by decide) rfl (g1 h1)
  · show ez xs 146 5 [some (.ref 131), some (.int p), some (.int b)] [] m Q
    refine ez_blk 2 rfl ?_
    show ez xs 146 18 [some (.ref 131), some (.int p), some (.int b)] [.int p] m Q
    exact ez_ret rfl (by decide) rfl (g2 h1)
def f_M_value (m : zM) (p b : Int32) : Int32 := if 4 ≤ p then ((b >>> (((2 : Int32) * (p - 4)) &&& 31)) &&& 3) else p
theorem d_M_value {xs : jx_Xs} {m : zM} {Q : Option Value → zM → Prop} {p b : Int32}
    (g : Q (some (.int (f_M_value m p b))) m) : ez xs 146 0 (jx_ent 146 [.ref 131, .int p, .int b]) [] m Q := by
  refine c_M_value (fun e0 => by rw [show f_M_value m p b = ((b >>> (((2 : Int32) * (p - 4)) &&& 31)) &&& 3) from by unfold f_M_value; rw [if_pos e0]] at g; exact g) (fun e0 => by rw [show f_M_value m p b = p from by unfold f_M_value; rw [if_neg e0]] at g; exact g)
set_option maxRecDepth 100000 in
set_option maxHeartbeats 2000000 in
theorem c_M_has {xs : jx_Xs} {m : zM} {Q : Option Value → zM → Prop} {s n : Int32}
    (g1 : (¬ (s >>> (n &&& 31)) &&& 1 = 1) → Q (some (.int 0)) m)
    (g2 : ((s >>> (n &&& 31)) &&& 1 = 1) → Q (some (.int 1)) m) : ez xs 148 0 (jx_ent 148 [.ref 131, .int s, .int n]) [] m Q := by
  refine ez_blk 6 rfl ?_
  show ez xs 148 6 [some (.ref 131), some (.int s), some (.int n)] [.int 1, .int ((s >>> (n &&& 31)) &&& 1)] m Q
  refine ez_icmp_ne rfl (fun h1 => ?_) (fun h1 => ?_)
  · show ez xs 148 13 [some (.ref 131), some (.int s), some (.int n)] [] m Q
    refine ez_blk 1 rfl ?_
    show ez xs 148 14 [some (.ref 131), some (.int s), some (.int n)] [.int 0] m Q
    exact ez_ret rfl (by decide) rfl (g1 h1)
  · show ez xs 148 9 [some (.ref 131), some (.int s), some (.int n)] [] m Q
    refine ez_blk 2 rfl ?_
    show ez xs 148 14 [some (.ref 131), some (.int s), some (.int n)] [.int 1] m Q
    exact ez_ret rfl (by decide) rfl (g2 h1)
def f_M_has (m : zM) (s n : Int32) : Int32 := if (s >>> (n &&& 31)) &&& 1 = 1 then 1 else 0
theorem d_M_has {xs : jx_Xs} {m : zM} {Q : Option Value → zM → Prop} {s n : Int32}
    (g : Q (some (.int (f_M_has m s n))) m) : ez xs 148 0 (jx_ent 148 [.ref 131, .int s, .int n]) [] m Q := by
  refine c_M_has (fun e0 => by rw [show f_M_has m s n = 0 from by unfold f_M_has; rw [if_neg e0]] at g; exact g) (fun e0 => by rw [show f_M_has m s n = 1 from by unfold f_M_has; rw [if_pos e0]] at g; exact g)
set_option maxRecDepth 100000 in
set_option maxHeartbeats 2000000 in
theorem c_M_like {xs : jx_Xs} {m : zM} {Q : Option Value → zM → Prop} {n o f x y b : Int32}
    (b1 : vp_in n 24)
    (b2 : (m 135 n.toNatClampNeg = o) → vp_in n 24)
    (b3 : (m 135 n.toNatClampNeg = o) → (m 137 n.toNatClampNeg = f_M_value m x b) → (¬ o = 0) → (o = 1) → vp_in n 24)
    (b4 : (m 135 n.toNatClampNeg = o) → (m 137 n.toNatClampNeg = f_M_value m x b) → (o = 0) → vp_in n 24)
    (b5 : (m 135 n.toNatClampNeg = o) → (m 137 n.toNatClampNeg = f_M_value m x b) → (o = 0) → (m 136 n.toNatClampNeg = f) → (o = 1) → vp_in n 24)
    (g1 : (¬ m 135 n.toNatClampNeg = o) → Q (some (.int 0)) m)
    (g2 : (m 135 n.toNatClampNeg = o) → (m 137 n.toNatClampNeg = f_M_value m x b) → (¬ o = 0) → (¬ o = 1) → Q (some (.int 1)) m)
    (g3 : (m 135 n.toNatClampNeg = o) → (m 137 n.toNatClampNeg = f_M_value m x b) → (¬ o = 0) → (o = 1) → (¬ m 138 n.toNatClampNeg = f_M_value m y b) → Q (some (.int 0)) m)
    (g4 : (m 135 n.toNatClampNeg = o) → (m 137 n.toNatClampNeg = f_M_value m x b) → (¬ o = 0) → (o = 1) → (m 138 n.toNatClampNeg = f_M_value m y b) → Q (some (.int 1)) m)
    (g5 : (m 135 n.toNatClampNeg = o) → (m 137 n.toNatClampNeg = f_M_value m x b) → (o = 0) → (¬ m 136 n.toNatClampNeg = f) → Q (some (.int 0)) m)
    (g6 : (m 135 n.toNatClampNeg = o) → (m 137 n.toNatClampNeg = f_M_value m x b) → (o = 0) → (m 136 n.toNatClampNeg = f) → (¬ o = 1) → Q (some (.int 1)) m)
    (g7 : (m 135 n.toNatClampNeg = o) → (m 137 n.toNatClampNeg = f_M_value m x b) → (o = 0) → (m 136 n.toNatClampNeg = f) → (o = 1) → (¬ m 138 n.toNatClampNeg = f_M_value m y b) → Q (some (.int 0)) m)
    (g8 : (m 135 n.toNatClampNeg = o) → (m 137 n.toNatClampNeg = f_M_value m x b) → (o = 0) → (m 136 n.toNatClampNeg = f) → (o = 1) → (m 138 n.toNatClampNeg = f_M_value m y b) → Q (some (.int 1)) m)
    (g9 : (m 135 n.toNatClampNeg = o) → (¬ m 137 n.toNatClampNeg = f_M_value m x b) → Q (some (.int 0)) m) : ez xs 147 0 (jx_ent 147 [.ref 131, .int n, .int o, .int f, .int x, .int y, .int b]) [] m Q := by
  refine ez_blk 3 rfl ?_
  show ez xs 147 5 [some (.ref 131), some (.int n), some (.int o), some (.int f), some (.int x), some (.int y), some (.int b)] [.int n, .ref 135] m Q
  refine ez_ialdv rfl (by decide) rfl b1 ?_
  show ez xs 147 6 [some (.ref 131), some (.int n), some (.int o), some (.int f), some (.int x), some (.int y), some (.int b)] [.int (m 135 n.toNatClampNeg)] m Q
  refine ez_blk 1 rfl ?_
  show ez xs 147 7 [some (.ref 131), some (.int n), some (.int o), some (.int f), some (.int x), some (.int y), some (.int b)] [.int o, .int (m 135 n.toNatClampNeg)] m Q
  refine ez_icmp_ne rfl (fun h1 => ?_) (fun h1 => ?_)
  · show ez xs 147 27 [some (.ref 131), some (.int n), some (.int o), some (.int f), some (.int x), some (.int y), some (.int b)] [] m Q
    refine ez_blk 1 rfl ?_
    show ez xs 147 28 [some (.ref 131), some (.int n), some (.int o), some (.int f), some (.int x), some (.int y), some (.int b)] [.int 0] m Q
    exact ez_ret rfl (by decide) rfl (g1 h1)
  · show ez xs 147 10 [some (.ref 131), some (.int n), some (.int o), some (.int f), some (.int x), some (.int y), some (.int b)] [] m Q
    refine ez_blk 3 rfl ?_
    show ez xs 147 15 [some (.ref 131), some (.int n), some (.int o), some (.int f), some (.int x), some (.int y), some (.int b)] [.int n, .ref 137] m Q
    refine ez_ialdv rfl (by decide) rfl (b2 h1) ?_
    show ez xs 147 16 [some (.ref 131), some (.int n), some (.int o), some (.int f), some (.int x), some (.int y), some (.int b)] [.int (m 137 n.toNatClampNeg)] m Q
    refine ez_blk 3 rfl ?_
    show ez xs 147 21 [some (.ref 131), some (.int n), some (.int o), some (.int f), some (.int x), some (.int y), some (.int b)] [.int b, .int x, .ref 131, .int (m 137 n.toNatClampNeg)] m Q
    refine ez_call (as := [.ref 131, .int x, .int b]) (rest := [.int (m 137 n.toNatClampNeg)]) rfl (by decide) rfl ?_
    refine d_M_value ?_
    show ez xs 147 24 [some (.ref 131), some (.int n), some (.int o), some (.int f), some (.int x), some (.int y), some (.int b)] [.int (f_M_value m x b), .int (m 137 n.toNatClampNeg)] m Q
    refine ez_icmp_eq rfl (fun h2 => ?_) (fun h2 => ?_)
    · show ez xs 147 29 [some (.ref 131), some (.int n), some (.int o), some (.int f), some (.int x), some (.int y), some (.int b)] [] m Q
      refine ez_blk 1 rfl ?_
      show ez xs 147 30 [some (.ref 131), some (.int n), some (.int o), some (.int f), some (.int x), some (.int y), some (.int b)] [.int o] m Q
      refine ez_if_ne rfl (fun h3 => ?_) (fun h3 => ?_)
      · show ez xs 147 43 [some (.ref 131), some (.int n), some (.int o), some (.int f), some (.int x), some (.int y), some (.int b)] [] m Q
        refine ez_blk 2 rfl ?_
        show ez xs 147 45 [some (.ref 131), some (.int n), some (.int o), some (.int f), some (.int x), some (.int y), some (.int b)] [.int 1, .int o] m Q
        refine ez_icmp_ne rfl (fun h4 => ?_) (fun h4 => ?_)
        · show ez xs 147 65 [some (.ref 131), some (.int n), some (.int o), some (.int f), some (.int x), some (.int y), some (.int b)] [] m Q
          refine ez_blk 2 rfl ?_
          show ez xs 147 70 [some (.ref 131), some (.int n), some (.int o), some (.int f), some (.int x), some (.int y), some (.int b)] [.int 1] m Q
          exact ez_ret rfl (by decide) rfl (g2 h1 h2 h3 h4)
        · show ez xs 147 48 [some (.ref 131), some (.int n), some (.int o), some (.int f), some (.int x), some (.int y), some (.int b)] [] m Q
          refine ez_blk 3 rfl ?_
          show ez xs 147 53 [some (.ref 131), some (.int n), some (.int o), some (.int f), some (.int x), some (.int y), some (.int b)] [.int n, .ref 138] m Q
          refine ez_ialdv rfl (by decide) rfl (b3 h1 h2 h3 h4) ?_
          show ez xs 147 54 [some (.ref 131), some (.int n), some (.int o), some (.int f), some (.int x), some (.int y), some (.int b)] [.int (m 138 n.toNatClampNeg)] m Q
          refine ez_blk 3 rfl ?_
          show ez xs 147 59 [some (.ref 131), some (.int n), some (.int o), some (.int f), some (.int x), some (.int y), some (.int b)] [.int b, .int y, .ref 131, .int (m 138 n.toNatClampNeg)] m Q
          refine ez_call (as := [.ref 131, .int y, .int b]) (rest := [.int (m 138 n.toNatClampNeg)]) rfl (by decide) rfl ?_
          refine d_M_value ?_
          show ez xs 147 62 [some (.ref 131), some (.int n), some (.int o), some (.int f), some (.int x), some (.int y), some (.int b)] [.int (f_M_value m y b), .int (m 138 n.toNatClampNeg)] m Q
          refine ez_icmp_ne rfl (fun h5 => ?_) (fun h5 => ?_)
          · show ez xs 147 69 [some (.ref 131), some (.int n), some (.int o), some (.int f), some (.int x), some (.int y), some (.int b)] [] m Q
            refine ez_blk 1 rfl ?_
            show ez xs 147 70 [some (.ref 131), some (.int n), some (.int o), some (.int f), some (.int x), some (.int y), some (.int b)] [.int 0] m Q
            exact ez_ret rfl (by decide) rfl (g3 h1 h2 h3 h4 h5)
          · show ez xs 147 65 [some (.ref 131), some (.int n), some (.int o), some (.int f), some (.int x), some (.int y), some (.int b)] [] m Q
            refine ez_blk 2 rfl ?_
            show ez xs 147 70 [some (.ref 131), some (.int n), some (.int o), some (.int f), some (.int x), some (.int y), some (.int b)] [.int 1] m Q
            exact ez_ret rfl (by decide) rfl (g4 h1 h2 h3 h4 h5)
      · show ez xs 147 33 [some (.ref 131), some (.int n), some (.int o), some (.int f), some (.int x), some (.int y), some (.int b)] [] m Q
        refine ez_blk 3 rfl ?_
        show ez xs 147 38 [some (.ref 131), some (.int n), some (.int o), some (.int f), some (.int x), some (.int y), some (.int b)] [.int n, .ref 136] m Q
        refine ez_ialdv rfl (by decide) rfl (b4 h1 h2 h3) ?_
        show ez xs 147 39 [some (.ref 131), some (.int n), some (.int o), some (.int f), some (.int x), some (.int y), some (.int b)] [.int (m 136 n.toNatClampNeg)] m Q
        refine ez_blk 1 rfl ?_
        show ez xs 147 40 [some (.ref 131), some (.int n), some (.int o), some (.int f), some (.int x), some (.int y), some (.int b)] [.int f, .int (m 136 n.toNatClampNeg)] m Q
        refine ez_icmp_ne rfl (fun h6 => ?_) (fun h6 => ?_)
        · show ez xs 147 69 [some (.ref 131), some (.int n), some (.int o), some (.int f), some (.int x), some (.int y), some (.int b)] [] m Q
          refine ez_blk 1 rfl ?_
          show ez xs 147 70 [some (.ref 131), some (.int n), some (.int o), some (.int f), some (.int x), some (.int y), some (.int b)] [.int 0] m Q
          exact ez_ret rfl (by decide) rfl (g5 h1 h2 h3 h6)
        · show ez xs 147 43 [some (.ref 131), some (.int n), some (.int o), some (.int f), some (.int x), some (.int y), some (.int b)] [] m Q
          refine ez_blk 2 rfl ?_
          show ez xs 147 45 [some (.ref 131), some (.int n), some (.int o), some (.int f), some (.int x), some (.int y), some (.int b)] [.int 1, .int o] m Q
          refine ez_icmp_ne rfl (fun h7 => ?_) (fun h7 => ?_)
          · show ez xs 147 65 [some (.ref 131), some (.int n), some (.int o), some (.int f), some (.int x), some (.int y), some (.int b)] [] m Q
            refine ez_blk 2 rfl ?_
            show ez xs 147 70 [some (.ref 131), some (.int n), some (.int o), some (.int f), some (.int x), some (.int y), some (.int b)] [.int 1] m Q
            exact ez_ret rfl (by decide) rfl (g6 h1 h2 h3 h6 h7)
          · show ez xs 147 48 [some (.ref 131), some (.int n), some (.int o), some (.int f), some (.int x), some (.int y), some (.int b)] [] m Q
            refine ez_blk 3 rfl ?_
            show ez xs 147 53 [some (.ref 131), some (.int n), some (.int o), some (.int f), some (.int x), some (.int y), some (.int b)] [.int n, .ref 138] m Q
            refine ez_ialdv rfl (by decide) rfl (b5 h1 h2 h3 h6 h7) ?_
            show ez xs 147 54 [some (.ref 131), some (.int n), some (.int o), some (.int f), some (.int x), some (.int y), some (.int b)] [.int (m 138 n.toNatClampNeg)] m Q
            refine ez_blk 3 rfl ?_
            show ez xs 147 59 [some (.ref 131), some (.int n), some (.int o), some (.int f), some (.int x), some (.int y), some (.int b)] [.int b, .int y, .ref 131, .int (m 138 n.toNatClampNeg)] m Q
            refine ez_call (as := [.ref 131, .int y, .int b]) (rest := [.int (m 138 n.toNatClampNeg)]) rfl (by decide) rfl ?_
            refine d_M_value ?_
            show ez xs 147 62 [some (.ref 131), some (.int n), some (.int o), some (.int f), some (.int x), some (.int y), some (.int b)] [.int (f_M_value m y b), .int (m 138 n.toNatClampNeg)] m Q
            refine ez_icmp_ne rfl (fun h8 => ?_) (fun h8 => ?_)
            · show ez xs 147 69 [some (.ref 131), some (.int n), some (.int o), some (.int f), some (.int x), some (.int y), some (.int b)] [] m Q
              refine ez_blk 1 rfl ?_
              show ez xs 147 70 [some (.ref 131), some (.int n), some (.int o), some (.int f), some (.int x), some (.int y), some (.int b)] [.int 0] m Q
              exact ez_ret rfl (by decide) rfl (g7 h1 h2 h3 h6 h7 h8)
            · show ez xs 147 65 [some (.ref 131), some (.int n), some (.int o), some (.int f), some (.int x), some (.int y), some (.int b)] [] m Q
              refine ez_blk 2 rfl ?_
              show ez xs 147 70 [some (.ref 131), some (.int n), some (.int o), some (.int f), some (.int x), some (.int y), some (.int b)] [.int 1] m Q
              exact ez_ret rfl (by decide) rfl (g8 h1 h2 h3 h6 h7 h8)
    · show ez xs 147 27 [some (.ref 131), some (.int n), some (.int o), some (.int f), some (.int x), some (.int y), some (.int b)] [] m Q
      refine ez_blk 1 rfl ?_
      show ez xs 147 28 [some (.ref 131), some (.int n), some (.int o), some (.int f), some (.int x), some (.int y), some (.int b)] [.int 0] m Q
      exact ez_ret rfl (by decide) rfl (g9 h1 h2)
def f_M_like (m : zM) (n o f x y b : Int32) : Int32 := if m 135 n.toNatClampNeg = o then if m 137 n.toNatClampNeg = f_M_value m x b then if o = 0 then if m 136 n.toNatClampNeg = f then if o = 1 then if m 138 n.toNatClampNeg = f_M_value m y b then 1 else 0 else 1 else 0 else if o = 1 then if m 138 n.toNatClampNeg = f_M_value m y b then 1 else 0 else 1 else 0 else 0
theorem d_M_like {xs : jx_Xs} {m : zM} {Q : Option Value → zM → Prop} {n o f x y b : Int32}
    (b1 : vp_in n 24)
    (b2 : (m 135 n.toNatClampNeg = o) → vp_in n 24)
    (b3 : (m 135 n.toNatClampNeg = o) → (m 137 n.toNatClampNeg = f_M_value m x b) → (¬ o = 0) → (o = 1) → vp_in n 24)
    (b4 : (m 135 n.toNatClampNeg = o) → (m 137 n.toNatClampNeg = f_M_value m x b) → (o = 0) → vp_in n 24)
    (b5 : (m 135 n.toNatClampNeg = o) → (m 137 n.toNatClampNeg = f_M_value m x b) → (o = 0) → (m 136 n.toNatClampNeg = f) → (o = 1) → vp_in n 24)
    (g : Q (some (.int (f_M_like m n o f x y b))) m) : ez xs 147 0 (jx_ent 147 [.ref 131, .int n, .int o, .int f, .int x, .int y, .int b]) [] m Q := by
  refine c_M_like b1 b2 b3 b4 b5 (fun e0 => by rw [show f_M_like m n o f x y b = 0 from by unfold f_M_like; rw [if_neg e0]] at g; exact g) (fun e0 e1 e2 e3 => by rw [show f_M_like m n o f x y b = 1 from by unfold f_M_like; rw [if_pos e0, if_pos e1, if_neg e2, if_neg e3]] at g; exact g) (fun e0 e1 e2 e3 e4 => by rw [show f_M_like m n o f x y b = 0 from by unfold f_M_like; rw [if_pos e0, if_pos e1, if_neg e2, if_pos e3, if_neg e4]] at g; exact g) (fun e0 e1 e2 e3 e4 => by rw [show f_M_like m n o f x y b = 1 from by unfold f_M_like; rw [if_pos e0, if_pos e1, if_neg e2, if_pos e3, if_pos e4]] at g; exact g) (fun e0 e1 e2 e3 => by rw [show f_M_like m n o f x y b = 0 from by unfold f_M_like; rw [if_pos e0, if_pos e1, if_pos e2, if_neg e3]] at g; exact g) (fun e0 e1 e2 e3 e4 => by rw [show f_M_like m n o f x y b = 1 from by unfold f_M_like; rw [if_pos e0, if_pos e1, if_pos e2, if_pos e3, if_neg e4]] at g; exact g) (fun e0 e1 e2 e3 e4 e5 => by rw [show f_M_like m n o f x y b = 0 from by unfold f_M_like; rw [if_pos e0, if_pos e1, if_pos e2, if_pos e3, if_pos e4, if_neg e5]] at g; exact g) (fun e0 e1 e2 e3 e4 e5 => by rw [show f_M_like m n o f x y b = 1 from by unfold f_M_like; rw [if_pos e0, if_pos e1, if_pos e2, if_pos e3, if_pos e4, if_pos e5]] at g; exact g) (fun e0 e1 => by rw [show f_M_like m n o f x y b = 0 from by unfold f_M_like; rw [if_pos e0, if_neg e1]] at g; exact g)
set_option maxRecDepth 100000 in
set_option maxHeartbeats 2000000 in
theorem c_Pattern_isFunction {xs : jx_Xs} {m : zM} {Q : Option Value → zM → Prop} {f : Int32}
    (g1 : (f < 0) → Q (some (.int 0)) m)
    (g2 : (¬ f < 0) → (3 ≤ f) → Q (some (.int 0)) m)
    (g3 : (¬ f < 0) → (¬ 3 ≤ f) → Q (some (.int 1)) m) : ez xs 79 0 (jx_ent 79 [.int f]) [] m Q := by
  refine ez_blk 1 rfl ?_
  show ez xs 79 1 [some (.int f)] [.int f] m Q
  refine ez_if_lt rfl (fun h1 => ?_) (fun h1 => ?_)
  · show ez xs 79 13 [some (.int f)] [] m Q
    refine ez_blk 1 rfl ?_
    show ez xs 79 14 [some (.int f)] [.int 0] m Q
    exact ez_ret rfl (by decide) rfl (g1 h1)
  · show ez xs 79 4 [some (.int f)] [] m Q
    refine ez_blk 2 rfl ?_
    show ez xs 79 6 [some (.int f)] [.int 3, .int f] m Q
    refine ez_icmp_ge rfl (fun h2 => ?_) (fun h2 => ?_)
    · show ez xs 79 13 [some (.int f)] [] m Q
      refine ez_blk 1 rfl ?_
      show ez xs 79 14 [some (.int f)] [.int 0] m Q
      exact ez_ret rfl (by decide) rfl (g2 h1 h2)
    · show ez xs 79 9 [some (.int f)] [] m Q
      refine ez_blk 2 rfl ?_
      show ez xs 79 14 [some (.int f)] [.int 1] m Q
      exact ez_ret rfl (by decide) rfl (g3 h1 h2)
def f_Pattern_isFunction (m : zM) (f : Int32) : Int32 := if f < 0 then 0 else if 3 ≤ f then 0 else 1
theorem d_Pattern_isFunction {xs : jx_Xs} {m : zM} {Q : Option Value → zM → Prop} {f : Int32}
    (g : Q (some (.int (f_Pattern_isFunction m f))) m) : ez xs 79 0 (jx_ent 79 [.int f]) [] m Q := by
  refine c_Pattern_isFunction (fun e0 => by rw [show f_Pattern_isFunction m f = 0 from by unfold f_Pattern_isFunction; rw [if_pos e0]] at g; exact g) (fun e0 e1 => by rw [show f_Pattern_isFunction m f = 0 from by unfold f_Pattern_isFunction; rw [if_neg e0, if_pos e1]] at g; exact g) (fun e0 e1 => by rw [show f_Pattern_isFunction m f = 1 from by unfold f_Pattern_isFunction; rw [if_neg e0, if_neg e1]] at g; exact g)
set_option maxRecDepth 100000 in
set_option maxHeartbeats 2000000 in
theorem c_Pattern_isOperand {xs : jx_Xs} {m : zM} {Q : Option Value → zM → Prop} {x : Int32}
    (g1 : (x < 0) → Q (some (.int 0)) m)
    (g2 : (¬ x < 0) → (7 ≤ x) → Q (some (.int 0)) m)
    (g3 : (¬ x < 0) → (¬ 7 ≤ x) → Q (some (.int 1)) m) : ez xs 80 0 (jx_ent 80 [.int x]) [] m Q := by
  refine ez_blk 1 rfl ?_
  show ez xs 80 1 [some (.int x)] [.int x] m Q
  refine ez_if_lt rfl (fun h1 => ?_) (fun h1 => ?_)
  · show ez xs 80 14 [some (.int x)] [] m Q
    refine ez_blk 1 rfl ?_
    show ez xs 80 15 [some (.int x)] [.int 0] m Q
    exact ez_ret rfl (by decide) rfl (g1 h1)
  · show ez xs 80 4 [some (.int x)] [] m Q
    refine ez_blk 2 rfl ?_
    show ez xs 80 7 [some (.int x)] [.int 7, .int x] m Q
    refine ez_icmp_ge rfl (fun h2 => ?_) (fun h2 => ?_)
    · show ez xs 80 14 [some (.int x)] [] m Q
      refine ez_blk 1 rfl ?_
      show ez xs 80 15 [some (.int x)] [.int 0] m Q
      exact ez_ret rfl (by decide) rfl (g2 h1 h2)
    · show ez xs 80 10 [some (.int x)] [] m Q
      refine ez_blk 2 rfl ?_
      show ez xs 80 15 [some (.int x)] [.int 1] m Q
      exact ez_ret rfl (by decide) rfl (g3 h1 h2)
def f_Pattern_isOperand (m : zM) (x : Int32) : Int32 := if x < 0 then 0 else if 7 ≤ x then 0 else 1
theorem d_Pattern_isOperand {xs : jx_Xs} {m : zM} {Q : Option Value → zM → Prop} {x : Int32}
    (g : Q (some (.int (f_Pattern_isOperand m x))) m) : ez xs 80 0 (jx_ent 80 [.int x]) [] m Q := by
  refine c_Pattern_isOperand (fun e0 => by rw [show f_Pattern_isOperand m x = 0 from by unfold f_Pattern_isOperand; rw [if_pos e0]] at g; exact g) (fun e0 e1 => by rw [show f_Pattern_isOperand m x = 0 from by unfold f_Pattern_isOperand; rw [if_neg e0, if_pos e1]] at g; exact g) (fun e0 e1 => by rw [show f_Pattern_isOperand m x = 1 from by unfold f_Pattern_isOperand; rw [if_neg e0, if_neg e1]] at g; exact g)
set_option maxRecDepth 100000 in
set_option maxHeartbeats 2000000 in
theorem c_Pattern_isSound {xs : jx_Xs} {m : zM} {Q : Option Value → zM → Prop} {k f x y : Int32}
    (g1 : (k < 0) → Q (some (.int 0)) m)
    (g2 : (¬ k < 0) → (k ≤ 3) → (¬ k = 0) → (f_Pattern_isOperand m x = 0) → Q (some (.int 0)) m)
    (g3 : (¬ k < 0) → (k ≤ 3) → (¬ k = 0) → (¬ f_Pattern_isOperand m x = 0) → (¬ k = 1) → Q (some (.int 1)) m)
    (g4 : (¬ k < 0) → (k ≤ 3) → (¬ k = 0) → (¬ f_Pattern_isOperand m x = 0) → (k = 1) → (f_Pattern_isOperand m y = 0) → Q (some (.int 0)) m)
    (g5 : (¬ k < 0) → (k ≤ 3) → (¬ k = 0) → (¬ f_Pattern_isOperand m x = 0) → (k = 1) → (¬ f_Pattern_isOperand m y = 0) → Q (some (.int 1)) m)
    (g6 : (¬ k < 0) → (k ≤ 3) → (k = 0) → (¬ f_Pattern_isFunction m f = 0) → (f_Pattern_isOperand m x = 0) → Q (some (.int 0)) m)
    (g7 : (¬ k < 0) → (k ≤ 3) → (k = 0) → (¬ f_Pattern_isFunction m f = 0) → (¬ f_Pattern_isOperand m x = 0) → (¬ k = 1) → Q (some (.int 1)) m)
    (g8 : (¬ k < 0) → (k ≤ 3) → (k = 0) → (¬ f_Pattern_isFunction m f = 0) → (¬ f_Pattern_isOperand m x = 0) → (k = 1) → (f_Pattern_isOperand m y = 0) → Q (some (.int 0)) m)
    (g9 : (¬ k < 0) → (k ≤ 3) → (k = 0) → (¬ f_Pattern_isFunction m f = 0) → (¬ f_Pattern_isOperand m x = 0) → (k = 1) → (¬ f_Pattern_isOperand m y = 0) → Q (some (.int 1)) m)
    (g10 : (¬ k < 0) → (k ≤ 3) → (k = 0) → (f_Pattern_isFunction m f = 0) → Q (some (.int 0)) m)
    (g11 : (¬ k < 0) → (¬ k ≤ 3) → Q (some (.int 0)) m) : ez xs 81 0 (jx_ent 81 [.int k, .int f, .int x, .int y]) [] m Q := by
  refine ez_blk 1 rfl ?_
  show ez xs 81 1 [some (.int k), some (.int f), some (.int x), some (.int y)] [.int k] m Q
  refine ez_if_lt rfl (fun h1 => ?_) (fun h1 => ?_)
  · show ez xs 81 9 [some (.int k), some (.int f), some (.int x), some (.int y)] [] m Q
    refine ez_blk 1 rfl ?_
    show ez xs 81 10 [some (.int k), some (.int f), some (.int x), some (.int y)] [.int 0] m Q
    exact ez_ret rfl (by decide) rfl (g1 h1)
  · show ez xs 81 4 [some (.int k), some (.int f), some (.int x), some (.int y)] [] m Q
    refine ez_blk 2 rfl ?_
    show ez xs 81 6 [some (.int k), some (.int f), some (.int x), some (.int y)] [.int 3, .int k] m Q
    refine ez_icmp_le rfl (fun h2 => ?_) (fun h2 => ?_)
    · show ez xs 81 11 [some (.int k), some (.int f), some (.int x), some (.int y)] [] m Q
      refine ez_blk 1 rfl ?_
      show ez xs 81 12 [some (.int k), some (.int f), some (.int x), some (.int y)] [.int k] m Q
      refine ez_if_ne rfl (fun h3 => ?_) (fun h3 => ?_)
      · show ez xs 81 24 [some (.int k), some (.int f), some (.int x), some (.int y)] [] m Q
        refine ez_blk 1 rfl ?_
        show ez xs 81 25 [some (.int k), some (.int f), some (.int x), some (.int y)] [.int x] m Q
        refine ez_call (as := [.int x]) (rest := []) rfl (by decide) rfl ?_
        refine d_Pattern_isOperand ?_
        show ez xs 81 28 [some (.int k), some (.int f), some (.int x), some (.int y)] [.int (f_Pattern_isOperand m x)] m Q
        refine ez_if_eq rfl (fun h4 => ?_) (fun h4 => ?_)
        · show ez xs 81 47 [some (.int k), some (.int f), some (.int x), some (.int y)] [] m Q
          refine ez_blk 1 rfl ?_
          show ez xs 81 48 [some (.int k), some (.int f), some (.int x), some (.int y)] [.int 0] m Q
          exact ez_ret rfl (by decide) rfl (g2 h1 h2 h3 h4)
        · show ez xs 81 31 [some (.int k), some (.int f), some (.int x), some (.int y)] [] m Q
          refine ez_blk 2 rfl ?_
          show ez xs 81 33 [some (.int k), some (.int f), some (.int x), some (.int y)] [.int 1, .int k] m Q
          refine ez_icmp_ne rfl (fun h5 => ?_) (fun h5 => ?_)
          · show ez xs 81 43 [some (.int k), some (.int f), some (.int x), some (.int y)] [] m Q
            refine ez_blk 2 rfl ?_
            show ez xs 81 48 [some (.int k), some (.int f), some (.int x), some (.int y)] [.int 1] m Q
            exact ez_ret rfl (by decide) rfl (g3 h1 h2 h3 h4 h5)
          · show ez xs 81 36 [some (.int k), some (.int f), some (.int x), some (.int y)] [] m Q
            refine ez_blk 1 rfl ?_
            show ez xs 81 37 [some (.int k), some (.int f), some (.int x), some (.int y)] [.int y] m Q
            refine ez_call (as := [.int y]) (rest := []) rfl (by decide) rfl ?_
            refine d_Pattern_isOperand ?_
            show ez xs 81 40 [some (.int k), some (.int f), some (.int x), some (.int y)] [.int (f_Pattern_isOperand m y)] m Q
            refine ez_if_eq rfl (fun h6 => ?_) (fun h6 => ?_)
            · show ez xs 81 47 [some (.int k), some (.int f), some (.int x), some (.int y)] [] m Q
              refine ez_blk 1 rfl ?_
              show ez xs 81 48 [some (.int k), some (.int f), some (.int x), some (.int y)] [.int 0] m Q
              exact ez_ret rfl (by decide) rfl (g4 h1 h2 h3 h4 h5 h6)
            · show ez xs 81 43 [some (.int k), some (.int f), some (.int x), some (.int y)] [] m Q
              refine ez_blk 2 rfl ?_
              show ez xs 81 48 [some (.int k), some (.int f), some (.int x), some (.int y)] [.int 1] m Q
              exact ez_ret rfl (by decide) rfl (g5 h1 h2 h3 h4 h5 h6)
      · show ez xs 81 15 [some (.int k), some (.int f), some (.int x), some (.int y)] [] m Q
        refine ez_blk 1 rfl ?_
        show ez xs 81 16 [some (.int k), some (.int f), some (.int x), some (.int y)] [.int f] m Q
        refine ez_call (as := [.int f]) (rest := []) rfl (by decide) rfl ?_
        refine d_Pattern_isFunction ?_
        show ez xs 81 19 [some (.int k), some (.int f), some (.int x), some (.int y)] [.int (f_Pattern_isFunction m f)] m Q
        refine ez_if_ne rfl (fun h7 => ?_) (fun h7 => ?_)
        · show ez xs 81 24 [some (.int k), some (.int f), some (.int x), some (.int y)] [] m Q
          refine ez_blk 1 rfl ?_
          show ez xs 81 25 [some (.int k), some (.int f), some (.int x), some (.int y)] [.int x] m Q
          refine ez_call (as := [.int x]) (rest := []) rfl (by decide) rfl ?_
          refine d_Pattern_isOperand ?_
          show ez xs 81 28 [some (.int k), some (.int f), some (.int x), some (.int y)] [.int (f_Pattern_isOperand m x)] m Q
          refine ez_if_eq rfl (fun h8 => ?_) (fun h8 => ?_)
          · show ez xs 81 47 [some (.int k), some (.int f), some (.int x), some (.int y)] [] m Q
            refine ez_blk 1 rfl ?_
            show ez xs 81 48 [some (.int k), some (.int f), some (.int x), some (.int y)] [.int 0] m Q
            exact ez_ret rfl (by decide) rfl (g6 h1 h2 h3 h7 h8)
          · show ez xs 81 31 [some (.int k), some (.int f), some (.int x), some (.int y)] [] m Q
            refine ez_blk 2 rfl ?_
            show ez xs 81 33 [some (.int k), some (.int f), some (.int x), some (.int y)] [.int 1, .int k] m Q
            refine ez_icmp_ne rfl (fun h9 => ?_) (fun h9 => ?_)
            · show ez xs 81 43 [some (.int k), some (.int f), some (.int x), some (.int y)] [] m Q
              refine ez_blk 2 rfl ?_
              show ez xs 81 48 [some (.int k), some (.int f), some (.int x), some (.int y)] [.int 1] m Q
              exact ez_ret rfl (by decide) rfl (g7 h1 h2 h3 h7 h8 h9)
            · show ez xs 81 36 [some (.int k), some (.int f), some (.int x), some (.int y)] [] m Q
              refine ez_blk 1 rfl ?_
              show ez xs 81 37 [some (.int k), some (.int f), some (.int x), some (.int y)] [.int y] m Q
              refine ez_call (as := [.int y]) (rest := []) rfl (by decide) rfl ?_
              refine d_Pattern_isOperand ?_
              show ez xs 81 40 [some (.int k), some (.int f), some (.int x), some (.int y)] [.int (f_Pattern_isOperand m y)] m Q
              refine ez_if_eq rfl (fun h10 => ?_) (fun h10 => ?_)
              · show ez xs 81 47 [some (.int k), some (.int f), some (.int x), some (.int y)] [] m Q
                refine ez_blk 1 rfl ?_
                show ez xs 81 48 [some (.int k), some (.int f), some (.int x), some (.int y)] [.int 0] m Q
                exact ez_ret rfl (by decide) rfl (g8 h1 h2 h3 h7 h8 h9 h10)
              · show ez xs 81 43 [some (.int k), some (.int f), some (.int x), some (.int y)] [] m Q
                refine ez_blk 2 rfl ?_
                show ez xs 81 48 [some (.int k), some (.int f), some (.int x), some (.int y)] [.int 1] m Q
                exact ez_ret rfl (by decide) rfl (g9 h1 h2 h3 h7 h8 h9 h10)
        · show ez xs 81 22 [some (.int k), some (.int f), some (.int x), some (.int y)] [] m Q
          refine ez_blk 1 rfl ?_
          show ez xs 81 23 [some (.int k), some (.int f), some (.int x), some (.int y)] [.int 0] m Q
          exact ez_ret rfl (by decide) rfl (g10 h1 h2 h3 h7)
    · show ez xs 81 9 [some (.int k), some (.int f), some (.int x), some (.int y)] [] m Q
      refine ez_blk 1 rfl ?_
      show ez xs 81 10 [some (.int k), some (.int f), some (.int x), some (.int y)] [.int 0] m Q
      exact ez_ret rfl (by decide) rfl (g11 h1 h2)
def f_Pattern_isSound (m : zM) (k f x y : Int32) : Int32 := if k < 0 then 0 else if k ≤ 3 then if k = 0 then if f_Pattern_isFunction m f = 0 then 0 else if f_Pattern_isOperand m x = 0 then 0 else if k = 1 then if f_Pattern_isOperand m y = 0 then 0 else 1 else 1 else if f_Pattern_isOperand m x = 0 then 0 else if k = 1 then if f_Pattern_isOperand m y = 0 then 0 else 1 else 1 else 0
theorem d_Pattern_isSound {xs : jx_Xs} {m : zM} {Q : Option Value → zM → Prop} {k f x y : Int32}
    (g : Q (some (.int (f_Pattern_isSound m k f x y))) m) : ez xs 81 0 (jx_ent 81 [.int k, .int f, .int x, .int y]) [] m Q := by
  refine c_Pattern_isSound (fun e0 => by rw [show f_Pattern_isSound m k f x y = 0 from by unfold f_Pattern_isSound; rw [if_pos e0]] at g; exact g) (fun e0 e1 e2 e3 => by rw [show f_Pattern_isSound m k f x y = 0 from by unfold f_Pattern_isSound; rw [if_neg e0, if_pos e1, if_neg e2, if_pos e3]] at g; exact g) (fun e0 e1 e2 e3 e4 => by rw [show f_Pattern_isSound m k f x y = 1 from by unfold f_Pattern_isSound; rw [if_neg e0, if_pos e1, if_neg e2, if_neg e3, if_neg e4]] at g; exact g) (fun e0 e1 e2 e3 e4 e5 => by rw [show f_Pattern_isSound m k f x y = 0 from by unfold f_Pattern_isSound; rw [if_neg e0, if_pos e1, if_neg e2, if_neg e3, if_pos e4, if_pos e5]] at g; exact g) (fun e0 e1 e2 e3 e4 e5 => by rw [show f_Pattern_isSound m k f x y = 1 from by unfold f_Pattern_isSound; rw [if_neg e0, if_pos e1, if_neg e2, if_neg e3, if_pos e4, if_neg e5]] at g; exact g) (fun e0 e1 e2 e3 e4 => by rw [show f_Pattern_isSound m k f x y = 0 from by unfold f_Pattern_isSound; rw [if_neg e0, if_pos e1, if_pos e2, if_neg e3, if_pos e4]] at g; exact g) (fun e0 e1 e2 e3 e4 e5 => by rw [show f_Pattern_isSound m k f x y = 1 from by unfold f_Pattern_isSound; rw [if_neg e0, if_pos e1, if_pos e2, if_neg e3, if_neg e4, if_neg e5]] at g; exact g) (fun e0 e1 e2 e3 e4 e5 e6 => by rw [show f_Pattern_isSound m k f x y = 0 from by unfold f_Pattern_isSound; rw [if_neg e0, if_pos e1, if_pos e2, if_neg e3, if_neg e4, if_pos e5, if_pos e6]] at g; exact g) (fun e0 e1 e2 e3 e4 e5 e6 => by rw [show f_Pattern_isSound m k f x y = 1 from by unfold f_Pattern_isSound; rw [if_neg e0, if_pos e1, if_pos e2, if_neg e3, if_neg e4, if_pos e5, if_neg e6]] at g; exact g) (fun e0 e1 e2 e3 => by rw [show f_Pattern_isSound m k f x y = 0 from by unfold f_Pattern_isSound; rw [if_neg e0, if_pos e1, if_pos e2, if_pos e3]] at g; exact g) (fun e0 e1 => by rw [show f_Pattern_isSound m k f x y = 0 from by unfold f_Pattern_isSound; rw [if_neg e0, if_neg e1]] at g; exact g)
set_option maxRecDepth 100000 in
set_option maxHeartbeats 2000000 in
theorem c_Pattern_unknownBit {xs : jx_Xs} {m : zM} {Q : Option Value → zM → Prop} {x : Int32}
    (g1 : (4 ≤ x) → Q (some (.int ((1 : Int32) <<< ((x - 4) &&& 31)))) m)
    (g2 : (¬ 4 ≤ x) → Q (some (.int 0)) m) : ez xs 84 0 (jx_ent 84 [.int x]) [] m Q := by
  refine ez_blk 2 rfl ?_
  show ez xs 84 2 [some (.int x)] [.int 4, .int x] m Q
  refine ez_icmp_ge rfl (fun h1 => ?_) (fun h1 => ?_)
  · show ez xs 84 9 [some (.int x)] [] m Q
    refine ez_blk 5 rfl ?_
    show ez xs 84 14 [some (.int x)] [.int ((1 : Int32) <<< ((x - 4) &&& 31))] m Q
    exact ez_ret rfl (by decide) rfl (g1 h1)
  · show ez xs 84 5 [some (.int x)] [] m Q
    refine ez_blk 2 rfl ?_
    show ez xs 84 14 [some (.int x)] [.int 0] m Q
    exact ez_ret rfl (by decide) rfl (g2 h1)
def f_Pattern_unknownBit (m : zM) (x : Int32) : Int32 := if 4 ≤ x then ((1 : Int32) <<< ((x - 4) &&& 31)) else 0
theorem d_Pattern_unknownBit {xs : jx_Xs} {m : zM} {Q : Option Value → zM → Prop} {x : Int32}
    (g : Q (some (.int (f_Pattern_unknownBit m x))) m) : ez xs 84 0 (jx_ent 84 [.int x]) [] m Q := by
  refine c_Pattern_unknownBit (fun e0 => by rw [show f_Pattern_unknownBit m x = ((1 : Int32) <<< ((x - 4) &&& 31)) from by unfold f_Pattern_unknownBit; rw [if_pos e0]] at g; exact g) (fun e0 => by rw [show f_Pattern_unknownBit m x = 0 from by unfold f_Pattern_unknownBit; rw [if_neg e0]] at g; exact g)
set_option maxRecDepth 100000 in
set_option maxHeartbeats 2000000 in
theorem c_Pattern_unknownsIn {xs : jx_Xs} {m : zM} {Q : Option Value → zM → Prop} {k x y : Int32}
    (g1 : (¬ k = 1) → Q (some (.int (f_Pattern_unknownBit m x))) m)
    (g2 : (k = 1) → Q (some (.int ((f_Pattern_unknownBit m x) ||| (f_Pattern_unknownBit m y)))) m) : ez xs 85 0 (jx_ent 85 [.int k, .int x, .int y]) [] m Q := by
  refine ez_blk 2 rfl ?_
  show ez xs 85 2 [some (.int k), some (.int x), some (.int y)] [.int 1, .int k] m Q
  refine ez_icmp_ne rfl (fun h1 => ?_) (fun h1 => ?_)
  · show ez xs 85 17 [some (.int k), some (.int x), some (.int y)] [] m Q
    refine ez_blk 1 rfl ?_
    show ez xs 85 18 [some (.int k), some (.int x), some (.int y)] [.int x] m Q
    refine ez_call (as := [.int x]) (rest := []) rfl (by decide) rfl ?_
    refine d_Pattern_unknownBit ?_
    show ez xs 85 21 [some (.int k), some (.int x), some (.int y)] [.int (f_Pattern_unknownBit m x)] m Q
    exact ez_ret rfl (by decide) rfl (g1 h1)
  · show ez xs 85 5 [some (.int k), some (.int x), some (.int y)] [] m Q
    refine ez_blk 1 rfl ?_
    show ez xs 85 6 [some (.int k), some (.int x), some (.int y)] [.int x] m Q
    refine ez_call (as := [.int x]) (rest := []) rfl (by decide) rfl ?_
    refine d_Pattern_unknownBit ?_
    show ez xs 85 9 [some (.int k), some (.int x), some (.int y)] [.int (f_Pattern_unknownBit m x)] m Q
    refine ez_blk 1 rfl ?_
    show ez xs 85 10 [some (.int k), some (.int x), some (.int y)] [.int y, .int (f_Pattern_unknownBit m x)] m Q
    refine ez_call (as := [.int y]) (rest := [.int (f_Pattern_unknownBit m x)]) rfl (by decide) rfl ?_
    refine d_Pattern_unknownBit ?_
    show ez xs 85 13 [some (.int k), some (.int x), some (.int y)] [.int (f_Pattern_unknownBit m y), .int (f_Pattern_unknownBit m x)] m Q
    refine ez_blk 2 rfl ?_
    show ez xs 85 21 [some (.int k), some (.int x), some (.int y)] [.int ((f_Pattern_unknownBit m x) ||| (f_Pattern_unknownBit m y))] m Q
    exact ez_ret rfl (by decide) rfl (g2 h1)
def f_Pattern_unknownsIn (m : zM) (k x y : Int32) : Int32 := if k = 1 then ((f_Pattern_unknownBit m x) ||| (f_Pattern_unknownBit m y)) else (f_Pattern_unknownBit m x)
theorem d_Pattern_unknownsIn {xs : jx_Xs} {m : zM} {Q : Option Value → zM → Prop} {k x y : Int32}
    (g : Q (some (.int (f_Pattern_unknownsIn m k x y))) m) : ez xs 85 0 (jx_ent 85 [.int k, .int x, .int y]) [] m Q := by
  refine c_Pattern_unknownsIn (fun e0 => by rw [show f_Pattern_unknownsIn m k x y = (f_Pattern_unknownBit m x) from by unfold f_Pattern_unknownsIn; rw [if_neg e0]] at g; exact g) (fun e0 => by rw [show f_Pattern_unknownsIn m k x y = ((f_Pattern_unknownBit m x) ||| (f_Pattern_unknownBit m y)) from by unfold f_Pattern_unknownsIn; rw [if_pos e0]] at g; exact g)
set_option maxRecDepth 100000 in
set_option maxHeartbeats 2000000 in
theorem c_Pattern_bound {xs : jx_Xs} {m : zM} {Q : Option Value → zM → Prop} {x b : Int32}
    (g1 : (0 ≤ x - 4) → Q (some (.int ((b >>> (((2 : Int32) * (x - 4)) &&& 31)) &&& 3))) m)
    (g2 : (¬ 0 ≤ x - 4) → Q (some (.int (x &&& 3))) m) : ez xs 116 0 (jx_ent 116 [.int x, .int b]) [] m Q := by
  refine ez_blk 5 rfl ?_
  show ez xs 116 5 [some (.int x), some (.int b), some (.int (x - 4))] [.int (x - 4)] m Q
  refine ez_if_ge rfl (fun h1 => ?_) (fun h1 => ?_)
  · show ez xs 116 12 [some (.int x), some (.int b), some (.int (x - 4))] [] m Q
    refine ez_blk 7 rfl ?_
    show ez xs 116 19 [some (.int x), some (.int b), some (.int (x - 4))] [.int ((b >>> (((2 : Int32) * (x - 4)) &&& 31)) &&& 3)] m Q
    exact ez_ret rfl (by decide) rfl (g1 h1)
  · show ez xs 116 8 [some (.int x), some (.int b), some (.int (x - 4))] [] m Q
    refine ez_blk 4 rfl ?_
    show ez xs 116 19 [some (.int x), some (.int b), some (.int (x - 4))] [.int (x &&& 3)] m Q
    exact ez_ret rfl (by decide) rfl (g2 h1)
def f_Pattern_bound (m : zM) (x b : Int32) : Int32 := if 0 ≤ x - 4 then ((b >>> (((2 : Int32) * (x - 4)) &&& 31)) &&& 3) else (x &&& 3)
theorem d_Pattern_bound {xs : jx_Xs} {m : zM} {Q : Option Value → zM → Prop} {x b : Int32}
    (g : Q (some (.int (f_Pattern_bound m x b))) m) : ez xs 116 0 (jx_ent 116 [.int x, .int b]) [] m Q := by
  refine c_Pattern_bound (fun e0 => by rw [show f_Pattern_bound m x b = ((b >>> (((2 : Int32) * (x - 4)) &&& 31)) &&& 3) from by unfold f_Pattern_bound; rw [if_pos e0]] at g; exact g) (fun e0 => by rw [show f_Pattern_bound m x b = (x &&& 3) from by unfold f_Pattern_bound; rw [if_neg e0]] at g; exact g)
set_option maxRecDepth 100000 in
set_option maxHeartbeats 2000000 in
theorem c_Script_size {xs : jx_Xs} {m : zM} {Q : Option Value → zM → Prop}
    (g1 : Q (some (.int (m 36 1))) m) : ez xs 88 0 (jx_ent 88 [.ref 36]) [] m Q := by
  refine ez_blk 2 rfl ?_
  show ez xs 88 4 [some (.ref 36)] [.int (m 36 1)] m Q
  exact ez_ret rfl (by decide) rfl (g1)
set_option maxRecDepth 100000 in
set_option maxHeartbeats 2000000 in
theorem c_Script_isEmpty {xs : jx_Xs} {m : zM} {Q : Option Value → zM → Prop}
    (g1 : (¬ m 36 1 = 0) → Q (some (.int 0)) m)
    (g2 : (m 36 1 = 0) → Q (some (.int 1)) m) : ez xs 92 0 (jx_ent 92 [.ref 36]) [] m Q := by
  refine ez_blk 2 rfl ?_
  show ez xs 92 4 [some (.ref 36)] [.int (m 36 1)] m Q
  refine ez_if_ne rfl (fun h1 => ?_) (fun h1 => ?_)
  · show ez xs 92 11 [some (.ref 36)] [] m Q
    refine ez_blk 1 rfl ?_
    show ez xs 92 12 [some (.ref 36)] [.int 0] m Q
    exact ez_ret rfl (by decide) rfl (g1 h1)
  · show ez xs 92 7 [some (.ref 36)] [] m Q
    refine ez_blk 2 rfl ?_
    show ez xs 92 12 [some (.ref 36)] [.int 1] m Q
    exact ez_ret rfl (by decide) rfl (g2 h1)
def f_Script_isEmpty (m : zM) : Int32 := if m 36 1 = 0 then 1 else 0
theorem d_Script_isEmpty {xs : jx_Xs} {m : zM} {Q : Option Value → zM → Prop}
    (g : Q (some (.int (f_Script_isEmpty m))) m) : ez xs 92 0 (jx_ent 92 [.ref 36]) [] m Q := by
  refine c_Script_isEmpty (fun e0 => by rw [show f_Script_isEmpty m = 0 from by unfold f_Script_isEmpty; rw [if_neg e0]] at g; exact g) (fun e0 => by rw [show f_Script_isEmpty m = 1 from by unfold f_Script_isEmpty; rw [if_pos e0]] at g; exact g)
set_option maxRecDepth 100000 in
set_option maxHeartbeats 2000000 in
theorem c_Script_holds {xs : jx_Xs} {m : zM} {Q : Option Value → zM → Prop} {k : Int32}
    (g1 : (k < 0) → Q (some (.int 0)) m)
    (g2 : (¬ k < 0) → (m 36 1 ≤ k) → Q (some (.int 0)) m)
    (g3 : (¬ k < 0) → (¬ m 36 1 ≤ k) → Q (some (.int 1)) m) : ez xs 93 0 (jx_ent 93 [.ref 36, .int k]) [] m Q := by
  refine ez_blk 1 rfl ?_
  show ez xs 93 1 [some (.ref 36), some (.int k)] [.int k] m Q
  refine ez_if_lt rfl (fun h1 => ?_) (fun h1 => ?_)
  · show ez xs 93 16 [some (.ref 36), some (.int k)] [] m Q
    refine ez_blk 1 rfl ?_
    show ez xs 93 17 [some (.ref 36), some (.int k)] [.int 0] m Q
    exact ez_ret rfl (by decide) rfl (g1 h1)
  · show ez xs 93 4 [some (.ref 36), some (.int k)] [] m Q
    refine ez_blk 3 rfl ?_
    show ez xs 93 9 [some (.ref 36), some (.int k)] [.int (m 36 1), .int k] m Q
    refine ez_icmp_ge rfl (fun h2 => ?_) (fun h2 => ?_)
    · show ez xs 93 16 [some (.ref 36), some (.int k)] [] m Q
      refine ez_blk 1 rfl ?_
      show ez xs 93 17 [some (.ref 36), some (.int k)] [.int 0] m Q
      exact ez_ret rfl (by decide) rfl (g2 h1 h2)
    · show ez xs 93 12 [some (.ref 36), some (.int k)] [] m Q
      refine ez_blk 2 rfl ?_
      show ez xs 93 17 [some (.ref 36), some (.int k)] [.int 1] m Q
      exact ez_ret rfl (by decide) rfl (g3 h1 h2)
def f_Script_holds (m : zM) (k : Int32) : Int32 := if k < 0 then 0 else if m 36 1 ≤ k then 0 else 1
theorem d_Script_holds {xs : jx_Xs} {m : zM} {Q : Option Value → zM → Prop} {k : Int32}
    (g : Q (some (.int (f_Script_holds m k))) m) : ez xs 93 0 (jx_ent 93 [.ref 36, .int k]) [] m Q := by
  refine c_Script_holds (fun e0 => by rw [show f_Script_holds m k = 0 from by unfold f_Script_holds; rw [if_pos e0]] at g; exact g) (fun e0 e1 => by rw [show f_Script_holds m k = 0 from by unfold f_Script_holds; rw [if_neg e0, if_pos e1]] at g; exact g) (fun e0 e1 => by rw [show f_Script_holds m k = 1 from by unfold f_Script_holds; rw [if_neg e0, if_neg e1]] at g; exact g)
set_option maxRecDepth 100000 in
set_option maxHeartbeats 2000000 in
theorem c_Script_empty {xs : jx_Xs} {m : zM} {Q : Option Value → zM → Prop}
    (g1 : Q none (jj_up (jj_up m 36 1 0) 36 2 0)) : ez xs 109 0 (jx_ent 109 [.ref 36]) [] m Q := by
  refine ez_blk 6 rfl ?_
  show ez xs 109 10 [some (.ref 36)] [] (jj_up (jj_up m 36 1 0) 36 2 0) Q
  exact ez_ret rfl (by decide) rfl (g1)
set_option maxRecDepth 100000 in
set_option maxHeartbeats 2000000 in
theorem c_PathPatcher_forget {xs : jx_Xs} {m : zM} {Q : Option Value → zM → Prop}
    (g1 : Q none (jj_up (jj_up (jj_up m 36 1 0) 36 2 0) 0 8 0)) : ez xs 110 0 (jx_ent 110 [.ref 0]) [] m Q := by
  refine ez_blk 2 rfl ?_
  show ez xs 110 4 [some (.ref 0)] [.ref 36] m Q
  refine ez_call (as := [.ref 36]) (rest := []) rfl (by decide) rfl ?_
  refine c_Script_empty ?_
  show ez xs 110 7 [some (.ref 0)] [] (jj_up (jj_up m 36 1 0) 36 2 0) Q
  refine ez_blk 3 rfl ?_
  show ez xs 110 12 [some (.ref 0)] [] (jj_up (jj_up (jj_up m 36 1 0) 36 2 0) 0 8 0) Q
  exact ez_ret rfl (by decide) rfl (g1)
set_option maxRecDepth 100000 in
set_option maxHeartbeats 2000000 in
theorem c_Search_hasConflict {xs : jx_Xs} {m : zM} {Q : Option Value → zM → Prop}
    (b1 : m 74 7 = 0 ∨ m 74 7 = 1)
    (g1 : Q (some (.int (m 74 7))) m) : ez xs 162 0 (jx_ent 162 [.ref 74]) [] m Q := by
  refine ez_blk 2 rfl ?_
  show ez xs 162 4 [some (.ref 74)] [.int (m 74 7)] m Q
  exact ez_retz rfl rfl (b1) (g1)
set_option maxRecDepth 100000 in
set_option maxHeartbeats 2000000 in
theorem c_Rewriter_lengthAfter {xs : jx_Xs} {m : zM} {Q : Option Value → zM → Prop}
    (g1 : Q (some (.int (m 129 3))) m) : ez xs 166 0 (jx_ent 166 [.ref 129]) [] m Q := by
  refine ez_blk 2 rfl ?_
  show ez xs 166 4 [some (.ref 129)] [.int (m 129 3)] m Q
  exact ez_ret rfl (by decide) rfl (g1)
set_option maxRecDepth 100000 in
set_option maxHeartbeats 2000000 in
theorem c_Rewriter_nodesAfter {xs : jx_Xs} {m : zM} {Q : Option Value → zM → Prop}
    (g1 : Q (some (.int (m 129 4))) m) : ez xs 167 0 (jx_ent 167 [.ref 129]) [] m Q := by
  refine ez_blk 2 rfl ?_
  show ez xs 167 4 [some (.ref 129)] [.int (m 129 4)] m Q
  exact ez_ret rfl (by decide) rfl (g1)
set_option maxRecDepth 100000 in
set_option maxHeartbeats 2000000 in
theorem c_Rewriter_editCount {xs : jx_Xs} {m : zM} {Q : Option Value → zM → Prop}
    (g1 : Q (some (.int (m 129 5))) m) : ez xs 171 0 (jx_ent 171 [.ref 129]) [] m Q := by
  refine ez_blk 2 rfl ?_
  show ez xs 171 4 [some (.ref 129)] [.int (m 129 5)] m Q
  exact ez_ret rfl (by decide) rfl (g1)
set_option maxRecDepth 100000 in
set_option maxHeartbeats 2000000 in
theorem c_Node_describe {xs : jx_Xs} {m : zM} {Q : Option Value → zM → Prop} {k f x y : Int32} {r : Nat} (i_r : r < 172) (s_r : z_H r = (0, 3, 13))
    (g1 : Q none (jj_up (jj_up (jj_up (jj_up m r 0 k) r 1 f) r 2 x) r 3 y)) : ez xs 49 0 (jx_ent 49 [.ref r, .int k, .int f, .int x, .int y]) [] m Q := by
  refine ez_blk 2 rfl ?_
  show ez xs 49 2 [some (.ref r), some (.int k), some (.int f), some (.int x), some (.int y)] [.int k, .ref r] m Q
  refine ez_put rfl i_r s_r (by decide) rfl rfl ?_
  show ez xs 49 5 [some (.ref r), some (.int k), some (.int f), some (.int x), some (.int y)] [] (jj_up m r 0 k) Q
  refine ez_blk 2 rfl ?_
  show ez xs 49 7 [some (.ref r), some (.int k), some (.int f), some (.int x), some (.int y)] [.int f, .ref r] (jj_up m r 0 k) Q
  refine ez_put rfl i_r s_r (by decide) rfl rfl ?_
  show ez xs 49 10 [some (.ref r), some (.int k), some (.int f), some (.int x), some (.int y)] [] (jj_up (jj_up m r 0 k) r 1 f) Q
  refine ez_blk 2 rfl ?_
  show ez xs 49 12 [some (.ref r), some (.int k), some (.int f), some (.int x), some (.int y)] [.int x, .ref r] (jj_up (jj_up m r 0 k) r 1 f) Q
  refine ez_put rfl i_r s_r (by decide) rfl rfl ?_
  show ez xs 49 15 [some (.ref r), some (.int k), some (.int f), some (.int x), some (.int y)] [] (jj_up (jj_up (jj_up m r 0 k) r 1 f) r 2 x) Q
  refine ez_blk 2 rfl ?_
  show ez xs 49 18 [some (.ref r), some (.int k), some (.int f), some (.int x), some (.int y)] [.int y, .ref r] (jj_up (jj_up (jj_up m r 0 k) r 1 f) r 2 x) Q
  refine ez_put rfl i_r s_r (by decide) rfl rfl ?_
  show ez xs 49 21 [some (.ref r), some (.int k), some (.int f), some (.int x), some (.int y)] [] (jj_up (jj_up (jj_up (jj_up m r 0 k) r 1 f) r 2 x) r 3 y) Q
  exact ez_ret rfl (by decide) rfl (g1)
set_option maxRecDepth 100000 in
set_option maxHeartbeats 2000000 in
theorem c_Node_standAt {xs : jx_Xs} {m : zM} {Q : Option Value → zM → Prop} {p q o : Int32} {r : Nat} (i_r : r < 172) (s_r : z_H r = (0, 3, 13))
    (g1 : Q none (jj_up (jj_up (jj_up (jj_up (jj_up (jj_up (jj_up m r 5 p) r 6 q) r 7 o) r 4 0) r 8 (-1)) r 9 (-1)) r 10 (-1))) : ez xs 47 0 (jx_ent 47 [.ref r, .int p, .int q, .int o]) [] m Q := by
  refine ez_blk 2 rfl ?_
  show ez xs 47 2 [some (.ref r), some (.int p), some (.int q), some (.int o)] [.int p, .ref r] m Q
  refine ez_put rfl i_r s_r (by decide) rfl rfl ?_
  show ez xs 47 5 [some (.ref r), some (.int p), some (.int q), some (.int o)] [] (jj_up m r 5 p) Q
  refine ez_blk 2 rfl ?_
  show ez xs 47 7 [some (.ref r), some (.int p), some (.int q), some (.int o)] [.int q, .ref r] (jj_up m r 5 p) Q
  refine ez_put rfl i_r s_r (by decide) rfl rfl ?_
  show ez xs 47 10 [some (.ref r), some (.int p), some (.int q), some (.int o)] [] (jj_up (jj_up m r 5 p) r 6 q) Q
  refine ez_blk 2 rfl ?_
  show ez xs 47 12 [some (.ref r), some (.int p), some (.int q), some (.int o)] [.int o, .ref r] (jj_up (jj_up m r 5 p) r 6 q) Q
  refine ez_put rfl i_r s_r (by decide) rfl rfl ?_
  show ez xs 47 15 [some (.ref r), some (.int p), some (.int q), some (.int o)] [] (jj_up (jj_up (jj_up m r 5 p) r 6 q) r 7 o) Q
  refine ez_blk 2 rfl ?_
  show ez xs 47 17 [some (.ref r), some (.int p), some (.int q), some (.int o)] [.int 0, .ref r] (jj_up (jj_up (jj_up m r 5 p) r 6 q) r 7 o) Q
  refine ez_put rfl i_r s_r (by decide) rfl rfl ?_
  show ez xs 47 20 [some (.ref r), some (.int p), some (.int q), some (.int o)] [] (jj_up (jj_up (jj_up (jj_up m r 5 p) r 6 q) r 7 o) r 4 0) Q
  refine ez_blk 2 rfl ?_
  show ez xs 47 22 [some (.ref r), some (.int p), some (.int q), some (.int o)] [.int (-1), .ref r] (jj_up (jj_up (jj_up (jj_up m r 5 p) r 6 q) r 7 o) r 4 0) Q
  refine ez_put rfl i_r s_r (by decide) rfl rfl ?_
  show ez xs 47 25 [some (.ref r), some (.int p), some (.int q), some (.int o)] [] (jj_up (jj_up (jj_up (jj_up (jj_up m r 5 p) r 6 q) r 7 o) r 4 0) r 8 (-1)) Q
  refine ez_blk 2 rfl ?_
  show ez xs 47 27 [some (.ref r), some (.int p), some (.int q), some (.int o)] [.int (-1), .ref r] (jj_up (jj_up (jj_up (jj_up (jj_up m r 5 p) r 6 q) r 7 o) r 4 0) r 8 (-1)) Q
  refine ez_put rfl i_r s_r (by decide) rfl rfl ?_
  show ez xs 47 30 [some (.ref r), some (.int p), some (.int q), some (.int o)] [] (jj_up (jj_up (jj_up (jj_up (jj_up (jj_up m r 5 p) r 6 q) r 7 o) r 4 0) r 8 (-1)) r 9 (-1)) Q
  refine ez_blk 2 rfl ?_
  show ez xs 47 32 [some (.ref r), some (.int p), some (.int q), some (.int o)] [.int (-1), .ref r] (jj_up (jj_up (jj_up (jj_up (jj_up (jj_up m r 5 p) r 6 q) r 7 o) r 4 0) r 8 (-1)) r 9 (-1)) Q
  refine ez_put rfl i_r s_r (by decide) rfl rfl ?_
  show ez xs 47 35 [some (.ref r), some (.int p), some (.int q), some (.int o)] [] (jj_up (jj_up (jj_up (jj_up (jj_up (jj_up (jj_up m r 5 p) r 6 q) r 7 o) r 4 0) r 8 (-1)) r 9 (-1)) r 10 (-1)) Q
  exact ez_ret rfl (by decide) rfl (g1)
set_option maxRecDepth 100000 in
set_option maxHeartbeats 2000000 in
theorem c_Node_successor {xs : jx_Xs} {m : zM} {Q : Option Value → zM → Prop} {k : Int32} {r : Nat} (i_r : r < 172) (s_r : z_H r = (0, 3, 13))
    (g1 : (¬ k = 0) → (¬ k = 1) → Q (some (.int (-1))) m)
    (g2 : (¬ k = 0) → (k = 1) → Q (some (.int (m r 12))) m)
    (g3 : (k = 0) → Q (some (.int (m r 11))) m) : ez xs 74 0 (jx_ent 74 [.ref r, .int k]) [] m Q := by
  refine ez_blk 1 rfl ?_
  show ez xs 74 1 [some (.ref r), some (.int k)] [.int k] m Q
  refine ez_if_ne rfl (fun h1 => ?_) (fun h1 => ?_)
  · show ez xs 74 9 [some (.ref r), some (.int k)] [] m Q
    refine ez_blk 2 rfl ?_
    show ez xs 74 11 [some (.ref r), some (.int k)] [.int 1, .int k] m Q
    refine ez_icmp_ne rfl (fun h2 => ?_) (fun h2 => ?_)
    · show ez xs 74 21 [some (.ref r), some (.int k)] [] m Q
      refine ez_blk 1 rfl ?_
      show ez xs 74 22 [some (.ref r), some (.int k)] [.int (-1)] m Q
      exact ez_ret rfl (by decide) rfl (g1 h1 h2)
    · show ez xs 74 14 [some (.ref r), some (.int k)] [] m Q
      refine ez_blk 1 rfl ?_
      show ez xs 74 15 [some (.ref r), some (.int k)] [.ref r] m Q
      refine ez_get rfl i_r s_r (by decide) rfl ?_
      show ez xs 74 18 [some (.ref r), some (.int k)] [.int (m r 12)] m Q
      refine ez_blk 1 rfl ?_
      show ez xs 74 22 [some (.ref r), some (.int k)] [.int (m r 12)] m Q
      exact ez_ret rfl (by decide) rfl (g2 h1 h2)
  · show ez xs 74 4 [some (.ref r), some (.int k)] [] m Q
    refine ez_blk 1 rfl ?_
    show ez xs 74 5 [some (.ref r), some (.int k)] [.ref r] m Q
    refine ez_get rfl i_r s_r (by decide) rfl ?_
    show ez xs 74 8 [some (.ref r), some (.int k)] [.int (m r 11)] m Q
    exact ez_ret rfl (by decide) rfl (g3 h1)
def f_Node_successor (m : zM) (k : Int32) (r : Nat) : Int32 := if k = 0 then (m r 11) else if k = 1 then (m r 12) else (-1)
theorem d_Node_successor {xs : jx_Xs} {m : zM} {Q : Option Value → zM → Prop} {k : Int32} {r : Nat} (i_r : r < 172) (s_r : z_H r = (0, 3, 13))
    (g : Q (some (.int (f_Node_successor m k r))) m) : ez xs 74 0 (jx_ent 74 [.ref r, .int k]) [] m Q := by
  refine c_Node_successor (i_r := i_r) (s_r := s_r) (fun e0 e1 => by rw [show f_Node_successor m k r = (-1) from by unfold f_Node_successor; rw [if_neg e0, if_neg e1]] at g; exact g) (fun e0 e1 => by rw [show f_Node_successor m k r = (m r 12) from by unfold f_Node_successor; rw [if_neg e0, if_pos e1]] at g; exact g) (fun e0 => by rw [show f_Node_successor m k r = (m r 11) from by unfold f_Node_successor; rw [if_pos e0]] at g; exact g)
set_option maxRecDepth 100000 in
set_option maxHeartbeats 2000000 in
theorem c_Node_successorSet {xs : jx_Xs} {m : zM} {Q : Option Value → zM → Prop} {r : Nat} (i_r : r < 172) (s_r : z_H r = (0, 3, 13))
    (g1 : (¬ m r 12 = (-1)) → Q (some (.int (((1 : Int32) <<< ((m r 11) &&& 31)) ||| ((1 : Int32) <<< ((m r 12) &&& 31))))) m)
    (g2 : (m r 12 = (-1)) → Q (some (.int ((1 : Int32) <<< ((m r 11) &&& 31)))) m) : ez xs 119 0 (jx_ent 119 [.ref r]) [] m Q := by
  refine ez_blk 2 rfl ?_
  show ez xs 119 2 [some (.ref r), none] [.ref r, .int 1] m Q
  refine ez_get rfl i_r s_r (by decide) rfl ?_
  show ez xs 119 5 [some (.ref r), none] [.int (m r 11), .int 1] m Q
  refine ez_blk 3 rfl ?_
  show ez xs 119 8 [some (.ref r), some (.int ((1 : Int32) <<< ((m r 11) &&& 31)))] [.ref r] m Q
  refine ez_get rfl i_r s_r (by decide) rfl ?_
  show ez xs 119 11 [some (.ref r), some (.int ((1 : Int32) <<< ((m r 11) &&& 31)))] [.int (m r 12)] m Q
  refine ez_blk 1 rfl ?_
  show ez xs 119 12 [some (.ref r), some (.int ((1 : Int32) <<< ((m r 11) &&& 31)))] [.int (-1), .int (m r 12)] m Q
  refine ez_icmp_ne rfl (fun h1 => ?_) (fun h1 => ?_)
  · show ez xs 119 19 [some (.ref r), some (.int ((1 : Int32) <<< ((m r 11) &&& 31)))] [] m Q
    refine ez_blk 3 rfl ?_
    show ez xs 119 22 [some (.ref r), some (.int ((1 : Int32) <<< ((m r 11) &&& 31)))] [.ref r, .int 1, .int ((1 : Int32) <<< ((m r 11) &&& 31))] m Q
    refine ez_get rfl i_r s_r (by decide) rfl ?_
    show ez xs 119 25 [some (.ref r), some (.int ((1 : Int32) <<< ((m r 11) &&& 31)))] [.int (m r 12), .int 1, .int ((1 : Int32) <<< ((m r 11) &&& 31))] m Q
    refine ez_blk 2 rfl ?_
    show ez xs 119 27 [some (.ref r), some (.int ((1 : Int32) <<< ((m r 11) &&& 31)))] [.int (((1 : Int32) <<< ((m r 11) &&& 31)) ||| ((1 : Int32) <<< ((m r 12) &&& 31)))] m Q
    exact ez_ret rfl (by decide) rfl (g1 h1)
  · show ez xs 119 15 [some (.ref r), some (.int ((1 : Int32) <<< ((m r 11) &&& 31)))] [] m Q
    refine ez_blk 2 rfl ?_
    show ez xs 119 27 [some (.ref r), some (.int ((1 : Int32) <<< ((m r 11) &&& 31)))] [.int ((1 : Int32) <<< ((m r 11) &&& 31))] m Q
    exact ez_ret rfl (by decide) rfl (g2 h1)
def f_Node_successorSet (m : zM) (r : Nat) : Int32 := if m r 12 = (-1) then ((1 : Int32) <<< ((m r 11) &&& 31)) else (((1 : Int32) <<< ((m r 11) &&& 31)) ||| ((1 : Int32) <<< ((m r 12) &&& 31)))
theorem d_Node_successorSet {xs : jx_Xs} {m : zM} {Q : Option Value → zM → Prop} {r : Nat} (i_r : r < 172) (s_r : z_H r = (0, 3, 13))
    (g : Q (some (.int (f_Node_successorSet m r))) m) : ez xs 119 0 (jx_ent 119 [.ref r]) [] m Q := by
  refine c_Node_successorSet (i_r := i_r) (s_r := s_r) (fun e0 => by rw [show f_Node_successorSet m r = (((1 : Int32) <<< ((m r 11) &&& 31)) ||| ((1 : Int32) <<< ((m r 12) &&& 31))) from by unfold f_Node_successorSet; rw [if_neg e0]] at g; exact g) (fun e0 => by rw [show f_Node_successorSet m r = ((1 : Int32) <<< ((m r 11) &&& 31)) from by unfold f_Node_successorSet; rw [if_pos e0]] at g; exact g)
set_option maxRecDepth 100000 in
set_option maxHeartbeats 2000000 in
theorem c_Node_spanLength {xs : jx_Xs} {m : zM} {Q : Option Value → zM → Prop} {r : Nat} (i_r : r < 172) (s_r : z_H r = (0, 3, 13))
    (g1 : Q (some (.int (((m r 6) - (m r 5)) + 1))) m) : ez xs 164 0 (jx_ent 164 [.ref r]) [] m Q := by
  refine ez_blk 1 rfl ?_
  show ez xs 164 1 [some (.ref r)] [.ref r] m Q
  refine ez_get rfl i_r s_r (by decide) rfl ?_
  show ez xs 164 4 [some (.ref r)] [.int (m r 6)] m Q
  refine ez_blk 1 rfl ?_
  show ez xs 164 5 [some (.ref r)] [.ref r, .int (m r 6)] m Q
  refine ez_get rfl i_r s_r (by decide) rfl ?_
  show ez xs 164 8 [some (.ref r)] [.int (m r 5), .int (m r 6)] m Q
  refine ez_blk 3 rfl ?_
  show ez xs 164 11 [some (.ref r)] [.int (((m r 6) - (m r 5)) + 1)] m Q
  exact ez_ret rfl (by decide) rfl (g1)
set_option maxRecDepth 100000 in
set_option maxHeartbeats 2000000 in
theorem c_Pattern_describe {xs : jx_Xs} {m : zM} {Q : Option Value → zM → Prop} {k f x y : Int32} {r : Nat} (i_r : r < 172) (s_r : z_H r = (0, 8, 4))
    (g1 : (¬ k = 0) → (¬ k = (-1)) → (¬ k = 1) → Q none (jj_up (jj_up (jj_up (jj_up m r 0 k) r 1 0) r 2 x) r 3 0))
    (g2 : (¬ k = 0) → (¬ k = (-1)) → (k = 1) → Q none (jj_up (jj_up (jj_up (jj_up m r 0 k) r 1 0) r 2 x) r 3 y))
    (g3 : (¬ k = 0) → (k = (-1)) → (¬ k = 1) → Q none (jj_up (jj_up (jj_up (jj_up m r 0 k) r 1 0) r 2 0) r 3 0))
    (g4 : (¬ k = 0) → (k = (-1)) → (k = 1) → Q none (jj_up (jj_up (jj_up (jj_up m r 0 k) r 1 0) r 2 0) r 3 y))
    (g5 : (k = 0) → (¬ k = (-1)) → (¬ k = 1) → Q none (jj_up (jj_up (jj_up (jj_up m r 0 k) r 1 f) r 2 x) r 3 0))
    (g6 : (k = 0) → (¬ k = (-1)) → (k = 1) → Q none (jj_up (jj_up (jj_up (jj_up m r 0 k) r 1 f) r 2 x) r 3 y))
    (g7 : (k = 0) → (k = (-1)) → (¬ k = 1) → Q none (jj_up (jj_up (jj_up (jj_up m r 0 k) r 1 f) r 2 0) r 3 0))
    (g8 : (k = 0) → (k = (-1)) → (k = 1) → Q none (jj_up (jj_up (jj_up (jj_up m r 0 k) r 1 f) r 2 0) r 3 y)) : ez xs 82 0 (jx_ent 82 [.ref r, .int k, .int f, .int x, .int y]) [] m Q := by
  refine ez_blk 2 rfl ?_
  show ez xs 82 2 [some (.ref r), some (.int k), some (.int f), some (.int x), some (.int y)] [.int k, .ref r] m Q
  refine ez_put rfl i_r s_r (by decide) rfl rfl ?_
  show ez xs 82 5 [some (.ref r), some (.int k), some (.int f), some (.int x), some (.int y)] [] (jj_up m r 0 k) Q
  refine ez_blk 2 rfl ?_
  show ez xs 82 7 [some (.ref r), some (.int k), some (.int f), some (.int x), some (.int y)] [.int k, .ref r] (jj_up m r 0 k) Q
  refine ez_if_ne rfl (fun h1 => ?_) (fun h1 => ?_)
  · show ez xs 82 14 [some (.ref r), some (.int k), some (.int f), some (.int x), some (.int y)] [.ref r] (jj_up m r 0 k) Q
    refine ez_blk 1 rfl ?_
    show ez xs 82 15 [some (.ref r), some (.int k), some (.int f), some (.int x), some (.int y)] [.int 0, .ref r] (jj_up m r 0 k) Q
    refine ez_put rfl i_r s_r (by decide) rfl rfl ?_
    show ez xs 82 18 [some (.ref r), some (.int k), some (.int f), some (.int x), some (.int y)] [] (jj_up (jj_up m r 0 k) r 1 0) Q
    refine ez_blk 3 rfl ?_
    show ez xs 82 21 [some (.ref r), some (.int k), some (.int f), some (.int x), some (.int y)] [.int (-1), .int k, .ref r] (jj_up (jj_up m r 0 k) r 1 0) Q
    refine ez_icmp_ne rfl (fun h2 => ?_) (fun h2 => ?_)
    · show ez xs 82 28 [some (.ref r), some (.int k), some (.int f), some (.int x), some (.int y)] [.ref r] (jj_up (jj_up m r 0 k) r 1 0) Q
      refine ez_blk 1 rfl ?_
      show ez xs 82 29 [some (.ref r), some (.int k), some (.int f), some (.int x), some (.int y)] [.int x, .ref r] (jj_up (jj_up m r 0 k) r 1 0) Q
      refine ez_put rfl i_r s_r (by decide) rfl rfl ?_
      show ez xs 82 32 [some (.ref r), some (.int k), some (.int f), some (.int x), some (.int y)] [] (jj_up (jj_up (jj_up m r 0 k) r 1 0) r 2 x) Q
      refine ez_blk 3 rfl ?_
      show ez xs 82 35 [some (.ref r), some (.int k), some (.int f), some (.int x), some (.int y)] [.int 1, .int k, .ref r] (jj_up (jj_up (jj_up m r 0 k) r 1 0) r 2 x) Q
      refine ez_icmp_ne rfl (fun h3 => ?_) (fun h3 => ?_)
      · show ez xs 82 43 [some (.ref r), some (.int k), some (.int f), some (.int x), some (.int y)] [.ref r] (jj_up (jj_up (jj_up m r 0 k) r 1 0) r 2 x) Q
        refine ez_blk 1 rfl ?_
        show ez xs 82 44 [some (.ref r), some (.int k), some (.int f), some (.int x), some (.int y)] [.int 0, .ref r] (jj_up (jj_up (jj_up m r 0 k) r 1 0) r 2 x) Q
        refine ez_put rfl i_r s_r (by decide) rfl rfl ?_
        show ez xs 82 47 [some (.ref r), some (.int k), some (.int f), some (.int x), some (.int y)] [] (jj_up (jj_up (jj_up (jj_up m r 0 k) r 1 0) r 2 x) r 3 0) Q
        exact ez_ret rfl (by decide) rfl (g1 h1 h2 h3)
      · show ez xs 82 38 [some (.ref r), some (.int k), some (.int f), some (.int x), some (.int y)] [.ref r] (jj_up (jj_up (jj_up m r 0 k) r 1 0) r 2 x) Q
        refine ez_blk 2 rfl ?_
        show ez xs 82 44 [some (.ref r), some (.int k), some (.int f), some (.int x), some (.int y)] [.int y, .ref r] (jj_up (jj_up (jj_up m r 0 k) r 1 0) r 2 x) Q
        refine ez_put rfl i_r s_r (by decide) rfl rfl ?_
        show ez xs 82 47 [some (.ref r), some (.int k), some (.int f), some (.int x), some (.int y)] [] (jj_up (jj_up (jj_up (jj_up m r 0 k) r 1 0) r 2 x) r 3 y) Q
        exact ez_ret rfl (by decide) rfl (g2 h1 h2 h3)
    · show ez xs 82 24 [some (.ref r), some (.int k), some (.int f), some (.int x), some (.int y)] [.ref r] (jj_up (jj_up m r 0 k) r 1 0) Q
      refine ez_blk 2 rfl ?_
      show ez xs 82 29 [some (.ref r), some (.int k), some (.int f), some (.int x), some (.int y)] [.int 0, .ref r] (jj_up (jj_up m r 0 k) r 1 0) Q
      refine ez_put rfl i_r s_r (by decide) rfl rfl ?_
      show ez xs 82 32 [some (.ref r), some (.int k), some (.int f), some (.int x), some (.int y)] [] (jj_up (jj_up (jj_up m r 0 k) r 1 0) r 2 0) Q
      refine ez_blk 3 rfl ?_
      show ez xs 82 35 [some (.ref r), some (.int k), some (.int f), some (.int x), some (.int y)] [.int 1, .int k, .ref r] (jj_up (jj_up (jj_up m r 0 k) r 1 0) r 2 0) Q
      refine ez_icmp_ne rfl (fun h4 => ?_) (fun h4 => ?_)
      · show ez xs 82 43 [some (.ref r), some (.int k), some (.int f), some (.int x), some (.int y)] [.ref r] (jj_up (jj_up (jj_up m r 0 k) r 1 0) r 2 0) Q
        refine ez_blk 1 rfl ?_
        show ez xs 82 44 [some (.ref r), some (.int k), some (.int f), some (.int x), some (.int y)] [.int 0, .ref r] (jj_up (jj_up (jj_up m r 0 k) r 1 0) r 2 0) Q
        refine ez_put rfl i_r s_r (by decide) rfl rfl ?_
        show ez xs 82 47 [some (.ref r), some (.int k), some (.int f), some (.int x), some (.int y)] [] (jj_up (jj_up (jj_up (jj_up m r 0 k) r 1 0) r 2 0) r 3 0) Q
        exact ez_ret rfl (by decide) rfl (g3 h1 h2 h4)
      · show ez xs 82 38 [some (.ref r), some (.int k), some (.int f), some (.int x), some (.int y)] [.ref r] (jj_up (jj_up (jj_up m r 0 k) r 1 0) r 2 0) Q
        refine ez_blk 2 rfl ?_
        show ez xs 82 44 [some (.ref r), some (.int k), some (.int f), some (.int x), some (.int y)] [.int y, .ref r] (jj_up (jj_up (jj_up m r 0 k) r 1 0) r 2 0) Q
        refine ez_put rfl i_r s_r (by decide) rfl rfl ?_
        show ez xs 82 47 [some (.ref r), some (.int k), some (.int f), some (.int x), some (.int y)] [] (jj_up (jj_up (jj_up (jj_up m r 0 k) r 1 0) r 2 0) r 3 y) Q
        exact ez_ret rfl (by decide) rfl (g4 h1 h2 h4)
  · show ez xs 82 10 [some (.ref r), some (.int k), some (.int f), some (.int x), some (.int y)] [.ref r] (jj_up m r 0 k) Q
    refine ez_blk 2 rfl ?_
    show ez xs 82 15 [some (.ref r), some (.int k), some (.int f), some (.int x), some (.int y)] [.int f, .ref r] (jj_up m r 0 k) Q
    refine ez_put rfl i_r s_r (by decide) rfl rfl ?_
    show ez xs 82 18 [some (.ref r), some (.int k), some (.int f), some (.int x), some (.int y)] [] (jj_up (jj_up m r 0 k) r 1 f) Q
    refine ez_blk 3 rfl ?_
    show ez xs 82 21 [some (.ref r), some (.int k), some (.int f), some (.int x), some (.int y)] [.int (-1), .int k, .ref r] (jj_up (jj_up m r 0 k) r 1 f) Q
    refine ez_icmp_ne rfl (fun h5 => ?_) (fun h5 => ?_)
    · show ez xs 82 28 [some (.ref r), some (.int k), some (.int f), some (.int x), some (.int y)] [.ref r] (jj_up (jj_up m r 0 k) r 1 f) Q
      refine ez_blk 1 rfl ?_
      show ez xs 82 29 [some (.ref r), some (.int k), some (.int f), some (.int x), some (.int y)] [.int x, .ref r] (jj_up (jj_up m r 0 k) r 1 f) Q
      refine ez_put rfl i_r s_r (by decide) rfl rfl ?_
      show ez xs 82 32 [some (.ref r), some (.int k), some (.int f), some (.int x), some (.int y)] [] (jj_up (jj_up (jj_up m r 0 k) r 1 f) r 2 x) Q
      refine ez_blk 3 rfl ?_
      show ez xs 82 35 [some (.ref r), some (.int k), some (.int f), some (.int x), some (.int y)] [.int 1, .int k, .ref r] (jj_up (jj_up (jj_up m r 0 k) r 1 f) r 2 x) Q
      refine ez_icmp_ne rfl (fun h6 => ?_) (fun h6 => ?_)
      · show ez xs 82 43 [some (.ref r), some (.int k), some (.int f), some (.int x), some (.int y)] [.ref r] (jj_up (jj_up (jj_up m r 0 k) r 1 f) r 2 x) Q
        refine ez_blk 1 rfl ?_
        show ez xs 82 44 [some (.ref r), some (.int k), some (.int f), some (.int x), some (.int y)] [.int 0, .ref r] (jj_up (jj_up (jj_up m r 0 k) r 1 f) r 2 x) Q
        refine ez_put rfl i_r s_r (by decide) rfl rfl ?_
        show ez xs 82 47 [some (.ref r), some (.int k), some (.int f), some (.int x), some (.int y)] [] (jj_up (jj_up (jj_up (jj_up m r 0 k) r 1 f) r 2 x) r 3 0) Q
        exact ez_ret rfl (by decide) rfl (g5 h1 h5 h6)
      · show ez xs 82 38 [some (.ref r), some (.int k), some (.int f), some (.int x), some (.int y)] [.ref r] (jj_up (jj_up (jj_up m r 0 k) r 1 f) r 2 x) Q
        refine ez_blk 2 rfl ?_
        show ez xs 82 44 [some (.ref r), some (.int k), some (.int f), some (.int x), some (.int y)] [.int y, .ref r] (jj_up (jj_up (jj_up m r 0 k) r 1 f) r 2 x) Q
        refine ez_put rfl i_r s_r (by decide) rfl rfl ?_
        show ez xs 82 47 [some (.ref r), some (.int k), some (.int f), some (.int x), some (.int y)] [] (jj_up (jj_up (jj_up (jj_up m r 0 k) r 1 f) r 2 x) r 3 y) Q
        exact ez_ret rfl (by decide) rfl (g6 h1 h5 h6)
    · show ez xs 82 24 [some (.ref r), some (.int k), some (.int f), some (.int x), some (.int y)] [.ref r] (jj_up (jj_up m r 0 k) r 1 f) Q
      refine ez_blk 2 rfl ?_
      show ez xs 82 29 [some (.ref r), some (.int k), some (.int f), some (.int x), some (.int y)] [.int 0, .ref r] (jj_up (jj_up m r 0 k) r 1 f) Q
      refine ez_put rfl i_r s_r (by decide) rfl rfl ?_
      show ez xs 82 32 [some (.ref r), some (.int k), some (.int f), some (.int x), some (.int y)] [] (jj_up (jj_up (jj_up m r 0 k) r 1 f) r 2 0) Q
      refine ez_blk 3 rfl ?_
      show ez xs 82 35 [some (.ref r), some (.int k), some (.int f), some (.int x), some (.int y)] [.int 1, .int k, .ref r] (jj_up (jj_up (jj_up m r 0 k) r 1 f) r 2 0) Q
      refine ez_icmp_ne rfl (fun h7 => ?_) (fun h7 => ?_)
      · show ez xs 82 43 [some (.ref r), some (.int k), some (.int f), some (.int x), some (.int y)] [.ref r] (jj_up (jj_up (jj_up m r 0 k) r 1 f) r 2 0) Q
        refine ez_blk 1 rfl ?_
        show ez xs 82 44 [some (.ref r), some (.int k), some (.int f), some (.int x), some (.int y)] [.int 0, .ref r] (jj_up (jj_up (jj_up m r 0 k) r 1 f) r 2 0) Q
        refine ez_put rfl i_r s_r (by decide) rfl rfl ?_
        show ez xs 82 47 [some (.ref r), some (.int k), some (.int f), some (.int x), some (.int y)] [] (jj_up (jj_up (jj_up (jj_up m r 0 k) r 1 f) r 2 0) r 3 0) Q
        exact ez_ret rfl (by decide) rfl (g7 h1 h5 h7)
      · show ez xs 82 38 [some (.ref r), some (.int k), some (.int f), some (.int x), some (.int y)] [.ref r] (jj_up (jj_up (jj_up m r 0 k) r 1 f) r 2 0) Q
        refine ez_blk 2 rfl ?_
        show ez xs 82 44 [some (.ref r), some (.int k), some (.int f), some (.int x), some (.int y)] [.int y, .ref r] (jj_up (jj_up (jj_up m r 0 k) r 1 f) r 2 0) Q
        refine ez_put rfl i_r s_r (by decide) rfl rfl ?_
        show ez xs 82 47 [some (.ref r), some (.int k), some (.int f), some (.int x), some (.int y)] [] (jj_up (jj_up (jj_up (jj_up m r 0 k) r 1 f) r 2 0) r 3 y) Q
        exact ez_ret rfl (by decide) rfl (g8 h1 h5 h7)
set_option maxRecDepth 100000 in
set_option maxHeartbeats 2000000 in
theorem c_Pattern_unknowns {xs : jx_Xs} {m : zM} {Q : Option Value → zM → Prop} {r : Nat} (i_r : r < 172) (s_r : z_H r = (0, 8, 4))
    (g1 : Q (some (.int (f_Pattern_unknownsIn m (m r 0) (m r 2) (m r 3)))) m) : ez xs 86 0 (jx_ent 86 [.ref r]) [] m Q := by
  refine ez_blk 1 rfl ?_
  show ez xs 86 1 [some (.ref r)] [.ref r] m Q
  refine ez_get rfl i_r s_r (by decide) rfl ?_
  show ez xs 86 4 [some (.ref r)] [.int (m r 0)] m Q
  refine ez_blk 1 rfl ?_
  show ez xs 86 5 [some (.ref r)] [.ref r, .int (m r 0)] m Q
  refine ez_get rfl i_r s_r (by decide) rfl ?_
  show ez xs 86 8 [some (.ref r)] [.int (m r 2), .int (m r 0)] m Q
  refine ez_blk 1 rfl ?_
  show ez xs 86 9 [some (.ref r)] [.ref r, .int (m r 2), .int (m r 0)] m Q
  refine ez_get rfl i_r s_r (by decide) rfl ?_
  show ez xs 86 12 [some (.ref r)] [.int (m r 3), .int (m r 2), .int (m r 0)] m Q
  refine ez_call (as := [.int (m r 0), .int (m r 2), .int (m r 3)]) (rest := []) rfl (by decide) rfl ?_
  refine d_Pattern_unknownsIn ?_
  show ez xs 86 15 [some (.ref r)] [.int (f_Pattern_unknownsIn m (m r 0) (m r 2) (m r 3))] m Q
  exact ez_ret rfl (by decide) rfl (g1)
set_option maxRecDepth 100000 in
set_option maxHeartbeats 2000000 in
theorem c_Edit_isNothing {xs : jx_Xs} {m : zM} {Q : Option Value → zM → Prop} {r : Nat} (i_r : r < 172) (s_r : z_H r = (0, 10, 4))
    (g1 : (¬ m r 3 = 0) → Q (some (.int 0)) m)
    (g2 : (m r 3 = 0) → (¬ m r 2 = 0) → Q (some (.int 0)) m)
    (g3 : (m r 3 = 0) → (m r 2 = 0) → Q (some (.int 1)) m) : ez xs 132 0 (jx_ent 132 [.ref r]) [] m Q := by
  refine ez_blk 1 rfl ?_
  show ez xs 132 1 [some (.ref r)] [.ref r] m Q
  refine ez_get rfl i_r s_r (by decide) rfl ?_
  show ez xs 132 4 [some (.ref r)] [.int (m r 3)] m Q
  refine ez_if_ne rfl (fun h1 => ?_) (fun h1 => ?_)
  · show ez xs 132 18 [some (.ref r)] [] m Q
    refine ez_blk 1 rfl ?_
    show ez xs 132 19 [some (.ref r)] [.int 0] m Q
    exact ez_ret rfl (by decide) rfl (g1 h1)
  · show ez xs 132 7 [some (.ref r)] [] m Q
    refine ez_blk 1 rfl ?_
    show ez xs 132 8 [some (.ref r)] [.ref r] m Q
    refine ez_get rfl i_r s_r (by decide) rfl ?_
    show ez xs 132 11 [some (.ref r)] [.int (m r 2)] m Q
    refine ez_if_ne rfl (fun h2 => ?_) (fun h2 => ?_)
    · show ez xs 132 18 [some (.ref r)] [] m Q
      refine ez_blk 1 rfl ?_
      show ez xs 132 19 [some (.ref r)] [.int 0] m Q
      exact ez_ret rfl (by decide) rfl (g2 h1 h2)
    · show ez xs 132 14 [some (.ref r)] [] m Q
      refine ez_blk 2 rfl ?_
      show ez xs 132 19 [some (.ref r)] [.int 1] m Q
      exact ez_ret rfl (by decide) rfl (g3 h1 h2)
def f_Edit_isNothing (m : zM) (r : Nat) : Int32 := if m r 3 = 0 then if m r 2 = 0 then 1 else 0 else 0
theorem d_Edit_isNothing {xs : jx_Xs} {m : zM} {Q : Option Value → zM → Prop} {r : Nat} (i_r : r < 172) (s_r : z_H r = (0, 10, 4))
    (g : Q (some (.int (f_Edit_isNothing m r))) m) : ez xs 132 0 (jx_ent 132 [.ref r]) [] m Q := by
  refine c_Edit_isNothing (i_r := i_r) (s_r := s_r) (fun e0 => by rw [show f_Edit_isNothing m r = 0 from by unfold f_Edit_isNothing; rw [if_neg e0]] at g; exact g) (fun e0 e1 => by rw [show f_Edit_isNothing m r = 0 from by unfold f_Edit_isNothing; rw [if_pos e0, if_neg e1]] at g; exact g) (fun e0 e1 => by rw [show f_Edit_isNothing m r = 1 from by unfold f_Edit_isNothing; rw [if_pos e0, if_pos e1]] at g; exact g)
set_option maxRecDepth 100000 in
set_option maxHeartbeats 2000000 in
theorem c_Edit_reset {xs : jx_Xs} {m : zM} {Q : Option Value → zM → Prop} {r : Nat} (i_r : r < 172) (s_r : z_H r = (0, 10, 4))
    (g1 : Q none (jj_up (jj_up (jj_up m r 1 0) r 2 0) r 3 0)) : ez xs 113 0 (jx_ent 113 [.ref r]) [] m Q := by
  refine ez_blk 2 rfl ?_
  show ez xs 113 2 [some (.ref r)] [.int 0, .ref r] m Q
  refine ez_put rfl i_r s_r (by decide) rfl rfl ?_
  show ez xs 113 5 [some (.ref r)] [] (jj_up m r 1 0) Q
  refine ez_blk 2 rfl ?_
  show ez xs 113 7 [some (.ref r)] [.int 0, .ref r] (jj_up m r 1 0) Q
  refine ez_put rfl i_r s_r (by decide) rfl rfl ?_
  show ez xs 113 10 [some (.ref r)] [] (jj_up (jj_up m r 1 0) r 2 0) Q
  refine ez_blk 2 rfl ?_
  show ez xs 113 12 [some (.ref r)] [.int 0, .ref r] (jj_up (jj_up m r 1 0) r 2 0) Q
  refine ez_put rfl i_r s_r (by decide) rfl rfl ?_
  show ez xs 113 15 [some (.ref r)] [] (jj_up (jj_up (jj_up m r 1 0) r 2 0) r 3 0) Q
  exact ez_ret rfl (by decide) rfl (g1)
set_option maxRecDepth 100000 in
set_option maxHeartbeats 2000000 in
theorem c_Item_edits {xs : jx_Xs} {m : zM} {Q : Option Value → zM → Prop} {r : Nat} (i_r : r < 172) (s_r : z_H r = (0, 7, 6))
    (g1 : (¬ m r 4 = 0) → Q (some (.int 1)) m)
    (g2 : (m r 4 = 0) → (m r 3 ≤ 0) → Q (some (.int 0)) m)
    (g3 : (m r 4 = 0) → (¬ m r 3 ≤ 0) → Q (some (.int 1)) m) : ez xs 123 0 (jx_ent 123 [.ref r]) [] m Q := by
  refine ez_blk 1 rfl ?_
  show ez xs 123 1 [some (.ref r)] [.ref r] m Q
  refine ez_get rfl i_r s_r (by decide) rfl ?_
  show ez xs 123 4 [some (.ref r)] [.int (m r 4)] m Q
  refine ez_if_ne rfl (fun h1 => ?_) (fun h1 => ?_)
  · show ez xs 123 14 [some (.ref r)] [] m Q
    refine ez_blk 2 rfl ?_
    show ez xs 123 19 [some (.ref r)] [.int 1] m Q
    exact ez_ret rfl (by decide) rfl (g1 h1)
  · show ez xs 123 7 [some (.ref r)] [] m Q
    refine ez_blk 1 rfl ?_
    show ez xs 123 8 [some (.ref r)] [.ref r] m Q
    refine ez_get rfl i_r s_r (by decide) rfl ?_
    show ez xs 123 11 [some (.ref r)] [.int (m r 3)] m Q
    refine ez_if_le rfl (fun h2 => ?_) (fun h2 => ?_)
    · show ez xs 123 18 [some (.ref r)] [] m Q
      refine ez_blk 1 rfl ?_
      show ez xs 123 19 [some (.ref r)] [.int 0] m Q
      exact ez_ret rfl (by decide) rfl (g2 h1 h2)
    · show ez xs 123 14 [some (.ref r)] [] m Q
      refine ez_blk 2 rfl ?_
      show ez xs 123 19 [some (.ref r)] [.int 1] m Q
      exact ez_ret rfl (by decide) rfl (g3 h1 h2)
def f_Item_edits (m : zM) (r : Nat) : Int32 := if m r 4 = 0 then if m r 3 ≤ 0 then 0 else 1 else 1
theorem d_Item_edits {xs : jx_Xs} {m : zM} {Q : Option Value → zM → Prop} {r : Nat} (i_r : r < 172) (s_r : z_H r = (0, 7, 6))
    (g : Q (some (.int (f_Item_edits m r))) m) : ez xs 123 0 (jx_ent 123 [.ref r]) [] m Q := by
  refine c_Item_edits (i_r := i_r) (s_r := s_r) (fun e0 => by rw [show f_Item_edits m r = 1 from by unfold f_Item_edits; rw [if_neg e0]] at g; exact g) (fun e0 e1 => by rw [show f_Item_edits m r = 0 from by unfold f_Item_edits; rw [if_pos e0, if_pos e1]] at g; exact g) (fun e0 e1 => by rw [show f_Item_edits m r = 1 from by unfold f_Item_edits; rw [if_pos e0, if_neg e1]] at g; exact g)
end
section
/-! Rows of like cells: nodes 5 + e, items 38 + 6 e with their patterns, edits 81 + 2 e. -/
theorem vp_lt {x : Int32} {n : Nat} (h : vp_in x n) : x.toNatClampNeg < n := Nat.not_le.mp fun h2 => h (Or.inr h2)
theorem z_all {n : Nat} {p : Nat → Bool} (h : (List.range n).all p = true) {e : Nat} (he : e < n) : p e = true := List.all_eq_true.mp h e (List.mem_range.mpr he)
theorem z_ndi {e : Nat} (h : e < 24) : 5 + e < 172 := by omega
theorem z_nds {e : Nat} (h : e < 24) : z_H (5 + e) = (0, 3, 13) := of_decide_eq_true (z_all (n := 24) (p := fun e => decide (z_H (5 + e) = (0, 3, 13))) (by decide +kernel) h)
theorem z_ndr {e : Nat} (h : e < 24) : z_R 4 e = some (5 + e) := of_decide_eq_true (z_all (n := 24) (p := fun e => decide (z_R 4 e = some (5 + e))) (by decide +kernel) h)
theorem z_iti {e : Nat} (h : e < 6) : 38 + 6 * e < 172 := by omega
theorem z_its {e : Nat} (h : e < 6) : z_H (38 + 6 * e) = (0, 7, 6) := of_decide_eq_true (z_all (n := 6) (p := fun e => decide (z_H (38 + 6 * e) = (0, 7, 6))) (by decide +kernel) h)
theorem z_itr {e : Nat} (h : e < 6) : z_R 37 e = some (38 + 6 * e) := of_decide_eq_true (z_all (n := 6) (p := fun e => decide (z_R 37 e = some (38 + 6 * e))) (by decide +kernel) h)
theorem z_itp {e : Nat} (h : e < 6) : z_R (38 + 6 * e) 0 = some (39 + 6 * e) := of_decide_eq_true (z_all (n := 6) (p := fun e => decide (z_R (38 + 6 * e) 0 = some (39 + 6 * e))) (by decide +kernel) h)
theorem z_itf {e : Nat} (h : e < 6) : z_R (38 + 6 * e) 1 = some (40 + 6 * e) := of_decide_eq_true (z_all (n := 6) (p := fun e => decide (z_R (38 + 6 * e) 1 = some (40 + 6 * e))) (by decide +kernel) h)
theorem z_ita {e : Nat} (h : e < 6) : z_R (38 + 6 * e) 2 = some (41 + 6 * e) := of_decide_eq_true (z_all (n := 6) (p := fun e => decide (z_R (38 + 6 * e) 2 = some (41 + 6 * e))) (by decide +kernel) h)
theorem z_pti {e : Nat} (h : e < 6) : 39 + 6 * e < 172 := by omega
theorem z_pts {e : Nat} (h : e < 6) : z_H (39 + 6 * e) = (0, 8, 4) := of_decide_eq_true (z_all (n := 6) (p := fun e => decide (z_H (39 + 6 * e) = (0, 8, 4))) (by decide +kernel) h)
theorem z_fbi {e : Nat} (h : e < 6) : 40 + 6 * e < 172 := by omega
theorem z_fbs {e : Nat} (h : e < 6) : z_H (40 + 6 * e) = (0, 8, 4) := of_decide_eq_true (z_all (n := 6) (p := fun e => decide (z_H (40 + 6 * e) = (0, 8, 4))) (by decide +kernel) h)
theorem z_ari {e : Nat} (h : e < 6) : 41 + 6 * e < 172 := by omega
theorem z_ars {e : Nat} (h : e < 6) : z_H (41 + 6 * e) = (2, 5, 2) := of_decide_eq_true (z_all (n := 6) (p := fun e => decide (z_H (41 + 6 * e) = (2, 5, 2))) (by decide +kernel) h)
theorem z_adr {e j : Nat} (h : e < 6) (hj : j < 2) : z_R (41 + 6 * e) j = some (42 + 6 * e + j) := of_decide_eq_true (z_all (n := 2) (p := fun j => decide (z_R (41 + 6 * e) j = some (42 + 6 * e + j))) (z_all (n := 6) (p := fun e => (List.range 2).all fun j => decide (z_R (41 + 6 * e) j = some (42 + 6 * e + j))) (by decide +kernel) h) hj)
theorem z_adi {e j : Nat} (h : e < 6) (hj : j < 2) : 42 + 6 * e + j < 172 := by omega
theorem z_ads {e j : Nat} (h : e < 6) (hj : j < 2) : z_H (42 + 6 * e + j) = (0, 8, 4) := of_decide_eq_true (z_all (n := 2) (p := fun j => decide (z_H (42 + 6 * e + j) = (0, 8, 4))) (z_all (n := 6) (p := fun e => (List.range 2).all fun j => decide (z_H (42 + 6 * e + j) = (0, 8, 4))) (by decide +kernel) h) hj)
theorem z_edi {e : Nat} (h : e < 24) : 81 + 2 * e < 172 := by omega
theorem z_eds {e : Nat} (h : e < 24) : z_H (81 + 2 * e) = (0, 10, 4) := of_decide_eq_true (z_all (n := 24) (p := fun e => decide (z_H (81 + 2 * e) = (0, 10, 4))) (by decide +kernel) h)
theorem z_edr {e : Nat} (h : e < 24) : z_R 78 e = some (81 + 2 * e) := of_decide_eq_true (z_all (n := 24) (p := fun e => decide (z_R 78 e = some (81 + 2 * e))) (by decide +kernel) h)
theorem z_edp {e : Nat} (h : e < 24) : z_R (81 + 2 * e) 0 = some (82 + 2 * e) := of_decide_eq_true (z_all (n := 24) (p := fun e => decide (z_R (81 + 2 * e) 0 = some (82 + 2 * e))) (by decide +kernel) h)
theorem z_puti {e : Nat} (h : e < 24) : 82 + 2 * e < 172 := by omega
theorem z_puts {e : Nat} (h : e < 24) : z_H (82 + 2 * e) = (1, 1, 10) := of_decide_eq_true (z_all (n := 24) (p := fun e => decide (z_H (82 + 2 * e) = (1, 1, 10))) (by decide +kernel) h)
section EZ5
variable {xs : jx_Xs} {y pc a b d : Nat} {c x v : Int32} {L : jx_L} {st r : List Value} {m : zM} {Q : Option Value → zM → Prop}
theorem ez_rldv {i t n k : Nat} (ho : jx_op y pc = some (53, a, b, d, c)) (hi : i < 172) (hs : z_H i = (2, t, n)) (hob : jx_obt t = true) (hx : vp_in x n) (hr : z_R i x.toNatClampNeg = some k) (g : ez xs y (pc + 1) L (.ref k :: r) m Q) : ez xs y pc L (.int x :: .ref i :: r) m Q := by
  refine ez_st (m' := m) ?_ g
  unfold jx_st
  rw [ho]
  show (if 53 < 72 then jx_rld pc a b d c L (.int x :: .ref i :: r) (z_S m) else none) = _
  rw [if_pos (by decide)]
  unfold jx_rld
  dsimp only
  have h1 : (z_S m).2.2.1 i = (2, t, n) := hs
  have h2 : (z_S m).2.1 i x.toNatClampNeg = some k := hr
  rw [h1, if_pos ⟨z_arrv hi hs hx, hob⟩, h2]
  rfl
theorem ez_len {i t n : Nat} (ho : jx_op y pc = some (54, a, b, d, c)) (hi : i < 172) (hs : z_H i = (1, t, n)) (ht : t < 7 := by decide) (g : ez xs y (pc + 1) L (.int (Int32.ofNat n) :: r) m Q) : ez xs y pc L (.ref i :: r) m Q := by
  refine ez_st (m' := m) ?_ g
  unfold jx_st
  rw [ho]
  show (if 54 < 72 then jx_len pc a b d c L (.ref i :: r) (z_S m) else none) = _
  rw [if_pos (by decide)]
  unfold jx_len
  dsimp only
  have h1 : (z_S m).2.2.1 i = (1, t, n) := hs
  rw [h1, if_pos ⟨hi, Or.inl rfl, ht⟩]
  rfl
end EZ5
end
