-- ===== PART A: goes FIRST, ahead of the names: the tables' words, and 'selects' of the private methods out of them =====
/-- a private method of a class that the tables say can be made, by its rows of tables_1 -/
def lw_okq (q : MethodName × Nat) : Prop := (q.1.cls ≠ "java/lang/invoke/MethodHandle" ∧ q.1.cls ≠ "java/lang/invoke/VarHandle") ∧ Cond.instantiable q.1.cls q.2 ∈ tables_1 ∧ Cond.privateMethod q.1 ∈ tables_1 ∧ Cond.instanceMethod q.1 ∈ tables_1
theorem lw_p0 : lw_okq (⟨"MeshWorlds$Law", "clear", "()V"⟩, 9) := ⟨⟨by decide +kernel, by decide +kernel⟩, List.mem_of_getElem? (i := 37) (by decide +kernel), List.mem_of_getElem? (i := 43) (by decide +kernel), List.mem_of_getElem? (i := 44) (by decide +kernel)⟩
theorem lw_p1 : lw_okq (⟨"MeshWorlds$World", "layOut", "(I)V"⟩, 10) := ⟨⟨by decide +kernel, by decide +kernel⟩, List.mem_of_getElem? (i := 84) (by decide +kernel), List.mem_of_getElem? (i := 90) (by decide +kernel), List.mem_of_getElem? (i := 91) (by decide +kernel)⟩
theorem lw_p2 : lw_okq (⟨"MeshWorlds$World", "paintAll", "()V"⟩, 10) := ⟨⟨by decide +kernel, by decide +kernel⟩, List.mem_of_getElem? (i := 84) (by decide +kernel), List.mem_of_getElem? (i := 97) (by decide +kernel), List.mem_of_getElem? (i := 98) (by decide +kernel)⟩
theorem lw_p3 : lw_okq (⟨"MeshWorlds$World", "paint", "(I)V"⟩, 10) := ⟨⟨by decide +kernel, by decide +kernel⟩, List.mem_of_getElem? (i := 84) (by decide +kernel), List.mem_of_getElem? (i := 108) (by decide +kernel), List.mem_of_getElem? (i := 109) (by decide +kernel)⟩
theorem lw_p4 : lw_okq (⟨"MeshWorlds", "refuse", "(I)I"⟩, 15) := ⟨⟨by decide +kernel, by decide +kernel⟩, List.mem_of_getElem? (i := 15) (by decide +kernel), List.mem_of_getElem? (i := 383) (by decide +kernel), List.mem_of_getElem? (i := 384) (by decide +kernel)⟩
theorem lw_p5 : lw_okq (⟨"MeshWorlds$Law", "copySigns", "(LMeshWorlds$Shelf;I)V"⟩, 9) := ⟨⟨by decide +kernel, by decide +kernel⟩, List.mem_of_getElem? (i := 37) (by decide +kernel), List.mem_of_getElem? (i := 457) (by decide +kernel), List.mem_of_getElem? (i := 458) (by decide +kernel)⟩
theorem lw_p6 : lw_okq (⟨"MeshWorlds$Law", "readItem", "()Z"⟩, 9) := ⟨⟨by decide +kernel, by decide +kernel⟩, List.mem_of_getElem? (i := 37) (by decide +kernel), List.mem_of_getElem? (i := 463) (by decide +kernel), List.mem_of_getElem? (i := 464) (by decide +kernel)⟩
theorem lw_p7 : lw_okq (⟨"MeshWorlds$Law", "sign", "()I"⟩, 9) := ⟨⟨by decide +kernel, by decide +kernel⟩, List.mem_of_getElem? (i := 37) (by decide +kernel), List.mem_of_getElem? (i := 467) (by decide +kernel), List.mem_of_getElem? (i := 468) (by decide +kernel)⟩
theorem lw_p8 : lw_okq (⟨"MeshWorlds$Law", "readGiven", "()Z"⟩, 9) := ⟨⟨by decide +kernel, by decide +kernel⟩, List.mem_of_getElem? (i := 37) (by decide +kernel), List.mem_of_getElem? (i := 471) (by decide +kernel), List.mem_of_getElem? (i := 472) (by decide +kernel)⟩
theorem lw_p9 : lw_okq (⟨"MeshWorlds$Law", "readNumber", "(I)Z"⟩, 9) := ⟨⟨by decide +kernel, by decide +kernel⟩, List.mem_of_getElem? (i := 37) (by decide +kernel), List.mem_of_getElem? (i := 475) (by decide +kernel), List.mem_of_getElem? (i := 476) (by decide +kernel)⟩
theorem lw_p10 : lw_okq (⟨"MeshWorlds$Law", "readOpen", "()Z"⟩, 9) := ⟨⟨by decide +kernel, by decide +kernel⟩, List.mem_of_getElem? (i := 37) (by decide +kernel), List.mem_of_getElem? (i := 479) (by decide +kernel), List.mem_of_getElem? (i := 480) (by decide +kernel)⟩
theorem lw_p11 : lw_okq (⟨"MeshWorlds", "turn", "(III)I"⟩, 15) := ⟨⟨by decide +kernel, by decide +kernel⟩, List.mem_of_getElem? (i := 15) (by decide +kernel), List.mem_of_getElem? (i := 574) (by decide +kernel), List.mem_of_getElem? (i := 575) (by decide +kernel)⟩
theorem lw_p12 : lw_okq (⟨"MeshWorlds$Layout", "linkAll", "(LMeshWorlds$World;I)V"⟩, 7) := ⟨⟨by decide +kernel, by decide +kernel⟩, List.mem_of_getElem? (i := 167) (by decide +kernel), List.mem_of_getElem? (i := 599) (by decide +kernel), List.mem_of_getElem? (i := 600) (by decide +kernel)⟩
theorem lw_p13 : lw_okq (⟨"MeshWorlds$Layout", "link", "(LMeshWorlds$World;III)V"⟩, 7) := ⟨⟨by decide +kernel, by decide +kernel⟩, List.mem_of_getElem? (i := 167) (by decide +kernel), List.mem_of_getElem? (i := 603) (by decide +kernel), List.mem_of_getElem? (i := 604) (by decide +kernel)⟩
theorem lw_p14 : lw_okq (⟨"MeshWorlds$Layout", "lineUp", "(LMeshWorlds$World;)V"⟩, 7) := ⟨⟨by decide +kernel, by decide +kernel⟩, List.mem_of_getElem? (i := 167) (by decide +kernel), List.mem_of_getElem? (i := 608) (by decide +kernel), List.mem_of_getElem? (i := 609) (by decide +kernel)⟩
theorem lw_p15 : lw_okq (⟨"MeshWorlds$Flows", "sendFrom", "(LMeshWorlds$World;LMeshWorlds$Layout;LMeshWorlds$Law;I)V"⟩, 8) := ⟨⟨by decide +kernel, by decide +kernel⟩, List.mem_of_getElem? (i := 205) (by decide +kernel), List.mem_of_getElem? (i := 624) (by decide +kernel), List.mem_of_getElem? (i := 625) (by decide +kernel)⟩
def lw_privs_1 : List (MethodName × Nat) := [(⟨"MeshWorlds$Law", "clear", "()V"⟩, 9), (⟨"MeshWorlds$World", "layOut", "(I)V"⟩, 10), (⟨"MeshWorlds$World", "paintAll", "()V"⟩, 10), (⟨"MeshWorlds$World", "paint", "(I)V"⟩, 10), (⟨"MeshWorlds", "refuse", "(I)I"⟩, 15), (⟨"MeshWorlds$Law", "copySigns", "(LMeshWorlds$Shelf;I)V"⟩, 9), (⟨"MeshWorlds$Law", "readItem", "()Z"⟩, 9), (⟨"MeshWorlds$Law", "sign", "()I"⟩, 9), (⟨"MeshWorlds$Law", "readGiven", "()Z"⟩, 9), (⟨"MeshWorlds$Law", "readNumber", "(I)Z"⟩, 9), (⟨"MeshWorlds$Law", "readOpen", "()Z"⟩, 9), (⟨"MeshWorlds", "turn", "(III)I"⟩, 15), (⟨"MeshWorlds$Layout", "linkAll", "(LMeshWorlds$World;I)V"⟩, 7), (⟨"MeshWorlds$Layout", "link", "(LMeshWorlds$World;III)V"⟩, 7), (⟨"MeshWorlds$Layout", "lineUp", "(LMeshWorlds$World;)V"⟩, 7), (⟨"MeshWorlds$Flows", "sendFrom", "(LMeshWorlds$World;LMeshWorlds$Layout;LMeshWorlds$Law;I)V"⟩, 8)]
theorem lw_r1 : ∀ q ∈ lw_privs_1, lw_okq q := List.forall_mem_cons.mpr ⟨lw_p0, List.forall_mem_cons.mpr ⟨lw_p1, List.forall_mem_cons.mpr ⟨lw_p2, List.forall_mem_cons.mpr ⟨lw_p3, List.forall_mem_cons.mpr ⟨lw_p4, List.forall_mem_cons.mpr ⟨lw_p5, List.forall_mem_cons.mpr ⟨lw_p6, List.forall_mem_cons.mpr ⟨lw_p7, List.forall_mem_cons.mpr ⟨lw_p8, List.forall_mem_cons.mpr ⟨lw_p9, List.forall_mem_cons.mpr ⟨lw_p10, List.forall_mem_cons.mpr ⟨lw_p11, List.forall_mem_cons.mpr ⟨lw_p12, List.forall_mem_cons.mpr ⟨lw_p13, List.forall_mem_cons.mpr ⟨lw_p14, List.forall_mem_cons.mpr ⟨lw_p15, fun _ h => absurd h List.not_mem_nil⟩⟩⟩⟩⟩⟩⟩⟩⟩⟩⟩⟩⟩⟩⟩⟩
theorem lw_p16 : lw_okq (⟨"MeshWorlds$Flows", "amountBehind", "(LMeshWorlds$World;I)I"⟩, 8) := ⟨⟨by decide +kernel, by decide +kernel⟩, List.mem_of_getElem? (i := 205) (by decide +kernel), List.mem_of_getElem? (i := 633) (by decide +kernel), List.mem_of_getElem? (i := 634) (by decide +kernel)⟩
theorem lw_p17 : lw_okq (⟨"MeshWorlds$Flows", "settleCell", "(LMeshWorlds$World;I)V"⟩, 8) := ⟨⟨by decide +kernel, by decide +kernel⟩, List.mem_of_getElem? (i := 205) (by decide +kernel), List.mem_of_getElem? (i := 642) (by decide +kernel), List.mem_of_getElem? (i := 643) (by decide +kernel)⟩
theorem lw_p18 : lw_okq (⟨"MeshWorlds$Crew", "workFor", "(LMeshWorlds$World;II)I"⟩, 6) := ⟨⟨by decide +kernel, by decide +kernel⟩, List.mem_of_getElem? (i := 238) (by decide +kernel), List.mem_of_getElem? (i := 723) (by decide +kernel), List.mem_of_getElem? (i := 724) (by decide +kernel)⟩
theorem lw_p19 : lw_okq (⟨"MeshWorlds$Crew", "slowness", "(I)I"⟩, 6) := ⟨⟨by decide +kernel, by decide +kernel⟩, List.mem_of_getElem? (i := 238) (by decide +kernel), List.mem_of_getElem? (i := 727) (by decide +kernel), List.mem_of_getElem? (i := 728) (by decide +kernel)⟩
theorem lw_p20 : lw_okq (⟨"MeshWorlds$Crew", "meet", "(II)I"⟩, 6) := ⟨⟨by decide +kernel, by decide +kernel⟩, List.mem_of_getElem? (i := 238) (by decide +kernel), List.mem_of_getElem? (i := 758) (by decide +kernel), List.mem_of_getElem? (i := 759) (by decide +kernel)⟩
theorem lw_p21 : lw_okq (⟨"MeshWorlds$Crew", "leastLimit", "(II)I"⟩, 6) := ⟨⟨by decide +kernel, by decide +kernel⟩, List.mem_of_getElem? (i := 238) (by decide +kernel), List.mem_of_getElem? (i := 789) (by decide +kernel), List.mem_of_getElem? (i := 790) (by decide +kernel)⟩
theorem lw_p22 : lw_okq (⟨"MeshWorlds$Crew", "takeUpTo", "(LMeshWorlds$World;LMeshWorlds$Layout;III)I"⟩, 6) := ⟨⟨by decide +kernel, by decide +kernel⟩, List.mem_of_getElem? (i := 238) (by decide +kernel), List.mem_of_getElem? (i := 793) (by decide +kernel), List.mem_of_getElem? (i := 794) (by decide +kernel)⟩
theorem lw_p23 : lw_okq (⟨"MeshWorlds$Crew", "workTick", "(II)V"⟩, 6) := ⟨⟨by decide +kernel, by decide +kernel⟩, List.mem_of_getElem? (i := 238) (by decide +kernel), List.mem_of_getElem? (i := 810) (by decide +kernel), List.mem_of_getElem? (i := 811) (by decide +kernel)⟩
theorem lw_p24 : lw_okq (⟨"MeshWorlds", "keptIn", "(I)LMeshWorlds$Kept;"⟩, 15) := ⟨⟨by decide +kernel, by decide +kernel⟩, List.mem_of_getElem? (i := 15) (by decide +kernel), List.mem_of_getElem? (i := 825) (by decide +kernel), List.mem_of_getElem? (i := 826) (by decide +kernel)⟩
theorem lw_p25 : lw_okq (⟨"MeshWorlds$Shares", "stepBack", "(LMeshWorlds$World;LMeshWorlds$Layout;LMeshWorlds$Law;I)J"⟩, 3) := ⟨⟨by decide +kernel, by decide +kernel⟩, List.mem_of_getElem? (i := 295) (by decide +kernel), List.mem_of_getElem? (i := 923) (by decide +kernel), List.mem_of_getElem? (i := 924) (by decide +kernel)⟩
theorem lw_p26 : lw_okq (⟨"MeshWorlds", "keptStates", "()I"⟩, 15) := ⟨⟨by decide +kernel, by decide +kernel⟩, List.mem_of_getElem? (i := 15) (by decide +kernel), List.mem_of_getElem? (i := 965) (by decide +kernel), List.mem_of_getElem? (i := 966) (by decide +kernel)⟩
theorem lw_p27 : lw_okq (⟨"MeshWorldsModel", "come", "(III)V"⟩, 63) := ⟨⟨by decide +kernel, by decide +kernel⟩, List.mem_of_getElem? (i := 1004) (by decide +kernel), List.mem_of_getElem? (i := 1010) (by decide +kernel), List.mem_of_getElem? (i := 1011) (by decide +kernel)⟩
theorem lw_p28 : lw_okq (⟨"MeshWorldsModel", "meets", "(I)I"⟩, 63) := ⟨⟨by decide +kernel, by decide +kernel⟩, List.mem_of_getElem? (i := 1004) (by decide +kernel), List.mem_of_getElem? (i := 1227) (by decide +kernel), List.mem_of_getElem? (i := 1228) (by decide +kernel)⟩
theorem lw_p29 : lw_okq (⟨"MeshWorldsModel", "askedRow", "(I)I"⟩, 63) := ⟨⟨by decide +kernel, by decide +kernel⟩, List.mem_of_getElem? (i := 1004) (by decide +kernel), List.mem_of_getElem? (i := 1235) (by decide +kernel), List.mem_of_getElem? (i := 1236) (by decide +kernel)⟩
theorem lw_p30 : lw_okq (⟨"MeshWorldsModel", "ask", "(II)I"⟩, 63) := ⟨⟨by decide +kernel, by decide +kernel⟩, List.mem_of_getElem? (i := 1004) (by decide +kernel), List.mem_of_getElem? (i := 1251) (by decide +kernel), List.mem_of_getElem? (i := 1252) (by decide +kernel)⟩
theorem lw_p31 : lw_okq (⟨"MeshWorldsModel", "askedText", "(I)I"⟩, 63) := ⟨⟨by decide +kernel, by decide +kernel⟩, List.mem_of_getElem? (i := 1004) (by decide +kernel), List.mem_of_getElem? (i := 1266) (by decide +kernel), List.mem_of_getElem? (i := 1267) (by decide +kernel)⟩
def lw_privs_2 : List (MethodName × Nat) := [(⟨"MeshWorlds$Flows", "amountBehind", "(LMeshWorlds$World;I)I"⟩, 8), (⟨"MeshWorlds$Flows", "settleCell", "(LMeshWorlds$World;I)V"⟩, 8), (⟨"MeshWorlds$Crew", "workFor", "(LMeshWorlds$World;II)I"⟩, 6), (⟨"MeshWorlds$Crew", "slowness", "(I)I"⟩, 6), (⟨"MeshWorlds$Crew", "meet", "(II)I"⟩, 6), (⟨"MeshWorlds$Crew", "leastLimit", "(II)I"⟩, 6), (⟨"MeshWorlds$Crew", "takeUpTo", "(LMeshWorlds$World;LMeshWorlds$Layout;III)I"⟩, 6), (⟨"MeshWorlds$Crew", "workTick", "(II)V"⟩, 6), (⟨"MeshWorlds", "keptIn", "(I)LMeshWorlds$Kept;"⟩, 15), (⟨"MeshWorlds$Shares", "stepBack", "(LMeshWorlds$World;LMeshWorlds$Layout;LMeshWorlds$Law;I)J"⟩, 3), (⟨"MeshWorlds", "keptStates", "()I"⟩, 15), (⟨"MeshWorldsModel", "come", "(III)V"⟩, 63), (⟨"MeshWorldsModel", "meets", "(I)I"⟩, 63), (⟨"MeshWorldsModel", "askedRow", "(I)I"⟩, 63), (⟨"MeshWorldsModel", "ask", "(II)I"⟩, 63), (⟨"MeshWorldsModel", "askedText", "(I)I"⟩, 63)]
theorem lw_r2 : ∀ q ∈ lw_privs_2, lw_okq q := List.forall_mem_cons.mpr ⟨lw_p16, List.forall_mem_cons.mpr ⟨lw_p17, List.forall_mem_cons.mpr ⟨lw_p18, List.forall_mem_cons.mpr ⟨lw_p19, List.forall_mem_cons.mpr ⟨lw_p20, List.forall_mem_cons.mpr ⟨lw_p21, List.forall_mem_cons.mpr ⟨lw_p22, List.forall_mem_cons.mpr ⟨lw_p23, List.forall_mem_cons.mpr ⟨lw_p24, List.forall_mem_cons.mpr ⟨lw_p25, List.forall_mem_cons.mpr ⟨lw_p26, List.forall_mem_cons.mpr ⟨lw_p27, List.forall_mem_cons.mpr ⟨lw_p28, List.forall_mem_cons.mpr ⟨lw_p29, List.forall_mem_cons.mpr ⟨lw_p30, List.forall_mem_cons.mpr ⟨lw_p31, fun _ h => absurd h List.not_mem_nil⟩⟩⟩⟩⟩⟩⟩⟩⟩⟩⟩⟩⟩⟩⟩⟩
theorem lw_p32 : lw_okq (⟨"MeshWorldsModel", "reads", "(I)I"⟩, 63) := ⟨⟨by decide +kernel, by decide +kernel⟩, List.mem_of_getElem? (i := 1004) (by decide +kernel), List.mem_of_getElem? (i := 1274) (by decide +kernel), List.mem_of_getElem? (i := 1275) (by decide +kernel)⟩
theorem lw_p33 : lw_okq (⟨"MeshWorldsModel", "here", "(I)I"⟩, 63) := ⟨⟨by decide +kernel, by decide +kernel⟩, List.mem_of_getElem? (i := 1004) (by decide +kernel), List.mem_of_getElem? (i := 1278) (by decide +kernel), List.mem_of_getElem? (i := 1279) (by decide +kernel)⟩
theorem lw_p34 : lw_okq (⟨"MeshWorldsModel", "readsItem", "(II)Z"⟩, 63) := ⟨⟨by decide +kernel, by decide +kernel⟩, List.mem_of_getElem? (i := 1004) (by decide +kernel), List.mem_of_getElem? (i := 1282) (by decide +kernel), List.mem_of_getElem? (i := 1283) (by decide +kernel)⟩
theorem lw_p35 : lw_okq (⟨"MeshWorldsModel", "readsNumber", "(II)Z"⟩, 63) := ⟨⟨by decide +kernel, by decide +kernel⟩, List.mem_of_getElem? (i := 1004) (by decide +kernel), List.mem_of_getElem? (i := 1286) (by decide +kernel), List.mem_of_getElem? (i := 1287) (by decide +kernel)⟩
theorem lw_p36 : lw_okq (⟨"MeshWorldsModel", "askedCell", "(I)I"⟩, 63) := ⟨⟨by decide +kernel, by decide +kernel⟩, List.mem_of_getElem? (i := 1004) (by decide +kernel), List.mem_of_getElem? (i := 1302) (by decide +kernel), List.mem_of_getElem? (i := 1303) (by decide +kernel)⟩
theorem lw_p37 : lw_okq (⟨"MeshWorldsModel", "cellTells", "(II)I"⟩, 63) := ⟨⟨by decide +kernel, by decide +kernel⟩, List.mem_of_getElem? (i := 1004) (by decide +kernel), List.mem_of_getElem? (i := 1317) (by decide +kernel), List.mem_of_getElem? (i := 1318) (by decide +kernel)⟩
theorem lw_p38 : lw_okq (⟨"MeshWorldsModel", "doPart", "(I)V"⟩, 63) := ⟨⟨by decide +kernel, by decide +kernel⟩, List.mem_of_getElem? (i := 1004) (by decide +kernel), List.mem_of_getElem? (i := 1333) (by decide +kernel), List.mem_of_getElem? (i := 1334) (by decide +kernel)⟩
theorem lw_p39 : lw_okq (⟨"MeshWorldsModel", "together", "(I)I"⟩, 63) := ⟨⟨by decide +kernel, by decide +kernel⟩, List.mem_of_getElem? (i := 1004) (by decide +kernel), List.mem_of_getElem? (i := 1344) (by decide +kernel), List.mem_of_getElem? (i := 1345) (by decide +kernel)⟩
theorem lw_p40 : lw_okq (⟨"MeshWorldsModel", "doJoin", "(I)V"⟩, 63) := ⟨⟨by decide +kernel, by decide +kernel⟩, List.mem_of_getElem? (i := 1004) (by decide +kernel), List.mem_of_getElem? (i := 1348) (by decide +kernel), List.mem_of_getElem? (i := 1349) (by decide +kernel)⟩
theorem lw_p41 : lw_okq (⟨"MeshWorldsModel", "become", "(IIIZI)I"⟩, 63) := ⟨⟨by decide +kernel, by decide +kernel⟩, List.mem_of_getElem? (i := 1004) (by decide +kernel), List.mem_of_getElem? (i := 1356) (by decide +kernel), List.mem_of_getElem? (i := 1357) (by decide +kernel)⟩
theorem lw_p42 : lw_okq (⟨"MeshWorldsModel", "setFlows", "()J"⟩, 63) := ⟨⟨by decide +kernel, by decide +kernel⟩, List.mem_of_getElem? (i := 1004) (by decide +kernel), List.mem_of_getElem? (i := 1372) (by decide +kernel), List.mem_of_getElem? (i := 1373) (by decide +kernel)⟩
theorem lw_p43 : lw_okq (⟨"MeshWorldsModel", "setNear", "(I)V"⟩, 63) := ⟨⟨by decide +kernel, by decide +kernel⟩, List.mem_of_getElem? (i := 1004) (by decide +kernel), List.mem_of_getElem? (i := 1376) (by decide +kernel), List.mem_of_getElem? (i := 1377) (by decide +kernel)⟩
theorem lw_p44 : lw_okq (⟨"MeshWorldsModel", "beside", "(II)V"⟩, 63) := ⟨⟨by decide +kernel, by decide +kernel⟩, List.mem_of_getElem? (i := 1004) (by decide +kernel), List.mem_of_getElem? (i := 1380) (by decide +kernel), List.mem_of_getElem? (i := 1381) (by decide +kernel)⟩
theorem lw_p45 : lw_okq (⟨"MeshWorldsModel", "flowOf", "(II)I"⟩, 63) := ⟨⟨by decide +kernel, by decide +kernel⟩, List.mem_of_getElem? (i := 1004) (by decide +kernel), List.mem_of_getElem? (i := 1384) (by decide +kernel), List.mem_of_getElem? (i := 1385) (by decide +kernel)⟩
theorem lw_p46 : lw_okq (⟨"MeshWorldsModel", "takeFlows", "()V"⟩, 63) := ⟨⟨by decide +kernel, by decide +kernel⟩, List.mem_of_getElem? (i := 1004) (by decide +kernel), List.mem_of_getElem? (i := 1389) (by decide +kernel), List.mem_of_getElem? (i := 1390) (by decide +kernel)⟩
theorem lw_p47 : lw_okq (⟨"MeshWorldsModel", "cellsOf", "(I)I"⟩, 63) := ⟨⟨by decide +kernel, by decide +kernel⟩, List.mem_of_getElem? (i := 1004) (by decide +kernel), List.mem_of_getElem? (i := 1416) (by decide +kernel), List.mem_of_getElem? (i := 1417) (by decide +kernel)⟩
def lw_privs_3 : List (MethodName × Nat) := [(⟨"MeshWorldsModel", "reads", "(I)I"⟩, 63), (⟨"MeshWorldsModel", "here", "(I)I"⟩, 63), (⟨"MeshWorldsModel", "readsItem", "(II)Z"⟩, 63), (⟨"MeshWorldsModel", "readsNumber", "(II)Z"⟩, 63), (⟨"MeshWorldsModel", "askedCell", "(I)I"⟩, 63), (⟨"MeshWorldsModel", "cellTells", "(II)I"⟩, 63), (⟨"MeshWorldsModel", "doPart", "(I)V"⟩, 63), (⟨"MeshWorldsModel", "together", "(I)I"⟩, 63), (⟨"MeshWorldsModel", "doJoin", "(I)V"⟩, 63), (⟨"MeshWorldsModel", "become", "(IIIZI)I"⟩, 63), (⟨"MeshWorldsModel", "setFlows", "()J"⟩, 63), (⟨"MeshWorldsModel", "setNear", "(I)V"⟩, 63), (⟨"MeshWorldsModel", "beside", "(II)V"⟩, 63), (⟨"MeshWorldsModel", "flowOf", "(II)I"⟩, 63), (⟨"MeshWorldsModel", "takeFlows", "()V"⟩, 63), (⟨"MeshWorldsModel", "cellsOf", "(I)I"⟩, 63)]
theorem lw_r3 : ∀ q ∈ lw_privs_3, lw_okq q := List.forall_mem_cons.mpr ⟨lw_p32, List.forall_mem_cons.mpr ⟨lw_p33, List.forall_mem_cons.mpr ⟨lw_p34, List.forall_mem_cons.mpr ⟨lw_p35, List.forall_mem_cons.mpr ⟨lw_p36, List.forall_mem_cons.mpr ⟨lw_p37, List.forall_mem_cons.mpr ⟨lw_p38, List.forall_mem_cons.mpr ⟨lw_p39, List.forall_mem_cons.mpr ⟨lw_p40, List.forall_mem_cons.mpr ⟨lw_p41, List.forall_mem_cons.mpr ⟨lw_p42, List.forall_mem_cons.mpr ⟨lw_p43, List.forall_mem_cons.mpr ⟨lw_p44, List.forall_mem_cons.mpr ⟨lw_p45, List.forall_mem_cons.mpr ⟨lw_p46, List.forall_mem_cons.mpr ⟨lw_p47, fun _ h => absurd h List.not_mem_nil⟩⟩⟩⟩⟩⟩⟩⟩⟩⟩⟩⟩⟩⟩⟩⟩
theorem lw_p48 : lw_okq (⟨"MeshWorldsModel", "workOf", "(I)I"⟩, 63) := ⟨⟨by decide +kernel, by decide +kernel⟩, List.mem_of_getElem? (i := 1004) (by decide +kernel), List.mem_of_getElem? (i := 1428) (by decide +kernel), List.mem_of_getElem? (i := 1429) (by decide +kernel)⟩
theorem lw_p49 : lw_okq (⟨"MeshWorldsModel", "weighs", "(I)I"⟩, 63) := ⟨⟨by decide +kernel, by decide +kernel⟩, List.mem_of_getElem? (i := 1004) (by decide +kernel), List.mem_of_getElem? (i := 1432) (by decide +kernel), List.mem_of_getElem? (i := 1433) (by decide +kernel)⟩
theorem lw_p50 : lw_okq (⟨"MeshWorldsModel", "areUnlike", "(II)Z"⟩, 63) := ⟨⟨by decide +kernel, by decide +kernel⟩, List.mem_of_getElem? (i := 1004) (by decide +kernel), List.mem_of_getElem? (i := 1444) (by decide +kernel), List.mem_of_getElem? (i := 1445) (by decide +kernel)⟩
theorem lw_p51 : lw_okq (⟨"MeshWorldsModel", "setCurve", "()V"⟩, 63) := ⟨⟨by decide +kernel, by decide +kernel⟩, List.mem_of_getElem? (i := 1004) (by decide +kernel), List.mem_of_getElem? (i := 1452) (by decide +kernel), List.mem_of_getElem? (i := 1453) (by decide +kernel)⟩
theorem lw_p52 : lw_okq (⟨"MeshWorldsModel", "deals", "(IIZ)Z"⟩, 63) := ⟨⟨by decide +kernel, by decide +kernel⟩, List.mem_of_getElem? (i := 1004) (by decide +kernel), List.mem_of_getElem? (i := 1463) (by decide +kernel), List.mem_of_getElem? (i := 1464) (by decide +kernel)⟩
theorem lw_p53 : lw_okq (⟨"MeshWorldsModel", "setBeside", "()V"⟩, 63) := ⟨⟨by decide +kernel, by decide +kernel⟩, List.mem_of_getElem? (i := 1004) (by decide +kernel), List.mem_of_getElem? (i := 1471) (by decide +kernel), List.mem_of_getElem? (i := 1472) (by decide +kernel)⟩
theorem lw_p54 : lw_okq (⟨"MeshWorldsModel", "counted", "(I)I"⟩, 63) := ⟨⟨by decide +kernel, by decide +kernel⟩, List.mem_of_getElem? (i := 1004) (by decide +kernel), List.mem_of_getElem? (i := 1486) (by decide +kernel), List.mem_of_getElem? (i := 1487) (by decide +kernel)⟩
theorem lw_p55 : lw_okq (⟨"MeshWorldsModel", "askedSlot", "(I)I"⟩, 63) := ⟨⟨by decide +kernel, by decide +kernel⟩, List.mem_of_getElem? (i := 1004) (by decide +kernel), List.mem_of_getElem? (i := 1494) (by decide +kernel), List.mem_of_getElem? (i := 1495) (by decide +kernel)⟩
theorem lw_p56 : lw_okq (⟨"MeshWorldsModel", "tells", "(JJI)I"⟩, 63) := ⟨⟨by decide +kernel, by decide +kernel⟩, List.mem_of_getElem? (i := 1004) (by decide +kernel), List.mem_of_getElem? (i := 1523) (by decide +kernel), List.mem_of_getElem? (i := 1524) (by decide +kernel)⟩
theorem lw_p57 : lw_okq (⟨"MeshWorldsModel", "setShares", "(II)V"⟩, 63) := ⟨⟨by decide +kernel, by decide +kernel⟩, List.mem_of_getElem? (i := 1004) (by decide +kernel), List.mem_of_getElem? (i := 1538) (by decide +kernel), List.mem_of_getElem? (i := 1539) (by decide +kernel)⟩
theorem lw_p58 : lw_okq (⟨"MeshWorldsModel", "nextShare", "(I)J"⟩, 63) := ⟨⟨by decide +kernel, by decide +kernel⟩, List.mem_of_getElem? (i := 1004) (by decide +kernel), List.mem_of_getElem? (i := 1542) (by decide +kernel), List.mem_of_getElem? (i := 1543) (by decide +kernel)⟩
theorem lw_p59 : lw_okq (⟨"MeshWorldsModel", "counts", "(I)I"⟩, 63) := ⟨⟨by decide +kernel, by decide +kernel⟩, List.mem_of_getElem? (i := 1004) (by decide +kernel), List.mem_of_getElem? (i := 1571) (by decide +kernel), List.mem_of_getElem? (i := 1572) (by decide +kernel)⟩
theorem lw_p60 : lw_okq (⟨"MeshWorldsModel", "mix", "(J)V"⟩, 63) := ⟨⟨by decide +kernel, by decide +kernel⟩, List.mem_of_getElem? (i := 1004) (by decide +kernel), List.mem_of_getElem? (i := 1588) (by decide +kernel), List.mem_of_getElem? (i := 1589) (by decide +kernel)⟩
def lw_privs_4 : List (MethodName × Nat) := [(⟨"MeshWorldsModel", "workOf", "(I)I"⟩, 63), (⟨"MeshWorldsModel", "weighs", "(I)I"⟩, 63), (⟨"MeshWorldsModel", "areUnlike", "(II)Z"⟩, 63), (⟨"MeshWorldsModel", "setCurve", "()V"⟩, 63), (⟨"MeshWorldsModel", "deals", "(IIZ)Z"⟩, 63), (⟨"MeshWorldsModel", "setBeside", "()V"⟩, 63), (⟨"MeshWorldsModel", "counted", "(I)I"⟩, 63), (⟨"MeshWorldsModel", "askedSlot", "(I)I"⟩, 63), (⟨"MeshWorldsModel", "tells", "(JJI)I"⟩, 63), (⟨"MeshWorldsModel", "setShares", "(II)V"⟩, 63), (⟨"MeshWorldsModel", "nextShare", "(I)J"⟩, 63), (⟨"MeshWorldsModel", "counts", "(I)I"⟩, 63), (⟨"MeshWorldsModel", "mix", "(J)V"⟩, 63)]
theorem lw_r4 : ∀ q ∈ lw_privs_4, lw_okq q := List.forall_mem_cons.mpr ⟨lw_p48, List.forall_mem_cons.mpr ⟨lw_p49, List.forall_mem_cons.mpr ⟨lw_p50, List.forall_mem_cons.mpr ⟨lw_p51, List.forall_mem_cons.mpr ⟨lw_p52, List.forall_mem_cons.mpr ⟨lw_p53, List.forall_mem_cons.mpr ⟨lw_p54, List.forall_mem_cons.mpr ⟨lw_p55, List.forall_mem_cons.mpr ⟨lw_p56, List.forall_mem_cons.mpr ⟨lw_p57, List.forall_mem_cons.mpr ⟨lw_p58, List.forall_mem_cons.mpr ⟨lw_p59, List.forall_mem_cons.mpr ⟨lw_p60, fun _ h => absurd h List.not_mem_nil⟩⟩⟩⟩⟩⟩⟩⟩⟩⟩⟩⟩⟩
def lw_privs : List (MethodName × Nat) := lw_privs_1 ++ (lw_privs_2 ++ (lw_privs_3 ++ (lw_privs_4)))
def lw_tbl : List Cond := k2_sels lw_privs ++ tables_1
theorem lw_privs_ok : ∀ q ∈ lw_privs, lw_okq q := by
  show ∀ q ∈ lw_privs_1 ++ (lw_privs_2 ++ (lw_privs_3 ++ (lw_privs_4))), lw_okq q
  exact List.forall_mem_append.mpr ⟨lw_r1, List.forall_mem_append.mpr ⟨lw_r2, List.forall_mem_append.mpr ⟨lw_r3, lw_r4⟩⟩⟩
theorem goodIn_r {big : List Cond} (ws : List Cond) (ps : List Nat) (hp : ws = ps.filterMap (fun i => big[i]?)) (h : ws.all goodWord = true) : GoodIn big ws := by
  intro w hw
  have h1 := List.all_eq_true.mp h w hw
  rw [hp] at hw
  obtain ⟨i, -, hi⟩ := List.mem_filterMap.mp hw
  have hm : w ∈ big := by first | exact List.mem_of_getElem? hi | exact List.getElem?_mem hi
  exact ⟨hm, good_of_word h1⟩
def RX0 : String := "MeshWorlds$Crew"
def TX0 : u_T := fun k => match k with
  | 0 => ("MeshWorlds$Crew", "kinds", "[I", true)
  | 1 => ("MeshWorlds$Crew", "ends", "[I", true)
  | 2 => ("MeshWorlds$Crew", "waitedFor", "[I", true)
  | 3 => ("MeshWorlds$Crew", "endsAhead", "[I", true)
  | 4 => ("MeshWorlds$Crew", "works", "[I", true)
  | _ => ("MeshWorlds$Crew", "beside", "[I", true)
def tyX0 : Nat → FieldType := fun k => match k with
  | 0 => .array .int
  | 1 => .array .int
  | 2 => .array .int
  | 3 => .array .int
  | 4 => .array .int
  | _ => .array .int
theorem nmX0 : ∀ a, a < 6 → ∀ b, b < 6 → a ≠ b → (TX0 a).2.1 ≠ (TX0 b).2.1 := by decide +kernel
theorem tyX0_ok : ∀ k, k < 6 → parseFieldDescriptor (TX0 k).2.2.1 = some (tyX0 k) := by decide +kernel
abbrev cX0_init : ByteArray := prog_2_method_1_code
def yX0_init : MethodName := ⟨RX0, "<init>", "()V"⟩
abbrev cX0_isSpare : ByteArray := prog_2_method_2_code
def yX0_isSpare : MethodName := ⟨RX0, "isSpare", "(I)Z"⟩
abbrev cX0_hasSpareIn : ByteArray := prog_2_method_3_code
def yX0_hasSpareIn : MethodName := ⟨RX0, "hasSpareIn", "(I)Z"⟩
abbrev cX0_firstSpare : ByteArray := prog_2_method_4_code
def yX0_firstSpare : MethodName := ⟨RX0, "firstSpare", "()I"⟩
abbrev cX0_sparesBelow : ByteArray := prog_2_method_5_code
def yX0_sparesBelow : MethodName := ⟨RX0, "sparesBelow", "(I)I"⟩
abbrev cX0_cellsOf : ByteArray := prog_2_method_6_code
def yX0_cellsOf : MethodName := ⟨RX0, "cellsOf", "(LMeshWorlds$World;I)I"⟩
abbrev cX0_greatestOf : ByteArray := prog_2_method_7_code
def yX0_greatestOf : MethodName := ⟨RX0, "greatestOf", "(LMeshWorlds$World;I)I"⟩
abbrev cX0_workOf : ByteArray := prog_2_method_8_code
def yX0_workOf : MethodName := ⟨RX0, "workOf", "(LMeshWorlds$World;I)I"⟩
abbrev cX0_workFor : ByteArray := prog_2_method_9_code
def yX0_workFor : MethodName := ⟨RX0, "workFor", "(LMeshWorlds$World;II)I"⟩
abbrev cX0_slowness : ByteArray := prog_2_method_10_code
def yX0_slowness : MethodName := ⟨RX0, "slowness", "(I)I"⟩
abbrev cX0_isIn : ByteArray := prog_2_method_11_code
def yX0_isIn : MethodName := ⟨RX0, "isIn", "(II)Z"⟩
abbrev cX0_lookAround : ByteArray := prog_2_method_12_code
def yX0_lookAround : MethodName := ⟨RX0, "lookAround", "(LMeshWorlds$World;)I"⟩
abbrev cX0_meet : ByteArray := prog_2_method_13_code
def yX0_meet : MethodName := ⟨RX0, "meet", "(II)I"⟩
abbrev cX0_shareOut : ByteArray := prog_2_method_14_code
def yX0_shareOut : MethodName := ⟨RX0, "shareOut", "(LMeshWorlds$World;LMeshWorlds$Layout;I)I"⟩
abbrev cX0_leastLimit : ByteArray := prog_2_method_15_code
def yX0_leastLimit : MethodName := ⟨RX0, "leastLimit", "(II)I"⟩
abbrev cX0_takeUpTo : ByteArray := prog_2_method_16_code
def yX0_takeUpTo : MethodName := ⟨RX0, "takeUpTo", "(LMeshWorlds$World;LMeshWorlds$Layout;III)I"⟩
abbrev cX0_workThrough : ByteArray := prog_2_method_17_code
def yX0_workThrough : MethodName := ⟨RX0, "workThrough", "(LMeshWorlds$World;II)I"⟩
abbrev cX0_workTick : ByteArray := prog_2_method_18_code
def yX0_workTick : MethodName := ⟨RX0, "workTick", "(II)V"⟩
def RX1 : String := "MeshWorlds$Flows"
def TX1 : u_T := fun k => match k with
  | 0 => ("MeshWorlds$Flows", "began", "[I", true)
  | 1 => ("MeshWorlds$Flows", "gone", "[I", true)
  | 2 => ("MeshWorlds$Flows", "come", "[I", true)
  | 3 => ("MeshWorlds$Flows", "rimGone", "I", false)
  | 4 => ("MeshWorlds$Flows", "latestN", "I", false)
  | 5 => ("MeshWorlds$Flows", "latestM", "I", false)
  | 6 => ("MeshWorlds$Flows", "leftInAll", "J", false)
  | _ => ("MeshWorlds$Flows", "putInAll", "J", false)
def tyX1 : Nat → FieldType := fun k => match k with
  | 0 => .array .int
  | 1 => .array .int
  | 2 => .array .int
  | 3 => .int
  | 4 => .int
  | 5 => .int
  | 6 => .long
  | _ => .long
theorem nmX1 : ∀ a, a < 8 → ∀ b, b < 8 → a ≠ b → (TX1 a).2.1 ≠ (TX1 b).2.1 := by decide +kernel
theorem tyX1_ok : ∀ k, k < 8 → parseFieldDescriptor (TX1 k).2.2.1 = some (tyX1 k) := by decide +kernel
abbrev cX1_init : ByteArray := prog_3_method_1_code
def yX1_init : MethodName := ⟨RX1, "<init>", "()V"⟩
abbrev cX1_reckon : ByteArray := prog_3_method_2_code
def yX1_reckon : MethodName := ⟨RX1, "reckon", "(LMeshWorlds$World;LMeshWorlds$Layout;LMeshWorlds$Law;)Z"⟩
abbrev cX1_sendFrom : ByteArray := prog_3_method_3_code
def yX1_sendFrom : MethodName := ⟨RX1, "sendFrom", "(LMeshWorlds$World;LMeshWorlds$Layout;LMeshWorlds$Law;I)V"⟩
abbrev cX1_amountBehind : ByteArray := prog_3_method_4_code
def yX1_amountBehind : MethodName := ⟨RX1, "amountBehind", "(LMeshWorlds$World;I)I"⟩
abbrev cX1_settle : ByteArray := prog_3_method_5_code
def yX1_settle : MethodName := ⟨RX1, "settle", "(LMeshWorlds$World;LMeshWorlds$Law;)V"⟩
abbrev cX1_settleCell : ByteArray := prog_3_method_6_code
def yX1_settleCell : MethodName := ⟨RX1, "settleCell", "(LMeshWorlds$World;I)V"⟩
abbrev cX1_between : ByteArray := prog_3_method_7_code
def yX1_between : MethodName := ⟨RX1, "between", "(LMeshWorlds$World;II)I"⟩
def RX2 : String := "MeshWorlds$Fraction"
def TX2 : u_T := fun k => match k with
  | 0 => ("MeshWorlds$Fraction", "above", "J", false)
  | _ => ("MeshWorlds$Fraction", "below", "J", false)
def tyX2 : Nat → FieldType := fun k => match k with
  | 0 => .long
  | _ => .long
theorem nmX2 : ∀ a, a < 2 → ∀ b, b < 2 → a ≠ b → (TX2 a).2.1 ≠ (TX2 b).2.1 := by decide +kernel
theorem tyX2_ok : ∀ k, k < 2 → parseFieldDescriptor (TX2 k).2.2.1 = some (tyX2 k) := by decide +kernel
abbrev cX2_init : ByteArray := prog_4_method_1_code
def yX2_init : MethodName := ⟨RX2, "<init>", "()V"⟩
abbrev cX2_tell : ByteArray := prog_4_method_2_code
def yX2_tell : MethodName := ⟨RX2, "tell", "(JJ)V"⟩
def RX3 : String := "MeshWorlds$Kept"
def TX3 : u_T := fun k => match k with
  | 0 => ("MeshWorlds$Kept", "kinds", "[I", true)
  | 1 => ("MeshWorlds$Kept", "amounts", "[I", true)
  | 2 => ("MeshWorlds$Kept", "given", "[I", true)
  | 3 => ("MeshWorlds$Kept", "ticks", "I", false)
  | 4 => ("MeshWorlds$Kept", "sumOfAmounts", "J", false)
  | 5 => ("MeshWorlds$Kept", "sumByNames", "J", false)
  | _ => ("MeshWorlds$Kept", "isKept", "Z", false)
def tyX3 : Nat → FieldType := fun k => match k with
  | 0 => .array .int
  | 1 => .array .int
  | 2 => .array .int
  | 3 => .int
  | 4 => .long
  | 5 => .long
  | _ => .boolean
theorem nmX3 : ∀ a, a < 7 → ∀ b, b < 7 → a ≠ b → (TX3 a).2.1 ≠ (TX3 b).2.1 := by decide +kernel
theorem tyX3_ok : ∀ k, k < 7 → parseFieldDescriptor (TX3 k).2.2.1 = some (tyX3 k) := by decide +kernel
abbrev cX3_init : ByteArray := prog_5_method_1_code
def yX3_init : MethodName := ⟨RX3, "<init>", "()V"⟩
abbrev cX3_take : ByteArray := prog_5_method_2_code
def yX3_take : MethodName := ⟨RX3, "take", "(LMeshWorlds$World;)V"⟩
abbrev cX3_bringBack : ByteArray := prog_5_method_3_code
def yX3_bringBack : MethodName := ⟨RX3, "bringBack", "(LMeshWorlds$World;)V"⟩
abbrev cX3_hasSameCells : ByteArray := prog_5_method_4_code
def yX3_hasSameCells : MethodName := ⟨RX3, "hasSameCells", "(LMeshWorlds$World;)Z"⟩
abbrev cX3_othersIn : ByteArray := prog_5_method_5_code
def yX3_othersIn : MethodName := ⟨RX3, "othersIn", "(LMeshWorlds$World;)I"⟩
abbrev cX3_moreIn : ByteArray := prog_5_method_6_code
def yX3_moreIn : MethodName := ⟨RX3, "moreIn", "(LMeshWorlds$World;)I"⟩
abbrev cX3_flippedIn : ByteArray := prog_5_method_7_code
def yX3_flippedIn : MethodName := ⟨RX3, "flippedIn", "(LMeshWorlds$World;)I"⟩
def RX4 : String := "MeshWorlds$Law"
def TX4 : u_T := fun k => match k with
  | 0 => ("MeshWorlds$Law", "n", "I", false)
  | 1 => ("MeshWorlds$Law", "m", "I", false)
  | 2 => ("MeshWorlds$Law", "open", "I", false)
  | 3 => ("MeshWorlds$Law", "partMark", "I", false)
  | 4 => ("MeshWorlds$Law", "joinMark", "I", false)
  | 5 => ("MeshWorlds$Law", "signs", "[I", true)
  | 6 => ("MeshWorlds$Law", "size", "I", false)
  | 7 => ("MeshWorlds$Law", "place", "I", false)
  | _ => ("MeshWorlds$Law", "number", "I", false)
def tyX4 : Nat → FieldType := fun k => match k with
  | 0 => .int
  | 1 => .int
  | 2 => .int
  | 3 => .int
  | 4 => .int
  | 5 => .array .int
  | 6 => .int
  | 7 => .int
  | _ => .int
theorem nmX4 : ∀ a, a < 9 → ∀ b, b < 9 → a ≠ b → (TX4 a).2.1 ≠ (TX4 b).2.1 := by decide +kernel
theorem tyX4_ok : ∀ k, k < 9 → parseFieldDescriptor (TX4 k).2.2.1 = some (tyX4 k) := by decide +kernel
abbrev cX4_init : ByteArray := prog_6_method_1_code
def yX4_init : MethodName := ⟨RX4, "<init>", "()V"⟩
abbrev cX4_clear : ByteArray := prog_6_method_2_code
def yX4_clear : MethodName := ⟨RX4, "clear", "()V"⟩
abbrev cX4_take : ByteArray := prog_6_method_3_code
def yX4_take : MethodName := ⟨RX4, "take", "(LMeshWorlds$Law;)V"⟩
abbrev cX4_read : ByteArray := prog_6_method_4_code
def yX4_read : MethodName := ⟨RX4, "read", "(LMeshWorlds$Shelf;I)I"⟩
abbrev cX4_copySigns : ByteArray := prog_6_method_5_code
def yX4_copySigns : MethodName := ⟨RX4, "copySigns", "(LMeshWorlds$Shelf;I)V"⟩
abbrev cX4_readItem : ByteArray := prog_6_method_6_code
def yX4_readItem : MethodName := ⟨RX4, "readItem", "()Z"⟩
abbrev cX4_readGiven : ByteArray := prog_6_method_7_code
def yX4_readGiven : MethodName := ⟨RX4, "readGiven", "()Z"⟩
abbrev cX4_readOpen : ByteArray := prog_6_method_8_code
def yX4_readOpen : MethodName := ⟨RX4, "readOpen", "()Z"⟩
abbrev cX4_readNumber : ByteArray := prog_6_method_9_code
def yX4_readNumber : MethodName := ⟨RX4, "readNumber", "(I)Z"⟩
abbrev cX4_sign : ByteArray := prog_6_method_10_code
def yX4_sign : MethodName := ⟨RX4, "sign", "()I"⟩
abbrev cX4_fold : ByteArray := prog_6_method_11_code
def yX4_fold : MethodName := ⟨RX4, "fold", "(J)J"⟩
def RX5 : String := "MeshWorlds$Layout"
def TX5 : u_T := fun k => match k with
  | 0 => ("MeshWorlds$Layout", "first", "[I", true)
  | 1 => ("MeshWorlds$Layout", "beside", "[I", true)
  | 2 => ("MeshWorlds$Layout", "sides", "[I", true)
  | 3 => ("MeshWorlds$Layout", "rims", "[I", true)
  | 4 => ("MeshWorlds$Layout", "order", "[I", true)
  | 5 => ("MeshWorlds$Layout", "links", "I", false)
  | _ => ("MeshWorlds$Layout", "cells", "I", false)
def tyX5 : Nat → FieldType := fun k => match k with
  | 0 => .array .int
  | 1 => .array .int
  | 2 => .array .int
  | 3 => .array .int
  | 4 => .array .int
  | 5 => .int
  | _ => .int
theorem nmX5 : ∀ a, a < 7 → ∀ b, b < 7 → a ≠ b → (TX5 a).2.1 ≠ (TX5 b).2.1 := by decide +kernel
theorem tyX5_ok : ∀ k, k < 7 → parseFieldDescriptor (TX5 k).2.2.1 = some (tyX5 k) := by decide +kernel
abbrev cX5_init : ByteArray := prog_7_method_1_code
def yX5_init : MethodName := ⟨RX5, "<init>", "()V"⟩
abbrev cX5_refresh : ByteArray := prog_7_method_2_code
def yX5_refresh : MethodName := ⟨RX5, "refresh", "(LMeshWorlds$World;)V"⟩
abbrev cX5_linkAll : ByteArray := prog_7_method_3_code
def yX5_linkAll : MethodName := ⟨RX5, "linkAll", "(LMeshWorlds$World;I)V"⟩
abbrev cX5_link : ByteArray := prog_7_method_4_code
def yX5_link : MethodName := ⟨RX5, "link", "(LMeshWorlds$World;III)V"⟩
abbrev cX5_lineUp : ByteArray := prog_7_method_5_code
def yX5_lineUp : MethodName := ⟨RX5, "lineUp", "(LMeshWorlds$World;)V"⟩
abbrev cX5_evenBits : ByteArray := prog_7_method_6_code
def yX5_evenBits : MethodName := ⟨RX5, "evenBits", "(I)I"⟩
abbrev cX5_cellAt : ByteArray := prog_7_method_7_code
def yX5_cellAt : MethodName := ⟨RX5, "cellAt", "(I)I"⟩
abbrev cX5_partnersOf : ByteArray := prog_7_method_8_code
def yX5_partnersOf : MethodName := ⟨RX5, "partnersOf", "(LMeshWorlds$World;II)I"⟩
def RX6 : String := "MeshWorlds$Shares"
def TX6 : u_T := fun k => match k with
  | 0 => ("MeshWorlds$Shares", "of", "[J", false)
  | 1 => ("MeshWorlds$Shares", "ahead", "[J", false)
  | _ => ("MeshWorlds$Shares", "whole", "J", false)
def tyX6 : Nat → FieldType := fun k => match k with
  | 0 => .array .long
  | 1 => .array .long
  | _ => .long
theorem nmX6 : ∀ a, a < 3 → ∀ b, b < 3 → a ≠ b → (TX6 a).2.1 ≠ (TX6 b).2.1 := by decide +kernel
theorem tyX6_ok : ∀ k, k < 3 → parseFieldDescriptor (TX6 k).2.2.1 = some (tyX6 k) := by decide +kernel
abbrev cX6_init : ByteArray := prog_8_method_1_code
def yX6_init : MethodName := ⟨RX6, "<init>", "()V"⟩
abbrev cX6_reckon : ByteArray := prog_8_method_2_code
def yX6_reckon : MethodName := ⟨RX6, "reckon", "(LMeshWorlds$World;LMeshWorlds$Layout;LMeshWorlds$Law;II)V"⟩
abbrev cX6_stepBack : ByteArray := prog_8_method_3_code
def yX6_stepBack : MethodName := ⟨RX6, "stepBack", "(LMeshWorlds$World;LMeshWorlds$Layout;LMeshWorlds$Law;I)J"⟩
abbrev cX6_greatest : ByteArray := prog_8_method_4_code
def yX6_greatest : MethodName := ⟨RX6, "greatest", "(LMeshWorlds$World;I)I"⟩
def RX7 : String := "MeshWorlds$Shelf"
def TX7 : u_T := fun k => match k with
  | 0 => ("MeshWorlds$Shelf", "sizes", "[I", true)
  | _ => ("MeshWorlds$Shelf", "places", "[I", true)
def tyX7 : Nat → FieldType := fun k => match k with
  | 0 => .array .int
  | _ => .array .int
theorem nmX7 : ∀ a, a < 2 → ∀ b, b < 2 → a ≠ b → (TX7 a).2.1 ≠ (TX7 b).2.1 := by decide +kernel
theorem tyX7_ok : ∀ k, k < 2 → parseFieldDescriptor (TX7 k).2.2.1 = some (tyX7 k) := by decide +kernel
abbrev cX7_init : ByteArray := prog_9_method_1_code
def yX7_init : MethodName := ⟨RX7, "<init>", "(I)V"⟩
abbrev cX7_isNumber : ByteArray := prog_9_method_2_code
def yX7_isNumber : MethodName := ⟨RX7, "isNumber", "(I)Z"⟩
abbrev cX7_isThere : ByteArray := prog_9_method_3_code
def yX7_isThere : MethodName := ⟨RX7, "isThere", "(I)Z"⟩
abbrev cX7_sizeOf : ByteArray := prog_9_method_4_code
def yX7_sizeOf : MethodName := ⟨RX7, "sizeOf", "(I)I"⟩
abbrev cX7_hasPlaces : ByteArray := prog_9_method_5_code
def yX7_hasPlaces : MethodName := ⟨RX7, "hasPlaces", "(III)Z"⟩
abbrev cX7_make : ByteArray := prog_9_method_6_code
def yX7_make : MethodName := ⟨RX7, "make", "(III)V"⟩
abbrev cX7_remove : ByteArray := prog_9_method_7_code
def yX7_remove : MethodName := ⟨RX7, "remove", "(I)V"⟩
abbrev cX7_get : ByteArray := prog_9_method_8_code
def yX7_get : MethodName := ⟨RX7, "get", "(II)I"⟩
abbrev cX7_swap : ByteArray := prog_9_method_9_code
def yX7_swap : MethodName := ⟨RX7, "swap", "(III)I"⟩
abbrev cX7_bring : ByteArray := prog_9_method_10_code
def yX7_bring : MethodName := ⟨RX7, "bring", "(IIIII)V"⟩
abbrev cX7_howMany : ByteArray := prog_9_method_11_code
def yX7_howMany : MethodName := ⟨RX7, "howMany", "()I"⟩
abbrev cX7_fold : ByteArray := prog_9_method_12_code
def yX7_fold : MethodName := ⟨RX7, "fold", "(J)J"⟩
def RX8 : String := "MeshWorlds$World"
def TX8 : u_T := fun k => match k with
  | 0 => ("MeshWorlds$World", "kinds", "[I", true)
  | 1 => ("MeshWorlds$World", "amounts", "[I", true)
  | 2 => ("MeshWorlds$World", "given", "[I", true)
  | 3 => ("MeshWorlds$World", "marks", "[I", true)
  | 4 => ("MeshWorlds$World", "left", "[I", true)
  | 5 => ("MeshWorlds$World", "high", "[I", true)
  | 6 => ("MeshWorlds$World", "wide", "[I", true)
  | 7 => ("MeshWorlds$World", "owners", "[I", true)
  | 8 => ("MeshWorlds$World", "ticks", "I", false)
  | _ => ("MeshWorlds$World", "isRecut", "Z", false)
def tyX8 : Nat → FieldType := fun k => match k with
  | 0 => .array .int
  | 1 => .array .int
  | 2 => .array .int
  | 3 => .array .int
  | 4 => .array .int
  | 5 => .array .int
  | 6 => .array .int
  | 7 => .array .int
  | 8 => .int
  | _ => .boolean
theorem nmX8 : ∀ a, a < 10 → ∀ b, b < 10 → a ≠ b → (TX8 a).2.1 ≠ (TX8 b).2.1 := by decide +kernel
theorem tyX8_ok : ∀ k, k < 10 → parseFieldDescriptor (TX8 k).2.2.1 = some (tyX8 k) := by decide +kernel
abbrev cX8_init : ByteArray := prog_10_method_1_code
def yX8_init : MethodName := ⟨RX8, "<init>", "()V"⟩
abbrev cX8_layOut : ByteArray := prog_10_method_2_code
def yX8_layOut : MethodName := ⟨RX8, "layOut", "(I)V"⟩
abbrev cX8_paintAll : ByteArray := prog_10_method_3_code
def yX8_paintAll : MethodName := ⟨RX8, "paintAll", "()V"⟩
abbrev cX8_paint : ByteArray := prog_10_method_4_code
def yX8_paint : MethodName := ⟨RX8, "paint", "(I)V"⟩
abbrev cX8_isThere : ByteArray := prog_10_method_5_code
def yX8_isThere : MethodName := ⟨RX8, "isThere", "(I)Z"⟩
abbrev cX8_isFlowing : ByteArray := prog_10_method_6_code
def yX8_isFlowing : MethodName := ⟨RX8, "isFlowing", "(I)Z"⟩
abbrev cX8_ownerAt : ByteArray := prog_10_method_7_code
def yX8_ownerAt : MethodName := ⟨RX8, "ownerAt", "(II)I"⟩
abbrev cX8_giverAt : ByteArray := prog_10_method_8_code
def yX8_giverAt : MethodName := ⟨RX8, "giverAt", "(II)I"⟩
abbrev cX8_property : ByteArray := prog_10_method_9_code
def yX8_property : MethodName := ⟨RX8, "property", "(II)I"⟩
abbrev cX8_markOf : ByteArray := prog_10_method_10_code
def yX8_markOf : MethodName := ⟨RX8, "markOf", "(I)I"⟩
abbrev cX8_become : ByteArray := prog_10_method_11_code
def yX8_become : MethodName := ⟨RX8, "become", "(II)V"⟩
abbrev cX8_canPart : ByteArray := prog_10_method_12_code
def yX8_canPart : MethodName := ⟨RX8, "canPart", "(I)Z"⟩
abbrev cX8_cutInFour : ByteArray := prog_10_method_13_code
def yX8_cutInFour : MethodName := ⟨RX8, "cutInFour", "(I)V"⟩
abbrev cX8_hasFour : ByteArray := prog_10_method_14_code
def yX8_hasFour : MethodName := ⟨RX8, "hasFour", "(I)Z"⟩
abbrev cX8_hasFourFine : ByteArray := prog_10_method_15_code
def yX8_hasFourFine : MethodName := ⟨RX8, "hasFourFine", "(I)Z"⟩
abbrev cX8_sumOfFour : ByteArray := prog_10_method_16_code
def yX8_sumOfFour : MethodName := ⟨RX8, "sumOfFour", "(I)I"⟩
abbrev cX8_makeOneOfFour : ByteArray := prog_10_method_17_code
def yX8_makeOneOfFour : MethodName := ⟨RX8, "makeOneOfFour", "(I)V"⟩
abbrev cX8_partAbove : ByteArray := prog_10_method_18_code
def yX8_partAbove : MethodName := ⟨RX8, "partAbove", "(I)I"⟩
abbrev cX8_joinBelow : ByteArray := prog_10_method_19_code
def yX8_joinBelow : MethodName := ⟨RX8, "joinBelow", "(I)I"⟩
abbrev cX8_handOver : ByteArray := prog_10_method_20_code
def yX8_handOver : MethodName := ⟨RX8, "handOver", "(II)V"⟩
abbrev cX8_cellsThere : ByteArray := prog_10_method_21_code
def yX8_cellsThere : MethodName := ⟨RX8, "cellsThere", "()I"⟩
abbrev cX8_cellsOfKind : ByteArray := prog_10_method_22_code
def yX8_cellsOfKind : MethodName := ⟨RX8, "cellsOfKind", "(I)I"⟩
abbrev cX8_sumOfAmounts : ByteArray := prog_10_method_23_code
def yX8_sumOfAmounts : MethodName := ⟨RX8, "sumOfAmounts", "()J"⟩
abbrev cX8_sumByNames : ByteArray := prog_10_method_24_code
def yX8_sumByNames : MethodName := ⟨RX8, "sumByNames", "()J"⟩
abbrev cX8_sidesBetween : ByteArray := prog_10_method_25_code
def yX8_sidesBetween : MethodName := ⟨RX8, "sidesBetween", "(II)I"⟩
abbrev cX8_overlap : ByteArray := prog_10_method_26_code
def yX8_overlap : MethodName := ⟨RX8, "overlap", "(IIII)I"⟩
abbrev cX8_fold : ByteArray := prog_10_method_27_code
def yX8_fold : MethodName := ⟨RX8, "fold", "(J)J"⟩
def RX9 : String := "MeshWorlds"
def TX9 : u_T := fun k => match k with
  | 0 => ("MeshWorlds", "rows", "LMeshWorlds$Shelf;", true)
  | 1 => ("MeshWorlds", "texts", "LMeshWorlds$Shelf;", true)
  | 2 => ("MeshWorlds", "law", "LMeshWorlds$Law;", true)
  | 3 => ("MeshWorlds", "draft", "LMeshWorlds$Law;", true)
  | 4 => ("MeshWorlds", "world", "LMeshWorlds$World;", true)
  | 5 => ("MeshWorlds", "layout", "LMeshWorlds$Layout;", true)
  | 6 => ("MeshWorlds", "flows", "LMeshWorlds$Flows;", true)
  | 7 => ("MeshWorlds", "crew", "LMeshWorlds$Crew;", true)
  | 8 => ("MeshWorlds", "keptFirst", "LMeshWorlds$Kept;", true)
  | 9 => ("MeshWorlds", "keptSecond", "LMeshWorlds$Kept;", true)
  | 10 => ("MeshWorlds", "shares", "LMeshWorlds$Shares;", true)
  | 11 => ("MeshWorlds", "fraction", "LMeshWorlds$Fraction;", true)
  | 12 => ("MeshWorlds", "findingCounts", "[I", true)
  | 13 => ("MeshWorlds", "latestFinding", "I", false)
  | _ => ("MeshWorlds", "latestAsked", "I", false)
def tyX9 : Nat → FieldType := fun k => match k with
  | 0 => .object "MeshWorlds$Shelf"
  | 1 => .object "MeshWorlds$Shelf"
  | 2 => .object "MeshWorlds$Law"
  | 3 => .object "MeshWorlds$Law"
  | 4 => .object "MeshWorlds$World"
  | 5 => .object "MeshWorlds$Layout"
  | 6 => .object "MeshWorlds$Flows"
  | 7 => .object "MeshWorlds$Crew"
  | 8 => .object "MeshWorlds$Kept"
  | 9 => .object "MeshWorlds$Kept"
  | 10 => .object "MeshWorlds$Shares"
  | 11 => .object "MeshWorlds$Fraction"
  | 12 => .array .int
  | 13 => .int
  | _ => .int
theorem nmX9 : ∀ a, a < 15 → ∀ b, b < 15 → a ≠ b → (TX9 a).2.1 ≠ (TX9 b).2.1 := by decide +kernel
theorem tyX9_ok : ∀ k, k < 15 → parseFieldDescriptor (TX9 k).2.2.1 = some (tyX9 k) := by decide +kernel
abbrev cX9_init : ByteArray := prog_1_method_1_code
def yX9_init : MethodName := ⟨RX9, "<init>", "()V"⟩
abbrev cX9_row : ByteArray := prog_1_method_2_code
def yX9_row : MethodName := ⟨RX9, "row", "(II)I"⟩
abbrev cX9_lay : ByteArray := prog_1_method_3_code
def yX9_lay : MethodName := ⟨RX9, "lay", "(III)I"⟩
abbrev cX9_tear : ByteArray := prog_1_method_4_code
def yX9_tear : MethodName := ⟨RX9, "tear", "(I)I"⟩
abbrev cX9_copy : ByteArray := prog_1_method_5_code
def yX9_copy : MethodName := ⟨RX9, "copy", "(IIIII)I"⟩
abbrev cX9_average : ByteArray := prog_1_method_6_code
def yX9_average : MethodName := ⟨RX9, "average", "(I)I"⟩
abbrev cX9_text : ByteArray := prog_1_method_7_code
def yX9_text : MethodName := ⟨RX9, "text", "(II)I"⟩
abbrev cX9_put : ByteArray := prog_1_method_8_code
def yX9_put : MethodName := ⟨RX9, "put", "(III)I"⟩
abbrev cX9_fault : ByteArray := prog_1_method_9_code
def yX9_fault : MethodName := ⟨RX9, "fault", "(I)I"⟩
abbrev cX9_field : ByteArray := prog_1_method_10_code
def yX9_field : MethodName := ⟨RX9, "field", "(I)I"⟩
abbrev cX9_amount : ByteArray := prog_1_method_11_code
def yX9_amount : MethodName := ⟨RX9, "amount", "(II)I"⟩
abbrev cX9_fill : ByteArray := prog_1_method_12_code
def yX9_fill : MethodName := ⟨RX9, "fill", "(I)I"⟩
abbrev cX9_told : ByteArray := prog_1_method_13_code
def yX9_told : MethodName := ⟨RX9, "told", "(II)I"⟩
abbrev cX9_mark : ByteArray := prog_1_method_14_code
def yX9_mark : MethodName := ⟨RX9, "mark", "(II)I"⟩
abbrev cX9_at : ByteArray := prog_1_method_15_code
def yX9_at : MethodName := ⟨RX9, "at", "(II)I"⟩
abbrev cX9_part : ByteArray := prog_1_method_16_code
def yX9_part : MethodName := ⟨RX9, "part", "(I)I"⟩
abbrev cX9_join : ByteArray := prog_1_method_17_code
def yX9_join : MethodName := ⟨RX9, "join", "(I)I"⟩
abbrev cX9_edge : ByteArray := prog_1_method_18_code
def yX9_edge : MethodName := ⟨RX9, "edge", "(IZ)I"⟩
abbrev cX9_freeze : ByteArray := prog_1_method_19_code
def yX9_freeze : MethodName := ⟨RX9, "freeze", "(IZ)I"⟩
abbrev cX9_see : ByteArray := prog_1_method_20_code
def yX9_see : MethodName := ⟨RX9, "see", "(IZ)I"⟩
abbrev cX9_tick : ByteArray := prog_1_method_21_code
def yX9_tick : MethodName := ⟨RX9, "tick", "()I"⟩
abbrev cX9_flow : ByteArray := prog_1_method_22_code
def yX9_flow : MethodName := ⟨RX9, "flow", "(II)I"⟩
abbrev cX9_sum : ByteArray := prog_1_method_23_code
def yX9_sum : MethodName := ⟨RX9, "sum", "()J"⟩
abbrev cX9_top : ByteArray := prog_1_method_24_code
def yX9_top : MethodName := ⟨RX9, "top", "()I"⟩
abbrev cX9_over : ByteArray := prog_1_method_25_code
def yX9_over : MethodName := ⟨RX9, "over", "(I)J"⟩
abbrev cX9_machine : ByteArray := prog_1_method_26_code
def yX9_machine : MethodName := ⟨RX9, "machine", "(II)I"⟩
abbrev cX9_give : ByteArray := prog_1_method_27_code
def yX9_give : MethodName := ⟨RX9, "give", "(II)I"⟩
abbrev cX9_bears : ByteArray := prog_1_method_28_code
def yX9_bears : MethodName := ⟨RX9, "bears", "(II)I"⟩
abbrev cX9_work : ByteArray := prog_1_method_29_code
def yX9_work : MethodName := ⟨RX9, "work", "(I)I"⟩
abbrev cX9_cuts : ByteArray := prog_1_method_30_code
def yX9_cuts : MethodName := ⟨RX9, "cuts", "()I"⟩
abbrev cX9_curve : ByteArray := prog_1_method_31_code
def yX9_curve : MethodName := ⟨RX9, "curve", "(I)I"⟩
abbrev cX9_deal : ByteArray := prog_1_method_32_code
def yX9_deal : MethodName := ⟨RX9, "deal", "(I)I"⟩
abbrev cX9_run : ByteArray := prog_1_method_33_code
def yX9_run : MethodName := ⟨RX9, "run", "(II)I"⟩
abbrev cX9_ran : ByteArray := prog_1_method_34_code
def yX9_ran : MethodName := ⟨RX9, "ran", "(II)I"⟩
abbrev cX9_keep : ByteArray := prog_1_method_35_code
def yX9_keep : MethodName := ⟨RX9, "keep", "(I)I"⟩
abbrev cX9_goOn : ByteArray := prog_1_method_36_code
def yX9_goOn : MethodName := ⟨RX9, "goOn", "(I)I"⟩
abbrev cX9_flip : ByteArray := prog_1_method_37_code
def yX9_flip : MethodName := ⟨RX9, "flip", "(II)I"⟩
abbrev cX9_find : ByteArray := prog_1_method_38_code
def yX9_find : MethodName := ⟨RX9, "find", "(I)I"⟩
abbrev cX9_stops : ByteArray := prog_1_method_39_code
def yX9_stops : MethodName := ⟨RX9, "stops", "(I)I"⟩
abbrev cX9_keeping : ByteArray := prog_1_method_40_code
def yX9_keeping : MethodName := ⟨RX9, "keeping", "(III)I"⟩
abbrev cX9_best : ByteArray := prog_1_method_41_code
def yX9_best : MethodName := ⟨RX9, "best", "(II)I"⟩
abbrev cX9_share : ByteArray := prog_1_method_42_code
def yX9_share : MethodName := ⟨RX9, "share", "(III)I"⟩
abbrev cX9_most : ByteArray := prog_1_method_43_code
def yX9_most : MethodName := ⟨RX9, "most", "(II)I"⟩
abbrev cX9_off : ByteArray := prog_1_method_44_code
def yX9_off : MethodName := ⟨RX9, "off", "(II)I"⟩
abbrev cX9_asked : ByteArray := prog_1_method_45_code
def yX9_asked : MethodName := ⟨RX9, "asked", "()I"⟩
abbrev cX9_upper : ByteArray := prog_1_method_46_code
def yX9_upper : MethodName := ⟨RX9, "upper", "()J"⟩
abbrev cX9_lower : ByteArray := prog_1_method_47_code
def yX9_lower : MethodName := ⟨RX9, "lower", "()J"⟩
abbrev cX9_count : ByteArray := prog_1_method_48_code
def yX9_count : MethodName := ⟨RX9, "count", "(I)I"⟩
abbrev cX9_finding : ByteArray := prog_1_method_49_code
def yX9_finding : MethodName := ⟨RX9, "finding", "()I"⟩
abbrev cX9_findings : ByteArray := prog_1_method_50_code
def yX9_findings : MethodName := ⟨RX9, "findings", "(I)I"⟩
abbrev cX9_digest : ByteArray := prog_1_method_51_code
def yX9_digest : MethodName := ⟨RX9, "digest", "()J"⟩
abbrev cX9_refuse : ByteArray := prog_1_method_52_code
def yX9_refuse : MethodName := ⟨RX9, "refuse", "(I)I"⟩
abbrev cX9_turn : ByteArray := prog_1_method_53_code
def yX9_turn : MethodName := ⟨RX9, "turn", "(III)I"⟩
abbrev cX9_keptIn : ByteArray := prog_1_method_54_code
def yX9_keptIn : MethodName := ⟨RX9, "keptIn", "(I)LMeshWorlds$Kept;"⟩
abbrev cX9_keptStates : ByteArray := prog_1_method_55_code
def yX9_keptStates : MethodName := ⟨RX9, "keptStates", "()I"⟩
abbrev cX9_isName : ByteArray := prog_1_method_56_code
def yX9_isName : MethodName := ⟨RX9, "isName", "(I)Z"⟩
abbrev cX9_isAmount : ByteArray := prog_1_method_57_code
def yX9_isAmount : MethodName := ⟨RX9, "isAmount", "(I)Z"⟩
abbrev cX9_isMachine : ByteArray := prog_1_method_58_code
def yX9_isMachine : MethodName := ⟨RX9, "isMachine", "(I)Z"⟩
abbrev cX9_isSlot : ByteArray := prog_1_method_59_code
def yX9_isSlot : MethodName := ⟨RX9, "isSlot", "(I)Z"⟩
abbrev cX9_isOnWorld : ByteArray := prog_1_method_60_code
def yX9_isOnWorld : MethodName := ⟨RX9, "isOnWorld", "(II)Z"⟩
abbrev cX9_firstChildOf : ByteArray := prog_1_method_61_code
def yX9_firstChildOf : MethodName := ⟨RX9, "firstChildOf", "(I)I"⟩
abbrev cX9_parentOf : ByteArray := prog_1_method_62_code
def yX9_parentOf : MethodName := ⟨RX9, "parentOf", "(I)I"⟩
abbrev cX9_areOdds : ByteArray := prog_1_method_63_code
def yX9_areOdds : MethodName := ⟨RX9, "areOdds", "(II)Z"⟩
abbrev cX9_power : ByteArray := prog_1_method_64_code
def yX9_power : MethodName := ⟨RX9, "power", "(JI)J"⟩
abbrev cX9_keepingUpper : ByteArray := prog_1_method_65_code
def yX9_keepingUpper : MethodName := ⟨RX9, "keepingUpper", "(III)J"⟩
abbrev cX9_takesLess : ByteArray := prog_1_method_66_code
def yX9_takesLess : MethodName := ⟨RX9, "takesLess", "(IIII)Z"⟩
abbrev cX9_flowOf : ByteArray := prog_1_method_67_code
def yX9_flowOf : MethodName := ⟨RX9, "flowOf", "(IIIII)I"⟩
def RX10 : String := "MeshWorldsModel"
def TX10 : u_T := fun k => match k with
  | 0 => ("MeshWorldsModel", "finding", "I", false)
  | 1 => ("MeshWorldsModel", "findings", "[I", true)
  | 2 => ("MeshWorldsModel", "asked", "I", false)
  | 3 => ("MeshWorldsModel", "upper", "J", false)
  | 4 => ("MeshWorldsModel", "lower", "J", false)
  | 5 => ("MeshWorldsModel", "sizes", "[I", true)
  | 6 => ("MeshWorldsModel", "rows", "[I", true)
  | 7 => ("MeshWorldsModel", "moving", "[I", true)
  | 8 => ("MeshWorldsModel", "lengths", "[I", true)
  | 9 => ("MeshWorldsModel", "texts", "[I", true)
  | 10 => ("MeshWorldsModel", "give", "I", false)
  | 11 => ("MeshWorldsModel", "of", "I", false)
  | 12 => ("MeshWorldsModel", "open", "I", false)
  | 13 => ("MeshWorldsModel", "partAbove", "I", false)
  | 14 => ("MeshWorldsModel", "joinBelow", "I", false)
  | 15 => ("MeshWorldsModel", "readGive", "I", false)
  | 16 => ("MeshWorldsModel", "readOf", "I", false)
  | 17 => ("MeshWorldsModel", "readOpen", "I", false)
  | 18 => ("MeshWorldsModel", "readPart", "I", false)
  | 19 => ("MeshWorldsModel", "readJoin", "I", false)
  | 20 => ("MeshWorldsModel", "readAt", "I", false)
  | 21 => ("MeshWorldsModel", "readNumber", "I", false)
  | 22 => ("MeshWorldsModel", "isThere", "[Z", true)
  | 23 => ("MeshWorldsModel", "amounts", "[I", true)
  | 24 => ("MeshWorldsModel", "kinds", "[I", true)
  | 25 => ("MeshWorldsModel", "machineOf", "[I", true)
  | 26 => ("MeshWorldsModel", "extra", "[I", true)
  | 27 => ("MeshWorldsModel", "squares", "[I", true)
  | 28 => ("MeshWorldsModel", "ticks", "I", false)
  | 29 => ("MeshWorldsModel", "nearMany", "I", false)
  | 30 => ("MeshWorldsModel", "near", "[I", true)
  | 31 => ("MeshWorldsModel", "nearSides", "[I", true)
  | 32 => ("MeshWorldsModel", "rimSides", "I", false)
  | 33 => ("MeshWorldsModel", "flowMany", "I", false)
  | 34 => ("MeshWorldsModel", "flowFrom", "[I", true)
  | 35 => ("MeshWorldsModel", "flowTo", "[I", true)
  | 36 => ("MeshWorldsModel", "flowAmount", "[I", true)
  | 37 => ("MeshWorldsModel", "nextMany", "I", false)
  | 38 => ("MeshWorldsModel", "nextFrom", "[I", true)
  | 39 => ("MeshWorldsModel", "nextTo", "[I", true)
  | 40 => ("MeshWorldsModel", "nextAmount", "[I", true)
  | 41 => ("MeshWorldsModel", "gives", "[I", true)
  | 42 => ("MeshWorldsModel", "gets", "[I", true)
  | 43 => ("MeshWorldsModel", "leaves", "J", false)
  | 44 => ("MeshWorldsModel", "putIn", "J", false)
  | 45 => ("MeshWorldsModel", "isOld", "[Z", true)
  | 46 => ("MeshWorldsModel", "sorts", "[I", true)
  | 47 => ("MeshWorldsModel", "curveMany", "I", false)
  | 48 => ("MeshWorldsModel", "curve", "[I", true)
  | 49 => ("MeshWorldsModel", "ends", "[I", true)
  | 50 => ("MeshWorldsModel", "nextEnds", "[I", true)
  | 51 => ("MeshWorldsModel", "waitedFor", "[I", true)
  | 52 => ("MeshWorldsModel", "lasts", "[I", true)
  | 53 => ("MeshWorldsModel", "isBeside", "[Z", true)
  | 54 => ("MeshWorldsModel", "isKept", "[Z", true)
  | 55 => ("MeshWorldsModel", "keptThere", "[Z", true)
  | 56 => ("MeshWorldsModel", "keptAmount", "[I", true)
  | 57 => ("MeshWorldsModel", "keptKind", "[I", true)
  | 58 => ("MeshWorldsModel", "keptMachine", "[I", true)
  | 59 => ("MeshWorldsModel", "keptTick", "[I", true)
  | 60 => ("MeshWorldsModel", "shares", "[J", true)
  | 61 => ("MeshWorldsModel", "nextShares", "[J", true)
  | _ => ("MeshWorldsModel", "h", "J", false)
def tyX10 : Nat → FieldType := fun k => match k with
  | 0 => .int
  | 1 => .array .int
  | 2 => .int
  | 3 => .long
  | 4 => .long
  | 5 => .array .int
  | 6 => .array .int
  | 7 => .array .int
  | 8 => .array .int
  | 9 => .array .int
  | 10 => .int
  | 11 => .int
  | 12 => .int
  | 13 => .int
  | 14 => .int
  | 15 => .int
  | 16 => .int
  | 17 => .int
  | 18 => .int
  | 19 => .int
  | 20 => .int
  | 21 => .int
  | 22 => .array .boolean
  | 23 => .array .int
  | 24 => .array .int
  | 25 => .array .int
  | 26 => .array .int
  | 27 => .array .int
  | 28 => .int
  | 29 => .int
  | 30 => .array .int
  | 31 => .array .int
  | 32 => .int
  | 33 => .int
  | 34 => .array .int
  | 35 => .array .int
  | 36 => .array .int
  | 37 => .int
  | 38 => .array .int
  | 39 => .array .int
  | 40 => .array .int
  | 41 => .array .int
  | 42 => .array .int
  | 43 => .long
  | 44 => .long
  | 45 => .array .boolean
  | 46 => .array .int
  | 47 => .int
  | 48 => .array .int
  | 49 => .array .int
  | 50 => .array .int
  | 51 => .array .int
  | 52 => .array .int
  | 53 => .array .boolean
  | 54 => .array .boolean
  | 55 => .array .boolean
  | 56 => .array .int
  | 57 => .array .int
  | 58 => .array .int
  | 59 => .array .int
  | 60 => .array .long
  | 61 => .array .long
  | _ => .long
theorem nmX10 : ∀ a, a < 63 → ∀ b, b < 63 → a ≠ b → (TX10 a).2.1 ≠ (TX10 b).2.1 := by decide +kernel
theorem tyX10_ok : ∀ k, k < 63 → parseFieldDescriptor (TX10 k).2.2.1 = some (tyX10 k) := by decide +kernel
abbrev cX10_init : ByteArray := prog_12_method_1_code
def yX10_init : MethodName := ⟨RX10, "<init>", "()V"⟩
abbrev cX10_in : ByteArray := prog_12_method_3_code
def yX10_in : MethodName := ⟨RX10, "in", "(III)Z"⟩
abbrev cX10_meets : ByteArray := prog_12_method_4_code
def yX10_meets : MethodName := ⟨RX10, "meets", "(I)I"⟩
abbrev cX10_ask : ByteArray := prog_12_method_5_code
def yX10_ask : MethodName := ⟨RX10, "ask", "(II)I"⟩
abbrev cX10_tells : ByteArray := prog_12_method_6_code
def yX10_tells : MethodName := ⟨RX10, "tells", "(JJI)I"⟩
abbrev cX10_isRow : ByteArray := prog_12_method_7_code
def yX10_isRow : MethodName := ⟨RX10, "isRow", "(I)Z"⟩
abbrev cX10_isText : ByteArray := prog_12_method_8_code
def yX10_isText : MethodName := ⟨RX10, "isText", "(I)Z"⟩
abbrev cX10_askedRow : ByteArray := prog_12_method_9_code
def yX10_askedRow : MethodName := ⟨RX10, "askedRow", "(I)I"⟩
abbrev cX10_askedText : ByteArray := prog_12_method_10_code
def yX10_askedText : MethodName := ⟨RX10, "askedText", "(I)I"⟩
abbrev cX10_row : ByteArray := prog_12_method_11_code
def yX10_row : MethodName := ⟨RX10, "row", "(II)I"⟩
abbrev cX10_lay : ByteArray := prog_12_method_12_code
def yX10_lay : MethodName := ⟨RX10, "lay", "(III)I"⟩
abbrev cX10_tear : ByteArray := prog_12_method_13_code
def yX10_tear : MethodName := ⟨RX10, "tear", "(I)I"⟩
abbrev cX10_copy : ByteArray := prog_12_method_14_code
def yX10_copy : MethodName := ⟨RX10, "copy", "(IIIII)I"⟩
abbrev cX10_average : ByteArray := prog_12_method_15_code
def yX10_average : MethodName := ⟨RX10, "average", "(I)I"⟩
abbrev cX10_text : ByteArray := prog_12_method_16_code
def yX10_text : MethodName := ⟨RX10, "text", "(II)I"⟩
abbrev cX10_put : ByteArray := prog_12_method_17_code
def yX10_put : MethodName := ⟨RX10, "put", "(III)I"⟩
abbrev cX10_here : ByteArray := prog_12_method_18_code
def yX10_here : MethodName := ⟨RX10, "here", "(I)I"⟩
abbrev cX10_readsNumber : ByteArray := prog_12_method_19_code
def yX10_readsNumber : MethodName := ⟨RX10, "readsNumber", "(II)Z"⟩
abbrev cX10_readsItem : ByteArray := prog_12_method_20_code
def yX10_readsItem : MethodName := ⟨RX10, "readsItem", "(II)Z"⟩
abbrev cX10_reads : ByteArray := prog_12_method_21_code
def yX10_reads : MethodName := ⟨RX10, "reads", "(I)I"⟩
abbrev cX10_fault : ByteArray := prog_12_method_22_code
def yX10_fault : MethodName := ⟨RX10, "fault", "(I)I"⟩
abbrev cX10_field : ByteArray := prog_12_method_23_code
def yX10_field : MethodName := ⟨RX10, "field", "(I)I"⟩
abbrev cX10_side : ByteArray := prog_12_method_24_code
def yX10_side : MethodName := ⟨RX10, "side", "(I)I"⟩
abbrev cX10_parent : ByteArray := prog_12_method_25_code
def yX10_parent : MethodName := ⟨RX10, "parent", "(I)I"⟩
abbrev cX10_child : ByteArray := prog_12_method_26_code
def yX10_child : MethodName := ⟨RX10, "child", "(I)I"⟩
abbrev cX10_leftOf : ByteArray := prog_12_method_27_code
def yX10_leftOf : MethodName := ⟨RX10, "leftOf", "(I)I"⟩
abbrev cX10_topOf : ByteArray := prog_12_method_28_code
def yX10_topOf : MethodName := ⟨RX10, "topOf", "(I)I"⟩
abbrev cX10_come : ByteArray := prog_12_method_29_code
def yX10_come : MethodName := ⟨RX10, "come", "(III)V"⟩
abbrev cX10_isName : ByteArray := prog_12_method_30_code
def yX10_isName : MethodName := ⟨RX10, "isName", "(I)Z"⟩
abbrev cX10_isAmount : ByteArray := prog_12_method_31_code
def yX10_isAmount : MethodName := ⟨RX10, "isAmount", "(I)Z"⟩
abbrev cX10_askedCell : ByteArray := prog_12_method_32_code
def yX10_askedCell : MethodName := ⟨RX10, "askedCell", "(I)I"⟩
abbrev cX10_amount : ByteArray := prog_12_method_33_code
def yX10_amount : MethodName := ⟨RX10, "amount", "(II)I"⟩
abbrev cX10_fill : ByteArray := prog_12_method_34_code
def yX10_fill : MethodName := ⟨RX10, "fill", "(I)I"⟩
abbrev cX10_cellTells : ByteArray := prog_12_method_35_code
def yX10_cellTells : MethodName := ⟨RX10, "cellTells", "(II)I"⟩
abbrev cX10_told : ByteArray := prog_12_method_36_code
def yX10_told : MethodName := ⟨RX10, "told", "(II)I"⟩
abbrev cX10_mark : ByteArray := prog_12_method_37_code
def yX10_mark : MethodName := ⟨RX10, "mark", "(II)I"⟩
abbrev cX10_at : ByteArray := prog_12_method_38_code
def yX10_at : MethodName := ⟨RX10, "at", "(II)I"⟩
abbrev cX10_doPart : ByteArray := prog_12_method_39_code
def yX10_doPart : MethodName := ⟨RX10, "doPart", "(I)V"⟩
abbrev cX10_part : ByteArray := prog_12_method_40_code
def yX10_part : MethodName := ⟨RX10, "part", "(I)I"⟩
abbrev cX10_together : ByteArray := prog_12_method_41_code
def yX10_together : MethodName := ⟨RX10, "together", "(I)I"⟩
abbrev cX10_doJoin : ByteArray := prog_12_method_42_code
def yX10_doJoin : MethodName := ⟨RX10, "doJoin", "(I)V"⟩
abbrev cX10_join : ByteArray := prog_12_method_43_code
def yX10_join : MethodName := ⟨RX10, "join", "(I)I"⟩
abbrev cX10_become : ByteArray := prog_12_method_44_code
def yX10_become : MethodName := ⟨RX10, "become", "(IIIZI)I"⟩
abbrev cX10_edge : ByteArray := prog_12_method_45_code
def yX10_edge : MethodName := ⟨RX10, "edge", "(IZ)I"⟩
abbrev cX10_freeze : ByteArray := prog_12_method_46_code
def yX10_freeze : MethodName := ⟨RX10, "freeze", "(IZ)I"⟩
abbrev cX10_see : ByteArray := prog_12_method_47_code
def yX10_see : MethodName := ⟨RX10, "see", "(IZ)I"⟩
abbrev cX10_beside : ByteArray := prog_12_method_48_code
def yX10_beside : MethodName := ⟨RX10, "beside", "(II)V"⟩
abbrev cX10_setNear : ByteArray := prog_12_method_49_code
def yX10_setNear : MethodName := ⟨RX10, "setNear", "(I)V"⟩
abbrev cX10_flowOf : ByteArray := prog_12_method_50_code
def yX10_flowOf : MethodName := ⟨RX10, "flowOf", "(II)I"⟩
abbrev cX10_setFlows : ByteArray := prog_12_method_51_code
def yX10_setFlows : MethodName := ⟨RX10, "setFlows", "()J"⟩
abbrev cX10_takeFlows : ByteArray := prog_12_method_52_code
def yX10_takeFlows : MethodName := ⟨RX10, "takeFlows", "()V"⟩
abbrev cX10_tick : ByteArray := prog_12_method_53_code
def yX10_tick : MethodName := ⟨RX10, "tick", "()I"⟩
abbrev cX10_flow : ByteArray := prog_12_method_54_code
def yX10_flow : MethodName := ⟨RX10, "flow", "(II)I"⟩
abbrev cX10_sum : ByteArray := prog_12_method_55_code
def yX10_sum : MethodName := ⟨RX10, "sum", "()J"⟩
abbrev cX10_top : ByteArray := prog_12_method_56_code
def yX10_top : MethodName := ⟨RX10, "top", "()I"⟩
abbrev cX10_over : ByteArray := prog_12_method_57_code
def yX10_over : MethodName := ⟨RX10, "over", "(I)J"⟩
abbrev cX10_isMachine : ByteArray := prog_12_method_58_code
def yX10_isMachine : MethodName := ⟨RX10, "isMachine", "(I)Z"⟩
abbrev cX10_cellsOf : ByteArray := prog_12_method_59_code
def yX10_cellsOf : MethodName := ⟨RX10, "cellsOf", "(I)I"⟩
abbrev cX10_machine : ByteArray := prog_12_method_60_code
def yX10_machine : MethodName := ⟨RX10, "machine", "(II)I"⟩
abbrev cX10_give : ByteArray := prog_12_method_61_code
def yX10_give : MethodName := ⟨RX10, "give", "(II)I"⟩
abbrev cX10_weighs : ByteArray := prog_12_method_62_code
def yX10_weighs : MethodName := ⟨RX10, "weighs", "(I)I"⟩
abbrev cX10_workOf : ByteArray := prog_12_method_63_code
def yX10_workOf : MethodName := ⟨RX10, "workOf", "(I)I"⟩
abbrev cX10_bears : ByteArray := prog_12_method_64_code
def yX10_bears : MethodName := ⟨RX10, "bears", "(II)I"⟩
abbrev cX10_work : ByteArray := prog_12_method_65_code
def yX10_work : MethodName := ⟨RX10, "work", "(I)I"⟩
abbrev cX10_areUnlike : ByteArray := prog_12_method_66_code
def yX10_areUnlike : MethodName := ⟨RX10, "areUnlike", "(II)Z"⟩
abbrev cX10_cuts : ByteArray := prog_12_method_67_code
def yX10_cuts : MethodName := ⟨RX10, "cuts", "()I"⟩
abbrev cX10_squareAt : ByteArray := prog_12_method_68_code
def yX10_squareAt : MethodName := ⟨RX10, "squareAt", "(I)I"⟩
abbrev cX10_setCurve : ByteArray := prog_12_method_69_code
def yX10_setCurve : MethodName := ⟨RX10, "setCurve", "()V"⟩
abbrev cX10_curve : ByteArray := prog_12_method_70_code
def yX10_curve : MethodName := ⟨RX10, "curve", "(I)I"⟩
abbrev cX10_deals : ByteArray := prog_12_method_71_code
def yX10_deals : MethodName := ⟨RX10, "deals", "(IIZ)Z"⟩
abbrev cX10_deal : ByteArray := prog_12_method_72_code
def yX10_deal : MethodName := ⟨RX10, "deal", "(I)I"⟩
abbrev cX10_setBeside : ByteArray := prog_12_method_73_code
def yX10_setBeside : MethodName := ⟨RX10, "setBeside", "()V"⟩
abbrev cX10_run : ByteArray := prog_12_method_74_code
def yX10_run : MethodName := ⟨RX10, "run", "(II)I"⟩
abbrev cX10_ran : ByteArray := prog_12_method_75_code
def yX10_ran : MethodName := ⟨RX10, "ran", "(II)I"⟩
abbrev cX10_isSlot : ByteArray := prog_12_method_76_code
def yX10_isSlot : MethodName := ⟨RX10, "isSlot", "(I)Z"⟩
abbrev cX10_counted : ByteArray := prog_12_method_77_code
def yX10_counted : MethodName := ⟨RX10, "counted", "(I)I"⟩
abbrev cX10_keep : ByteArray := prog_12_method_78_code
def yX10_keep : MethodName := ⟨RX10, "keep", "(I)I"⟩
abbrev cX10_askedSlot : ByteArray := prog_12_method_79_code
def yX10_askedSlot : MethodName := ⟨RX10, "askedSlot", "(I)I"⟩
abbrev cX10_goOn : ByteArray := prog_12_method_80_code
def yX10_goOn : MethodName := ⟨RX10, "goOn", "(I)I"⟩
abbrev cX10_flip : ByteArray := prog_12_method_81_code
def yX10_flip : MethodName := ⟨RX10, "flip", "(II)I"⟩
abbrev cX10_find : ByteArray := prog_12_method_82_code
def yX10_find : MethodName := ⟨RX10, "find", "(I)I"⟩
abbrev cX10_stops : ByteArray := prog_12_method_83_code
def yX10_stops : MethodName := ⟨RX10, "stops", "(I)I"⟩
abbrev cX10_power : ByteArray := prog_12_method_84_code
def yX10_power : MethodName := ⟨RX10, "power", "(JI)J"⟩
abbrev cX10_areOdds : ByteArray := prog_12_method_85_code
def yX10_areOdds : MethodName := ⟨RX10, "areOdds", "(II)Z"⟩
abbrev cX10_expected : ByteArray := prog_12_method_86_code
def yX10_expected : MethodName := ⟨RX10, "expected", "(III)J"⟩
abbrev cX10_keeping : ByteArray := prog_12_method_87_code
def yX10_keeping : MethodName := ⟨RX10, "keeping", "(III)I"⟩
abbrev cX10_isBelow : ByteArray := prog_12_method_88_code
def yX10_isBelow : MethodName := ⟨RX10, "isBelow", "(JJJJ)Z"⟩
abbrev cX10_best : ByteArray := prog_12_method_89_code
def yX10_best : MethodName := ⟨RX10, "best", "(II)I"⟩
abbrev cX10_setShares : ByteArray := prog_12_method_90_code
def yX10_setShares : MethodName := ⟨RX10, "setShares", "(II)V"⟩
abbrev cX10_nextShare : ByteArray := prog_12_method_91_code
def yX10_nextShare : MethodName := ⟨RX10, "nextShare", "(I)J"⟩
abbrev cX10_share : ByteArray := prog_12_method_92_code
def yX10_share : MethodName := ⟨RX10, "share", "(III)I"⟩
abbrev cX10_most : ByteArray := prog_12_method_93_code
def yX10_most : MethodName := ⟨RX10, "most", "(II)I"⟩
abbrev cX10_off : ByteArray := prog_12_method_94_code
def yX10_off : MethodName := ⟨RX10, "off", "(II)I"⟩
abbrev cX10_asked : ByteArray := prog_12_method_95_code
def yX10_asked : MethodName := ⟨RX10, "asked", "()I"⟩
abbrev cX10_upper : ByteArray := prog_12_method_96_code
def yX10_upper : MethodName := ⟨RX10, "upper", "()J"⟩
abbrev cX10_lower : ByteArray := prog_12_method_97_code
def yX10_lower : MethodName := ⟨RX10, "lower", "()J"⟩
abbrev cX10_counts : ByteArray := prog_12_method_98_code
def yX10_counts : MethodName := ⟨RX10, "counts", "(I)I"⟩
abbrev cX10_count : ByteArray := prog_12_method_99_code
def yX10_count : MethodName := ⟨RX10, "count", "(I)I"⟩
abbrev cX10_finding : ByteArray := prog_12_method_100_code
def yX10_finding : MethodName := ⟨RX10, "finding", "()I"⟩
abbrev cX10_findings : ByteArray := prog_12_method_101_code
def yX10_findings : MethodName := ⟨RX10, "findings", "(I)I"⟩
abbrev cX10_mix : ByteArray := prog_12_method_102_code
def yX10_mix : MethodName := ⟨RX10, "mix", "(J)V"⟩
abbrev cX10_digest : ByteArray := prog_12_method_103_code
def yX10_digest : MethodName := ⟨RX10, "digest", "()J"⟩
def RJ9 : String := "java/lang/Math"
abbrev cJ9_max_7cf53 : ByteArray := prog_13_method_65_code
def yJ9_max_7cf53 : MethodName := ⟨RJ9, "max", "(II)I"⟩
abbrev cJ9_min_7cf53 : ByteArray := prog_13_method_69_code
def yJ9_min_7cf53 : MethodName := ⟨RJ9, "min", "(II)I"⟩
def RJ10 : String := "java/lang/System"
def RL : String := "MeshWorldsLaw"
abbrev cL_law : ByteArray := code
def yL_law : MethodName := ⟨RL, "law", "([I)Z"⟩
abbrev vwCl : List vw_C := [(RX0, TX0, 6), (RX1, TX1, 8), (RX2, TX2, 2), (RX3, TX3, 7), (RX4, TX4, 9), (RX5, TX5, 7), (RX6, TX6, 3), (RX7, TX7, 2), (RX8, TX8, 10), (RX9, TX9, 15), (RX10, TX10, 63)]
set_option maxRecDepth 20000 in
theorem inX0 : ∀ w ∈ u_ws RX0 TX0 6, w ∈ lw_tbl := fun w h => (goodIn_r (u_ws RX0 TX0 6) [313, 315, 317, 319, 321, 323] (by decide +kernel) (by decide +kernel) w h).1
set_option maxRecDepth 20000 in
theorem inX1 : ∀ w ∈ u_ws RX1 TX1 8, w ∈ lw_tbl := fun w h => (goodIn_r (u_ws RX1 TX1 8) [281, 283, 285, 287, 289, 291, 293, 295] (by decide +kernel) (by decide +kernel) w h).1
set_option maxRecDepth 20000 in
theorem inX2 : ∀ w ∈ u_ws RX2 TX2 2, w ∈ lw_tbl := fun w h => (goodIn_r (u_ws RX2 TX2 2) [384, 386] (by decide +kernel) (by decide +kernel) w h).1
set_option maxRecDepth 20000 in
theorem inX3 : ∀ w ∈ u_ws RX3 TX3 7, w ∈ lw_tbl := fun w h => (goodIn_r (u_ws RX3 TX3 7) [340, 342, 344, 346, 348, 350, 352] (by decide +kernel) (by decide +kernel) w h).1
set_option maxRecDepth 20000 in
theorem inX4 : ∀ w ∈ u_ws RX4 TX4 9, w ∈ lw_tbl := fun w h => (goodIn_r (u_ws RX4 TX4 9) [125, 127, 129, 131, 133, 135, 137, 139, 141] (by decide +kernel) (by decide +kernel) w h).1
set_option maxRecDepth 20000 in
theorem inX5 : ∀ w ∈ u_ws RX5 TX5 7, w ∈ lw_tbl := fun w h => (goodIn_r (u_ws RX5 TX5 7) [250, 252, 254, 256, 258, 260, 262] (by decide +kernel) (by decide +kernel) w h).1
set_option maxRecDepth 20000 in
theorem inX6 : ∀ w ∈ u_ws RX6 TX6 3, w ∈ lw_tbl := fun w h => (goodIn_r (u_ws RX6 TX6 3) [366, 368, 370] (by decide +kernel) (by decide +kernel) w h).1
set_option maxRecDepth 20000 in
theorem inX7 : ∀ w ∈ u_ws RX7 TX7 2, w ∈ lw_tbl := fun w h => (goodIn_r (u_ws RX7 TX7 2) [91, 93] (by decide +kernel) (by decide +kernel) w h).1
set_option maxRecDepth 20000 in
theorem inX8 : ∀ w ∈ u_ws RX8 TX8 10, w ∈ lw_tbl := fun w h => (goodIn_r (u_ws RX8 TX8 10) [206, 208, 210, 212, 214, 216, 218, 220, 222, 224] (by decide +kernel) (by decide +kernel) w h).1
set_option maxRecDepth 20000 in
theorem inX9 : ∀ w ∈ u_ws RX9 TX9 15, w ∈ lw_tbl := fun w h => (goodIn_r (u_ws RX9 TX9 15) [404, 406, 408, 410, 412, 414, 416, 418, 420, 422, 424, 426, 428, 430, 432] (by decide +kernel) (by decide +kernel) w h).1
set_option maxRecDepth 20000 in
theorem inX10 : ∀ w ∈ u_ws RX10 TX10 63, w ∈ lw_tbl := fun w h => (goodIn_r (u_ws RX10 TX10 63) [1149, 1151, 1153, 1155, 1157, 1159, 1161, 1163, 1165, 1167, 1169, 1171, 1173, 1175, 1177, 1179, 1181, 1183, 1185, 1187, 1189, 1191, 1193, 1195, 1197, 1199, 1201, 1203, 1205, 1207, 1209, 1211, 1213, 1215, 1217, 1219, 1221, 1223, 1225, 1227, 1229, 1231, 1233, 1235, 1237, 1239, 1241, 1243, 1245, 1247, 1249, 1251, 1253, 1255, 1257, 1259, 1261, 1263, 1265, 1267, 1269, 1271, 1273] (by decide +kernel) (by decide +kernel) w h).1
