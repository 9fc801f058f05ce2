section
-- ===== PART A: goes FIRST, ahead of the names: the tables' words, and 'selects' of the private methods out of them =====
/-- a private method of a class that the tables say can be made, by its rows of tables_1 -/
def lw_okq (q : MethodName × Nat) : Prop := (q.1.cls ≠ "java/lang/invoke/MethodHandle" ∧ q.1.cls ≠ "java/lang/invoke/VarHandle") ∧ Cond.instantiable q.1.cls q.2 ∈ tables_1 ∧ Cond.privateMethod q.1 ∈ tables_1 ∧ Cond.instanceMethod q.1 ∈ tables_1
theorem lw_p0 : lw_okq (⟨"UnsaidRoom", "feedBytes", "(J)V"⟩, 15) := ⟨⟨by decide +kernel, by decide +kernel⟩, List.mem_of_getElem? (i := 26) (by decide +kernel), List.mem_of_getElem? (i := 364) (by decide +kernel), List.mem_of_getElem? (i := 365) (by decide +kernel)⟩
theorem lw_p1 : lw_okq (⟨"UnsaidRoom$Land", "clear", "()V"⟩, 13) := ⟨⟨by decide +kernel, by decide +kernel⟩, List.mem_of_getElem? (i := 77) (by decide +kernel), List.mem_of_getElem? (i := 380) (by decide +kernel), List.mem_of_getElem? (i := 381) (by decide +kernel)⟩
theorem lw_p2 : lw_okq (⟨"UnsaidRoom$Tape", "takeWord", "()V"⟩, 8) := ⟨⟨by decide +kernel, by decide +kernel⟩, List.mem_of_getElem? (i := 34) (by decide +kernel), List.mem_of_getElem? (i := 395) (by decide +kernel), List.mem_of_getElem? (i := 396) (by decide +kernel)⟩
theorem lw_p3 : lw_okq (⟨"UnsaidRoom$Tape", "takeDigits", "()V"⟩, 8) := ⟨⟨by decide +kernel, by decide +kernel⟩, List.mem_of_getElem? (i := 34) (by decide +kernel), List.mem_of_getElem? (i := 453) (by decide +kernel), List.mem_of_getElem? (i := 454) (by decide +kernel)⟩
theorem lw_p4 : lw_okq (⟨"UnsaidRoom$Land", "readRoom", "(LUnsaidRoom$Tape;Z)Z"⟩, 13) := ⟨⟨by decide +kernel, by decide +kernel⟩, List.mem_of_getElem? (i := 77) (by decide +kernel), List.mem_of_getElem? (i := 517) (by decide +kernel), List.mem_of_getElem? (i := 518) (by decide +kernel)⟩
theorem lw_p5 : lw_okq (⟨"UnsaidRoom$Land", "takeNewName", "(LUnsaidRoom$Tape;)Z"⟩, 13) := ⟨⟨by decide +kernel, by decide +kernel⟩, List.mem_of_getElem? (i := 77) (by decide +kernel), List.mem_of_getElem? (i := 526) (by decide +kernel), List.mem_of_getElem? (i := 527) (by decide +kernel)⟩
theorem lw_p6 : lw_okq (⟨"UnsaidRoom$Land", "readDoor", "(LUnsaidRoom$Tape;)Z"⟩, 13) := ⟨⟨by decide +kernel, by decide +kernel⟩, List.mem_of_getElem? (i := 77) (by decide +kernel), List.mem_of_getElem? (i := 547) (by decide +kernel), List.mem_of_getElem? (i := 548) (by decide +kernel)⟩
theorem lw_p7 : lw_okq (⟨"UnsaidRoom$Land", "canJoin", "(II)Z"⟩, 13) := ⟨⟨by decide +kernel, by decide +kernel⟩, List.mem_of_getElem? (i := 77) (by decide +kernel), List.mem_of_getElem? (i := 555) (by decide +kernel), List.mem_of_getElem? (i := 556) (by decide +kernel)⟩
theorem lw_p8 : lw_okq (⟨"UnsaidRoom$Land", "readPerson", "(LUnsaidRoom$Tape;)Z"⟩, 13) := ⟨⟨by decide +kernel, by decide +kernel⟩, List.mem_of_getElem? (i := 77) (by decide +kernel), List.mem_of_getElem? (i := 570) (by decide +kernel), List.mem_of_getElem? (i := 571) (by decide +kernel)⟩
theorem lw_p9 : lw_okq (⟨"UnsaidRoom$Land", "addPerson", "(JIII)V"⟩, 13) := ⟨⟨by decide +kernel, by decide +kernel⟩, List.mem_of_getElem? (i := 77) (by decide +kernel), List.mem_of_getElem? (i := 574) (by decide +kernel), List.mem_of_getElem? (i := 575) (by decide +kernel)⟩
theorem lw_p10 : lw_okq (⟨"UnsaidRoom$Land", "readStays", "(LUnsaidRoom$Tape;)Z"⟩, 13) := ⟨⟨by decide +kernel, by decide +kernel⟩, List.mem_of_getElem? (i := 77) (by decide +kernel), List.mem_of_getElem? (i := 578) (by decide +kernel), List.mem_of_getElem? (i := 579) (by decide +kernel)⟩
theorem lw_p11 : lw_okq (⟨"UnsaidRoom$Law", "readPart", "(LUnsaidRoom$Tape;I)Z"⟩, 4) := ⟨⟨by decide +kernel, by decide +kernel⟩, List.mem_of_getElem? (i := 83) (by decide +kernel), List.mem_of_getElem? (i := 586) (by decide +kernel), List.mem_of_getElem? (i := 587) (by decide +kernel)⟩
theorem lw_p12 : lw_okq (⟨"UnsaidRoom$Law", "readInner", "(LUnsaidRoom$Tape;I)Z"⟩, 4) := ⟨⟨by decide +kernel, by decide +kernel⟩, List.mem_of_getElem? (i := 83) (by decide +kernel), List.mem_of_getElem? (i := 594) (by decide +kernel), List.mem_of_getElem? (i := 595) (by decide +kernel)⟩
theorem lw_p13 : lw_okq (⟨"UnsaidRoom$Law", "put", "(I)V"⟩, 4) := ⟨⟨by decide +kernel, by decide +kernel⟩, List.mem_of_getElem? (i := 83) (by decide +kernel), List.mem_of_getElem? (i := 599) (by decide +kernel), List.mem_of_getElem? (i := 600) (by decide +kernel)⟩
theorem lw_p14 : lw_okq (⟨"UnsaidRoom", "beginAnew", "()V"⟩, 15) := ⟨⟨by decide +kernel, by decide +kernel⟩, List.mem_of_getElem? (i := 26) (by decide +kernel), List.mem_of_getElem? (i := 606) (by decide +kernel), List.mem_of_getElem? (i := 607) (by decide +kernel)⟩
theorem lw_p15 : lw_okq (⟨"UnsaidRoom$Script", "readLine", "(LUnsaidRoom$Tape;LUnsaidRoom$Land;)Z"⟩, 4) := ⟨⟨by decide +kernel, by decide +kernel⟩, List.mem_of_getElem? (i := 161) (by decide +kernel), List.mem_of_getElem? (i := 628) (by decide +kernel), List.mem_of_getElem? (i := 629) (by decide +kernel)⟩
def lw_privs_1 : List (MethodName × Nat) := [(⟨"UnsaidRoom", "feedBytes", "(J)V"⟩, 15), (⟨"UnsaidRoom$Land", "clear", "()V"⟩, 13), (⟨"UnsaidRoom$Tape", "takeWord", "()V"⟩, 8), (⟨"UnsaidRoom$Tape", "takeDigits", "()V"⟩, 8), (⟨"UnsaidRoom$Land", "readRoom", "(LUnsaidRoom$Tape;Z)Z"⟩, 13), (⟨"UnsaidRoom$Land", "takeNewName", "(LUnsaidRoom$Tape;)Z"⟩, 13), (⟨"UnsaidRoom$Land", "readDoor", "(LUnsaidRoom$Tape;)Z"⟩, 13), (⟨"UnsaidRoom$Land", "canJoin", "(II)Z"⟩, 13), (⟨"UnsaidRoom$Land", "readPerson", "(LUnsaidRoom$Tape;)Z"⟩, 13), (⟨"UnsaidRoom$Land", "addPerson", "(JIII)V"⟩, 13), (⟨"UnsaidRoom$Land", "readStays", "(LUnsaidRoom$Tape;)Z"⟩, 13), (⟨"UnsaidRoom$Law", "readPart", "(LUnsaidRoom$Tape;I)Z"⟩, 4), (⟨"UnsaidRoom$Law", "readInner", "(LUnsaidRoom$Tape;I)Z"⟩, 4), (⟨"UnsaidRoom$Law", "put", "(I)V"⟩, 4), (⟨"UnsaidRoom", "beginAnew", "()V"⟩, 15), (⟨"UnsaidRoom$Script", "readLine", "(LUnsaidRoom$Tape;LUnsaidRoom$Land;)Z"⟩, 4)]
theorem lw_r1 : ∀ q ∈ lw_privs_1, lw_okq q := List.forall_mem_cons.mpr ⟨lw_p0, List.forall_mem_cons.mpr ⟨lw_p1, List.forall_mem_cons.mpr ⟨lw_p2, List.forall_mem_cons.mpr ⟨lw_p3, List.forall_mem_cons.mpr ⟨lw_p4, List.forall_mem_cons.mpr ⟨lw_p5, List.forall_mem_cons.mpr ⟨lw_p6, List.forall_mem_cons.mpr ⟨lw_p7, List.forall_mem_cons.mpr ⟨lw_p8, List.forall_mem_cons.mpr ⟨lw_p9, List.forall_mem_cons.mpr ⟨lw_p10, List.forall_mem_cons.mpr ⟨lw_p11, List.forall_mem_cons.mpr ⟨lw_p12, List.forall_mem_cons.mpr ⟨lw_p13, List.forall_mem_cons.mpr ⟨lw_p14, List.forall_mem_cons.mpr ⟨lw_p15, fun _ h => absurd h List.not_mem_nil⟩⟩⟩⟩⟩⟩⟩⟩⟩⟩⟩⟩⟩⟩⟩⟩
theorem lw_p16 : lw_okq (⟨"UnsaidRoom$Script", "readPerson", "(LUnsaidRoom$Tape;LUnsaidRoom$Land;)Z"⟩, 4) := ⟨⟨by decide +kernel, by decide +kernel⟩, List.mem_of_getElem? (i := 161) (by decide +kernel), List.mem_of_getElem? (i := 634) (by decide +kernel), List.mem_of_getElem? (i := 635) (by decide +kernel)⟩
theorem lw_p17 : lw_okq (⟨"UnsaidRoom$Script", "readRoom", "(LUnsaidRoom$Tape;LUnsaidRoom$Land;)Z"⟩, 4) := ⟨⟨by decide +kernel, by decide +kernel⟩, List.mem_of_getElem? (i := 161) (by decide +kernel), List.mem_of_getElem? (i := 639) (by decide +kernel), List.mem_of_getElem? (i := 640) (by decide +kernel)⟩
theorem lw_p18 : lw_okq (⟨"UnsaidRoom$Night", "standsBeside", "(LUnsaidRoom$Land;II)Z"⟩, 9) := ⟨⟨by decide +kernel, by decide +kernel⟩, List.mem_of_getElem? (i := 184) (by decide +kernel), List.mem_of_getElem? (i := 672) (by decide +kernel), List.mem_of_getElem? (i := 673) (by decide +kernel)⟩
theorem lw_p19 : lw_okq (⟨"UnsaidRoom", "remember", "()V"⟩, 15) := ⟨⟨by decide +kernel, by decide +kernel⟩, List.mem_of_getElem? (i := 26) (by decide +kernel), List.mem_of_getElem? (i := 684) (by decide +kernel), List.mem_of_getElem? (i := 685) (by decide +kernel)⟩
theorem lw_p20 : lw_okq (⟨"UnsaidRoom$Law", "push", "(I)V"⟩, 4) := ⟨⟨by decide +kernel, by decide +kernel⟩, List.mem_of_getElem? (i := 83) (by decide +kernel), List.mem_of_getElem? (i := 732) (by decide +kernel), List.mem_of_getElem? (i := 733) (by decide +kernel)⟩
theorem lw_p21 : lw_okq (⟨"UnsaidRoom$Law", "pop", "()I"⟩, 4) := ⟨⟨by decide +kernel, by decide +kernel⟩, List.mem_of_getElem? (i := 83) (by decide +kernel), List.mem_of_getElem? (i := 736) (by decide +kernel), List.mem_of_getElem? (i := 737) (by decide +kernel)⟩
theorem lw_p22 : lw_okq (⟨"UnsaidRoom$Law", "follow", "(I)V"⟩, 4) := ⟨⟨by decide +kernel, by decide +kernel⟩, List.mem_of_getElem? (i := 83) (by decide +kernel), List.mem_of_getElem? (i := 740) (by decide +kernel), List.mem_of_getElem? (i := 741) (by decide +kernel)⟩
theorem lw_p23 : lw_okq (⟨"UnsaidRoom$Night", "comesOut", "(LUnsaidRoom$Land;I)Z"⟩, 9) := ⟨⟨by decide +kernel, by decide +kernel⟩, List.mem_of_getElem? (i := 184) (by decide +kernel), List.mem_of_getElem? (i := 801) (by decide +kernel), List.mem_of_getElem? (i := 802) (by decide +kernel)⟩
theorem lw_p24 : lw_okq (⟨"UnsaidRoom$Night", "exitOf", "(LUnsaidRoom$Land;I)I"⟩, 9) := ⟨⟨by decide +kernel, by decide +kernel⟩, List.mem_of_getElem? (i := 184) (by decide +kernel), List.mem_of_getElem? (i := 805) (by decide +kernel), List.mem_of_getElem? (i := 806) (by decide +kernel)⟩
theorem lw_p25 : lw_okq (⟨"UnsaidRoom", "minutesTillFree", "(I)I"⟩, 15) := ⟨⟨by decide +kernel, by decide +kernel⟩, List.mem_of_getElem? (i := 26) (by decide +kernel), List.mem_of_getElem? (i := 840) (by decide +kernel), List.mem_of_getElem? (i := 841) (by decide +kernel)⟩
theorem lw_p26 : lw_okq (⟨"UnsaidRoom", "roomsToBeShown", "(I)I"⟩, 15) := ⟨⟨by decide +kernel, by decide +kernel⟩, List.mem_of_getElem? (i := 26) (by decide +kernel), List.mem_of_getElem? (i := 865) (by decide +kernel), List.mem_of_getElem? (i := 866) (by decide +kernel)⟩
theorem lw_p27 : lw_okq (⟨"UnsaidRoom", "roomsToWalkTo", "(I)I"⟩, 15) := ⟨⟨by decide +kernel, by decide +kernel⟩, List.mem_of_getElem? (i := 26) (by decide +kernel), List.mem_of_getElem? (i := 873) (by decide +kernel), List.mem_of_getElem? (i := 874) (by decide +kernel)⟩
theorem lw_p28 : lw_okq (⟨"UnsaidRoom", "isOpen", "(I)Z"⟩, 15) := ⟨⟨by decide +kernel, by decide +kernel⟩, List.mem_of_getElem? (i := 26) (by decide +kernel), List.mem_of_getElem? (i := 886) (by decide +kernel), List.mem_of_getElem? (i := 887) (by decide +kernel)⟩
theorem lw_p29 : lw_okq (⟨"UnsaidRoom", "openRooms", "()I"⟩, 15) := ⟨⟨by decide +kernel, by decide +kernel⟩, List.mem_of_getElem? (i := 26) (by decide +kernel), List.mem_of_getElem? (i := 890) (by decide +kernel), List.mem_of_getElem? (i := 891) (by decide +kernel)⟩
theorem lw_p30 : lw_okq (⟨"UnsaidRoom", "cuts", "(II)Z"⟩, 15) := ⟨⟨by decide +kernel, by decide +kernel⟩, List.mem_of_getElem? (i := 26) (by decide +kernel), List.mem_of_getElem? (i := 909) (by decide +kernel), List.mem_of_getElem? (i := 910) (by decide +kernel)⟩
theorem lw_p31 : lw_okq (⟨"UnsaidRoom$Line", "tryRows", "(IIII)V"⟩, 5) := ⟨⟨by decide +kernel, by decide +kernel⟩, List.mem_of_getElem? (i := 253) (by decide +kernel), List.mem_of_getElem? (i := 940) (by decide +kernel), List.mem_of_getElem? (i := 941) (by decide +kernel)⟩
def lw_privs_2 : List (MethodName × Nat) := [(⟨"UnsaidRoom$Script", "readPerson", "(LUnsaidRoom$Tape;LUnsaidRoom$Land;)Z"⟩, 4), (⟨"UnsaidRoom$Script", "readRoom", "(LUnsaidRoom$Tape;LUnsaidRoom$Land;)Z"⟩, 4), (⟨"UnsaidRoom$Night", "standsBeside", "(LUnsaidRoom$Land;II)Z"⟩, 9), (⟨"UnsaidRoom", "remember", "()V"⟩, 15), (⟨"UnsaidRoom$Law", "push", "(I)V"⟩, 4), (⟨"UnsaidRoom$Law", "pop", "()I"⟩, 4), (⟨"UnsaidRoom$Law", "follow", "(I)V"⟩, 4), (⟨"UnsaidRoom$Night", "comesOut", "(LUnsaidRoom$Land;I)Z"⟩, 9), (⟨"UnsaidRoom$Night", "exitOf", "(LUnsaidRoom$Land;I)I"⟩, 9), (⟨"UnsaidRoom", "minutesTillFree", "(I)I"⟩, 15), (⟨"UnsaidRoom", "roomsToBeShown", "(I)I"⟩, 15), (⟨"UnsaidRoom", "roomsToWalkTo", "(I)I"⟩, 15), (⟨"UnsaidRoom", "isOpen", "(I)Z"⟩, 15), (⟨"UnsaidRoom", "openRooms", "()I"⟩, 15), (⟨"UnsaidRoom", "cuts", "(II)Z"⟩, 15), (⟨"UnsaidRoom$Line", "tryRows", "(IIII)V"⟩, 5)]
theorem lw_r2 : ∀ q ∈ lw_privs_2, lw_okq q := List.forall_mem_cons.mpr ⟨lw_p16, List.forall_mem_cons.mpr ⟨lw_p17, List.forall_mem_cons.mpr ⟨lw_p18, List.forall_mem_cons.mpr ⟨lw_p19, List.forall_mem_cons.mpr ⟨lw_p20, List.forall_mem_cons.mpr ⟨lw_p21, List.forall_mem_cons.mpr ⟨lw_p22, List.forall_mem_cons.mpr ⟨lw_p23, List.forall_mem_cons.mpr ⟨lw_p24, List.forall_mem_cons.mpr ⟨lw_p25, List.forall_mem_cons.mpr ⟨lw_p26, List.forall_mem_cons.mpr ⟨lw_p27, List.forall_mem_cons.mpr ⟨lw_p28, List.forall_mem_cons.mpr ⟨lw_p29, List.forall_mem_cons.mpr ⟨lw_p30, List.forall_mem_cons.mpr ⟨lw_p31, fun _ h => absurd h List.not_mem_nil⟩⟩⟩⟩⟩⟩⟩⟩⟩⟩⟩⟩⟩⟩⟩⟩
theorem lw_p32 : lw_okq (⟨"UnsaidRoom$Line", "keepIfBetter", "(I)V"⟩, 5) := ⟨⟨by decide +kernel, by decide +kernel⟩, List.mem_of_getElem? (i := 253) (by decide +kernel), List.mem_of_getElem? (i := 944) (by decide +kernel), List.mem_of_getElem? (i := 945) (by decide +kernel)⟩
theorem lw_p33 : lw_okq (⟨"UnsaidRoom", "mostKeptAlike", "(II)I"⟩, 15) := ⟨⟨by decide +kernel, by decide +kernel⟩, List.mem_of_getElem? (i := 26) (by decide +kernel), List.mem_of_getElem? (i := 966) (by decide +kernel), List.mem_of_getElem? (i := 967) (by decide +kernel)⟩
theorem lw_p34 : lw_okq (⟨"UnsaidRoom", "roomsKeeping", "(II)I"⟩, 15) := ⟨⟨by decide +kernel, by decide +kernel⟩, List.mem_of_getElem? (i := 26) (by decide +kernel), List.mem_of_getElem? (i := 988) (by decide +kernel), List.mem_of_getElem? (i := 989) (by decide +kernel)⟩
theorem lw_p35 : lw_okq (⟨"UnsaidRoom", "followDraws", "()V"⟩, 15) := ⟨⟨by decide +kernel, by decide +kernel⟩, List.mem_of_getElem? (i := 26) (by decide +kernel), List.mem_of_getElem? (i := 1006) (by decide +kernel), List.mem_of_getElem? (i := 1007) (by decide +kernel)⟩
theorem lw_p36 : lw_okq (⟨"java/lang/Throwable", "fillInStackTrace", "(I)Ljava/lang/Throwable;"⟩, 6) := ⟨⟨by decide +kernel, by decide +kernel⟩, List.mem_of_getElem? (i := 1092) (by decide +kernel), List.mem_of_getElem? (i := 1090) (by decide +kernel), List.mem_of_getElem? (i := 1091) (by decide +kernel)⟩
theorem lw_p37 : lw_okq (⟨"UnsaidRoomModel", "fresh0", "()V"⟩, 57) := ⟨⟨by decide +kernel, by decide +kernel⟩, List.mem_of_getElem? (i := 1123) (by decide +kernel), List.mem_of_getElem? (i := 1129) (by decide +kernel), List.mem_of_getElem? (i := 1130) (by decide +kernel)⟩
theorem lw_p38 : lw_okq (⟨"UnsaidRoomModel", "readsAll", "()Z"⟩, 57) := ⟨⟨by decide +kernel, by decide +kernel⟩, List.mem_of_getElem? (i := 1123) (by decide +kernel), List.mem_of_getElem? (i := 1319) (by decide +kernel), List.mem_of_getElem? (i := 1320) (by decide +kernel)⟩
theorem lw_p39 : lw_okq (⟨"UnsaidRoomModel", "begins", "()V"⟩, 57) := ⟨⟨by decide +kernel, by decide +kernel⟩, List.mem_of_getElem? (i := 1123) (by decide +kernel), List.mem_of_getElem? (i := 1323) (by decide +kernel), List.mem_of_getElem? (i := 1324) (by decide +kernel)⟩
theorem lw_p40 : lw_okq (⟨"UnsaidRoomModel", "nextToken", "()V"⟩, 57) := ⟨⟨by decide +kernel, by decide +kernel⟩, List.mem_of_getElem? (i := 1123) (by decide +kernel), List.mem_of_getElem? (i := 1327) (by decide +kernel), List.mem_of_getElem? (i := 1328) (by decide +kernel)⟩
theorem lw_p41 : lw_okq (⟨"UnsaidRoomModel", "signAt", "(I)I"⟩, 57) := ⟨⟨by decide +kernel, by decide +kernel⟩, List.mem_of_getElem? (i := 1123) (by decide +kernel), List.mem_of_getElem? (i := 1331) (by decide +kernel), List.mem_of_getElem? (i := 1332) (by decide +kernel)⟩
theorem lw_p42 : lw_okq (⟨"UnsaidRoomModel", "isWord", "(J)Z"⟩, 57) := ⟨⟨by decide +kernel, by decide +kernel⟩, List.mem_of_getElem? (i := 1123) (by decide +kernel), List.mem_of_getElem? (i := 1338) (by decide +kernel), List.mem_of_getElem? (i := 1339) (by decide +kernel)⟩
theorem lw_p43 : lw_okq (⟨"UnsaidRoomModel", "readsRoom", "(Z)Z"⟩, 57) := ⟨⟨by decide +kernel, by decide +kernel⟩, List.mem_of_getElem? (i := 1123) (by decide +kernel), List.mem_of_getElem? (i := 1342) (by decide +kernel), List.mem_of_getElem? (i := 1343) (by decide +kernel)⟩
theorem lw_p44 : lw_okq (⟨"UnsaidRoomModel", "fails", "(I)Z"⟩, 57) := ⟨⟨by decide +kernel, by decide +kernel⟩, List.mem_of_getElem? (i := 1123) (by decide +kernel), List.mem_of_getElem? (i := 1346) (by decide +kernel), List.mem_of_getElem? (i := 1347) (by decide +kernel)⟩
theorem lw_p45 : lw_okq (⟨"UnsaidRoomModel", "needsNew", "()Z"⟩, 57) := ⟨⟨by decide +kernel, by decide +kernel⟩, List.mem_of_getElem? (i := 1123) (by decide +kernel), List.mem_of_getElem? (i := 1350) (by decide +kernel), List.mem_of_getElem? (i := 1351) (by decide +kernel)⟩
theorem lw_p46 : lw_okq (⟨"UnsaidRoomModel", "isKept", "()Z"⟩, 57) := ⟨⟨by decide +kernel, by decide +kernel⟩, List.mem_of_getElem? (i := 1123) (by decide +kernel), List.mem_of_getElem? (i := 1354) (by decide +kernel), List.mem_of_getElem? (i := 1355) (by decide +kernel)⟩
theorem lw_p47 : lw_okq (⟨"UnsaidRoomModel", "roomNamed", "(I)I"⟩, 57) := ⟨⟨by decide +kernel, by decide +kernel⟩, List.mem_of_getElem? (i := 1123) (by decide +kernel), List.mem_of_getElem? (i := 1377) (by decide +kernel), List.mem_of_getElem? (i := 1378) (by decide +kernel)⟩
def lw_privs_3 : List (MethodName × Nat) := [(⟨"UnsaidRoom$Line", "keepIfBetter", "(I)V"⟩, 5), (⟨"UnsaidRoom", "mostKeptAlike", "(II)I"⟩, 15), (⟨"UnsaidRoom", "roomsKeeping", "(II)I"⟩, 15), (⟨"UnsaidRoom", "followDraws", "()V"⟩, 15), (⟨"java/lang/Throwable", "fillInStackTrace", "(I)Ljava/lang/Throwable;"⟩, 6), (⟨"UnsaidRoomModel", "fresh0", "()V"⟩, 57), (⟨"UnsaidRoomModel", "readsAll", "()Z"⟩, 57), (⟨"UnsaidRoomModel", "begins", "()V"⟩, 57), (⟨"UnsaidRoomModel", "nextToken", "()V"⟩, 57), (⟨"UnsaidRoomModel", "signAt", "(I)I"⟩, 57), (⟨"UnsaidRoomModel", "isWord", "(J)Z"⟩, 57), (⟨"UnsaidRoomModel", "readsRoom", "(Z)Z"⟩, 57), (⟨"UnsaidRoomModel", "fails", "(I)Z"⟩, 57), (⟨"UnsaidRoomModel", "needsNew", "()Z"⟩, 57), (⟨"UnsaidRoomModel", "isKept", "()Z"⟩, 57), (⟨"UnsaidRoomModel", "roomNamed", "(I)I"⟩, 57)]
theorem lw_r3 : ∀ q ∈ lw_privs_3, lw_okq q := List.forall_mem_cons.mpr ⟨lw_p32, List.forall_mem_cons.mpr ⟨lw_p33, List.forall_mem_cons.mpr ⟨lw_p34, List.forall_mem_cons.mpr ⟨lw_p35, List.forall_mem_cons.mpr ⟨lw_p36, List.forall_mem_cons.mpr ⟨lw_p37, List.forall_mem_cons.mpr ⟨lw_p38, List.forall_mem_cons.mpr ⟨lw_p39, List.forall_mem_cons.mpr ⟨lw_p40, List.forall_mem_cons.mpr ⟨lw_p41, List.forall_mem_cons.mpr ⟨lw_p42, List.forall_mem_cons.mpr ⟨lw_p43, List.forall_mem_cons.mpr ⟨lw_p44, List.forall_mem_cons.mpr ⟨lw_p45, List.forall_mem_cons.mpr ⟨lw_p46, List.forall_mem_cons.mpr ⟨lw_p47, fun _ h => absurd h List.not_mem_nil⟩⟩⟩⟩⟩⟩⟩⟩⟩⟩⟩⟩⟩⟩⟩⟩
theorem lw_p48 : lw_okq (⟨"UnsaidRoomModel", "personNamed", "(I)I"⟩, 57) := ⟨⟨by decide +kernel, by decide +kernel⟩, List.mem_of_getElem? (i := 1123) (by decide +kernel), List.mem_of_getElem? (i := 1381) (by decide +kernel), List.mem_of_getElem? (i := 1382) (by decide +kernel)⟩
theorem lw_p49 : lw_okq (⟨"UnsaidRoomModel", "needsBoth", "(JII)Z"⟩, 57) := ⟨⟨by decide +kernel, by decide +kernel⟩, List.mem_of_getElem? (i := 1123) (by decide +kernel), List.mem_of_getElem? (i := 1385) (by decide +kernel), List.mem_of_getElem? (i := 1386) (by decide +kernel)⟩
theorem lw_p50 : lw_okq (⟨"UnsaidRoomModel", "closes", "()Z"⟩, 57) := ⟨⟨by decide +kernel, by decide +kernel⟩, List.mem_of_getElem? (i := 1123) (by decide +kernel), List.mem_of_getElem? (i := 1392) (by decide +kernel), List.mem_of_getElem? (i := 1393) (by decide +kernel)⟩
theorem lw_p51 : lw_okq (⟨"UnsaidRoomModel", "isSign", "(I)Z"⟩, 57) := ⟨⟨by decide +kernel, by decide +kernel⟩, List.mem_of_getElem? (i := 1123) (by decide +kernel), List.mem_of_getElem? (i := 1396) (by decide +kernel), List.mem_of_getElem? (i := 1397) (by decide +kernel)⟩
theorem lw_p52 : lw_okq (⟨"UnsaidRoomModel", "readsDoor", "()Z"⟩, 57) := ⟨⟨by decide +kernel, by decide +kernel⟩, List.mem_of_getElem? (i := 1123) (by decide +kernel), List.mem_of_getElem? (i := 1400) (by decide +kernel), List.mem_of_getElem? (i := 1401) (by decide +kernel)⟩
theorem lw_p53 : lw_okq (⟨"UnsaidRoomModel", "needsRoom", "(I)Z"⟩, 57) := ⟨⟨by decide +kernel, by decide +kernel⟩, List.mem_of_getElem? (i := 1123) (by decide +kernel), List.mem_of_getElem? (i := 1404) (by decide +kernel), List.mem_of_getElem? (i := 1405) (by decide +kernel)⟩
theorem lw_p54 : lw_okq (⟨"UnsaidRoomModel", "readsPerson", "()Z"⟩, 57) := ⟨⟨by decide +kernel, by decide +kernel⟩, List.mem_of_getElem? (i := 1123) (by decide +kernel), List.mem_of_getElem? (i := 1408) (by decide +kernel), List.mem_of_getElem? (i := 1409) (by decide +kernel)⟩
theorem lw_p55 : lw_okq (⟨"UnsaidRoomModel", "readsStays", "()Z"⟩, 57) := ⟨⟨by decide +kernel, by decide +kernel⟩, List.mem_of_getElem? (i := 1123) (by decide +kernel), List.mem_of_getElem? (i := 1412) (by decide +kernel), List.mem_of_getElem? (i := 1413) (by decide +kernel)⟩
theorem lw_p56 : lw_okq (⟨"UnsaidRoomModel", "reads", "()Z"⟩, 57) := ⟨⟨by decide +kernel, by decide +kernel⟩, List.mem_of_getElem? (i := 1123) (by decide +kernel), List.mem_of_getElem? (i := 1416) (by decide +kernel), List.mem_of_getElem? (i := 1417) (by decide +kernel)⟩
theorem lw_p57 : lw_okq (⟨"UnsaidRoomModel", "fact", "()I"⟩, 57) := ⟨⟨by decide +kernel, by decide +kernel⟩, List.mem_of_getElem? (i := 1123) (by decide +kernel), List.mem_of_getElem? (i := 1420) (by decide +kernel), List.mem_of_getElem? (i := 1421) (by decide +kernel)⟩
theorem lw_p58 : lw_okq (⟨"UnsaidRoomModel", "puts", "(I)V"⟩, 57) := ⟨⟨by decide +kernel, by decide +kernel⟩, List.mem_of_getElem? (i := 1123) (by decide +kernel), List.mem_of_getElem? (i := 1428) (by decide +kernel), List.mem_of_getElem? (i := 1429) (by decide +kernel)⟩
theorem lw_p59 : lw_okq (⟨"UnsaidRoomModel", "lays", "()V"⟩, 57) := ⟨⟨by decide +kernel, by decide +kernel⟩, List.mem_of_getElem? (i := 1123) (by decide +kernel), List.mem_of_getElem? (i := 1432) (by decide +kernel), List.mem_of_getElem? (i := 1433) (by decide +kernel)⟩
theorem lw_p60 : lw_okq (⟨"UnsaidRoomModel", "readsLine", "()Z"⟩, 57) := ⟨⟨by decide +kernel, by decide +kernel⟩, List.mem_of_getElem? (i := 1123) (by decide +kernel), List.mem_of_getElem? (i := 1446) (by decide +kernel), List.mem_of_getElem? (i := 1447) (by decide +kernel)⟩
theorem lw_p61 : lw_okq (⟨"UnsaidRoomModel", "laysLines", "(II)V"⟩, 57) := ⟨⟨by decide +kernel, by decide +kernel⟩, List.mem_of_getElem? (i := 1123) (by decide +kernel), List.mem_of_getElem? (i := 1450) (by decide +kernel), List.mem_of_getElem? (i := 1451) (by decide +kernel)⟩
theorem lw_p62 : lw_okq (⟨"UnsaidRoomModel", "isRoom", "(I)Z"⟩, 57) := ⟨⟨by decide +kernel, by decide +kernel⟩, List.mem_of_getElem? (i := 1123) (by decide +kernel), List.mem_of_getElem? (i := 1458) (by decide +kernel), List.mem_of_getElem? (i := 1459) (by decide +kernel)⟩
theorem lw_p63 : lw_okq (⟨"UnsaidRoomModel", "whoIn", "(I)I"⟩, 57) := ⟨⟨by decide +kernel, by decide +kernel⟩, List.mem_of_getElem? (i := 1123) (by decide +kernel), List.mem_of_getElem? (i := 1462) (by decide +kernel), List.mem_of_getElem? (i := 1463) (by decide +kernel)⟩
def lw_privs_4 : List (MethodName × Nat) := [(⟨"UnsaidRoomModel", "personNamed", "(I)I"⟩, 57), (⟨"UnsaidRoomModel", "needsBoth", "(JII)Z"⟩, 57), (⟨"UnsaidRoomModel", "closes", "()Z"⟩, 57), (⟨"UnsaidRoomModel", "isSign", "(I)Z"⟩, 57), (⟨"UnsaidRoomModel", "readsDoor", "()Z"⟩, 57), (⟨"UnsaidRoomModel", "needsRoom", "(I)Z"⟩, 57), (⟨"UnsaidRoomModel", "readsPerson", "()Z"⟩, 57), (⟨"UnsaidRoomModel", "readsStays", "()Z"⟩, 57), (⟨"UnsaidRoomModel", "reads", "()Z"⟩, 57), (⟨"UnsaidRoomModel", "fact", "()I"⟩, 57), (⟨"UnsaidRoomModel", "puts", "(I)V"⟩, 57), (⟨"UnsaidRoomModel", "lays", "()V"⟩, 57), (⟨"UnsaidRoomModel", "readsLine", "()Z"⟩, 57), (⟨"UnsaidRoomModel", "laysLines", "(II)V"⟩, 57), (⟨"UnsaidRoomModel", "isRoom", "(I)Z"⟩, 57), (⟨"UnsaidRoomModel", "whoIn", "(I)I"⟩, 57)]
theorem lw_r4 : ∀ q ∈ lw_privs_4, lw_okq q := List.forall_mem_cons.mpr ⟨lw_p48, List.forall_mem_cons.mpr ⟨lw_p49, List.forall_mem_cons.mpr ⟨lw_p50, List.forall_mem_cons.mpr ⟨lw_p51, List.forall_mem_cons.mpr ⟨lw_p52, List.forall_mem_cons.mpr ⟨lw_p53, List.forall_mem_cons.mpr ⟨lw_p54, List.forall_mem_cons.mpr ⟨lw_p55, List.forall_mem_cons.mpr ⟨lw_p56, List.forall_mem_cons.mpr ⟨lw_p57, List.forall_mem_cons.mpr ⟨lw_p58, List.forall_mem_cons.mpr ⟨lw_p59, List.forall_mem_cons.mpr ⟨lw_p60, List.forall_mem_cons.mpr ⟨lw_p61, List.forall_mem_cons.mpr ⟨lw_p62, List.forall_mem_cons.mpr ⟨lw_p63, fun _ h => absurd h List.not_mem_nil⟩⟩⟩⟩⟩⟩⟩⟩⟩⟩⟩⟩⟩⟩⟩⟩
theorem lw_p64 : lw_okq (⟨"UnsaidRoomModel", "isPerson", "(I)Z"⟩, 57) := ⟨⟨by decide +kernel, by decide +kernel⟩, List.mem_of_getElem? (i := 1123) (by decide +kernel), List.mem_of_getElem? (i := 1470) (by decide +kernel), List.mem_of_getElem? (i := 1471) (by decide +kernel)⟩
theorem lw_p65 : lw_okq (⟨"UnsaidRoomModel", "goesOf", "(I)I"⟩, 57) := ⟨⟨by decide +kernel, by decide +kernel⟩, List.mem_of_getElem? (i := 1123) (by decide +kernel), List.mem_of_getElem? (i := 1478) (by decide +kernel), List.mem_of_getElem? (i := 1479) (by decide +kernel)⟩
theorem lw_p66 : lw_okq (⟨"UnsaidRoomModel", "isInside", "(I)Z"⟩, 57) := ⟨⟨by decide +kernel, by decide +kernel⟩, List.mem_of_getElem? (i := 1123) (by decide +kernel), List.mem_of_getElem? (i := 1482) (by decide +kernel), List.mem_of_getElem? (i := 1483) (by decide +kernel)⟩
theorem lw_p67 : lw_okq (⟨"UnsaidRoomModel", "open", "()I"⟩, 57) := ⟨⟨by decide +kernel, by decide +kernel⟩, List.mem_of_getElem? (i := 1123) (by decide +kernel), List.mem_of_getElem? (i := 1486) (by decide +kernel), List.mem_of_getElem? (i := 1487) (by decide +kernel)⟩
theorem lw_p68 : lw_okq (⟨"UnsaidRoomModel", "unsaids", "()I"⟩, 57) := ⟨⟨by decide +kernel, by decide +kernel⟩, List.mem_of_getElem? (i := 1123) (by decide +kernel), List.mem_of_getElem? (i := 1490) (by decide +kernel), List.mem_of_getElem? (i := 1491) (by decide +kernel)⟩
theorem lw_p69 : lw_okq (⟨"UnsaidRoomModel", "keeps", "()V"⟩, 57) := ⟨⟨by decide +kernel, by decide +kernel⟩, List.mem_of_getElem? (i := 1123) (by decide +kernel), List.mem_of_getElem? (i := 1494) (by decide +kernel), List.mem_of_getElem? (i := 1495) (by decide +kernel)⟩
theorem lw_p70 : lw_okq (⟨"UnsaidRoomModel", "canShow", "(II)Z"⟩, 57) := ⟨⟨by decide +kernel, by decide +kernel⟩, List.mem_of_getElem? (i := 1123) (by decide +kernel), List.mem_of_getElem? (i := 1505) (by decide +kernel), List.mem_of_getElem? (i := 1506) (by decide +kernel)⟩
theorem lw_p71 : lw_okq (⟨"UnsaidRoomModel", "isFit", "(I)Z"⟩, 57) := ⟨⟨by decide +kernel, by decide +kernel⟩, List.mem_of_getElem? (i := 1123) (by decide +kernel), List.mem_of_getElem? (i := 1509) (by decide +kernel), List.mem_of_getElem? (i := 1510) (by decide +kernel)⟩
theorem lw_p72 : lw_okq (⟨"UnsaidRoomModel", "hostOf", "(I)I"⟩, 57) := ⟨⟨by decide +kernel, by decide +kernel⟩, List.mem_of_getElem? (i := 1123) (by decide +kernel), List.mem_of_getElem? (i := 1513) (by decide +kernel), List.mem_of_getElem? (i := 1514) (by decide +kernel)⟩
theorem lw_p73 : lw_okq (⟨"UnsaidRoomModel", "shows", "(II)I"⟩, 57) := ⟨⟨by decide +kernel, by decide +kernel⟩, List.mem_of_getElem? (i := 1123) (by decide +kernel), List.mem_of_getElem? (i := 1517) (by decide +kernel), List.mem_of_getElem? (i := 1518) (by decide +kernel)⟩
theorem lw_p74 : lw_okq (⟨"UnsaidRoomModel", "stayOf", "(III)I"⟩, 57) := ⟨⟨by decide +kernel, by decide +kernel⟩, List.mem_of_getElem? (i := 1123) (by decide +kernel), List.mem_of_getElem? (i := 1521) (by decide +kernel), List.mem_of_getElem? (i := 1522) (by decide +kernel)⟩
theorem lw_p75 : lw_okq (⟨"UnsaidRoomModel", "worked", "(I)I"⟩, 57) := ⟨⟨by decide +kernel, by decide +kernel⟩, List.mem_of_getElem? (i := 1123) (by decide +kernel), List.mem_of_getElem? (i := 1525) (by decide +kernel), List.mem_of_getElem? (i := 1526) (by decide +kernel)⟩
theorem lw_p76 : lw_okq (⟨"UnsaidRoomModel", "opens", "(I)V"⟩, 57) := ⟨⟨by decide +kernel, by decide +kernel⟩, List.mem_of_getElem? (i := 1123) (by decide +kernel), List.mem_of_getElem? (i := 1529) (by decide +kernel), List.mem_of_getElem? (i := 1530) (by decide +kernel)⟩
theorem lw_p77 : lw_okq (⟨"UnsaidRoomModel", "sums", "(I)V"⟩, 57) := ⟨⟨by decide +kernel, by decide +kernel⟩, List.mem_of_getElem? (i := 1123) (by decide +kernel), List.mem_of_getElem? (i := 1533) (by decide +kernel), List.mem_of_getElem? (i := 1534) (by decide +kernel)⟩
theorem lw_p78 : lw_okq (⟨"UnsaidRoomModel", "tests", "(I)V"⟩, 57) := ⟨⟨by decide +kernel, by decide +kernel⟩, List.mem_of_getElem? (i := 1123) (by decide +kernel), List.mem_of_getElem? (i := 1537) (by decide +kernel), List.mem_of_getElem? (i := 1538) (by decide +kernel)⟩
theorem lw_p79 : lw_okq (⟨"UnsaidRoomModel", "canSpeak", "(I)Z"⟩, 57) := ⟨⟨by decide +kernel, by decide +kernel⟩, List.mem_of_getElem? (i := 1123) (by decide +kernel), List.mem_of_getElem? (i := 1548) (by decide +kernel), List.mem_of_getElem? (i := 1549) (by decide +kernel)⟩
def lw_privs_5 : List (MethodName × Nat) := [(⟨"UnsaidRoomModel", "isPerson", "(I)Z"⟩, 57), (⟨"UnsaidRoomModel", "goesOf", "(I)I"⟩, 57), (⟨"UnsaidRoomModel", "isInside", "(I)Z"⟩, 57), (⟨"UnsaidRoomModel", "open", "()I"⟩, 57), (⟨"UnsaidRoomModel", "unsaids", "()I"⟩, 57), (⟨"UnsaidRoomModel", "keeps", "()V"⟩, 57), (⟨"UnsaidRoomModel", "canShow", "(II)Z"⟩, 57), (⟨"UnsaidRoomModel", "isFit", "(I)Z"⟩, 57), (⟨"UnsaidRoomModel", "hostOf", "(I)I"⟩, 57), (⟨"UnsaidRoomModel", "shows", "(II)I"⟩, 57), (⟨"UnsaidRoomModel", "stayOf", "(III)I"⟩, 57), (⟨"UnsaidRoomModel", "worked", "(I)I"⟩, 57), (⟨"UnsaidRoomModel", "opens", "(I)V"⟩, 57), (⟨"UnsaidRoomModel", "sums", "(I)V"⟩, 57), (⟨"UnsaidRoomModel", "tests", "(I)V"⟩, 57), (⟨"UnsaidRoomModel", "canSpeak", "(I)Z"⟩, 57)]
theorem lw_r5 : ∀ q ∈ lw_privs_5, lw_okq q := List.forall_mem_cons.mpr ⟨lw_p64, List.forall_mem_cons.mpr ⟨lw_p65, List.forall_mem_cons.mpr ⟨lw_p66, List.forall_mem_cons.mpr ⟨lw_p67, List.forall_mem_cons.mpr ⟨lw_p68, List.forall_mem_cons.mpr ⟨lw_p69, List.forall_mem_cons.mpr ⟨lw_p70, List.forall_mem_cons.mpr ⟨lw_p71, List.forall_mem_cons.mpr ⟨lw_p72, List.forall_mem_cons.mpr ⟨lw_p73, List.forall_mem_cons.mpr ⟨lw_p74, List.forall_mem_cons.mpr ⟨lw_p75, List.forall_mem_cons.mpr ⟨lw_p76, List.forall_mem_cons.mpr ⟨lw_p77, List.forall_mem_cons.mpr ⟨lw_p78, List.forall_mem_cons.mpr ⟨lw_p79, fun _ h => absurd h List.not_mem_nil⟩⟩⟩⟩⟩⟩⟩⟩⟩⟩⟩⟩⟩⟩⟩⟩
theorem lw_p80 : lw_okq (⟨"UnsaidRoomModel", "speaks", "(I)V"⟩, 57) := ⟨⟨by decide +kernel, by decide +kernel⟩, List.mem_of_getElem? (i := 1123) (by decide +kernel), List.mem_of_getElem? (i := 1552) (by decide +kernel), List.mem_of_getElem? (i := 1553) (by decide +kernel)⟩
theorem lw_p81 : lw_okq (⟨"UnsaidRoomModel", "canBurn", "(I)Z"⟩, 57) := ⟨⟨by decide +kernel, by decide +kernel⟩, List.mem_of_getElem? (i := 1123) (by decide +kernel), List.mem_of_getElem? (i := 1560) (by decide +kernel), List.mem_of_getElem? (i := 1561) (by decide +kernel)⟩
theorem lw_p82 : lw_okq (⟨"UnsaidRoomModel", "isOpen", "(I)Z"⟩, 57) := ⟨⟨by decide +kernel, by decide +kernel⟩, List.mem_of_getElem? (i := 1123) (by decide +kernel), List.mem_of_getElem? (i := 1564) (by decide +kernel), List.mem_of_getElem? (i := 1565) (by decide +kernel)⟩
theorem lw_p83 : lw_okq (⟨"UnsaidRoomModel", "burntBy", "(I)I"⟩, 57) := ⟨⟨by decide +kernel, by decide +kernel⟩, List.mem_of_getElem? (i := 1123) (by decide +kernel), List.mem_of_getElem? (i := 1568) (by decide +kernel), List.mem_of_getElem? (i := 1569) (by decide +kernel)⟩
theorem lw_p84 : lw_okq (⟨"UnsaidRoomModel", "spreads", "(II)I"⟩, 57) := ⟨⟨by decide +kernel, by decide +kernel⟩, List.mem_of_getElem? (i := 1123) (by decide +kernel), List.mem_of_getElem? (i := 1572) (by decide +kernel), List.mem_of_getElem? (i := 1573) (by decide +kernel)⟩
theorem lw_p85 : lw_okq (⟨"UnsaidRoomModel", "passes", "()I"⟩, 57) := ⟨⟨by decide +kernel, by decide +kernel⟩, List.mem_of_getElem? (i := 1123) (by decide +kernel), List.mem_of_getElem? (i := 1583) (by decide +kernel), List.mem_of_getElem? (i := 1584) (by decide +kernel)⟩
theorem lw_p86 : lw_okq (⟨"UnsaidRoomModel", "isDone", "(I)Z"⟩, 57) := ⟨⟨by decide +kernel, by decide +kernel⟩, List.mem_of_getElem? (i := 1123) (by decide +kernel), List.mem_of_getElem? (i := 1598) (by decide +kernel), List.mem_of_getElem? (i := 1599) (by decide +kernel)⟩
theorem lw_p87 : lw_okq (⟨"UnsaidRoomModel", "allBeen", "()I"⟩, 57) := ⟨⟨by decide +kernel, by decide +kernel⟩, List.mem_of_getElem? (i := 1123) (by decide +kernel), List.mem_of_getElem? (i := 1602) (by decide +kernel), List.mem_of_getElem? (i := 1603) (by decide +kernel)⟩
theorem lw_p88 : lw_okq (⟨"UnsaidRoomModel", "isUnsaid", "(I)Z"⟩, 57) := ⟨⟨by decide +kernel, by decide +kernel⟩, List.mem_of_getElem? (i := 1123) (by decide +kernel), List.mem_of_getElem? (i := 1610) (by decide +kernel), List.mem_of_getElem? (i := 1611) (by decide +kernel)⟩
theorem lw_p89 : lw_okq (⟨"UnsaidRoomModel", "freesOf", "(I)I"⟩, 57) := ⟨⟨by decide +kernel, by decide +kernel⟩, List.mem_of_getElem? (i := 1123) (by decide +kernel), List.mem_of_getElem? (i := 1618) (by decide +kernel), List.mem_of_getElem? (i := 1619) (by decide +kernel)⟩
theorem lw_p90 : lw_okq (⟨"UnsaidRoomModel", "insiders", "()I"⟩, 57) := ⟨⟨by decide +kernel, by decide +kernel⟩, List.mem_of_getElem? (i := 1123) (by decide +kernel), List.mem_of_getElem? (i := 1634) (by decide +kernel), List.mem_of_getElem? (i := 1635) (by decide +kernel)⟩
theorem lw_p91 : lw_okq (⟨"UnsaidRoomModel", "mayOf", "(I)I"⟩, 57) := ⟨⟨by decide +kernel, by decide +kernel⟩, List.mem_of_getElem? (i := 1123) (by decide +kernel), List.mem_of_getElem? (i := 1642) (by decide +kernel), List.mem_of_getElem? (i := 1643) (by decide +kernel)⟩
theorem lw_p92 : lw_okq (⟨"UnsaidRoomModel", "pieces", "(I)I"⟩, 57) := ⟨⟨by decide +kernel, by decide +kernel⟩, List.mem_of_getElem? (i := 1123) (by decide +kernel), List.mem_of_getElem? (i := 1670) (by decide +kernel), List.mem_of_getElem? (i := 1671) (by decide +kernel)⟩
theorem lw_p93 : lw_okq (⟨"UnsaidRoomModel", "unsaidBy", "(I)I"⟩, 57) := ⟨⟨by decide +kernel, by decide +kernel⟩, List.mem_of_getElem? (i := 1123) (by decide +kernel), List.mem_of_getElem? (i := 1682) (by decide +kernel), List.mem_of_getElem? (i := 1683) (by decide +kernel)⟩
theorem lw_p94 : lw_okq (⟨"UnsaidRoomModel", "queues", "(IIIIII)V"⟩, 57) := ⟨⟨by decide +kernel, by decide +kernel⟩, List.mem_of_getElem? (i := 1123) (by decide +kernel), List.mem_of_getElem? (i := 1694) (by decide +kernel), List.mem_of_getElem? (i := 1695) (by decide +kernel)⟩
theorem lw_p95 : lw_okq (⟨"UnsaidRoomModel", "laysStays", "()V"⟩, 57) := ⟨⟨by decide +kernel, by decide +kernel⟩, List.mem_of_getElem? (i := 1123) (by decide +kernel), List.mem_of_getElem? (i := 1722) (by decide +kernel), List.mem_of_getElem? (i := 1723) (by decide +kernel)⟩
def lw_privs_6 : List (MethodName × Nat) := [(⟨"UnsaidRoomModel", "speaks", "(I)V"⟩, 57), (⟨"UnsaidRoomModel", "canBurn", "(I)Z"⟩, 57), (⟨"UnsaidRoomModel", "isOpen", "(I)Z"⟩, 57), (⟨"UnsaidRoomModel", "burntBy", "(I)I"⟩, 57), (⟨"UnsaidRoomModel", "spreads", "(II)I"⟩, 57), (⟨"UnsaidRoomModel", "passes", "()I"⟩, 57), (⟨"UnsaidRoomModel", "isDone", "(I)Z"⟩, 57), (⟨"UnsaidRoomModel", "allBeen", "()I"⟩, 57), (⟨"UnsaidRoomModel", "isUnsaid", "(I)Z"⟩, 57), (⟨"UnsaidRoomModel", "freesOf", "(I)I"⟩, 57), (⟨"UnsaidRoomModel", "insiders", "()I"⟩, 57), (⟨"UnsaidRoomModel", "mayOf", "(I)I"⟩, 57), (⟨"UnsaidRoomModel", "pieces", "(I)I"⟩, 57), (⟨"UnsaidRoomModel", "unsaidBy", "(I)I"⟩, 57), (⟨"UnsaidRoomModel", "queues", "(IIIIII)V"⟩, 57), (⟨"UnsaidRoomModel", "laysStays", "()V"⟩, 57)]
theorem lw_r6 : ∀ q ∈ lw_privs_6, lw_okq q := List.forall_mem_cons.mpr ⟨lw_p80, List.forall_mem_cons.mpr ⟨lw_p81, List.forall_mem_cons.mpr ⟨lw_p82, List.forall_mem_cons.mpr ⟨lw_p83, List.forall_mem_cons.mpr ⟨lw_p84, List.forall_mem_cons.mpr ⟨lw_p85, List.forall_mem_cons.mpr ⟨lw_p86, List.forall_mem_cons.mpr ⟨lw_p87, List.forall_mem_cons.mpr ⟨lw_p88, List.forall_mem_cons.mpr ⟨lw_p89, List.forall_mem_cons.mpr ⟨lw_p90, List.forall_mem_cons.mpr ⟨lw_p91, List.forall_mem_cons.mpr ⟨lw_p92, List.forall_mem_cons.mpr ⟨lw_p93, List.forall_mem_cons.mpr ⟨lw_p94, List.forall_mem_cons.mpr ⟨lw_p95, fun _ h => absurd h List.not_mem_nil⟩⟩⟩⟩⟩⟩⟩⟩⟩⟩⟩⟩⟩⟩⟩⟩
theorem lw_p96 : lw_okq (⟨"UnsaidRoomModel", "isAsSeen", "(I)Z"⟩, 57) := ⟨⟨by decide +kernel, by decide +kernel⟩, List.mem_of_getElem? (i := 1123) (by decide +kernel), List.mem_of_getElem? (i := 1726) (by decide +kernel), List.mem_of_getElem? (i := 1727) (by decide +kernel)⟩
theorem lw_p97 : lw_okq (⟨"UnsaidRoomModel", "livesMinute", "()V"⟩, 57) := ⟨⟨by decide +kernel, by decide +kernel⟩, List.mem_of_getElem? (i := 1123) (by decide +kernel), List.mem_of_getElem? (i := 1753) (by decide +kernel), List.mem_of_getElem? (i := 1754) (by decide +kernel)⟩
theorem lw_p98 : lw_okq (⟨"UnsaidRoomModel", "draws", "(I)I"⟩, 57) := ⟨⟨by decide +kernel, by decide +kernel⟩, List.mem_of_getElem? (i := 1123) (by decide +kernel), List.mem_of_getElem? (i := 1757) (by decide +kernel), List.mem_of_getElem? (i := 1758) (by decide +kernel)⟩
theorem lw_p99 : lw_okq (⟨"UnsaidRoomModel", "laysSeen", "(II)V"⟩, 57) := ⟨⟨by decide +kernel, by decide +kernel⟩, List.mem_of_getElem? (i := 1123) (by decide +kernel), List.mem_of_getElem? (i := 1769) (by decide +kernel), List.mem_of_getElem? (i := 1770) (by decide +kernel)⟩
def lw_privs_7 : List (MethodName × Nat) := [(⟨"UnsaidRoomModel", "isAsSeen", "(I)Z"⟩, 57), (⟨"UnsaidRoomModel", "livesMinute", "()V"⟩, 57), (⟨"UnsaidRoomModel", "draws", "(I)I"⟩, 57), (⟨"UnsaidRoomModel", "laysSeen", "(II)V"⟩, 57)]
theorem lw_r7 : ∀ q ∈ lw_privs_7, lw_okq q := List.forall_mem_cons.mpr ⟨lw_p96, List.forall_mem_cons.mpr ⟨lw_p97, List.forall_mem_cons.mpr ⟨lw_p98, List.forall_mem_cons.mpr ⟨lw_p99, fun _ h => absurd h List.not_mem_nil⟩⟩⟩⟩
def lw_privs : List (MethodName × Nat) := lw_privs_1 ++ (lw_privs_2 ++ (lw_privs_3 ++ (lw_privs_4 ++ (lw_privs_5 ++ (lw_privs_6 ++ (lw_privs_7))))))
def lw_tbl : List Cond := k2_sels lw_privs ++ tables_1
theorem lw_privs_ok : ∀ q ∈ lw_privs, lw_okq q := by
  show ∀ q ∈ lw_privs_1 ++ (lw_privs_2 ++ (lw_privs_3 ++ (lw_privs_4 ++ (lw_privs_5 ++ (lw_privs_6 ++ (lw_privs_7)))))), lw_okq q
  exact List.forall_mem_append.mpr ⟨lw_r1, List.forall_mem_append.mpr ⟨lw_r2, List.forall_mem_append.mpr ⟨lw_r3, List.forall_mem_append.mpr ⟨lw_r4, List.forall_mem_append.mpr ⟨lw_r5, List.forall_mem_append.mpr ⟨lw_r6, lw_r7⟩⟩⟩⟩⟩⟩
-- ===== end of PART A; then your names; then what follows =====
end
section
def RX0 : String := "UnsaidRoom$Draws"
def TX0 : u_T := fun k => match k with
  | _ => ("UnsaidRoom$Draws", "state", "J", false)
def tyX0 : Nat → FieldType := fun k => match k with
  | _ => .long
theorem nmX0 : ∀ a, a < 1 → ∀ b, b < 1 → a ≠ b → (TX0 a).2.1 ≠ (TX0 b).2.1 := by decide +kernel
theorem tyX0_ok : ∀ k, k < 1 → parseFieldDescriptor (TX0 k).2.2.1 = some (tyX0 k) := by decide +kernel
abbrev cX0_init : ByteArray := prog_2_method_1_code
def yX0_init : MethodName := ⟨RX0, "<init>", "()V"⟩
abbrev cX0_below : ByteArray := prog_2_method_2_code
def yX0_below : MethodName := ⟨RX0, "below", "(I)I"⟩
def RX1 : String := "UnsaidRoom$Land"
def TX1 : u_T := fun k => match k with
  | 0 => ("UnsaidRoom$Land", "roomNames", "[J", true)
  | 1 => ("UnsaidRoom$Land", "holds", "[I", true)
  | 2 => ("UnsaidRoom$Land", "doors", "[I", true)
  | 3 => ("UnsaidRoom$Land", "personNames", "[J", true)
  | 4 => ("UnsaidRoom$Land", "kinds", "[I", true)
  | 5 => ("UnsaidRoom$Land", "ages", "[I", true)
  | 6 => ("UnsaidRoom$Land", "homes", "[I", true)
  | 7 => ("UnsaidRoom$Land", "law", "LUnsaidRoom$Law;", true)
  | 8 => ("UnsaidRoom$Land", "lawTold", "Z", false)
  | 9 => ("UnsaidRoom$Land", "unsaid", "I", false)
  | 10 => ("UnsaidRoom$Land", "roomCount", "I", false)
  | 11 => ("UnsaidRoom$Land", "doorCount", "I", false)
  | _ => ("UnsaidRoom$Land", "personCount", "I", false)
def tyX1 : Nat → FieldType := fun k => match k with
  | 0 => .array .long
  | 1 => .array .int
  | 2 => .array .int
  | 3 => .array .long
  | 4 => .array .int
  | 5 => .array .int
  | 6 => .array .int
  | 7 => .object "UnsaidRoom$Law"
  | 8 => .boolean
  | 9 => .int
  | 10 => .int
  | 11 => .int
  | _ => .int
theorem nmX1 : ∀ a, a < 13 → ∀ b, b < 13 → a ≠ b → (TX1 a).2.1 ≠ (TX1 b).2.1 := by decide +kernel
theorem tyX1_ok : ∀ k, k < 13 → parseFieldDescriptor (TX1 k).2.2.1 = some (tyX1 k) := by decide +kernel
abbrev cX1_init : ByteArray := prog_3_method_1_code
def yX1_init : MethodName := ⟨RX1, "<init>", "()V"⟩
abbrev cX1_hasRoom : ByteArray := prog_3_method_2_code
def yX1_hasRoom : MethodName := ⟨RX1, "hasRoom", "(I)Z"⟩
abbrev cX1_hasPerson : ByteArray := prog_3_method_3_code
def yX1_hasPerson : MethodName := ⟨RX1, "hasPerson", "(I)Z"⟩
abbrev cX1_isUnsaid : ByteArray := prog_3_method_4_code
def yX1_isUnsaid : MethodName := ⟨RX1, "isUnsaid", "(I)Z"⟩
abbrev cX1_saidRooms : ByteArray := prog_3_method_5_code
def yX1_saidRooms : MethodName := ⟨RX1, "saidRooms", "()I"⟩
abbrev cX1_roomsBeside : ByteArray := prog_3_method_6_code
def yX1_roomsBeside : MethodName := ⟨RX1, "roomsBeside", "(I)I"⟩
abbrev cX1_spread : ByteArray := prog_3_method_7_code
def yX1_spread : MethodName := ⟨RX1, "spread", "(II)I"⟩
abbrev cX1_roomNamed : ByteArray := prog_3_method_8_code
def yX1_roomNamed : MethodName := ⟨RX1, "roomNamed", "(J)I"⟩
abbrev cX1_personNamed : ByteArray := prog_3_method_9_code
def yX1_personNamed : MethodName := ⟨RX1, "personNamed", "(J)I"⟩
abbrev cX1_clear : ByteArray := prog_3_method_10_code
def yX1_clear : MethodName := ⟨RX1, "clear", "()V"⟩
abbrev cX1_readFrom : ByteArray := prog_3_method_11_code
def yX1_readFrom : MethodName := ⟨RX1, "readFrom", "(LUnsaidRoom$Tape;)I"⟩
abbrev cX1_readRoom : ByteArray := prog_3_method_12_code
def yX1_readRoom : MethodName := ⟨RX1, "readRoom", "(LUnsaidRoom$Tape;Z)Z"⟩
abbrev cX1_takeNewName : ByteArray := prog_3_method_13_code
def yX1_takeNewName : MethodName := ⟨RX1, "takeNewName", "(LUnsaidRoom$Tape;)Z"⟩
abbrev cX1_isRoomName : ByteArray := prog_3_method_14_code
def yX1_isRoomName : MethodName := ⟨RX1, "isRoomName", "(LUnsaidRoom$Tape;)Z"⟩
abbrev cX1_readDoor : ByteArray := prog_3_method_15_code
def yX1_readDoor : MethodName := ⟨RX1, "readDoor", "(LUnsaidRoom$Tape;)Z"⟩
abbrev cX1_canJoin : ByteArray := prog_3_method_16_code
def yX1_canJoin : MethodName := ⟨RX1, "canJoin", "(II)Z"⟩
abbrev cX1_readPerson : ByteArray := prog_3_method_17_code
def yX1_readPerson : MethodName := ⟨RX1, "readPerson", "(LUnsaidRoom$Tape;)Z"⟩
abbrev cX1_addPerson : ByteArray := prog_3_method_18_code
def yX1_addPerson : MethodName := ⟨RX1, "addPerson", "(JIII)V"⟩
abbrev cX1_readStays : ByteArray := prog_3_method_19_code
def yX1_readStays : MethodName := ⟨RX1, "readStays", "(LUnsaidRoom$Tape;)Z"⟩
def RX2 : String := "UnsaidRoom$Law"
def TX2 : u_T := fun k => match k with
  | 0 => ("UnsaidRoom$Law", "steps", "[I", true)
  | 1 => ("UnsaidRoom$Law", "stack", "[I", true)
  | 2 => ("UnsaidRoom$Law", "size", "I", false)
  | _ => ("UnsaidRoom$Law", "height", "I", false)
def tyX2 : Nat → FieldType := fun k => match k with
  | 0 => .array .int
  | 1 => .array .int
  | 2 => .int
  | _ => .int
theorem nmX2 : ∀ a, a < 4 → ∀ b, b < 4 → a ≠ b → (TX2 a).2.1 ≠ (TX2 b).2.1 := by decide +kernel
theorem tyX2_ok : ∀ k, k < 4 → parseFieldDescriptor (TX2 k).2.2.1 = some (tyX2 k) := by decide +kernel
abbrev cX2_init : ByteArray := prog_4_method_1_code
def yX2_init : MethodName := ⟨RX2, "<init>", "()V"⟩
abbrev cX2_readLevel : ByteArray := prog_4_method_2_code
def yX2_readLevel : MethodName := ⟨RX2, "readLevel", "(LUnsaidRoom$Tape;II)Z"⟩
abbrev cX2_levelOf : ByteArray := prog_4_method_3_code
def yX2_levelOf : MethodName := ⟨RX2, "levelOf", "(I)I"⟩
abbrev cX2_readPart : ByteArray := prog_4_method_4_code
def yX2_readPart : MethodName := ⟨RX2, "readPart", "(LUnsaidRoom$Tape;I)Z"⟩
abbrev cX2_readInner : ByteArray := prog_4_method_5_code
def yX2_readInner : MethodName := ⟨RX2, "readInner", "(LUnsaidRoom$Tape;I)Z"⟩
abbrev cX2_put : ByteArray := prog_4_method_6_code
def yX2_put : MethodName := ⟨RX2, "put", "(I)V"⟩
abbrev cX2_valueOf : ByteArray := prog_4_method_7_code
def yX2_valueOf : MethodName := ⟨RX2, "valueOf", "(IIII)I"⟩
abbrev cX2_follow : ByteArray := prog_4_method_8_code
def yX2_follow : MethodName := ⟨RX2, "follow", "(I)V"⟩
abbrev cX2_joined : ByteArray := prog_4_method_9_code
def yX2_joined : MethodName := ⟨RX2, "joined", "(III)I"⟩
abbrev cX2_push : ByteArray := prog_4_method_10_code
def yX2_push : MethodName := ⟨RX2, "push", "(I)V"⟩
abbrev cX2_pop : ByteArray := prog_4_method_11_code
def yX2_pop : MethodName := ⟨RX2, "pop", "()I"⟩
def RX3 : String := "UnsaidRoom$Line"
def TX3 : u_T := fun k => match k with
  | 0 => ("UnsaidRoom$Line", "row", "[I", true)
  | 1 => ("UnsaidRoom$Line", "best", "[I", true)
  | 2 => ("UnsaidRoom$Line", "stays", "[I", true)
  | 3 => ("UnsaidRoom$Line", "size", "I", false)
  | _ => ("UnsaidRoom$Line", "bestSum", "I", false)
def tyX3 : Nat → FieldType := fun k => match k with
  | 0 => .array .int
  | 1 => .array .int
  | 2 => .array .int
  | 3 => .int
  | _ => .int
theorem nmX3 : ∀ a, a < 5 → ∀ b, b < 5 → a ≠ b → (TX3 a).2.1 ≠ (TX3 b).2.1 := by decide +kernel
theorem tyX3_ok : ∀ k, k < 5 → parseFieldDescriptor (TX3 k).2.2.1 = some (tyX3 k) := by decide +kernel
abbrev cX3_init : ByteArray := prog_5_method_1_code
def yX3_init : MethodName := ⟨RX3, "<init>", "()V"⟩
abbrev cX3_settle : ByteArray := prog_5_method_2_code
def yX3_settle : MethodName := ⟨RX3, "settle", "(LUnsaidRoom$Land;LUnsaidRoom$Night;II)V"⟩
abbrev cX3_tryRows : ByteArray := prog_5_method_3_code
def yX3_tryRows : MethodName := ⟨RX3, "tryRows", "(IIII)V"⟩
abbrev cX3_keepIfBetter : ByteArray := prog_5_method_4_code
def yX3_keepIfBetter : MethodName := ⟨RX3, "keepIfBetter", "(I)V"⟩
def RX4 : String := "UnsaidRoom$Mark"
def TX4 : u_T := fun k => match k with
  | 0 => ("UnsaidRoom$Mark", "night", "LUnsaidRoom$Night;", true)
  | 1 => ("UnsaidRoom$Mark", "script", "LUnsaidRoom$Script;", true)
  | 2 => ("UnsaidRoom$Mark", "seen", "LUnsaidRoom$Seen;", true)
  | _ => ("UnsaidRoom$Mark", "laid", "Z", false)
def tyX4 : Nat → FieldType := fun k => match k with
  | 0 => .object "UnsaidRoom$Night"
  | 1 => .object "UnsaidRoom$Script"
  | 2 => .object "UnsaidRoom$Seen"
  | _ => .boolean
theorem nmX4 : ∀ a, a < 4 → ∀ b, b < 4 → a ≠ b → (TX4 a).2.1 ≠ (TX4 b).2.1 := by decide +kernel
theorem tyX4_ok : ∀ k, k < 4 → parseFieldDescriptor (TX4 k).2.2.1 = some (tyX4 k) := by decide +kernel
abbrev cX4_init : ByteArray := prog_6_method_1_code
def yX4_init : MethodName := ⟨RX4, "<init>", "()V"⟩
abbrev cX4_lay : ByteArray := prog_6_method_2_code
def yX4_lay : MethodName := ⟨RX4, "lay", "(LUnsaidRoom$Night;LUnsaidRoom$Script;LUnsaidRoom$Seen;)V"⟩
abbrev cX4_giveBack : ByteArray := prog_6_method_3_code
def yX4_giveBack : MethodName := ⟨RX4, "giveBack", "(LUnsaidRoom$Night;LUnsaidRoom$Script;LUnsaidRoom$Seen;)V"⟩
def RX5 : String := "UnsaidRoom$Night"
def TX5 : u_T := fun k => match k with
  | 0 => ("UnsaidRoom$Night", "where", "[I", true)
  | 1 => ("UnsaidRoom$Night", "more", "[I", true)
  | 2 => ("UnsaidRoom$Night", "from", "[I", true)
  | 3 => ("UnsaidRoom$Night", "times", "[I", true)
  | 4 => ("UnsaidRoom$Night", "been", "[I", true)
  | 5 => ("UnsaidRoom$Night", "spoken", "I", false)
  | 6 => ("UnsaidRoom$Night", "burnt", "I", false)
  | 7 => ("UnsaidRoom$Night", "nods", "I", false)
  | _ => ("UnsaidRoom$Night", "time", "I", false)
def tyX5 : Nat → FieldType := fun k => match k with
  | 0 => .array .int
  | 1 => .array .int
  | 2 => .array .int
  | 3 => .array .int
  | 4 => .array .int
  | 5 => .int
  | 6 => .int
  | 7 => .int
  | _ => .int
theorem nmX5 : ∀ a, a < 9 → ∀ b, b < 9 → a ≠ b → (TX5 a).2.1 ≠ (TX5 b).2.1 := by decide +kernel
theorem tyX5_ok : ∀ k, k < 9 → parseFieldDescriptor (TX5 k).2.2.1 = some (tyX5 k) := by decide +kernel
abbrev cX5_init : ByteArray := prog_7_method_1_code
def yX5_init : MethodName := ⟨RX5, "<init>", "()V"⟩
abbrev cX5_begin : ByteArray := prog_7_method_2_code
def yX5_begin : MethodName := ⟨RX5, "begin", "(LUnsaidRoom$Land;)V"⟩
abbrev cX5_copyFrom : ByteArray := prog_7_method_3_code
def yX5_copyFrom : MethodName := ⟨RX5, "copyFrom", "(LUnsaidRoom$Night;)V"⟩
abbrev cX5_isInside : ByteArray := prog_7_method_4_code
def yX5_isInside : MethodName := ⟨RX5, "isInside", "(I)Z"⟩
abbrev cX5_allInside : ByteArray := prog_7_method_5_code
def yX5_allInside : MethodName := ⟨RX5, "allInside", "(LUnsaidRoom$Land;)I"⟩
abbrev cX5_allBeen : ByteArray := prog_7_method_6_code
def yX5_allBeen : MethodName := ⟨RX5, "allBeen", "(LUnsaidRoom$Land;)I"⟩
abbrev cX5_personsIn : ByteArray := prog_7_method_7_code
def yX5_personsIn : MethodName := ⟨RX5, "personsIn", "(LUnsaidRoom$Land;I)I"⟩
abbrev cX5_hostOf : ByteArray := prog_7_method_8_code
def yX5_hostOf : MethodName := ⟨RX5, "hostOf", "(LUnsaidRoom$Land;I)I"⟩
abbrev cX5_standsBeside : ByteArray := prog_7_method_9_code
def yX5_standsBeside : MethodName := ⟨RX5, "standsBeside", "(LUnsaidRoom$Land;II)Z"⟩
abbrev cX5_canWalk : ByteArray := prog_7_method_10_code
def yX5_canWalk : MethodName := ⟨RX5, "canWalk", "(LUnsaidRoom$Land;II)Z"⟩
abbrev cX5_tryWalk : ByteArray := prog_7_method_11_code
def yX5_tryWalk : MethodName := ⟨RX5, "tryWalk", "(LUnsaidRoom$Land;II)Z"⟩
abbrev cX5_isLet : ByteArray := prog_7_method_12_code
def yX5_isLet : MethodName := ⟨RX5, "isLet", "(LUnsaidRoom$Land;I)Z"⟩
abbrev cX5_canShow : ByteArray := prog_7_method_13_code
def yX5_canShow : MethodName := ⟨RX5, "canShow", "(LUnsaidRoom$Land;II)Z"⟩
abbrev cX5_tryShow : ByteArray := prog_7_method_14_code
def yX5_tryShow : MethodName := ⟨RX5, "tryShow", "(LUnsaidRoom$Land;II)I"⟩
abbrev cX5_stayOf : ByteArray := prog_7_method_15_code
def yX5_stayOf : MethodName := ⟨RX5, "stayOf", "(LUnsaidRoom$Land;III)I"⟩
abbrev cX5_canSpeak : ByteArray := prog_7_method_16_code
def yX5_canSpeak : MethodName := ⟨RX5, "canSpeak", "(LUnsaidRoom$Land;I)Z"⟩
abbrev cX5_trySpeak : ByteArray := prog_7_method_17_code
def yX5_trySpeak : MethodName := ⟨RX5, "trySpeak", "(LUnsaidRoom$Land;I)Z"⟩
abbrev cX5_flamesFrom : ByteArray := prog_7_method_18_code
def yX5_flamesFrom : MethodName := ⟨RX5, "flamesFrom", "(LUnsaidRoom$Land;I)I"⟩
abbrev cX5_tryBurn : ByteArray := prog_7_method_19_code
def yX5_tryBurn : MethodName := ⟨RX5, "tryBurn", "(LUnsaidRoom$Land;I)I"⟩
abbrev cX5_passMinute : ByteArray := prog_7_method_20_code
def yX5_passMinute : MethodName := ⟨RX5, "passMinute", "(LUnsaidRoom$Land;)I"⟩
abbrev cX5_comesOut : ByteArray := prog_7_method_21_code
def yX5_comesOut : MethodName := ⟨RX5, "comesOut", "(LUnsaidRoom$Land;I)Z"⟩
abbrev cX5_exitOf : ByteArray := prog_7_method_22_code
def yX5_exitOf : MethodName := ⟨RX5, "exitOf", "(LUnsaidRoom$Land;I)I"⟩
abbrev cX5_follow : ByteArray := prog_7_method_23_code
def yX5_follow : MethodName := ⟨RX5, "follow", "(LUnsaidRoom$Land;III)Z"⟩
def RX6 : String := "UnsaidRoom$Script"
def TX6 : u_T := fun k => match k with
  | 0 => ("UnsaidRoom$Script", "words", "[I", true)
  | 1 => ("UnsaidRoom$Script", "persons", "[I", true)
  | 2 => ("UnsaidRoom$Script", "rooms", "[I", true)
  | _ => ("UnsaidRoom$Script", "size", "I", false)
def tyX6 : Nat → FieldType := fun k => match k with
  | 0 => .array .int
  | 1 => .array .int
  | 2 => .array .int
  | _ => .int
theorem nmX6 : ∀ a, a < 4 → ∀ b, b < 4 → a ≠ b → (TX6 a).2.1 ≠ (TX6 b).2.1 := by decide +kernel
theorem tyX6_ok : ∀ k, k < 4 → parseFieldDescriptor (TX6 k).2.2.1 = some (tyX6 k) := by decide +kernel
abbrev cX6_init : ByteArray := prog_8_method_1_code
def yX6_init : MethodName := ⟨RX6, "<init>", "()V"⟩
abbrev cX6_copyFrom : ByteArray := prog_8_method_2_code
def yX6_copyFrom : MethodName := ⟨RX6, "copyFrom", "(LUnsaidRoom$Script;)V"⟩
abbrev cX6_readFrom : ByteArray := prog_8_method_3_code
def yX6_readFrom : MethodName := ⟨RX6, "readFrom", "(LUnsaidRoom$Tape;LUnsaidRoom$Land;)I"⟩
abbrev cX6_readLine : ByteArray := prog_8_method_4_code
def yX6_readLine : MethodName := ⟨RX6, "readLine", "(LUnsaidRoom$Tape;LUnsaidRoom$Land;)Z"⟩
abbrev cX6_readPerson : ByteArray := prog_8_method_5_code
def yX6_readPerson : MethodName := ⟨RX6, "readPerson", "(LUnsaidRoom$Tape;LUnsaidRoom$Land;)Z"⟩
abbrev cX6_readRoom : ByteArray := prog_8_method_6_code
def yX6_readRoom : MethodName := ⟨RX6, "readRoom", "(LUnsaidRoom$Tape;LUnsaidRoom$Land;)Z"⟩
def RX7 : String := "UnsaidRoom$Seen"
def TX7 : u_T := fun k => match k with
  | 0 => ("UnsaidRoom$Seen", "persons", "[I", true)
  | 1 => ("UnsaidRoom$Seen", "minutes", "[I", true)
  | 2 => ("UnsaidRoom$Seen", "so", "I", false)
  | _ => ("UnsaidRoom$Seen", "size", "I", false)
def tyX7 : Nat → FieldType := fun k => match k with
  | 0 => .array .int
  | 1 => .array .int
  | 2 => .int
  | _ => .int
theorem nmX7 : ∀ a, a < 4 → ∀ b, b < 4 → a ≠ b → (TX7 a).2.1 ≠ (TX7 b).2.1 := by decide +kernel
theorem tyX7_ok : ∀ k, k < 4 → parseFieldDescriptor (TX7 k).2.2.1 = some (tyX7 k) := by decide +kernel
abbrev cX7_init : ByteArray := prog_9_method_1_code
def yX7_init : MethodName := ⟨RX7, "<init>", "()V"⟩
abbrev cX7_put : ByteArray := prog_9_method_2_code
def yX7_put : MethodName := ⟨RX7, "put", "(IIZ)Z"⟩
abbrev cX7_copyFrom : ByteArray := prog_9_method_3_code
def yX7_copyFrom : MethodName := ⟨RX7, "copyFrom", "(LUnsaidRoom$Seen;)V"⟩
def RX8 : String := "UnsaidRoom$Tape"
def TX8 : u_T := fun k => match k with
  | 0 => ("UnsaidRoom$Tape", "signs", "[C", true)
  | 1 => ("UnsaidRoom$Tape", "length", "I", false)
  | 2 => ("UnsaidRoom$Tape", "next", "I", false)
  | 3 => ("UnsaidRoom$Tape", "place", "I", false)
  | 4 => ("UnsaidRoom$Tape", "kind", "I", false)
  | 5 => ("UnsaidRoom$Tape", "word", "J", false)
  | 6 => ("UnsaidRoom$Tape", "number", "I", false)
  | _ => ("UnsaidRoom$Tape", "fault", "I", false)
def tyX8 : Nat → FieldType := fun k => match k with
  | 0 => .array .char
  | 1 => .int
  | 2 => .int
  | 3 => .int
  | 4 => .int
  | 5 => .long
  | 6 => .int
  | _ => .int
theorem nmX8 : ∀ a, a < 8 → ∀ b, b < 8 → a ≠ b → (TX8 a).2.1 ≠ (TX8 b).2.1 := by decide +kernel
theorem tyX8_ok : ∀ k, k < 8 → parseFieldDescriptor (TX8 k).2.2.1 = some (tyX8 k) := by decide +kernel
abbrev cX8_init : ByteArray := prog_10_method_1_code
def yX8_init : MethodName := ⟨RX8, "<init>", "()V"⟩
abbrev cX8_put : ByteArray := prog_10_method_2_code
def yX8_put : MethodName := ⟨RX8, "put", "(I)V"⟩
abbrev cX8_begin : ByteArray := prog_10_method_3_code
def yX8_begin : MethodName := ⟨RX8, "begin", "()V"⟩
abbrev cX8_advance : ByteArray := prog_10_method_4_code
def yX8_advance : MethodName := ⟨RX8, "advance", "()V"⟩
abbrev cX8_takeWord : ByteArray := prog_10_method_5_code
def yX8_takeWord : MethodName := ⟨RX8, "takeWord", "()V"⟩
abbrev cX8_takeDigits : ByteArray := prog_10_method_6_code
def yX8_takeDigits : MethodName := ⟨RX8, "takeDigits", "()V"⟩
abbrev cX8_fail : ByteArray := prog_10_method_7_code
def yX8_fail : MethodName := ⟨RX8, "fail", "(I)Z"⟩
abbrev cX8_take : ByteArray := prog_10_method_8_code
def yX8_take : MethodName := ⟨RX8, "take", "(I)Z"⟩
abbrev cX8_isNumber : ByteArray := prog_10_method_9_code
def yX8_isNumber : MethodName := ⟨RX8, "isNumber", "(II)Z"⟩
def RX9 : String := "UnsaidRoom"
def TX9 : u_T := fun k => match k with
  | 0 => ("UnsaidRoom", "tape", "LUnsaidRoom$Tape;", true)
  | 1 => ("UnsaidRoom", "land", "LUnsaidRoom$Land;", false)
  | 2 => ("UnsaidRoom", "landDraft", "LUnsaidRoom$Land;", false)
  | 3 => ("UnsaidRoom", "script", "LUnsaidRoom$Script;", false)
  | 4 => ("UnsaidRoom", "scriptDraft", "LUnsaidRoom$Script;", false)
  | 5 => ("UnsaidRoom", "now", "LUnsaidRoom$Night;", true)
  | 6 => ("UnsaidRoom", "trial", "LUnsaidRoom$Night;", true)
  | 7 => ("UnsaidRoom", "seen", "LUnsaidRoom$Seen;", true)
  | 8 => ("UnsaidRoom", "past", "[LUnsaidRoom$Night;", true)
  | 9 => ("UnsaidRoom", "pastEnd", "I", false)
  | 10 => ("UnsaidRoom", "pastSize", "I", false)
  | 11 => ("UnsaidRoom", "marks", "[LUnsaidRoom$Mark;", true)
  | 12 => ("UnsaidRoom", "line", "LUnsaidRoom$Line;", true)
  | 13 => ("UnsaidRoom", "draws", "LUnsaidRoom$Draws;", true)
  | _ => ("UnsaidRoom", "keeping", "[I", true)
def tyX9 : Nat → FieldType := fun k => match k with
  | 0 => .object "UnsaidRoom$Tape"
  | 1 => .object "UnsaidRoom$Land"
  | 2 => .object "UnsaidRoom$Land"
  | 3 => .object "UnsaidRoom$Script"
  | 4 => .object "UnsaidRoom$Script"
  | 5 => .object "UnsaidRoom$Night"
  | 6 => .object "UnsaidRoom$Night"
  | 7 => .object "UnsaidRoom$Seen"
  | 8 => .array (.object "UnsaidRoom$Night")
  | 9 => .int
  | 10 => .int
  | 11 => .array (.object "UnsaidRoom$Mark")
  | 12 => .object "UnsaidRoom$Line"
  | 13 => .object "UnsaidRoom$Draws"
  | _ => .array .int
theorem nmX9 : ∀ a, a < 15 → ∀ b, b < 15 → a ≠ b → (TX9 a).2.1 ≠ (TX9 b).2.1 := by decide +kernel
theorem tyX9_ok : ∀ k, k < 15 → parseFieldDescriptor (TX9 k).2.2.1 = some (tyX9 k) := by decide +kernel
abbrev cX9_init : ByteArray := prog_1_method_1_code
def yX9_init : MethodName := ⟨RX9, "<init>", "()V"⟩
abbrev cX9_feed : ByteArray := prog_1_method_2_code
def yX9_feed : MethodName := ⟨RX9, "feed", "(JJJ)I"⟩
abbrev cX9_feedBytes : ByteArray := prog_1_method_3_code
def yX9_feedBytes : MethodName := ⟨RX9, "feedBytes", "(J)V"⟩
abbrev cX9_marches : ByteArray := prog_1_method_4_code
def yX9_marches : MethodName := ⟨RX9, "marches", "()I"⟩
abbrev cX9_beginAnew : ByteArray := prog_1_method_5_code
def yX9_beginAnew : MethodName := ⟨RX9, "beginAnew", "()V"⟩
abbrev cX9_evening : ByteArray := prog_1_method_6_code
def yX9_evening : MethodName := ⟨RX9, "evening", "()I"⟩
abbrev cX9_room : ByteArray := prog_1_method_7_code
def yX9_room : MethodName := ⟨RX9, "room", "(II)I"⟩
abbrev cX9_person : ByteArray := prog_1_method_8_code
def yX9_person : MethodName := ⟨RX9, "person", "(II)I"⟩
abbrev cX9_walk : ByteArray := prog_1_method_9_code
def yX9_walk : MethodName := ⟨RX9, "walk", "(II)Z"⟩
abbrev cX9_show : ByteArray := prog_1_method_10_code
def yX9_show : MethodName := ⟨RX9, "show", "(II)I"⟩
abbrev cX9_speak : ByteArray := prog_1_method_11_code
def yX9_speak : MethodName := ⟨RX9, "speak", "(I)Z"⟩
abbrev cX9_burn : ByteArray := prog_1_method_12_code
def yX9_burn : MethodName := ⟨RX9, "burn", "(I)I"⟩
abbrev cX9_minute : ByteArray := prog_1_method_13_code
def yX9_minute : MethodName := ⟨RX9, "minute", "()I"⟩
abbrev cX9_remember : ByteArray := prog_1_method_14_code
def yX9_remember : MethodName := ⟨RX9, "remember", "()V"⟩
abbrev cX9_undo : ByteArray := prog_1_method_15_code
def yX9_undo : MethodName := ⟨RX9, "undo", "()Z"⟩
abbrev cX9_judged : ByteArray := prog_1_method_16_code
def yX9_judged : MethodName := ⟨RX9, "judged", "(I)I"⟩
abbrev cX9_host : ByteArray := prog_1_method_17_code
def yX9_host : MethodName := ⟨RX9, "host", "(I)I"⟩
abbrev cX9_frees : ByteArray := prog_1_method_18_code
def yX9_frees : MethodName := ⟨RX9, "frees", "(I)I"⟩
abbrev cX9_minutesTillFree : ByteArray := prog_1_method_19_code
def yX9_minutesTillFree : MethodName := ⟨RX9, "minutesTillFree", "(I)I"⟩
abbrev cX9_later : ByteArray := prog_1_method_20_code
def yX9_later : MethodName := ⟨RX9, "later", "(II)I"⟩
abbrev cX9_out : ByteArray := prog_1_method_21_code
def yX9_out : MethodName := ⟨RX9, "out", "(I)I"⟩
abbrev cX9_calm : ByteArray := prog_1_method_22_code
def yX9_calm : MethodName := ⟨RX9, "calm", "()I"⟩
abbrev cX9_may : ByteArray := prog_1_method_23_code
def yX9_may : MethodName := ⟨RX9, "may", "(I)I"⟩
abbrev cX9_roomsToBeShown : ByteArray := prog_1_method_24_code
def yX9_roomsToBeShown : MethodName := ⟨RX9, "roomsToBeShown", "(I)I"⟩
abbrev cX9_goes : ByteArray := prog_1_method_25_code
def yX9_goes : MethodName := ⟨RX9, "goes", "(I)I"⟩
abbrev cX9_roomsToWalkTo : ByteArray := prog_1_method_26_code
def yX9_roomsToWalkTo : MethodName := ⟨RX9, "roomsToWalkTo", "(I)I"⟩
abbrev cX9_stay : ByteArray := prog_1_method_27_code
def yX9_stay : MethodName := ⟨RX9, "stay", "(II)I"⟩
abbrev cX9_openRooms : ByteArray := prog_1_method_28_code
def yX9_openRooms : MethodName := ⟨RX9, "openRooms", "()I"⟩
abbrev cX9_isOpen : ByteArray := prog_1_method_29_code
def yX9_isOpen : MethodName := ⟨RX9, "isOpen", "(I)Z"⟩
abbrev cX9_reach : ByteArray := prog_1_method_30_code
def yX9_reach : MethodName := ⟨RX9, "reach", "(I)I"⟩
abbrev cX9_far : ByteArray := prog_1_method_31_code
def yX9_far : MethodName := ⟨RX9, "far", "(II)I"⟩
abbrev cX9_halls : ByteArray := prog_1_method_32_code
def yX9_halls : MethodName := ⟨RX9, "halls", "()I"⟩
abbrev cX9_hinges : ByteArray := prog_1_method_33_code
def yX9_hinges : MethodName := ⟨RX9, "hinges", "()I"⟩
abbrev cX9_cuts : ByteArray := prog_1_method_34_code
def yX9_cuts : MethodName := ⟨RX9, "cuts", "(II)Z"⟩
abbrev cX9_lines : ByteArray := prog_1_method_35_code
def yX9_lines : MethodName := ⟨RX9, "lines", "(I)I"⟩
abbrev cX9_fire : ByteArray := prog_1_method_36_code
def yX9_fire : MethodName := ⟨RX9, "fire", "(II)I"⟩
abbrev cX9_queue : ByteArray := prog_1_method_37_code
def yX9_queue : MethodName := ⟨RX9, "queue", "(II)I"⟩
abbrev cX9_longest : ByteArray := prog_1_method_38_code
def yX9_longest : MethodName := ⟨RX9, "longest", "()I"⟩
abbrev cX9_as : ByteArray := prog_1_method_39_code
def yX9_as : MethodName := ⟨RX9, "as", "()I"⟩
abbrev cX9_been : ByteArray := prog_1_method_40_code
def yX9_been : MethodName := ⟨RX9, "been", "(I)I"⟩
abbrev cX9_alike : ByteArray := prog_1_method_41_code
def yX9_alike : MethodName := ⟨RX9, "alike", "()Z"⟩
abbrev cX9_mostKeptAlike : ByteArray := prog_1_method_42_code
def yX9_mostKeptAlike : MethodName := ⟨RX9, "mostKeptAlike", "(II)I"⟩
abbrev cX9_roomsKeeping : ByteArray := prog_1_method_43_code
def yX9_roomsKeeping : MethodName := ⟨RX9, "roomsKeeping", "(II)I"⟩
abbrev cX9_widows : ByteArray := prog_1_method_44_code
def yX9_widows : MethodName := ⟨RX9, "widows", "()I"⟩
abbrev cX9_see : ByteArray := prog_1_method_45_code
def yX9_see : MethodName := ⟨RX9, "see", "(IIZ)Z"⟩
abbrev cX9_which : ByteArray := prog_1_method_46_code
def yX9_which : MethodName := ⟨RX9, "which", "()I"⟩
abbrev cX9_ask : ByteArray := prog_1_method_47_code
def yX9_ask : MethodName := ⟨RX9, "ask", "()I"⟩
abbrev cX9_chance : ByteArray := prog_1_method_48_code
def yX9_chance : MethodName := ⟨RX9, "chance", "(IIII)I"⟩
abbrev cX9_rests : ByteArray := prog_1_method_49_code
def yX9_rests : MethodName := ⟨RX9, "rests", "(IIII)I"⟩
abbrev cX9_isPrize : ByteArray := prog_1_method_50_code
def yX9_isPrize : MethodName := ⟨RX9, "isPrize", "(I)Z"⟩
abbrev cX9_isAtRest : ByteArray := prog_1_method_51_code
def yX9_isAtRest : MethodName := ⟨RX9, "isAtRest", "(IIII)Z"⟩
abbrev cX9_prize : ByteArray := prog_1_method_52_code
def yX9_prize : MethodName := ⟨RX9, "prize", "(IIIII)I"⟩
abbrev cX9_evenings : ByteArray := prog_1_method_53_code
def yX9_evenings : MethodName := ⟨RX9, "evenings", "(III)I"⟩
abbrev cX9_followDraws : ByteArray := prog_1_method_54_code
def yX9_followDraws : MethodName := ⟨RX9, "followDraws", "()V"⟩
abbrev cX9_mark : ByteArray := prog_1_method_55_code
def yX9_mark : MethodName := ⟨RX9, "mark", "(IZ)Z"⟩
abbrev cX9_count : ByteArray := prog_1_method_56_code
def yX9_count : MethodName := ⟨RX9, "count", "(I)I"⟩
abbrev cX9_bit : ByteArray := prog_1_method_57_code
def yX9_bit : MethodName := ⟨RX9, "bit", "(II)I"⟩
abbrev cX9_numberIn : ByteArray := prog_1_method_58_code
def yX9_numberIn : MethodName := ⟨RX9, "numberIn", "(Ljava/lang/String;J)I"⟩
def RX10 : String := "UnsaidRoomModel"
def TX10 : u_T := fun k => match k with
  | 0 => ("UnsaidRoomModel", "thrown", "I", false)
  | 1 => ("UnsaidRoomModel", "taped", "I", false)
  | 2 => ("UnsaidRoomModel", "tape", "[I", true)
  | 3 => ("UnsaidRoomModel", "size", "I", false)
  | 4 => ("UnsaidRoomModel", "place", "I", false)
  | 5 => ("UnsaidRoomModel", "begin", "I", false)
  | 6 => ("UnsaidRoomModel", "token", "I", false)
  | 7 => ("UnsaidRoomModel", "word", "J", false)
  | 8 => ("UnsaidRoomModel", "told", "I", false)
  | 9 => ("UnsaidRoomModel", "wrong", "I", false)
  | 10 => ("UnsaidRoomModel", "marches", "[I", true)
  | 11 => ("UnsaidRoomModel", "roomName", "[J", true)
  | 12 => ("UnsaidRoomModel", "holds", "[I", true)
  | 13 => ("UnsaidRoomModel", "doorsOf", "[I", true)
  | 14 => ("UnsaidRoomModel", "personName", "[J", true)
  | 15 => ("UnsaidRoomModel", "kind", "[I", true)
  | 16 => ("UnsaidRoomModel", "age", "[I", true)
  | 17 => ("UnsaidRoomModel", "inTold", "[I", true)
  | 18 => ("UnsaidRoomModel", "lineFrom", "[I", true)
  | 19 => ("UnsaidRoomModel", "lineTo", "[I", true)
  | 20 => ("UnsaidRoomModel", "codes", "[I", true)
  | 21 => ("UnsaidRoomModel", "code", "I", false)
  | 22 => ("UnsaidRoomModel", "opened", "[I", true)
  | 23 => ("UnsaidRoomModel", "compared", "[Z", true)
  | 24 => ("UnsaidRoomModel", "kept", "[I", true)
  | 25 => ("UnsaidRoomModel", "keptBy", "[I", true)
  | 26 => ("UnsaidRoomModel", "ahead", "[I", true)
  | 27 => ("UnsaidRoomModel", "against", "[I", true)
  | 28 => ("UnsaidRoomModel", "sum", "[I", true)
  | 29 => ("UnsaidRoomModel", "sumBy", "[I", true)
  | 30 => ("UnsaidRoomModel", "term", "[I", true)
  | 31 => ("UnsaidRoomModel", "termBy", "[I", true)
  | 32 => ("UnsaidRoomModel", "byNot", "[I", true)
  | 33 => ("UnsaidRoomModel", "valueOf", "[I", true)
  | 34 => ("UnsaidRoomModel", "given", "I", false)
  | 35 => ("UnsaidRoomModel", "fresh", "J", false)
  | 36 => ("UnsaidRoomModel", "lines", "[I", true)
  | 37 => ("UnsaidRoomModel", "lineWhat", "[I", true)
  | 38 => ("UnsaidRoomModel", "lineA", "[I", true)
  | 39 => ("UnsaidRoomModel", "lineB", "[I", true)
  | 40 => ("UnsaidRoomModel", "seens", "[I", true)
  | 41 => ("UnsaidRoomModel", "seenBy", "[I", true)
  | 42 => ("UnsaidRoomModel", "seenLong", "[I", true)
  | 43 => ("UnsaidRoomModel", "seenSo", "[Z", true)
  | 44 => ("UnsaidRoomModel", "s", "[I", true)
  | 45 => ("UnsaidRoomModel", "aside", "[I", true)
  | 46 => ("UnsaidRoomModel", "before", "[I", true)
  | 47 => ("UnsaidRoomModel", "marked", "[I", true)
  | 48 => ("UnsaidRoomModel", "undone", "[I", true)
  | 49 => ("UnsaidRoomModel", "isLaid", "[Z", true)
  | 50 => ("UnsaidRoomModel", "done", "I", false)
  | 51 => ("UnsaidRoomModel", "row", "[I", true)
  | 52 => ("UnsaidRoomModel", "bestRow", "[I", true)
  | 53 => ("UnsaidRoomModel", "bestMuch", "I", false)
  | 54 => ("UnsaidRoomModel", "stays", "[I", true)
  | 55 => ("UnsaidRoomModel", "alikes", "[I", true)
  | _ => ("UnsaidRoomModel", "g", "J", false)
def tyX10 : Nat → FieldType := fun k => match k with
  | 0 => .int
  | 1 => .int
  | 2 => .array .int
  | 3 => .int
  | 4 => .int
  | 5 => .int
  | 6 => .int
  | 7 => .long
  | 8 => .int
  | 9 => .int
  | 10 => .array .int
  | 11 => .array .long
  | 12 => .array .int
  | 13 => .array .int
  | 14 => .array .long
  | 15 => .array .int
  | 16 => .array .int
  | 17 => .array .int
  | 18 => .array .int
  | 19 => .array .int
  | 20 => .array .int
  | 21 => .int
  | 22 => .array .int
  | 23 => .array .boolean
  | 24 => .array .int
  | 25 => .array .int
  | 26 => .array .int
  | 27 => .array .int
  | 28 => .array .int
  | 29 => .array .int
  | 30 => .array .int
  | 31 => .array .int
  | 32 => .array .int
  | 33 => .array .int
  | 34 => .int
  | 35 => .long
  | 36 => .array .int
  | 37 => .array .int
  | 38 => .array .int
  | 39 => .array .int
  | 40 => .array .int
  | 41 => .array .int
  | 42 => .array .int
  | 43 => .array .boolean
  | 44 => .array .int
  | 45 => .array .int
  | 46 => .array .int
  | 47 => .array .int
  | 48 => .array .int
  | 49 => .array .boolean
  | 50 => .int
  | 51 => .array .int
  | 52 => .array .int
  | 53 => .int
  | 54 => .array .int
  | 55 => .array .int
  | _ => .long
theorem nmX10 : ∀ a, a < 57 → ∀ b, b < 57 → a ≠ b → (TX10 a).2.1 ≠ (TX10 b).2.1 := by decide +kernel
theorem tyX10_ok : ∀ k, k < 57 → parseFieldDescriptor (TX10 k).2.2.1 = some (tyX10 k) := by decide +kernel
abbrev cX10_init : ByteArray := prog_12_method_1_code
def yX10_init : MethodName := ⟨RX10, "<init>", "()V"⟩
abbrev cX10_thrown : ByteArray := prog_12_method_2_code
def yX10_thrown : MethodName := ⟨RX10, "thrown", "()I"⟩
abbrev cX10_within : ByteArray := prog_12_method_3_code
def yX10_within : MethodName := ⟨RX10, "within", "(III)Z"⟩
abbrev cX10_between : ByteArray := prog_12_method_4_code
def yX10_between : MethodName := ⟨RX10, "between", "(III)I"⟩
abbrev cX10_bits : ByteArray := prog_12_method_5_code
def yX10_bits : MethodName := ⟨RX10, "bits", "(I)I"⟩
abbrev cX10_feed : ByteArray := prog_12_method_6_code
def yX10_feed : MethodName := ⟨RX10, "feed", "(JJJ)I"⟩
abbrev cX10_signAt : ByteArray := prog_12_method_7_code
def yX10_signAt : MethodName := ⟨RX10, "signAt", "(I)I"⟩
abbrev cX10_nextToken : ByteArray := prog_12_method_8_code
def yX10_nextToken : MethodName := ⟨RX10, "nextToken", "()V"⟩
abbrev cX10_isWord : ByteArray := prog_12_method_9_code
def yX10_isWord : MethodName := ⟨RX10, "isWord", "(J)Z"⟩
abbrev cX10_isSign : ByteArray := prog_12_method_10_code
def yX10_isSign : MethodName := ⟨RX10, "isSign", "(I)Z"⟩
abbrev cX10_fails : ByteArray := prog_12_method_11_code
def yX10_fails : MethodName := ⟨RX10, "fails", "(I)Z"⟩
abbrev cX10_puts : ByteArray := prog_12_method_12_code
def yX10_puts : MethodName := ⟨RX10, "puts", "(I)V"⟩
abbrev cX10_fact : ByteArray := prog_12_method_13_code
def yX10_fact : MethodName := ⟨RX10, "fact", "()I"⟩
abbrev cX10_reads : ByteArray := prog_12_method_14_code
def yX10_reads : MethodName := ⟨RX10, "reads", "()Z"⟩
abbrev cX10_opens : ByteArray := prog_12_method_15_code
def yX10_opens : MethodName := ⟨RX10, "opens", "(I)V"⟩
abbrev cX10_sums : ByteArray := prog_12_method_16_code
def yX10_sums : MethodName := ⟨RX10, "sums", "(I)V"⟩
abbrev cX10_tests : ByteArray := prog_12_method_17_code
def yX10_tests : MethodName := ⟨RX10, "tests", "(I)V"⟩
abbrev cX10_worked : ByteArray := prog_12_method_18_code
def yX10_worked : MethodName := ⟨RX10, "worked", "(I)I"⟩
abbrev cX10_isKept : ByteArray := prog_12_method_19_code
def yX10_isKept : MethodName := ⟨RX10, "isKept", "()Z"⟩
abbrev cX10_roomNamed : ByteArray := prog_12_method_20_code
def yX10_roomNamed : MethodName := ⟨RX10, "roomNamed", "(I)I"⟩
abbrev cX10_personNamed : ByteArray := prog_12_method_21_code
def yX10_personNamed : MethodName := ⟨RX10, "personNamed", "(I)I"⟩
abbrev cX10_needsBoth : ByteArray := prog_12_method_22_code
def yX10_needsBoth : MethodName := ⟨RX10, "needsBoth", "(JII)Z"⟩
abbrev cX10_closes : ByteArray := prog_12_method_23_code
def yX10_closes : MethodName := ⟨RX10, "closes", "()Z"⟩
abbrev cX10_needsNew : ByteArray := prog_12_method_24_code
def yX10_needsNew : MethodName := ⟨RX10, "needsNew", "()Z"⟩
abbrev cX10_needsRoom : ByteArray := prog_12_method_25_code
def yX10_needsRoom : MethodName := ⟨RX10, "needsRoom", "(I)Z"⟩
abbrev cX10_readsRoom : ByteArray := prog_12_method_26_code
def yX10_readsRoom : MethodName := ⟨RX10, "readsRoom", "(Z)Z"⟩
abbrev cX10_readsDoor : ByteArray := prog_12_method_27_code
def yX10_readsDoor : MethodName := ⟨RX10, "readsDoor", "()Z"⟩
abbrev cX10_readsPerson : ByteArray := prog_12_method_28_code
def yX10_readsPerson : MethodName := ⟨RX10, "readsPerson", "()Z"⟩
abbrev cX10_readsStays : ByteArray := prog_12_method_29_code
def yX10_readsStays : MethodName := ⟨RX10, "readsStays", "()Z"⟩
abbrev cX10_begins : ByteArray := prog_12_method_30_code
def yX10_begins : MethodName := ⟨RX10, "begins", "()V"⟩
abbrev cX10_readsAll : ByteArray := prog_12_method_31_code
def yX10_readsAll : MethodName := ⟨RX10, "readsAll", "()Z"⟩
abbrev cX10_shifts : ByteArray := prog_12_method_32_code
def yX10_shifts : MethodName := ⟨RX10, "shifts", "([II)V"⟩
abbrev cX10_shiftsNames : ByteArray := prog_12_method_33_code
def yX10_shiftsNames : MethodName := ⟨RX10, "shiftsNames", "([JI)V"⟩
abbrev cX10_lays : ByteArray := prog_12_method_34_code
def yX10_lays : MethodName := ⟨RX10, "lays", "()V"⟩
abbrev cX10_copies : ByteArray := prog_12_method_35_code
def yX10_copies : MethodName := ⟨RX10, "copies", "([II[II)V"⟩
abbrev cX10_readsLine : ByteArray := prog_12_method_36_code
def yX10_readsLine : MethodName := ⟨RX10, "readsLine", "()Z"⟩
abbrev cX10_laysLines : ByteArray := prog_12_method_37_code
def yX10_laysLines : MethodName := ⟨RX10, "laysLines", "(II)V"⟩
abbrev cX10_laysSeen : ByteArray := prog_12_method_38_code
def yX10_laysSeen : MethodName := ⟨RX10, "laysSeen", "(II)V"⟩
abbrev cX10_fresh0 : ByteArray := prog_12_method_39_code
def yX10_fresh0 : MethodName := ⟨RX10, "fresh0", "()V"⟩
abbrev cX10_marches : ByteArray := prog_12_method_40_code
def yX10_marches : MethodName := ⟨RX10, "marches", "()I"⟩
abbrev cX10_evening : ByteArray := prog_12_method_41_code
def yX10_evening : MethodName := ⟨RX10, "evening", "()I"⟩
abbrev cX10_isRoom : ByteArray := prog_12_method_42_code
def yX10_isRoom : MethodName := ⟨RX10, "isRoom", "(I)Z"⟩
abbrev cX10_isPerson : ByteArray := prog_12_method_43_code
def yX10_isPerson : MethodName := ⟨RX10, "isPerson", "(I)Z"⟩
abbrev cX10_isUnsaid : ByteArray := prog_12_method_44_code
def yX10_isUnsaid : MethodName := ⟨RX10, "isUnsaid", "(I)Z"⟩
abbrev cX10_unsaids : ByteArray := prog_12_method_45_code
def yX10_unsaids : MethodName := ⟨RX10, "unsaids", "()I"⟩
abbrev cX10_open : ByteArray := prog_12_method_46_code
def yX10_open : MethodName := ⟨RX10, "open", "()I"⟩
abbrev cX10_isOpen : ByteArray := prog_12_method_47_code
def yX10_isOpen : MethodName := ⟨RX10, "isOpen", "(I)Z"⟩
abbrev cX10_isInside : ByteArray := prog_12_method_48_code
def yX10_isInside : MethodName := ⟨RX10, "isInside", "(I)Z"⟩
abbrev cX10_hostOf : ByteArray := prog_12_method_49_code
def yX10_hostOf : MethodName := ⟨RX10, "hostOf", "(I)I"⟩
abbrev cX10_insiders : ByteArray := prog_12_method_50_code
def yX10_insiders : MethodName := ⟨RX10, "insiders", "()I"⟩
abbrev cX10_whoIn : ByteArray := prog_12_method_51_code
def yX10_whoIn : MethodName := ⟨RX10, "whoIn", "(I)I"⟩
abbrev cX10_stayOf : ByteArray := prog_12_method_52_code
def yX10_stayOf : MethodName := ⟨RX10, "stayOf", "(III)I"⟩
abbrev cX10_isFit : ByteArray := prog_12_method_53_code
def yX10_isFit : MethodName := ⟨RX10, "isFit", "(I)Z"⟩
abbrev cX10_canShow : ByteArray := prog_12_method_54_code
def yX10_canShow : MethodName := ⟨RX10, "canShow", "(II)Z"⟩
abbrev cX10_shows : ByteArray := prog_12_method_55_code
def yX10_shows : MethodName := ⟨RX10, "shows", "(II)I"⟩
abbrev cX10_goesOf : ByteArray := prog_12_method_56_code
def yX10_goesOf : MethodName := ⟨RX10, "goesOf", "(I)I"⟩
abbrev cX10_canSpeak : ByteArray := prog_12_method_57_code
def yX10_canSpeak : MethodName := ⟨RX10, "canSpeak", "(I)Z"⟩
abbrev cX10_speaks : ByteArray := prog_12_method_58_code
def yX10_speaks : MethodName := ⟨RX10, "speaks", "(I)V"⟩
abbrev cX10_burntBy : ByteArray := prog_12_method_59_code
def yX10_burntBy : MethodName := ⟨RX10, "burntBy", "(I)I"⟩
abbrev cX10_spreads : ByteArray := prog_12_method_60_code
def yX10_spreads : MethodName := ⟨RX10, "spreads", "(II)I"⟩
abbrev cX10_canBurn : ByteArray := prog_12_method_61_code
def yX10_canBurn : MethodName := ⟨RX10, "canBurn", "(I)Z"⟩
abbrev cX10_firstOf : ByteArray := prog_12_method_62_code
def yX10_firstOf : MethodName := ⟨RX10, "firstOf", "(I)I"⟩
abbrev cX10_passes : ByteArray := prog_12_method_63_code
def yX10_passes : MethodName := ⟨RX10, "passes", "()I"⟩
abbrev cX10_room : ByteArray := prog_12_method_64_code
def yX10_room : MethodName := ⟨RX10, "room", "(II)I"⟩
abbrev cX10_person : ByteArray := prog_12_method_65_code
def yX10_person : MethodName := ⟨RX10, "person", "(II)I"⟩
abbrev cX10_keeps : ByteArray := prog_12_method_66_code
def yX10_keeps : MethodName := ⟨RX10, "keeps", "()V"⟩
abbrev cX10_walk : ByteArray := prog_12_method_67_code
def yX10_walk : MethodName := ⟨RX10, "walk", "(II)Z"⟩
abbrev cX10_show : ByteArray := prog_12_method_68_code
def yX10_show : MethodName := ⟨RX10, "show", "(II)I"⟩
abbrev cX10_speak : ByteArray := prog_12_method_69_code
def yX10_speak : MethodName := ⟨RX10, "speak", "(I)Z"⟩
abbrev cX10_burn : ByteArray := prog_12_method_70_code
def yX10_burn : MethodName := ⟨RX10, "burn", "(I)I"⟩
abbrev cX10_minute : ByteArray := prog_12_method_71_code
def yX10_minute : MethodName := ⟨RX10, "minute", "()I"⟩
abbrev cX10_undo : ByteArray := prog_12_method_72_code
def yX10_undo : MethodName := ⟨RX10, "undo", "()Z"⟩
abbrev cX10_allBeen : ByteArray := prog_12_method_73_code
def yX10_allBeen : MethodName := ⟨RX10, "allBeen", "()I"⟩
abbrev cX10_isDone : ByteArray := prog_12_method_74_code
def yX10_isDone : MethodName := ⟨RX10, "isDone", "(I)Z"⟩
abbrev cX10_judged : ByteArray := prog_12_method_75_code
def yX10_judged : MethodName := ⟨RX10, "judged", "(I)I"⟩
abbrev cX10_host : ByteArray := prog_12_method_76_code
def yX10_host : MethodName := ⟨RX10, "host", "(I)I"⟩
abbrev cX10_freesOf : ByteArray := prog_12_method_77_code
def yX10_freesOf : MethodName := ⟨RX10, "freesOf", "(I)I"⟩
abbrev cX10_frees : ByteArray := prog_12_method_78_code
def yX10_frees : MethodName := ⟨RX10, "frees", "(I)I"⟩
abbrev cX10_later : ByteArray := prog_12_method_79_code
def yX10_later : MethodName := ⟨RX10, "later", "(II)I"⟩
abbrev cX10_out : ByteArray := prog_12_method_80_code
def yX10_out : MethodName := ⟨RX10, "out", "(I)I"⟩
abbrev cX10_calm : ByteArray := prog_12_method_81_code
def yX10_calm : MethodName := ⟨RX10, "calm", "()I"⟩
abbrev cX10_mayOf : ByteArray := prog_12_method_82_code
def yX10_mayOf : MethodName := ⟨RX10, "mayOf", "(I)I"⟩
abbrev cX10_may : ByteArray := prog_12_method_83_code
def yX10_may : MethodName := ⟨RX10, "may", "(I)I"⟩
abbrev cX10_goes : ByteArray := prog_12_method_84_code
def yX10_goes : MethodName := ⟨RX10, "goes", "(I)I"⟩
abbrev cX10_stay : ByteArray := prog_12_method_85_code
def yX10_stay : MethodName := ⟨RX10, "stay", "(II)I"⟩
abbrev cX10_widows : ByteArray := prog_12_method_86_code
def yX10_widows : MethodName := ⟨RX10, "widows", "()I"⟩
abbrev cX10_reach : ByteArray := prog_12_method_87_code
def yX10_reach : MethodName := ⟨RX10, "reach", "(I)I"⟩
abbrev cX10_far : ByteArray := prog_12_method_88_code
def yX10_far : MethodName := ⟨RX10, "far", "(II)I"⟩
abbrev cX10_pieces : ByteArray := prog_12_method_89_code
def yX10_pieces : MethodName := ⟨RX10, "pieces", "(I)I"⟩
abbrev cX10_halls : ByteArray := prog_12_method_90_code
def yX10_halls : MethodName := ⟨RX10, "halls", "()I"⟩
abbrev cX10_hinges : ByteArray := prog_12_method_91_code
def yX10_hinges : MethodName := ⟨RX10, "hinges", "()I"⟩
abbrev cX10_unsaidBy : ByteArray := prog_12_method_92_code
def yX10_unsaidBy : MethodName := ⟨RX10, "unsaidBy", "(I)I"⟩
abbrev cX10_lines : ByteArray := prog_12_method_93_code
def yX10_lines : MethodName := ⟨RX10, "lines", "(I)I"⟩
abbrev cX10_fire : ByteArray := prog_12_method_94_code
def yX10_fire : MethodName := ⟨RX10, "fire", "(II)I"⟩
abbrev cX10_queues : ByteArray := prog_12_method_95_code
def yX10_queues : MethodName := ⟨RX10, "queues", "(IIIIII)V"⟩
abbrev cX10_queue : ByteArray := prog_12_method_96_code
def yX10_queue : MethodName := ⟨RX10, "queue", "(II)I"⟩
abbrev cX10_longest : ByteArray := prog_12_method_97_code
def yX10_longest : MethodName := ⟨RX10, "longest", "()I"⟩
abbrev cX10_as : ByteArray := prog_12_method_98_code
def yX10_as : MethodName := ⟨RX10, "as", "()I"⟩
abbrev cX10_been : ByteArray := prog_12_method_99_code
def yX10_been : MethodName := ⟨RX10, "been", "(I)I"⟩
abbrev cX10_alike : ByteArray := prog_12_method_100_code
def yX10_alike : MethodName := ⟨RX10, "alike", "()Z"⟩
abbrev cX10_laysStays : ByteArray := prog_12_method_101_code
def yX10_laysStays : MethodName := ⟨RX10, "laysStays", "()V"⟩
abbrev cX10_see : ByteArray := prog_12_method_102_code
def yX10_see : MethodName := ⟨RX10, "see", "(IIZ)Z"⟩
abbrev cX10_isAsSeen : ByteArray := prog_12_method_103_code
def yX10_isAsSeen : MethodName := ⟨RX10, "isAsSeen", "(I)Z"⟩
abbrev cX10_which : ByteArray := prog_12_method_104_code
def yX10_which : MethodName := ⟨RX10, "which", "()I"⟩
abbrev cX10_ask : ByteArray := prog_12_method_105_code
def yX10_ask : MethodName := ⟨RX10, "ask", "()I"⟩
abbrev cX10_chance : ByteArray := prog_12_method_106_code
def yX10_chance : MethodName := ⟨RX10, "chance", "(IIII)I"⟩
abbrev cX10_getsBy : ByteArray := prog_12_method_107_code
def yX10_getsBy : MethodName := ⟨RX10, "getsBy", "(IIIII)I"⟩
abbrev cX10_rests : ByteArray := prog_12_method_108_code
def yX10_rests : MethodName := ⟨RX10, "rests", "(IIII)I"⟩
abbrev cX10_draws : ByteArray := prog_12_method_109_code
def yX10_draws : MethodName := ⟨RX10, "draws", "(I)I"⟩
abbrev cX10_livesMinute : ByteArray := prog_12_method_110_code
def yX10_livesMinute : MethodName := ⟨RX10, "livesMinute", "()V"⟩
abbrev cX10_evenings : ByteArray := prog_12_method_111_code
def yX10_evenings : MethodName := ⟨RX10, "evenings", "(III)I"⟩
abbrev cX10_mark : ByteArray := prog_12_method_112_code
def yX10_mark : MethodName := ⟨RX10, "mark", "(IZ)Z"⟩
abbrev cX10_count : ByteArray := prog_12_method_113_code
def yX10_count : MethodName := ⟨RX10, "count", "(I)I"⟩
def RJ6 : String := "java/lang/Integer"
def TJ6 : u_T := fun k => match k with
  | _ => ("", "", "", false)
def tyJ6 : Nat → FieldType := fun k => match k with
  | _ => .int
theorem nmJ6 : ∀ a, a < 0 → ∀ b, b < 0 → a ≠ b → (TJ6 a).2.1 ≠ (TJ6 b).2.1 := by decide +kernel
theorem tyJ6_ok : ∀ k, k < 0 → parseFieldDescriptor (TJ6 k).2.2.1 = some (tyJ6 k) := by decide +kernel
abbrev cJ6_lowestOneBit_0f7a4 : ByteArray := prog_18_method_46_code
def yJ6_lowestOneBit_0f7a4 : MethodName := ⟨RJ6, "lowestOneBit", "(I)I"⟩
abbrev cJ6_numberOfTrailingZeros_0f7a4 : ByteArray := prog_18_method_48_code
def yJ6_numberOfTrailingZeros_0f7a4 : MethodName := ⟨RJ6, "numberOfTrailingZeros", "(I)I"⟩
abbrev cJ6_bitCount_0f7a4 : ByteArray := prog_18_method_49_code
def yJ6_bitCount_0f7a4 : MethodName := ⟨RJ6, "bitCount", "(I)I"⟩
def RJ9 : String := "java/lang/Math"
def TJ9 : u_T := fun k => match k with
  | _ => ("", "", "", false)
def tyJ9 : Nat → FieldType := fun k => match k with
  | _ => .int
theorem nmJ9 : ∀ a, a < 0 → ∀ b, b < 0 → a ≠ b → (TJ9 a).2.1 ≠ (TJ9 b).2.1 := by decide +kernel
theorem tyJ9_ok : ∀ k, k < 0 → parseFieldDescriptor (TJ9 k).2.2.1 = some (tyJ9 k) := by decide +kernel
abbrev cJ9_max_7cf53 : ByteArray := prog_19_method_65_code
def yJ9_max_7cf53 : MethodName := ⟨RJ9, "max", "(II)I"⟩
abbrev cJ9_min_7cf53 : ByteArray := prog_19_method_69_code
def yJ9_min_7cf53 : MethodName := ⟨RJ9, "min", "(II)I"⟩
def RJ0 : String := "java/lang/String"
def TJ0 : u_T := fun k => match k with
  | _ => ("", "", "", false)
def tyJ0 : Nat → FieldType := fun k => match k with
  | _ => .int
theorem nmJ0 : ∀ a, a < 0 → ∀ b, b < 0 → a ≠ b → (TJ0 a).2.1 ≠ (TJ0 b).2.1 := by decide +kernel
theorem tyJ0_ok : ∀ k, k < 0 → parseFieldDescriptor (TJ0 k).2.2.1 = some (tyJ0 k) := by decide +kernel
abbrev cJ0_length_8abf5 : ByteArray := prog_21_method_54_code
def yJ0_length_8abf5 : MethodName := ⟨RJ0, "length", "()I"⟩
abbrev cJ0_charAt_5068e : ByteArray := prog_21_method_56_code
def yJ0_charAt_5068e : MethodName := ⟨RJ0, "charAt", "(I)C"⟩
abbrev cJ0_indexOf_0f7a4 : ByteArray := prog_21_method_79_code
def yJ0_indexOf_0f7a4 : MethodName := ⟨RJ0, "indexOf", "(I)I"⟩
abbrev cJ0_indexOf_7cf53 : ByteArray := prog_21_method_80_code
def yJ0_indexOf_7cf53 : MethodName := ⟨RJ0, "indexOf", "(II)I"⟩
abbrev cJ0_coder_7d493 : ByteArray := prog_21_method_152_code
def yJ0_coder_7d493 : MethodName := ⟨RJ0, "coder", "()B"⟩
abbrev cJ0_isLatin1_aae02 : ByteArray := prog_21_method_154_code
def yJ0_isLatin1_aae02 : MethodName := ⟨RJ0, "isLatin1", "()Z"⟩
abbrev cJ0_checkIndex_df160 : ByteArray := prog_21_method_155_code
def yJ0_checkIndex_df160 : MethodName := ⟨RJ0, "checkIndex", "(II)V"⟩
abbrev cJ0_checkBoundsBeginEnd_23922 : ByteArray := prog_21_method_158_code
def yJ0_checkBoundsBeginEnd_23922 : MethodName := ⟨RJ0, "checkBoundsBeginEnd", "(III)V"⟩
def RJ1 : String := "java/lang/StringLatin1"
def TJ1 : u_T := fun k => match k with
  | _ => ("", "", "", false)
def tyJ1 : Nat → FieldType := fun k => match k with
  | _ => .int
theorem nmJ1 : ∀ a, a < 0 → ∀ b, b < 0 → a ≠ b → (TJ1 a).2.1 ≠ (TJ1 b).2.1 := by decide +kernel
theorem tyJ1_ok : ∀ k, k < 0 → parseFieldDescriptor (TJ1 k).2.2.1 = some (tyJ1 k) := by decide +kernel
abbrev cJ1_charAt_3b067 : ByteArray := prog_22_method_2_code
def yJ1_charAt_3b067 : MethodName := ⟨RJ1, "charAt", "([BI)C"⟩
abbrev cJ1_canEncode_9a6ad : ByteArray := prog_22_method_4_code
def yJ1_canEncode_9a6ad : MethodName := ⟨RJ1, "canEncode", "(I)Z"⟩
abbrev cJ1_indexOf_4cfef : ByteArray := prog_22_method_22_code
def yJ1_indexOf_4cfef : MethodName := ⟨RJ1, "indexOf", "([BIII)I"⟩
abbrev cJ1_indexOfChar_4cfef : ByteArray := prog_22_method_23_code
def yJ1_indexOfChar_4cfef : MethodName := ⟨RJ1, "indexOfChar", "([BIII)I"⟩
def RJ7 : String := "java/util/Arrays"
def TJ7 : u_T := fun k => match k with
  | _ => ("", "", "", false)
def tyJ7 : Nat → FieldType := fun k => match k with
  | _ => .int
theorem nmJ7 : ∀ a, a < 0 → ∀ b, b < 0 → a ≠ b → (TJ7 a).2.1 ≠ (TJ7 b).2.1 := by decide +kernel
theorem tyJ7_ok : ∀ k, k < 0 → parseFieldDescriptor (TJ7 k).2.2.1 = some (tyJ7 k) := by decide +kernel
abbrev cJ7_fill_53178 : ByteArray := prog_28_method_103_code
def yJ7_fill_53178 : MethodName := ⟨RJ7, "fill", "([II)V"⟩
def RJ3 : String := "jdk/internal/util/Preconditions"
def TJ3 : u_T := fun k => match k with
  | _ => ("", "", "", false)
def tyJ3 : Nat → FieldType := fun k => match k with
  | _ => .int
theorem nmJ3 : ∀ a, a < 0 → ∀ b, b < 0 → a ≠ b → (TJ3 a).2.1 ≠ (TJ3 b).2.1 := by decide +kernel
theorem tyJ3_ok : ∀ k, k < 0 → parseFieldDescriptor (TJ3 k).2.2.1 = some (tyJ3 k) := by decide +kernel
abbrev cJ3_checkIndex_8e157 : ByteArray := prog_30_method_11_code
def yJ3_checkIndex_8e157 : MethodName := ⟨RJ3, "checkIndex", "(IILjava/util/function/BiFunction;)I"⟩
abbrev cJ3_checkFromToIndex_8c36e : ByteArray := prog_30_method_12_code
def yJ3_checkFromToIndex_8c36e : MethodName := ⟨RJ3, "checkFromToIndex", "(IIILjava/util/function/BiFunction;)I"⟩
def RL : String := "UnsaidRoomLaw"
abbrev cL_rests : ByteArray := method_3_code
def yL_rests : MethodName := ⟨RL, "rests", "(LUnsaidRoom;IIII[J)I"⟩
abbrev cL_law : ByteArray := code
def yL_law : MethodName := ⟨RL, "law", "([I)Z"⟩
abbrev vwCl : List vw_C := [(RX0, TX0, 1), (RX1, TX1, 13), (RX2, TX2, 4), (RX3, TX3, 5), (RX4, TX4, 4), (RX5, TX5, 9), (RX6, TX6, 4), (RX7, TX7, 4), (RX8, TX8, 8), (RX9, TX9, 15), (RX10, TX10, 57)]
end
section
/-! THE PURE MACHINE: memory as shapes and three tables; a step as data; runs by fuel; runs without fuel, and their unfolding -/
abbrev ur_M : Type := List (Nat ⊕ (Nat × Nat)) × (Nat → Nat → Int32) × (Nat → Nat → Int64) × (Nat → Nat → Option Nat)
abbrev ur_S : Type := Nat × List (Option Value) × List Value × ur_M
abbrev ur_V : Type := Int32 × ur_M
abbrev ur_A : Type := (List (Bool × ur_S) × ur_S) ⊕ (Option ur_V) ⊕ (Nat × List Value × ur_M × (Int32 → ur_M → ur_S)) ⊕ (Option Int32 × (Int32 → ur_S)) ⊕ (Option Int64 × (Int64 → ur_S)) ⊕ (Option Nat × (Nat → ur_S)) ⊕ (Option ur_M × (ur_M → ur_S))
abbrev ur_E : Type := Nat × Instr × Nat × Nat × Int32
-- rows of tables
def ur_u {α : Type} (f : Nat → Nat → α) (a k : Nat) (v : α) : Nat → Nat → α := fun b j => if b = a then (if j = k then v else f a j) else f b j
def ur_row {α : Type} (f : Nat → Nat → α) (a : Nat) (g : Nat → α) : Nat → Nat → α := fun b => if b = a then g else f b
def ur_inb (i : Int32) (n : Nat) : Bool := !(decide (i < 0) || decide (n ≤ i.toNatClampNeg))
def ur_isO (m : ur_M) (a ci : Nat) : Bool := match m.1[a]? with
  | some (.inl c) => c == ci
  | _ => false
def ur_isA (m : ur_M) (a t : Nat) : Option Nat := match m.1[a]? with
  | some (.inr (t', n)) => bif t' == t then some n else none
  | _ => none
-- old cells: strings and their bytes
def ur_txt : List (List Nat) := [[114, 111, 111, 109, 32, 117, 110, 115, 97, 105, 100, 32, 104, 111, 108, 100, 115, 32, 100, 111, 111, 114, 32, 112, 101, 114, 115, 111, 110, 32, 97, 103, 101, 32, 105, 110, 32, 115, 116, 97, 121, 115, 32, 119, 97, 108, 107, 32, 115, 104, 111, 119, 32, 115, 112, 101, 97, 107, 32, 98, 117, 114, 110, 32, 109, 105, 110, 117, 116, 101, 32, 103, 117, 101, 115, 116, 32, 119, 105, 102, 101, 32, 99, 104, 105, 108, 100, 32, 116, 97, 120, 109, 97, 110, 32, 110, 111, 116, 32, 97, 110, 100, 32, 111, 114, 32], [40, 41, 60, 61, 43, 45, 42, 59], [109, 117, 99, 104, 32, 116, 105, 109, 101, 115, 32, 121, 101, 97, 114, 115, 32, 110, 111, 100, 115, 32]]
def ur_base : Nat := 2000
/-- a reference that isn't null, to a cell that isn't old -/
def ur_lo (o : Option Nat) : Option Nat := match o with
  | some b => bif decide (b < ur_base) then some b else none
  | none => none
-- reads of fields
def ur_fI (m : ur_M) (a ci k : Nat) : Option Int32 := bif ci == 20 then (bif decide (ur_base ≤ a ∧ a < ur_base + 3) then some 0 else none) else bif ur_isO m a ci then some (m.2.1 a k) else none
def ur_fL (m : ur_M) (a ci k : Nat) : Option Int64 := bif ur_isO m a ci then some (m.2.2.1 a k) else none
def ur_fR (m : ur_M) (a ci k : Nat) : Option Nat := bif ci == 20 then (bif decide (ur_base ≤ a ∧ a < ur_base + 3) then some (a + 10) else none) else bif ur_isO m a ci then ur_lo (m.2.2.2 a k) else none
-- writes of fields
def ur_pI (m : ur_M) (a ci k : Nat) (v : Int32) : Option ur_M := bif ur_isO m a ci then some (m.1, ur_u m.2.1 a k v, m.2.2) else none
def ur_pZ (m : ur_M) (a ci k : Nat) (v : Int32) : Option ur_M := bif v == 0 || v == 1 then ur_pI m a ci k v else none
def ur_pL (m : ur_M) (a ci k : Nat) (v : Int64) : Option ur_M := bif ur_isO m a ci then some (m.1, m.2.1, ur_u m.2.2.1 a k v, m.2.2.2) else none
def ur_pR (m : ur_M) (a ci k : Nat) (v : Nat) : Option ur_M := bif ur_isO m a ci && decide (v < ur_base) then some (m.1, m.2.1, m.2.2.1, ur_u m.2.2.2 a k (some v)) else none
-- arrays: 0 int, 1 long, 2 boolean, 3 char, 4 and 5 of references
def ur_len (m : ur_M) (a : Nat) : Option Int32 := match m.1[a]? with
  | some (.inr (t, n)) => bif Nat.blt t 6 then some (Int32.ofNat n) else none
  | some (.inl _) => none
  | none => match ur_txt[a - (ur_base + 10)]? with
    | some t => bif decide (ur_base + 10 ≤ a) then some (Int32.ofNat t.length) else none
    | none => none
def ur_aI (m : ur_M) (a t : Nat) (i : Int32) : Option Int32 := match ur_isA m a t with
  | some n => bif ur_inb i n then some (m.2.1 a i.toNatClampNeg) else none
  | none => none
def ur_aB (m : ur_M) (a : Nat) (i : Int32) : Option Int32 := bif decide (a < ur_base) then ur_aI m a 2 i else match ur_txt[a - (ur_base + 10)]? with
  | some t => bif decide (ur_base + 10 ≤ a) && ur_inb i t.length then some (nI (t.getD i.toNatClampNeg 0)) else none
  | none => none
def ur_aL (m : ur_M) (a : Nat) (i : Int32) : Option Int64 := match ur_isA m a 1 with
  | some n => bif ur_inb i n then some (m.2.2.1 a i.toNatClampNeg) else none
  | none => none
def ur_aR (m : ur_M) (a : Nat) (i : Int32) : Option Nat := match m.1[a]? with
  | some (.inr (t, n)) => bif (t == 4 || t == 5) && ur_inb i n then ur_lo (m.2.2.2 a i.toNatClampNeg) else none
  | _ => none
def ur_wI (m : ur_M) (a t : Nat) (i v : Int32) : Option ur_M := match ur_isA m a t with
  | some n => bif ur_inb i n then some (m.1, ur_u m.2.1 a i.toNatClampNeg v, m.2.2) else none
  | none => none
def ur_wL (m : ur_M) (a : Nat) (i : Int32) (v : Int64) : Option ur_M := match ur_isA m a 1 with
  | some n => bif ur_inb i n then some (m.1, m.2.1, ur_u m.2.2.1 a i.toNatClampNeg v, m.2.2.2) else none
  | none => none
def ur_wR (m : ur_M) (a : Nat) (i : Int32) (v : Nat) : Option ur_M := match m.1[a]? with
  | some (.inr (t, n)) => bif ((t == 4 && ur_isO m v 5) || (t == 5 && ur_isO m v 4)) && ur_inb i n then some (m.1, m.2.1, m.2.2.1, ur_u m.2.2.2 a i.toNatClampNeg (some v)) else none
  | _ => none
/-- System.arraycopy of ints -/
def ur_cpy (m : ur_M) (a : Nat) (i : Int32) (b : Nat) (j n : Int32) : Option ur_M := match ur_isA m a 0, ur_isA m b 0 with
  | some p, some q => bif (decide (0 ≤ i) && decide (0 ≤ j)) && (decide (0 ≤ n) && (decide (i.toNatClampNeg + n.toNatClampNeg ≤ p) && decide (j.toNatClampNeg + n.toNatClampNeg ≤ q))) then some (m.1, ur_row m.2.1 b (va_cpy (m.2.1 a) (m.2.1 b) i.toNatClampNeg j.toNatClampNeg n.toNatClampNeg), m.2.2) else none
  | _, _ => none
-- new cells
def ur_nO (m : ur_M) (ci : Nat) : Option ur_M := bif Nat.blt m.1.length 1000 then some (m.1 ++ [.inl ci], ur_row m.2.1 m.1.length (fun _ => 0), ur_row m.2.2.1 m.1.length (fun _ => 0), ur_row m.2.2.2 m.1.length (fun _ => none)) else none
def ur_nA (m : ur_M) (t : Nat) (n : Int32) : Option ur_M := bif Nat.blt m.1.length 1000 && (decide (0 ≤ n) && decide (n ≤ 65536)) then some (m.1 ++ [.inr (t, n.toNatClampNeg)], ur_row m.2.1 m.1.length (fun _ => 0), ur_row m.2.2.1 m.1.length (fun _ => 0), ur_row m.2.2.2 m.1.length (fun _ => none)) else none
-- locals
def ur_ld (ls : List (Option Value)) (j : Nat) : Option Value := match ls[j]? with
  | some o => o
  | none => none
def ur_clr (ls : List (Option Value)) (j : Nat) : List (Option Value) := match j with
  | 0 => ls
  | i + 1 => match ls[i]? with
    | some (some v) => bif v.category == 2 then ls.set i none else ls
    | _ => ls
def ur_st1 (ls : List (Option Value)) (j : Nat) (v : Value) : List (Option Value) := (ur_clr ls j).set j (some v)
def ur_st2 (ls : List (Option Value)) (j : Nat) (v : Value) : List (Option Value) := ((ur_clr ls j).set j (some v)).set (j + 1) none
def ur_slots : List Value → List (Option Value)
  | [] => []
  | v :: r => bif v.category == 2 then some v :: none :: ur_slots r else some v :: ur_slots r
def ur_pad (n : Nat) (l : List (Option Value)) : List (Option Value) := l ++ List.replicate (n - l.length) none
-- acts
abbrev ur_nx (pc : Nat) (ls : List (Option Value)) (st : List Value) (m : ur_M) : Option ur_A := some (.inl ([], (pc, ls, st, m)))
abbrev ur_br (c : Bool) (s1 s2 : ur_S) : Option ur_A := some (.inl ([(c, s1)], s2))
abbrev ur_rI (o : Option Int32) (f : Int32 → ur_S) : Option ur_A := some (.inr (.inr (.inr (.inl (o, f)))))
abbrev ur_rL (o : Option Int64) (f : Int64 → ur_S) : Option ur_A := some (.inr (.inr (.inr (.inr (.inl (o, f))))))
abbrev ur_rR (o : Option Nat) (f : Nat → ur_S) : Option ur_A := some (.inr (.inr (.inr (.inr (.inr (.inl (o, f)))))))
abbrev ur_rM (o : Option ur_M) (f : ur_M → ur_S) : Option ur_A := some (.inr (.inr (.inr (.inr (.inr (.inr (o, f)))))))
def ur_bi (f : Int32 → Int32 → Int32) (pc : Nat) (ls : List (Option Value)) (st : List Value) (m : ur_M) : Option ur_A := match st with
  | .int b :: .int a :: r => ur_nx (pc + 1) ls (.int (f a b) :: r) m
  | _ => none
def ur_bl (f : Int64 → Int64 → Int64) (pc : Nat) (ls : List (Option Value)) (st : List Value) (m : ur_M) : Option ur_A := match st with
  | .long b :: .long a :: r => ur_nx (pc + 1) ls (.long (f a b) :: r) m
  | _ => none
def ur_i1 (f : Int32 → Value) (pc : Nat) (ls : List (Option Value)) (st : List Value) (m : ur_M) : Option ur_A := match st with
  | .int a :: r => ur_nx (pc + 1) ls (f a :: r) m
  | _ => none
def ur_ldi (j n pc : Nat) (ls : List (Option Value)) (st : List Value) (m : ur_M) : Option ur_A := match ur_ld ls j with
  | some (.int v) => ur_nx (pc + n) ls (.int v :: st) m
  | _ => none
def ur_ldl (j n pc : Nat) (ls : List (Option Value)) (st : List Value) (m : ur_M) : Option ur_A := match ur_ld ls j with
  | some (.long v) => ur_nx (pc + n) ls (.long v :: st) m
  | _ => none
def ur_lda (j n pc : Nat) (ls : List (Option Value)) (st : List Value) (m : ur_M) : Option ur_A := match ur_ld ls j with
  | some (.ref v) => ur_nx (pc + n) ls (.ref v :: st) m
  | _ => none
def ur_sti (j n pc : Nat) (ls : List (Option Value)) (st : List Value) (m : ur_M) : Option ur_A := match st with
  | .int v :: r => bif Nat.blt j ls.length then ur_nx (pc + n) (ur_st1 ls j (.int v)) r m else none
  | _ => none
def ur_sta (j n pc : Nat) (ls : List (Option Value)) (st : List Value) (m : ur_M) : Option ur_A := match st with
  | .ref v :: r => bif Nat.blt j ls.length then ur_nx (pc + n) (ur_st1 ls j (.ref v)) r m else none
  | _ => none
def ur_stl (j n pc : Nat) (ls : List (Option Value)) (st : List Value) (m : ur_M) : Option ur_A := match st with
  | .long v :: r => bif Nat.blt (j + 1) ls.length then ur_nx (pc + n) (ur_st2 ls j (.long v)) r m else none
  | _ => none
def ur_cnd (c : ClassFile.Cond) (a b : Int32) : Bool := match c with
  | .eq => decide (a = b)
  | .ne => decide (a ≠ b)
  | .lt => decide (a < b)
  | .ge => decide (b ≤ a)
  | .gt => decide (b < a)
  | .le => decide (a ≤ b)
def ur_if1 (c : ClassFile.Cond) (x pc : Nat) (ls : List (Option Value)) (st : List Value) (m : ur_M) : Option ur_A := match st with
  | .int a :: r => ur_br (ur_cnd c a 0) (x, ls, r, m) (pc + 3, ls, r, m)
  | _ => none
def ur_if2 (c : ClassFile.Cond) (x pc : Nat) (ls : List (Option Value)) (st : List Value) (m : ur_M) : Option ur_A := match st with
  | .int b :: .int a :: r => ur_br (ur_cnd c a b) (x, ls, r, m) (pc + 3, ls, r, m)
  | _ => none
def ur_getf (x pc : Nat) (ls : List (Option Value)) (st : List Value) (m : ur_M) : Option ur_A := match st with
  | .ref a :: r => match x % 4 with
    | 2 => ur_rL (ur_fL m a (x / 256) (x / 4 % 64)) (fun v => (pc + 3, ls, .long v :: r, m))
    | 3 => ur_rR (ur_fR m a (x / 256) (x / 4 % 64)) (fun v => (pc + 3, ls, .ref v :: r, m))
    | _ => ur_rI (ur_fI m a (x / 256) (x / 4 % 64)) (fun v => (pc + 3, ls, .int v :: r, m))
  | _ => none
def ur_putf (x pc : Nat) (ls : List (Option Value)) (st : List Value) (m : ur_M) : Option ur_A := match x % 4 with
  | 0 => match st with
    | .int v :: .ref a :: r => ur_rM (ur_pI m a (x / 256) (x / 4 % 64) v) (fun m => (pc + 3, ls, r, m))
    | _ => none
  | 1 => match st with
    | .int v :: .ref a :: r => ur_rM (ur_pZ m a (x / 256) (x / 4 % 64) v) (fun m => (pc + 3, ls, r, m))
    | _ => none
  | 2 => match st with
    | .long v :: .ref a :: r => ur_rM (ur_pL m a (x / 256) (x / 4 % 64) v) (fun m => (pc + 3, ls, r, m))
    | _ => none
  | _ => match st with
    | .ref v :: .ref a :: r => ur_rM (ur_pR m a (x / 256) (x / 4 % 64) v) (fun m => (pc + 3, ls, r, m))
    | _ => none
def ur_ald (f : ur_M → Nat → Int32 → Option Int32) (pc : Nat) (ls : List (Option Value)) (st : List Value) (m : ur_M) : Option ur_A := match st with
  | .int i :: .ref a :: r => ur_rI (f m a i) (fun v => (pc + 1, ls, .int v :: r, m))
  | _ => none
def ur_ast (f : ur_M → Nat → Int32 → Int32 → Option ur_M) (pc : Nat) (ls : List (Option Value)) (st : List Value) (m : ur_M) : Option ur_A := match st with
  | .int v :: .int i :: .ref a :: r => ur_rM (f m a i v) (fun m => (pc + 1, ls, r, m))
  | _ => none
def ur_cs : List Value → Nat
  | [] => 0
  | v :: r => v.category + ur_cs r
/-- what a method may answer: 0 an int, 1 a boolean, 2 a char, 3 a byte -/
def ur_fit (z : Nat) (a : Int32) : Bool := match z with
  | 0 => true
  | 1 => a == 0 || a == 1
  | 2 => decide (vp_nar .char a = a)
  | _ => decide (vp_nar .byte a = a)
def ur_mx (a b : Int32) : Int32 := if a < b then b else a
def ur_mn (a b : Int32) : Int32 := if b < a then b else a
/-- calls of the library that are one step here: arraycopy, Object.<init>, Math.max, Math.min -/
def ur_lib0 (pc : Nat) (ls : List (Option Value)) (st : List Value) (m : ur_M) : Option ur_A := match st with
  | .int n :: .int j :: .ref b :: .int i :: .ref a :: r => bif Nat.ble (ur_cs r) 8 then ur_rM (ur_cpy m a i b j n) (fun m => (pc + 3, ls, r, m)) else none
  | _ => none
def ur_lib1 (pc : Nat) (ls : List (Option Value)) (st : List Value) (m : ur_M) : Option ur_A := match st with
  | .ref a :: r => bif Nat.ble (ur_cs r) 8 && decide (a < ur_base) then ur_nx (pc + 3) ls r m else none
  | _ => none
def ur_lib2 (f : Int32 → Int32 → Int32) (pc : Nat) (ls : List (Option Value)) (st : List Value) (m : ur_M) : Option ur_A := match st with
  | .int b :: .int a :: r => bif Nat.ble (ur_cs r) 8 then ur_nx (pc + 3) ls (.int (f a b) :: r) m else none
  | _ => none
def ur_lib (x pc : Nat) (ls : List (Option Value)) (st : List Value) (m : ur_M) : Option ur_A := bif Nat.beq x 9000 then ur_lib0 pc ls st m else bif Nat.beq x 9001 then ur_lib1 pc ls st m else bif Nat.beq x 9002 then ur_lib2 ur_mx pc ls st m else bif Nat.beq x 9003 then ur_lib2 ur_mn pc ls st m else none
/-- a call: x is the method's number, the number of its arguments and whether it answers; 9000 and on: the library's -/
def ur_inv (x pc : Nat) (ls : List (Option Value)) (st : List Value) (m : ur_M) : Option ur_A := bif Nat.blt x 9000 then (bif Nat.ble (x / 2 % 16) st.length && Nat.ble (ur_cs (st.drop (x / 2 % 16))) 8 then some (.inr (.inr (.inl (x / 32, (st.take (x / 2 % 16)).reverse, m, fun v m => (pc + 3, ls, bif x % 2 == 0 then st.drop (x / 2 % 16) else .int v :: st.drop (x / 2 % 16), m))))) else none) else ur_lib x pc ls st m
def ur_atc (a : ArrayType) : Option Nat := match a with
  | .int => some 0
  | .long => some 1
  | .boolean => some 2
  | .char => some 3
  | _ => none
/-- one instruction: i of length n at pc, x its operand as the tables resolve it, v its constant, sw the targets of a switch, z what the method may answer -/
def ur_one (z : Nat) (sw : List (Int32 × Nat) × Nat) (i : Instr) (n x : Nat) (v : Int32) (pc : Nat) (ls : List (Option Value)) (st : List Value) (m : ur_M) : Option ur_A := match i with
  | .iconst _ => ur_nx (pc + n) ls (.int v :: st) m
  | .bipush _ => ur_nx (pc + n) ls (.int v :: st) m
  | .sipush _ => ur_nx (pc + n) ls (.int v :: st) m
  | .ldc _ => bif x == 0 then ur_nx (pc + n) ls (.int v :: st) m else ur_nx (pc + n) ls (.ref x :: st) m
  | .ldc_w _ => ur_nx (pc + n) ls (.int v :: st) m
  | .ldc2_w _ => ur_nx (pc + n) ls (.long (Int64.ofNat x) :: st) m
  | .lconst _ => ur_nx (pc + n) ls (.long (Int64.ofNat x) :: st) m
  | .getstatic _ => bif x == 0 then ur_nx (pc + n) ls (.int v :: st) m else ur_nx (pc + n) ls (.ref x :: st) m
  | .iload_n j => ur_ldi j n pc ls st m
  | .iload j => ur_ldi j n pc ls st m
  | .lload_n j => ur_ldl j n pc ls st m
  | .lload j => ur_ldl j n pc ls st m
  | .aload_n j => ur_lda j n pc ls st m
  | .aload j => ur_lda j n pc ls st m
  | .istore_n j => ur_sti j n pc ls st m
  | .istore j => ur_sti j n pc ls st m
  | .lstore_n j => ur_stl j n pc ls st m
  | .lstore j => ur_stl j n pc ls st m
  | .astore_n j => ur_sta j n pc ls st m
  | .astore j => ur_sta j n pc ls st m
  | .iinc j _ => match ur_ld ls j with
    | some (.int a) => bif Nat.blt j ls.length then ur_nx (pc + n) (ur_st1 ls j (.int (a + v))) st m else none
    | _ => none
  | .iadd => ur_bi (fun a b => a + b) pc ls st m
  | .isub => ur_bi (fun a b => a - b) pc ls st m
  | .imul => ur_bi (fun a b => a * b) pc ls st m
  | .iand => ur_bi (fun a b => a &&& b) pc ls st m
  | .ior => ur_bi (fun a b => a ||| b) pc ls st m
  | .ixor => ur_bi (fun a b => a ^^^ b) pc ls st m
  | .ishl => ur_bi (fun a b => a <<< (b &&& 31)) pc ls st m
  | .ishr => ur_bi (fun a b => a >>> (b &&& 31)) pc ls st m
  | .iushr => ur_bi (fun a b => (a.toUInt32 >>> (b.toUInt32 &&& Int32.toUInt32 31)).toInt32) pc ls st m
  | .idiv => match st with
    | .int b :: .int a :: r => ur_rI (bif b == 0 then none else some (a / b)) (fun v => (pc + 1, ls, .int v :: r, m))
    | _ => none
  | .irem => match st with
    | .int b :: .int a :: r => ur_rI (bif b == 0 then none else some (a - a / b * b)) (fun v => (pc + 1, ls, .int v :: r, m))
    | _ => none
  | .ineg => ur_i1 (fun a => .int (-a)) pc ls st m
  | .i2l => ur_i1 (fun a => .long a.toInt64) pc ls st m
  | .i2b => ur_i1 (fun a => .int a.toInt8.toInt32) pc ls st m
  | .i2c => ur_i1 (fun a => .int (a.toUInt32 % 65536).toInt32) pc ls st m
  | .l2i => match st with
    | .long a :: r => ur_nx (pc + 1) ls (.int a.toInt32 :: r) m
    | _ => none
  | .ladd => ur_bl (fun a b => a + b) pc ls st m
  | .lsub => ur_bl (fun a b => a - b) pc ls st m
  | .lmul => ur_bl (fun a b => a * b) pc ls st m
  | .land => ur_bl (fun a b => a &&& b) pc ls st m
  | .lor => ur_bl (fun a b => a ||| b) pc ls st m
  | .ldiv => match st with
    | .long b :: .long a :: r => ur_rL (bif b == 0 then none else some (a / b)) (fun v => (pc + 1, ls, .long v :: r, m))
    | _ => none
  | .lrem => match st with
    | .long b :: .long a :: r => ur_rL (bif b == 0 then none else some (a - a / b * b)) (fun v => (pc + 1, ls, .long v :: r, m))
    | _ => none
  | .lushr => match st with
    | .int b :: .long a :: r => ur_nx (pc + 1) ls (.long (a.toUInt64 >>> (b.toInt64.toUInt64 &&& Int64.toUInt64 63)).toInt64 :: r) m
    | _ => none
  | .lcmp => match st with
    | .long b :: .long a :: r => ur_nx (pc + 1) ls (.int (lg_cmp a b) :: r) m
    | _ => none
  | .dup => match st with
    | .int a :: r => ur_nx (pc + 1) ls (.int a :: .int a :: r) m
    | .ref a :: r => ur_nx (pc + 1) ls (.ref a :: .ref a :: r) m
    | _ => none
  | .dup2 => match st with
    | .int b :: .ref a :: r => ur_nx (pc + 1) ls (.int b :: .ref a :: .int b :: .ref a :: r) m
    | _ => none
  | .pop => match st with
    | .int _ :: r => ur_nx (pc + 1) ls r m
    | .ref _ :: r => ur_nx (pc + 1) ls r m
    | _ => none
  | .goto _ => ur_nx x ls st m
  | .ifCond c _ => ur_if1 c x pc ls st m
  | .if_icmp c _ => ur_if2 c x pc ls st m
  | .tableswitch _ _ _ _ => match st with
    | .int a :: r => some (.inl (sw.1.map (fun q => (decide (a = q.1), (q.2, ls, r, m))), (sw.2, ls, r, m)))
    | _ => none
  | .lookupswitch _ _ => match st with
    | .int a :: r => some (.inl (sw.1.map (fun q => (decide (a = q.1), (q.2, ls, r, m))), (sw.2, ls, r, m)))
    | _ => none
  | .getfield _ => ur_getf x pc ls st m
  | .putfield _ => ur_putf x pc ls st m
  | .iaload => ur_ald (fun m a i => ur_aI m a 0 i) pc ls st m
  | .baload => ur_ald ur_aB pc ls st m
  | .caload => ur_ald (fun m a i => ur_aI m a 3 i) pc ls st m
  | .laload => match st with
    | .int i :: .ref a :: r => ur_rL (ur_aL m a i) (fun v => (pc + 1, ls, .long v :: r, m))
    | _ => none
  | .aaload => match st with
    | .int i :: .ref a :: r => ur_rR (ur_aR m a i) (fun v => (pc + 1, ls, .ref v :: r, m))
    | _ => none
  | .iastore => ur_ast (fun m a i v => ur_wI m a 0 i v) pc ls st m
  | .bastore => ur_ast (fun m a i v => ur_wI m a 2 i (vp_nar .boolean v)) pc ls st m
  | .castore => ur_ast (fun m a i v => ur_wI m a 3 i (vp_nar .char v)) pc ls st m
  | .lastore => match st with
    | .long v :: .int i :: .ref a :: r => ur_rM (ur_wL m a i v) (fun m => (pc + 1, ls, r, m))
    | _ => none
  | .aastore => match st with
    | .ref v :: .int i :: .ref a :: r => ur_rM (ur_wR m a i v) (fun m => (pc + 1, ls, r, m))
    | _ => none
  | .arraylength => match st with
    | .ref a :: r => ur_rI (ur_len m a) (fun v => (pc + 1, ls, .int v :: r, m))
    | _ => none
  | .newarray t => match ur_atc t, st with
    | some t, .int k :: r => ur_rM (ur_nA m t k) (fun m' => (pc + 2, ls, .ref m.1.length :: r, m'))
    | _, _ => none
  | .anewarray _ => match st with
    | .int k :: r => ur_rM (ur_nA m x k) (fun m' => (pc + 3, ls, .ref m.1.length :: r, m'))
    | _ => none
  | .new _ => ur_rM (ur_nO m x) (fun m' => (pc + 3, ls, .ref m.1.length :: st, m'))
  | .invokevirtual _ => ur_inv x pc ls st m
  | .invokestatic _ => ur_inv x pc ls st m
  | .invokespecial _ => ur_inv x pc ls st m
  | .ireturn => match st with
    | [.int a] => some (.inr (.inl (bif ur_fit z a then some (a, m) else none)))
    | _ => none
  | .return_ => match st with
    | [] => some (.inr (.inl (some (0, m))))
    | _ => none
  | _ => none
/-- what an act comes to, by a going on and by a calling -/
def ur_do (self : ur_S → Option ur_V) (call : Nat → List Value → ur_M → Option ur_V) (o : Option ur_A) : Option ur_V := match o with
  | none => none
  | some (.inl (bs, s)) => bs.foldr (fun q r => bif q.1 then self q.2 else r) (self s)
  | some (.inr (.inl r)) => r
  | some (.inr (.inr (.inl (y, as, m, f)))) => (call y as m).bind fun r => self (f r.1 r.2)
  | some (.inr (.inr (.inr (.inl (o, f))))) => o.bind fun v => self (f v)
  | some (.inr (.inr (.inr (.inr (.inl (o, f)))))) => o.bind fun v => self (f v)
  | some (.inr (.inr (.inr (.inr (.inr (.inl (o, f))))))) => o.bind fun v => self (f v)
  | some (.inr (.inr (.inr (.inr (.inr (.inr (o, f))))))) => o.bind fun v => self (f v)
def ur_lk : List ur_E → Nat → Option (Instr × Nat × Nat × Int32)
  | [], _ => none
  | e :: r, pc => bif Nat.beq e.1 pc then some e.2 else ur_lk r pc
/-- a method as the machine takes it: its rows, the targets of its switches by pc, its locals, what it may answer, the class of its receiver (30: none, 20: a text) -/
abbrev ur_P : Type := List ur_E × (Nat → List (Int32 × Nat) × Nat) × Nat × Nat × Nat
/-- a method's name, code and answer -/
abbrev ur_NI : Type := MethodName × ByteArray × Option FieldType
def ur_stp (P : ur_P) (s : ur_S) : Option ur_A := match ur_lk P.1 s.1 with
  | some (i, n, x, v) => ur_one P.2.2.2.1 (P.2.1 s.1) i n x v s.1 s.2.1 s.2.2.1 s.2.2.2
  | none => none
def ur_rcv (P : ur_P) (as : List Value) (m : ur_M) : Bool := bif P.2.2.2.2 == 30 then true else match as with
  | .ref a :: _ => bif P.2.2.2.2 == 20 then decide (ur_base ≤ a ∧ a < ur_base + 3) else ur_isO m a P.2.2.2.2
  | _ => false
def ur_ent (P : ur_P) (as : List Value) (m : ur_M) : ur_S := (0, ur_pad P.2.2.1 (ur_slots as), [], m)
def ur_ex (G : Nat → ur_P) : Nat → Nat → Nat → ur_S → Option ur_V
  | 0, _, _, _ => none
  | n + 1, d, k, s => ur_do (ur_ex G n d k) (fun y as m => match d with
    | 0 => none
    | d + 1 => bif ur_rcv (G y) as m && Nat.ble (ur_slots as).length (G y).2.2.1 then ur_ex G n d y (ur_ent (G y) as m) else none) (ur_stp (G k) s)
end
section
/-! RUNS WITHOUT FUEL -/
theorem ur_fold_mono {self self' : ur_S → Option ur_V} (h : ∀ s r, self s = some r → self' s = some r) (bs : List (Bool × ur_S)) (s : ur_S) (r : ur_V) : bs.foldr (fun q r => bif q.1 then self q.2 else r) (self s) = some r → bs.foldr (fun q r => bif q.1 then self' q.2 else r) (self' s) = some r := by
  induction bs with
  | nil => exact h s r
  | cons q bs ih =>
    simp only [List.foldr_cons]
    cases q.1 with
    | true => exact h q.2 r
    | false => exact ih
theorem ur_bind_mono {α : Type} {o o' : Option α} {f f' : α → Option ur_V} {r : ur_V} (ho : ∀ v, o = some v → o' = some v) (hf : ∀ v r, f v = some r → f' v = some r) (h : o.bind f = some r) : o'.bind f' = some r := by
  obtain ⟨v, h1, h2⟩ := Option.bind_eq_some_iff.mp h
  exact Option.bind_eq_some_iff.mpr ⟨v, ho v h1, hf v r h2⟩
theorem ur_do_mono {self self' : ur_S → Option ur_V} {call call' : Nat → List Value → ur_M → Option ur_V} (h : ∀ s r, self s = some r → self' s = some r) (hc : ∀ y as m r, call y as m = some r → call' y as m = some r) (o : Option ur_A) (r : ur_V) : ur_do self call o = some r → ur_do self' call' o = some r := by
  match o with
  | none => exact id
  | some (.inl (bs, s)) => exact ur_fold_mono h bs s r
  | some (.inr (.inl r)) => exact id
  | some (.inr (.inr (.inl (y, as, m, f)))) => exact ur_bind_mono (fun v => hc y as m v) (fun v r => h _ r)
  | some (.inr (.inr (.inr (.inl (o, f))))) => exact ur_bind_mono (fun _ => id) (fun v r => h _ r)
  | some (.inr (.inr (.inr (.inr (.inl (o, f)))))) => exact ur_bind_mono (fun _ => id) (fun v r => h _ r)
  | some (.inr (.inr (.inr (.inr (.inr (.inl (o, f))))))) => exact ur_bind_mono (fun _ => id) (fun v r => h _ r)
  | some (.inr (.inr (.inr (.inr (.inr (.inr (o, f))))))) => exact ur_bind_mono (fun _ => id) (fun v r => h _ r)
/-- the call, by fuel -/
def ur_exc (G : Nat → ur_P) (n d y : Nat) (as : List Value) (m : ur_M) : Option ur_V := match d with
  | 0 => none
  | d + 1 => bif ur_rcv (G y) as m && Nat.ble (ur_slots as).length (G y).2.2.1 then ur_ex G n d y (ur_ent (G y) as m) else none
theorem ur_ex_s (G : Nat → ur_P) (n d k : Nat) (s : ur_S) : ur_ex G (n + 1) d k s = ur_do (ur_ex G n d k) (ur_exc G n d) (ur_stp (G k) s) := by
  show ur_do _ _ _ = _
  congr 1
theorem ur_exc_mono {G : Nat → ur_P} {n n' d y : Nat} {as : List Value} {m : ur_M} {r : ur_V} (h : ∀ d k s r, ur_ex G n d k s = some r → ur_ex G n' d k s = some r) : ur_exc G n d y as m = some r → ur_exc G n' d y as m = some r := by
  cases d with
  | zero => exact id
  | succ d =>
    simp only [ur_exc]
    cases (ur_rcv (G y) as m && Nat.ble (ur_slots as).length (G y).2.2.1) with
    | true => exact h d y _ r
    | false => exact id
theorem ur_ex_mono1 (G : Nat → ur_P) : ∀ n d k s r, ur_ex G n d k s = some r → ur_ex G (n + 1) d k s = some r
  | 0, _, _, _, _, h => by simp [ur_ex] at h
  | n + 1, d, k, s, r, h => by
    rw [ur_ex_s] at h
    rw [ur_ex_s]
    exact ur_do_mono (fun s r => ur_ex_mono1 G n d k s r) (fun y as m r => ur_exc_mono (fun d k s r => ur_ex_mono1 G n d k s r)) _ r h
theorem ur_ex_mono {G : Nat → ur_P} {n n' d k : Nat} {s : ur_S} {r : ur_V} (hn : n ≤ n') (h : ur_ex G n d k s = some r) : ur_ex G n' d k s = some r := by
  induction hn with
  | refl => exact h
  | step _ ih => exact ur_ex_mono1 G _ d k s r ih
theorem ur_ex_dmono (G : Nat → ur_P) : ∀ n d k s r, ur_ex G n d k s = some r → ur_ex G n (d + 1) k s = some r
  | 0, _, _, _, _, h => by simp [ur_ex] at h
  | n + 1, d, k, s, r, h => by
    rw [ur_ex_s] at h
    rw [ur_ex_s]
    refine ur_do_mono (fun s r => ur_ex_dmono G n d k s r) (fun y as m r => ?_) _ r h
    cases d with
    | zero => intro h; simp [ur_exc] at h
    | succ d =>
      simp only [ur_exc]
      cases (ur_rcv (G y) as m && Nat.ble (ur_slots as).length (G y).2.2.1) with
      | true => exact ur_ex_dmono G n d y _ r
      | false => exact id
theorem ur_det {G : Nat → ur_P} {n n' d k : Nat} {s : ur_S} {r r' : ur_V} (h : ur_ex G n d k s = some r) (h' : ur_ex G n' d k s = some r') : r = r' := by
  have a := ur_ex_mono (Nat.le_max_left n n') h
  have b := ur_ex_mono (Nat.le_max_right n n') h'
  rw [a] at b
  exact Option.some.inj b
noncomputable def ur_at (G : Nat → ur_P) (d k : Nat) (s : ur_S) : Option ur_V := @dite _ (∃ r n, ur_ex G n d k s = some r) (Classical.propDecidable _) (fun h => some (Classical.choose h)) (fun _ => none)
theorem ur_at_iff {G : Nat → ur_P} {d k : Nat} {s : ur_S} {r : ur_V} : ur_at G d k s = some r ↔ ∃ n, ur_ex G n d k s = some r := by
  unfold ur_at
  constructor
  · intro h
    split at h
    next he =>
      have := Classical.choose_spec he
      rw [Option.some.inj h] at this
      exact this
    next => cases h
  · intro h
    split
    next he =>
      obtain ⟨n, hn⟩ := Classical.choose_spec he
      obtain ⟨n', hn'⟩ := h
      rw [ur_det hn hn']
    next he => exact absurd ⟨r, h⟩ he
noncomputable def ur_call (G : Nat → ur_P) (d y : Nat) (as : List Value) (m : ur_M) : Option ur_V := match d with
  | 0 => none
  | d + 1 => bif ur_rcv (G y) as m && Nat.ble (ur_slots as).length (G y).2.2.1 then ur_at G d y (ur_ent (G y) as m) else none
theorem ur_call_iff {G : Nat → ur_P} {d y : Nat} {as : List Value} {m : ur_M} {r : ur_V} : ur_call G d y as m = some r ↔ ∃ n, ur_exc G n d y as m = some r := by
  cases d with
  | zero => simp [ur_call, ur_exc]
  | succ d =>
    simp only [ur_call, ur_exc]
    cases (ur_rcv (G y) as m && Nat.ble (ur_slots as).length (G y).2.2.1) with
    | true => exact ur_at_iff
    | false => simp
theorem ur_do_some {G : Nat → ur_P} {d k : Nat} {r : ur_V} (o : Option ur_A) (h : ur_do (ur_at G d k) (ur_call G d) o = some r) : ∃ n, ur_do (ur_ex G n d k) (ur_exc G n d) o = some r := by
  match o, h with
  | some (.inl (bs, s)), h =>
    revert h
    show bs.foldr (fun q r => bif q.1 then ur_at G d k q.2 else r) (ur_at G d k s) = some r → ∃ n, bs.foldr (fun q r => bif q.1 then ur_ex G n d k q.2 else r) (ur_ex G n d k s) = some r
    induction bs with
    | nil => exact fun h => ur_at_iff.mp h
    | cons q bs ih =>
      simp only [List.foldr_cons]
      cases q.1 with
      | true => exact fun h => ur_at_iff.mp h
      | false => exact ih
  | some (.inr (.inl x)), h => exact ⟨0, h⟩
  | some (.inr (.inr (.inl (y, as, m, f)))), h =>
    obtain ⟨v, h1, h2⟩ := Option.bind_eq_some_iff.mp h
    obtain ⟨n1, h1⟩ := ur_call_iff.mp h1
    obtain ⟨n2, h2⟩ := ur_at_iff.mp h2
    refine ⟨max n1 n2, Option.bind_eq_some_iff.mpr ⟨v, ?_, ur_ex_mono (Nat.le_max_right n1 n2) h2⟩⟩
    exact ur_exc_mono (fun d k s r h => ur_ex_mono (Nat.le_max_left n1 n2) h) h1
  | some (.inr (.inr (.inr (.inl (o, f))))), h =>
    obtain ⟨v, h1, h2⟩ := Option.bind_eq_some_iff.mp h
    obtain ⟨n2, h2⟩ := ur_at_iff.mp h2
    exact ⟨n2, Option.bind_eq_some_iff.mpr ⟨v, h1, h2⟩⟩
  | some (.inr (.inr (.inr (.inr (.inl (o, f)))))), h =>
    obtain ⟨v, h1, h2⟩ := Option.bind_eq_some_iff.mp h
    obtain ⟨n2, h2⟩ := ur_at_iff.mp h2
    exact ⟨n2, Option.bind_eq_some_iff.mpr ⟨v, h1, h2⟩⟩
  | some (.inr (.inr (.inr (.inr (.inr (.inl (o, f))))))), h =>
    obtain ⟨v, h1, h2⟩ := Option.bind_eq_some_iff.mp h
    obtain ⟨n2, h2⟩ := ur_at_iff.mp h2
    exact ⟨n2, Option.bind_eq_some_iff.mpr ⟨v, h1, h2⟩⟩
  | some (.inr (.inr (.inr (.inr (.inr (.inr (o, f))))))), h =>
    obtain ⟨v, h1, h2⟩ := Option.bind_eq_some_iff.mp h
    obtain ⟨n2, h2⟩ := ur_at_iff.mp h2
    exact ⟨n2, Option.bind_eq_some_iff.mpr ⟨v, h1, h2⟩⟩
theorem ur_at_eq (G : Nat → ur_P) (d k : Nat) (s : ur_S) : ur_at G d k s = ur_do (ur_at G d k) (ur_call G d) (ur_stp (G k) s) := by
  apply Option.ext
  intro r
  constructor
  · intro h
    obtain ⟨n, hn⟩ := ur_at_iff.mp h
    cases n with
    | zero => simp [ur_ex] at hn
    | succ n =>
      rw [ur_ex_s] at hn
      exact ur_do_mono (fun s r h => ur_at_iff.mpr ⟨n, h⟩) (fun y as m r h => ur_call_iff.mpr ⟨n, h⟩) _ r hn
  · intro h
    obtain ⟨n, hn⟩ := ur_do_some _ h
    exact ur_at_iff.mpr ⟨n + 1, by rw [ur_ex_s]; exact hn⟩
/-- steps on and on, up to N of them, up to a place where one stops -/
noncomputable def ur_bk (G : Nat → ur_P) (stop : Nat → Bool) (d k : Nat) : Nat → ur_S → Option ur_V
  | 0, s => ur_at G d k s
  | N + 1, s => bif stop s.1 then ur_at G d k s else ur_do (ur_bk G stop d k N) (ur_call G d) (ur_stp (G k) s)
theorem ur_bk_at (G : Nat → ur_P) (stop : Nat → Bool) (d k : Nat) : ∀ N, ur_bk G stop d k N = ur_at G d k
  | 0 => rfl
  | N + 1 => by
    funext s
    simp only [ur_bk]
    rw [ur_bk_at G stop d k N, ← ur_at_eq]
    cases stop s.1 <;> rfl
theorem ur_go (G : Nat → ur_P) (stop : Nat → Bool) (N d k : Nat) (s : ur_S) : ur_at G d k s = ur_do (ur_bk G stop d k N) (ur_call G d) (ur_stp (G k) s) := by
  rw [ur_bk_at]
  exact ur_at_eq G d k s
theorem ur_at_dmono {G : Nat → ur_P} {d k : Nat} {s : ur_S} {r : ur_V} (h : ur_at G d k s = some r) : ur_at G (d + 1) k s = some r := by
  obtain ⟨n, hn⟩ := ur_at_iff.mp h
  exact ur_at_iff.mpr ⟨n, ur_ex_dmono G n d k s r hn⟩
theorem ur_call_s (G : Nat → ur_P) (d y : Nat) (as : List Value) (m : ur_M) (h1 : ur_rcv (G y) as m = true) (h2 : Nat.ble (ur_slots as).length (G y).2.2.1 = true) : ur_call G (d + 1) y as m = ur_at G d y (ur_ent (G y) as m) := by
  simp only [ur_call, h1, h2]
  rfl
end
section
/-! THE PROGRAM as the pure machine takes it: printed by wip/whole/gen.py -/
def pr_X0_init : List ur_E := [(0, .aload_n 0, 1, 0, 0), (1, .invokespecial 1, 3, 9001, 0), (4, .return_, 1, 0, 0)]
def pg_X0_init : ur_P := (pr_X0_init, fun _ => ([], 0), 1, 0, 0)
abbrev kX_X0_init : Nat := 0
def pr_X0_below : List ur_E := [(0, .aload_n 0, 1, 0, 0), (1, .aload_n 0, 1, 0, 0), (2, .getfield 7, 3, 2, 0), (5, .ldc2_w 13, 3, 1103515245, 0), (8, .lmul, 1, 0, 0), (9, .ldc2_w 15, 3, 12345, 0), (12, .ladd, 1, 0, 0), (13, .ldc2_w 17, 3, 2147483648, 0), (16, .lrem, 1, 0, 0), (17, .putfield 7, 3, 2, 0), (20, .iload_n 1, 1, 0, 0), (21, .ifCond .le 18, 3, 39, 0), (24, .aload_n 0, 1, 0, 0), (25, .getfield 7, 3, 2, 0), (28, .ldc2_w 19, 3, 65536, 0), (31, .ldiv, 1, 0, 0), (32, .iload_n 1, 1, 0, 0), (33, .i2l, 1, 0, 0), (34, .lrem, 1, 0, 0), (35, .l2i, 1, 0, 0), (36, .goto 4, 3, 40, 0), (39, .iconst 0, 1, 0, 0), (40, .ireturn, 1, 0, 0)]
def pg_X0_below : ur_P := (pr_X0_below, fun _ => ([], 0), 2, 0, 0)
abbrev kX_X0_below : Nat := 1
def pr_X1_init : List ur_E := [(0, .aload_n 0, 1, 0, 0), (1, .invokespecial 3, 3, 9001, 0), (4, .aload_n 0, 1, 0, 0), (5, .bipush 8, 2, 0, 8), (7, .newarray .long, 2, 0, 0), (9, .putfield 9, 3, 259, 0), (12, .aload_n 0, 1, 0, 0), (13, .bipush 8, 2, 0, 8), (15, .newarray .int, 2, 0, 0), (17, .putfield 15, 3, 263, 0), (20, .aload_n 0, 1, 0, 0), (21, .bipush 8, 2, 0, 8), (23, .newarray .int, 2, 0, 0), (25, .putfield 19, 3, 267, 0), (28, .aload_n 0, 1, 0, 0), (29, .iconst 5, 1, 0, 5), (30, .newarray .long, 2, 0, 0), (32, .putfield 22, 3, 271, 0), (35, .aload_n 0, 1, 0, 0), (36, .iconst 5, 1, 0, 5), (37, .newarray .int, 2, 0, 0), (39, .putfield 25, 3, 275, 0), (42, .aload_n 0, 1, 0, 0), (43, .iconst 5, 1, 0, 5), (44, .newarray .int, 2, 0, 0), (46, .putfield 28, 3, 279, 0), (49, .aload_n 0, 1, 0, 0), (50, .iconst 5, 1, 0, 5), (51, .newarray .int, 2, 0, 0), (53, .putfield 31, 3, 283, 0), (56, .aload_n 0, 1, 0, 0), (57, .new 34, 3, 2, 0), (60, .dup, 1, 0, 0), (61, .invokespecial 36, 3, 674, 0), (64, .putfield 37, 3, 287, 0), (67, .return_, 1, 0, 0)]
def pg_X1_init : ur_P := (pr_X1_init, fun _ => ([], 0), 1, 0, 1)
abbrev kX_X1_init : Nat := 2
def pr_X1_hasRoom : List ur_E := [(0, .iload_n 1, 1, 0, 0), (1, .ifCond .lt 15, 3, 16, 0), (4, .iload_n 1, 1, 0, 0), (5, .aload_n 0, 1, 0, 0), (6, .getfield 41, 3, 296, 0), (9, .if_icmp .ge 7, 3, 16, 0), (12, .iconst 1, 1, 0, 1), (13, .goto 4, 3, 17, 0), (16, .iconst 0, 1, 0, 0), (17, .ireturn, 1, 0, 0)]
def pg_X1_hasRoom : ur_P := (pr_X1_hasRoom, fun _ => ([], 0), 2, 1, 1)
abbrev kX_X1_hasRoom : Nat := 3
def pr_X1_hasPerson : List ur_E := [(0, .iload_n 1, 1, 0, 0), (1, .ifCond .lt 15, 3, 16, 0), (4, .iload_n 1, 1, 0, 0), (5, .aload_n 0, 1, 0, 0), (6, .getfield 45, 3, 304, 0), (9, .if_icmp .ge 7, 3, 16, 0), (12, .iconst 1, 1, 0, 1), (13, .goto 4, 3, 17, 0), (16, .iconst 0, 1, 0, 0), (17, .ireturn, 1, 0, 0)]
def pg_X1_hasPerson : ur_P := (pr_X1_hasPerson, fun _ => ([], 0), 2, 1, 1)
abbrev kX_X1_hasPerson : Nat := 4
def pr_X1_isUnsaid : List ur_E := [(0, .aload_n 0, 1, 0, 0), (1, .iload_n 1, 1, 0, 0), (2, .invokevirtual 48, 3, 101, 0), (5, .ifCond .eq 19, 3, 24, 0), (8, .aload_n 0, 1, 0, 0), (9, .getfield 52, 3, 292, 0), (12, .iload_n 1, 1, 0, 0), (13, .invokestatic 55, 3, 4357, 0), (16, .iconst 1, 1, 0, 1), (17, .if_icmp .ne 7, 3, 24, 0), (20, .iconst 1, 1, 0, 1), (21, .goto 4, 3, 25, 0), (24, .iconst 0, 1, 0, 0), (25, .ireturn, 1, 0, 0)]
def pg_X1_isUnsaid : ur_P := (pr_X1_isUnsaid, fun _ => ([], 0), 2, 1, 1)
abbrev kX_X1_isUnsaid : Nat := 5
def pr_X1_saidRooms : List ur_E := [(0, .iconst 1, 1, 0, 1), (1, .aload_n 0, 1, 0, 0), (2, .getfield 41, 3, 296, 0), (5, .ishl, 1, 0, 0), (6, .iconst 1, 1, 0, 1), (7, .isub, 1, 0, 0), (8, .aload_n 0, 1, 0, 0), (9, .getfield 52, 3, 292, 0), (12, .iconst (-1), 1, 0, (-1)), (13, .ixor, 1, 0, 0), (14, .iand, 1, 0, 0), (15, .ireturn, 1, 0, 0)]
def pg_X1_saidRooms : ur_P := (pr_X1_saidRooms, fun _ => ([], 0), 1, 0, 1)
abbrev kX_X1_saidRooms : Nat := 6
def pr_X1_roomsBeside : List ur_E := [(0, .iconst 0, 1, 0, 0), (1, .istore_n 2, 1, 0, 0), (2, .iconst 0, 1, 0, 0), (3, .istore_n 3, 1, 0, 0), (4, .iload_n 3, 1, 0, 0), (5, .aload_n 0, 1, 0, 0), (6, .getfield 41, 3, 296, 0), (9, .if_icmp .ge 27, 3, 36, 0), (12, .iload_n 1, 1, 0, 0), (13, .iload_n 3, 1, 0, 0), (14, .invokestatic 55, 3, 4357, 0), (17, .iconst 1, 1, 0, 1), (18, .if_icmp .ne 12, 3, 30, 0), (21, .iload_n 2, 1, 0, 0), (22, .aload_n 0, 1, 0, 0), (23, .getfield 19, 3, 267, 0), (26, .iload_n 3, 1, 0, 0), (27, .iaload, 1, 0, 0), (28, .ior, 1, 0, 0), (29, .istore_n 2, 1, 0, 0), (30, .iinc 3 1, 3, 0, 1), (33, .goto (-29), 3, 4, 0), (36, .iload_n 2, 1, 0, 0), (37, .ireturn, 1, 0, 0)]
def pg_X1_roomsBeside : ur_P := (pr_X1_roomsBeside, fun _ => ([], 0), 4, 0, 1)
abbrev kX_X1_roomsBeside : Nat := 7
def pr_X1_spread : List ur_E := [(0, .iload_n 1, 1, 0, 0), (1, .iload_n 2, 1, 0, 0), (2, .iand, 1, 0, 0), (3, .istore_n 3, 1, 0, 0), (4, .iconst 0, 1, 0, 0), (5, .istore 4, 2, 0, 0), (7, .iload 4, 2, 0, 0), (9, .bipush 8, 2, 0, 8), (11, .if_icmp .ge 19, 3, 30, 0), (14, .iload_n 3, 1, 0, 0), (15, .aload_n 0, 1, 0, 0), (16, .iload_n 3, 1, 0, 0), (17, .invokevirtual 59, 3, 229, 0), (20, .iload_n 2, 1, 0, 0), (21, .iand, 1, 0, 0), (22, .ior, 1, 0, 0), (23, .istore_n 3, 1, 0, 0), (24, .iinc 4 1, 3, 0, 1), (27, .goto (-20), 3, 7, 0), (30, .iload_n 3, 1, 0, 0), (31, .ireturn, 1, 0, 0)]
def pg_X1_spread : ur_P := (pr_X1_spread, fun _ => ([], 0), 5, 0, 1)
abbrev kX_X1_spread : Nat := 8
def pr_X1_roomNamed : List ur_E := [(0, .iconst 0, 1, 0, 0), (1, .istore_n 3, 1, 0, 0), (2, .iload_n 3, 1, 0, 0), (3, .aload_n 0, 1, 0, 0), (4, .getfield 41, 3, 296, 0), (7, .if_icmp .ge 22, 3, 29, 0), (10, .aload_n 0, 1, 0, 0), (11, .getfield 9, 3, 259, 0), (14, .iload_n 3, 1, 0, 0), (15, .laload, 1, 0, 0), (16, .lload_n 1, 1, 0, 0), (17, .lcmp, 1, 0, 0), (18, .ifCond .ne 5, 3, 23, 0), (21, .iload_n 3, 1, 0, 0), (22, .ireturn, 1, 0, 0), (23, .iinc 3 1, 3, 0, 1), (26, .goto (-24), 3, 2, 0), (29, .iconst (-1), 1, 0, (-1)), (30, .ireturn, 1, 0, 0)]
def pg_X1_roomNamed : ur_P := (pr_X1_roomNamed, fun _ => ([], 0), 4, 0, 1)
abbrev kX_X1_roomNamed : Nat := 9
def pr_X1_personNamed : List ur_E := [(0, .iconst 0, 1, 0, 0), (1, .istore_n 3, 1, 0, 0), (2, .iload_n 3, 1, 0, 0), (3, .aload_n 0, 1, 0, 0), (4, .getfield 45, 3, 304, 0), (7, .if_icmp .ge 22, 3, 29, 0), (10, .aload_n 0, 1, 0, 0), (11, .getfield 22, 3, 271, 0), (14, .iload_n 3, 1, 0, 0), (15, .laload, 1, 0, 0), (16, .lload_n 1, 1, 0, 0), (17, .lcmp, 1, 0, 0), (18, .ifCond .ne 5, 3, 23, 0), (21, .iload_n 3, 1, 0, 0), (22, .ireturn, 1, 0, 0), (23, .iinc 3 1, 3, 0, 1), (26, .goto (-24), 3, 2, 0), (29, .iconst (-1), 1, 0, (-1)), (30, .ireturn, 1, 0, 0)]
def pg_X1_personNamed : ur_P := (pr_X1_personNamed, fun _ => ([], 0), 4, 0, 1)
abbrev kX_X1_personNamed : Nat := 10
def pr_X1_clear : List ur_E := [(0, .aload_n 0, 1, 0, 0), (1, .getfield 19, 3, 267, 0), (4, .iconst 0, 1, 0, 0), (5, .invokestatic 63, 3, 8484, 0), (8, .aload_n 0, 1, 0, 0), (9, .getfield 37, 3, 287, 0), (12, .iconst 0, 1, 0, 0), (13, .putfield 69, 3, 520, 0), (16, .aload_n 0, 1, 0, 0), (17, .iconst 0, 1, 0, 0), (18, .putfield 72, 3, 289, 0), (21, .aload_n 0, 1, 0, 0), (22, .iconst 0, 1, 0, 0), (23, .putfield 52, 3, 292, 0), (26, .aload_n 0, 1, 0, 0), (27, .iconst 0, 1, 0, 0), (28, .putfield 41, 3, 296, 0), (31, .aload_n 0, 1, 0, 0), (32, .iconst 0, 1, 0, 0), (33, .putfield 76, 3, 300, 0), (36, .aload_n 0, 1, 0, 0), (37, .iconst 0, 1, 0, 0), (38, .putfield 45, 3, 304, 0), (41, .return_, 1, 0, 0)]
def pg_X1_clear : ur_P := (pr_X1_clear, fun _ => ([], 0), 1, 0, 1)
abbrev kX_X1_clear : Nat := 11
def pr_X1_readFrom : List ur_E := [(0, .aload_n 0, 1, 0, 0), (1, .invokevirtual 79, 3, 354, 0), (4, .aload_n 1, 1, 0, 0), (5, .invokevirtual 82, 3, 2338, 0), (8, .iconst 1, 1, 0, 1), (9, .istore_n 2, 1, 0, 0), (10, .iconst 0, 1, 0, 0), (11, .istore_n 3, 1, 0, 0), (12, .iload_n 3, 1, 0, 0), (13, .sipush 1000, 3, 0, 1000), (16, .if_icmp .ge 142, 3, 158, 0), (19, .iload_n 2, 1, 0, 0), (20, .ifCond .eq 138, 3, 158, 0), (23, .aload_n 1, 1, 0, 0), (24, .getfield 87, 3, 2064, 0), (27, .iconst 1, 1, 0, 1), (28, .if_icmp .eq 130, 3, 158, 0), (31, .aload_n 1, 1, 0, 0), (32, .getfield 87, 3, 2064, 0), (35, .tableswitch 92 100 107 #[45, 55, 92, 65, 74, 92, 92, 83], 45, 0, 0), (80, .aload_n 0, 1, 0, 0), (81, .aload_n 1, 1, 0, 0), (82, .iconst 0, 1, 0, 0), (83, .invokevirtual 90, 3, 423, 0), (86, .istore_n 2, 1, 0, 0), (87, .goto 46, 3, 133, 0), (90, .aload_n 0, 1, 0, 0), (91, .aload_n 1, 1, 0, 0), (92, .iconst 1, 1, 0, 1), (93, .invokevirtual 90, 3, 423, 0), (96, .istore_n 2, 1, 0, 0), (97, .goto 36, 3, 133, 0), (100, .aload_n 0, 1, 0, 0), (101, .aload_n 1, 1, 0, 0), (102, .invokevirtual 94, 3, 517, 0), (105, .istore_n 2, 1, 0, 0), (106, .goto 27, 3, 133, 0), (109, .aload_n 0, 1, 0, 0), (110, .aload_n 1, 1, 0, 0), (111, .invokevirtual 98, 3, 581, 0), (114, .istore_n 2, 1, 0, 0), (115, .goto 18, 3, 133, 0), (118, .aload_n 0, 1, 0, 0), (119, .aload_n 1, 1, 0, 0), (120, .invokevirtual 101, 3, 645, 0), (123, .istore_n 2, 1, 0, 0), (124, .goto 9, 3, 133, 0), (127, .aload_n 1, 1, 0, 0), (128, .iconst 1, 1, 0, 1), (129, .invokevirtual 104, 3, 2469, 0), (132, .istore_n 2, 1, 0, 0), (133, .iload_n 2, 1, 0, 0), (134, .ifCond .eq 16, 3, 150, 0), (137, .aload_n 1, 1, 0, 0), (138, .bipush 59, 2, 0, 59), (140, .invokevirtual 107, 3, 2501, 0), (143, .ifCond .eq 7, 3, 150, 0), (146, .iconst 1, 1, 0, 1), (147, .goto 4, 3, 151, 0), (150, .iconst 0, 1, 0, 0), (151, .istore_n 2, 1, 0, 0), (152, .iinc 3 1, 3, 0, 1), (155, .goto (-143), 3, 12, 0), (158, .aload_n 1, 1, 0, 0), (159, .getfield 110, 3, 2076, 0), (162, .ireturn, 1, 0, 0)]
def pg_X1_readFrom : ur_P := (pr_X1_readFrom, fun pc => bif Nat.beq pc 35 then ([(100, 80), (101, 90), (102, 127), (103, 100), (104, 109), (105, 127), (106, 127), (107, 118)], 127) else ([], 0), 4, 0, 1)
abbrev kX_X1_readFrom : Nat := 12
def pr_X1_readRoom : List ur_E := [(0, .aload_n 0, 1, 0, 0), (1, .getfield 41, 3, 296, 0), (4, .bipush 8, 2, 0, 8), (6, .if_icmp .lt 9, 3, 15, 0), (9, .aload_n 1, 1, 0, 0), (10, .iconst 5, 1, 0, 5), (11, .invokevirtual 104, 3, 2469, 0), (14, .ireturn, 1, 0, 0), (15, .aload_n 1, 1, 0, 0), (16, .invokevirtual 113, 3, 2370, 0), (19, .aload_n 1, 1, 0, 0), (20, .getfield 116, 3, 2070, 0), (23, .lstore_n 3, 1, 0, 0), (24, .aload_n 0, 1, 0, 0), (25, .aload_n 1, 1, 0, 0), (26, .invokevirtual 120, 3, 453, 0), (29, .ifCond .ne 5, 3, 34, 0), (32, .iconst 0, 1, 0, 0), (33, .ireturn, 1, 0, 0), (34, .iconst 0, 1, 0, 0), (35, .istore 5, 2, 0, 0), (37, .iload_n 2, 1, 0, 0), (38, .ifCond .eq 49, 3, 87, 0), (41, .aload_n 1, 1, 0, 0), (42, .bipush 102, 2, 0, 102), (44, .invokevirtual 107, 3, 2501, 0), (47, .ifCond .eq 13, 3, 60, 0), (50, .aload_n 1, 1, 0, 0), (51, .iconst 1, 1, 0, 1), (52, .bipush 20, 2, 0, 20), (54, .invokevirtual 123, 3, 2535, 0), (57, .ifCond .ne 5, 3, 62, 0), (60, .iconst 0, 1, 0, 0), (61, .ireturn, 1, 0, 0), (62, .aload_n 1, 1, 0, 0), (63, .getfield 127, 3, 2072, 0), (66, .istore 5, 2, 0, 0), (68, .aload_n 1, 1, 0, 0), (69, .invokevirtual 113, 3, 2370, 0), (72, .aload_n 0, 1, 0, 0), (73, .dup, 1, 0, 0), (74, .getfield 52, 3, 292, 0), (77, .iconst 1, 1, 0, 1), (78, .aload_n 0, 1, 0, 0), (79, .getfield 41, 3, 296, 0), (82, .ishl, 1, 0, 0), (83, .ior, 1, 0, 0), (84, .putfield 52, 3, 292, 0), (87, .aload_n 0, 1, 0, 0), (88, .getfield 9, 3, 259, 0), (91, .aload_n 0, 1, 0, 0), (92, .getfield 41, 3, 296, 0), (95, .lload_n 3, 1, 0, 0), (96, .lastore, 1, 0, 0), (97, .aload_n 0, 1, 0, 0), (98, .getfield 15, 3, 263, 0), (101, .aload_n 0, 1, 0, 0), (102, .getfield 41, 3, 296, 0), (105, .iload 5, 2, 0, 0), (107, .iastore, 1, 0, 0), (108, .aload_n 0, 1, 0, 0), (109, .dup, 1, 0, 0), (110, .getfield 41, 3, 296, 0), (113, .iconst 1, 1, 0, 1), (114, .iadd, 1, 0, 0), (115, .putfield 41, 3, 296, 0), (118, .iconst 1, 1, 0, 1), (119, .ireturn, 1, 0, 0)]
def pg_X1_readRoom : ur_P := (pr_X1_readRoom, fun _ => ([], 0), 6, 1, 1)
abbrev kX_X1_readRoom : Nat := 13
def pr_X1_takeNewName : List ur_E := [(0, .aload_n 1, 1, 0, 0), (1, .getfield 87, 3, 2064, 0), (4, .iconst 3, 1, 0, 3), (5, .if_icmp .eq 9, 3, 14, 0), (8, .aload_n 1, 1, 0, 0), (9, .iconst 1, 1, 0, 1), (10, .invokevirtual 104, 3, 2469, 0), (13, .ireturn, 1, 0, 0), (14, .aload_n 0, 1, 0, 0), (15, .aload_n 1, 1, 0, 0), (16, .getfield 116, 3, 2070, 0), (19, .invokevirtual 130, 3, 293, 0), (22, .iconst (-1), 1, 0, (-1)), (23, .if_icmp .ne 15, 3, 38, 0), (26, .aload_n 0, 1, 0, 0), (27, .aload_n 1, 1, 0, 0), (28, .getfield 116, 3, 2070, 0), (31, .invokevirtual 134, 3, 325, 0), (34, .iconst (-1), 1, 0, (-1)), (35, .if_icmp .eq 9, 3, 44, 0), (38, .aload_n 1, 1, 0, 0), (39, .iconst 3, 1, 0, 3), (40, .invokevirtual 104, 3, 2469, 0), (43, .ireturn, 1, 0, 0), (44, .aload_n 1, 1, 0, 0), (45, .invokevirtual 113, 3, 2370, 0), (48, .iconst 1, 1, 0, 1), (49, .ireturn, 1, 0, 0)]
def pg_X1_takeNewName : ur_P := (pr_X1_takeNewName, fun _ => ([], 0), 2, 1, 1)
abbrev kX_X1_takeNewName : Nat := 14
def pr_X1_isRoomName : List ur_E := [(0, .aload_n 1, 1, 0, 0), (1, .getfield 87, 3, 2064, 0), (4, .iconst 3, 1, 0, 3), (5, .if_icmp .eq 9, 3, 14, 0), (8, .aload_n 1, 1, 0, 0), (9, .iconst 1, 1, 0, 1), (10, .invokevirtual 104, 3, 2469, 0), (13, .ireturn, 1, 0, 0), (14, .aload_n 0, 1, 0, 0), (15, .aload_n 1, 1, 0, 0), (16, .getfield 116, 3, 2070, 0), (19, .invokevirtual 130, 3, 293, 0), (22, .iconst (-1), 1, 0, (-1)), (23, .if_icmp .ne 11, 3, 34, 0), (26, .aload_n 1, 1, 0, 0), (27, .iconst 2, 1, 0, 2), (28, .invokevirtual 104, 3, 2469, 0), (31, .ifCond .eq 7, 3, 38, 0), (34, .iconst 1, 1, 0, 1), (35, .goto 4, 3, 39, 0), (38, .iconst 0, 1, 0, 0), (39, .ireturn, 1, 0, 0)]
def pg_X1_isRoomName : ur_P := (pr_X1_isRoomName, fun _ => ([], 0), 2, 1, 1)
abbrev kX_X1_isRoomName : Nat := 15
def pr_X1_readDoor : List ur_E := [(0, .aload_n 0, 1, 0, 0), (1, .getfield 76, 3, 300, 0), (4, .bipush 10, 2, 0, 10), (6, .if_icmp .lt 9, 3, 15, 0), (9, .aload_n 1, 1, 0, 0), (10, .iconst 5, 1, 0, 5), (11, .invokevirtual 104, 3, 2469, 0), (14, .ireturn, 1, 0, 0), (15, .aload_n 1, 1, 0, 0), (16, .invokevirtual 113, 3, 2370, 0), (19, .aload_n 0, 1, 0, 0), (20, .aload_n 1, 1, 0, 0), (21, .invokevirtual 137, 3, 485, 0), (24, .ifCond .ne 5, 3, 29, 0), (27, .iconst 0, 1, 0, 0), (28, .ireturn, 1, 0, 0), (29, .aload_n 0, 1, 0, 0), (30, .aload_n 1, 1, 0, 0), (31, .getfield 116, 3, 2070, 0), (34, .invokevirtual 130, 3, 293, 0), (37, .istore_n 2, 1, 0, 0), (38, .aload_n 1, 1, 0, 0), (39, .invokevirtual 113, 3, 2370, 0), (42, .aload_n 0, 1, 0, 0), (43, .aload_n 1, 1, 0, 0), (44, .invokevirtual 137, 3, 485, 0), (47, .ifCond .ne 5, 3, 52, 0), (50, .iconst 0, 1, 0, 0), (51, .ireturn, 1, 0, 0), (52, .aload_n 0, 1, 0, 0), (53, .aload_n 1, 1, 0, 0), (54, .getfield 116, 3, 2070, 0), (57, .invokevirtual 130, 3, 293, 0), (60, .istore_n 3, 1, 0, 0), (61, .iload_n 2, 1, 0, 0), (62, .ifCond .lt 16, 3, 78, 0), (65, .iload_n 3, 1, 0, 0), (66, .ifCond .lt 12, 3, 78, 0), (69, .aload_n 0, 1, 0, 0), (70, .iload_n 2, 1, 0, 0), (71, .iload_n 3, 1, 0, 0), (72, .invokevirtual 140, 3, 551, 0), (75, .ifCond .ne 9, 3, 84, 0), (78, .aload_n 1, 1, 0, 0), (79, .iconst 3, 1, 0, 3), (80, .invokevirtual 104, 3, 2469, 0), (83, .ireturn, 1, 0, 0), (84, .aload_n 0, 1, 0, 0), (85, .getfield 19, 3, 267, 0), (88, .iload_n 2, 1, 0, 0), (89, .dup2, 1, 0, 0), (90, .iaload, 1, 0, 0), (91, .iconst 1, 1, 0, 1), (92, .iload_n 3, 1, 0, 0), (93, .ishl, 1, 0, 0), (94, .ior, 1, 0, 0), (95, .iastore, 1, 0, 0), (96, .aload_n 0, 1, 0, 0), (97, .getfield 19, 3, 267, 0), (100, .iload_n 3, 1, 0, 0), (101, .dup2, 1, 0, 0), (102, .iaload, 1, 0, 0), (103, .iconst 1, 1, 0, 1), (104, .iload_n 2, 1, 0, 0), (105, .ishl, 1, 0, 0), (106, .ior, 1, 0, 0), (107, .iastore, 1, 0, 0), (108, .aload_n 0, 1, 0, 0), (109, .dup, 1, 0, 0), (110, .getfield 76, 3, 300, 0), (113, .iconst 1, 1, 0, 1), (114, .iadd, 1, 0, 0), (115, .putfield 76, 3, 300, 0), (118, .aload_n 1, 1, 0, 0), (119, .invokevirtual 113, 3, 2370, 0), (122, .iconst 1, 1, 0, 1), (123, .ireturn, 1, 0, 0)]
def pg_X1_readDoor : ur_P := (pr_X1_readDoor, fun _ => ([], 0), 4, 1, 1)
abbrev kX_X1_readDoor : Nat := 16
def pr_X1_canJoin : List ur_E := [(0, .aload_n 0, 1, 0, 0), (1, .iload_n 1, 1, 0, 0), (2, .invokevirtual 143, 3, 165, 0), (5, .ifCond .eq 15, 3, 20, 0), (8, .aload_n 0, 1, 0, 0), (9, .iload_n 2, 1, 0, 0), (10, .invokevirtual 143, 3, 165, 0), (13, .ifCond .eq 7, 3, 20, 0), (16, .iconst 1, 1, 0, 1), (17, .goto 4, 3, 21, 0), (20, .iconst 0, 1, 0, 0), (21, .istore_n 3, 1, 0, 0), (22, .iload_n 1, 1, 0, 0), (23, .iload_n 2, 1, 0, 0), (24, .if_icmp .eq 24, 3, 48, 0), (27, .iload_n 3, 1, 0, 0), (28, .ifCond .ne 20, 3, 48, 0), (31, .aload_n 0, 1, 0, 0), (32, .getfield 19, 3, 267, 0), (35, .iload_n 1, 1, 0, 0), (36, .iaload, 1, 0, 0), (37, .iload_n 2, 1, 0, 0), (38, .invokestatic 55, 3, 4357, 0), (41, .ifCond .ne 7, 3, 48, 0), (44, .iconst 1, 1, 0, 1), (45, .goto 4, 3, 49, 0), (48, .iconst 0, 1, 0, 0), (49, .ireturn, 1, 0, 0)]
def pg_X1_canJoin : ur_P := (pr_X1_canJoin, fun _ => ([], 0), 4, 1, 1)
abbrev kX_X1_canJoin : Nat := 17
def pr_X1_readPerson : List ur_E := [(0, .aload_n 0, 1, 0, 0), (1, .getfield 45, 3, 304, 0), (4, .iconst 5, 1, 0, 5), (5, .if_icmp .lt 9, 3, 14, 0), (8, .aload_n 1, 1, 0, 0), (9, .iconst 5, 1, 0, 5), (10, .invokevirtual 104, 3, 2469, 0), (13, .ireturn, 1, 0, 0), (14, .aload_n 1, 1, 0, 0), (15, .invokevirtual 113, 3, 2370, 0), (18, .aload_n 1, 1, 0, 0), (19, .getfield 116, 3, 2070, 0), (22, .lstore_n 2, 1, 0, 0), (23, .aload_n 0, 1, 0, 0), (24, .aload_n 1, 1, 0, 0), (25, .invokevirtual 120, 3, 453, 0), (28, .ifCond .ne 5, 3, 33, 0), (31, .iconst 0, 1, 0, 0), (32, .ireturn, 1, 0, 0), (33, .aload_n 1, 1, 0, 0), (34, .getfield 87, 3, 2064, 0), (37, .bipush 113, 2, 0, 113), (39, .isub, 1, 0, 0), (40, .istore 4, 2, 0, 0), (42, .aload_n 1, 1, 0, 0), (43, .getfield 87, 3, 2064, 0), (46, .bipush 113, 2, 0, 113), (48, .if_icmp .lt 12, 3, 60, 0), (51, .aload_n 1, 1, 0, 0), (52, .getfield 87, 3, 2064, 0), (55, .bipush 116, 2, 0, 116), (57, .if_icmp .le 9, 3, 66, 0), (60, .aload_n 1, 1, 0, 0), (61, .iconst 1, 1, 0, 1), (62, .invokevirtual 104, 3, 2469, 0), (65, .ireturn, 1, 0, 0), (66, .aload_n 1, 1, 0, 0), (67, .invokevirtual 113, 3, 2370, 0), (70, .aload_n 1, 1, 0, 0), (71, .bipush 105, 2, 0, 105), (73, .invokevirtual 107, 3, 2501, 0), (76, .ifCond .eq 13, 3, 89, 0), (79, .aload_n 1, 1, 0, 0), (80, .iconst 0, 1, 0, 0), (81, .bipush 99, 2, 0, 99), (83, .invokevirtual 123, 3, 2535, 0), (86, .ifCond .ne 5, 3, 91, 0), (89, .iconst 0, 1, 0, 0), (90, .ireturn, 1, 0, 0), (91, .aload_n 1, 1, 0, 0), (92, .getfield 127, 3, 2072, 0), (95, .istore 5, 2, 0, 0), (97, .aload_n 1, 1, 0, 0), (98, .invokevirtual 113, 3, 2370, 0), (101, .aload_n 1, 1, 0, 0), (102, .bipush 106, 2, 0, 106), (104, .invokevirtual 107, 3, 2501, 0), (107, .ifCond .eq 11, 3, 118, 0), (110, .aload_n 0, 1, 0, 0), (111, .aload_n 1, 1, 0, 0), (112, .invokevirtual 137, 3, 485, 0), (115, .ifCond .ne 5, 3, 120, 0), (118, .iconst 0, 1, 0, 0), (119, .ireturn, 1, 0, 0), (120, .aload_n 0, 1, 0, 0), (121, .aload_n 1, 1, 0, 0), (122, .getfield 116, 3, 2070, 0), (125, .invokevirtual 130, 3, 293, 0), (128, .istore 6, 2, 0, 0), (130, .aload_n 0, 1, 0, 0), (131, .iload 6, 2, 0, 0), (133, .invokevirtual 143, 3, 165, 0), (136, .ifCond .eq 9, 3, 145, 0), (139, .aload_n 1, 1, 0, 0), (140, .iconst 2, 1, 0, 2), (141, .invokevirtual 104, 3, 2469, 0), (144, .ireturn, 1, 0, 0), (145, .aload_n 1, 1, 0, 0), (146, .invokevirtual 113, 3, 2370, 0), (149, .aload_n 0, 1, 0, 0), (150, .lload_n 2, 1, 0, 0), (151, .iload 4, 2, 0, 0), (153, .iload 5, 2, 0, 0), (155, .iload 6, 2, 0, 0), (157, .invokevirtual 146, 3, 618, 0), (160, .iconst 1, 1, 0, 1), (161, .ireturn, 1, 0, 0)]
def pg_X1_readPerson : ur_P := (pr_X1_readPerson, fun _ => ([], 0), 7, 1, 1)
abbrev kX_X1_readPerson : Nat := 18
def pr_X1_addPerson : List ur_E := [(0, .aload_n 0, 1, 0, 0), (1, .getfield 45, 3, 304, 0), (4, .iconst 5, 1, 0, 5), (5, .if_icmp .ge 55, 3, 60, 0), (8, .aload_n 0, 1, 0, 0), (9, .getfield 22, 3, 271, 0), (12, .aload_n 0, 1, 0, 0), (13, .getfield 45, 3, 304, 0), (16, .lload_n 1, 1, 0, 0), (17, .lastore, 1, 0, 0), (18, .aload_n 0, 1, 0, 0), (19, .getfield 25, 3, 275, 0), (22, .aload_n 0, 1, 0, 0), (23, .getfield 45, 3, 304, 0), (26, .iload_n 3, 1, 0, 0), (27, .iastore, 1, 0, 0), (28, .aload_n 0, 1, 0, 0), (29, .getfield 28, 3, 279, 0), (32, .aload_n 0, 1, 0, 0), (33, .getfield 45, 3, 304, 0), (36, .iload 4, 2, 0, 0), (38, .iastore, 1, 0, 0), (39, .aload_n 0, 1, 0, 0), (40, .getfield 31, 3, 283, 0), (43, .aload_n 0, 1, 0, 0), (44, .getfield 45, 3, 304, 0), (47, .iload 5, 2, 0, 0), (49, .iastore, 1, 0, 0), (50, .aload_n 0, 1, 0, 0), (51, .dup, 1, 0, 0), (52, .getfield 45, 3, 304, 0), (55, .iconst 1, 1, 0, 1), (56, .iadd, 1, 0, 0), (57, .putfield 45, 3, 304, 0), (60, .return_, 1, 0, 0)]
def pg_X1_addPerson : ur_P := (pr_X1_addPerson, fun _ => ([], 0), 6, 0, 1)
abbrev kX_X1_addPerson : Nat := 19
def pr_X1_readStays : List ur_E := [(0, .aload_n 0, 1, 0, 0), (1, .getfield 72, 3, 289, 0), (4, .ifCond .eq 9, 3, 13, 0), (7, .aload_n 1, 1, 0, 0), (8, .iconst 3, 1, 0, 3), (9, .invokevirtual 104, 3, 2469, 0), (12, .ireturn, 1, 0, 0), (13, .aload_n 0, 1, 0, 0), (14, .iconst 1, 1, 0, 1), (15, .putfield 72, 3, 289, 0), (18, .aload_n 1, 1, 0, 0), (19, .invokevirtual 113, 3, 2370, 0), (22, .aload_n 0, 1, 0, 0), (23, .getfield 37, 3, 287, 0), (26, .aload_n 1, 1, 0, 0), (27, .iconst 0, 1, 0, 0), (28, .iconst 0, 1, 0, 0), (29, .invokevirtual 150, 3, 713, 0), (32, .ireturn, 1, 0, 0)]
def pg_X1_readStays : ur_P := (pr_X1_readStays, fun _ => ([], 0), 2, 1, 1)
abbrev kX_X1_readStays : Nat := 20
def pr_X2_init : List ur_E := [(0, .aload_n 0, 1, 0, 0), (1, .invokespecial 3, 3, 9001, 0), (4, .aload_n 0, 1, 0, 0), (5, .sipush 1000, 3, 0, 1000), (8, .newarray .int, 2, 0, 0), (10, .putfield 9, 3, 515, 0), (13, .aload_n 0, 1, 0, 0), (14, .bipush 32, 2, 0, 32), (16, .newarray .int, 2, 0, 0), (18, .putfield 15, 3, 519, 0), (21, .return_, 1, 0, 0)]
def pg_X2_init : ur_P := (pr_X2_init, fun _ => ([], 0), 1, 0, 2)
abbrev kX_X2_init : Nat := 21
def pr_X2_readLevel : List ur_E := [(0, .iload_n 2, 1, 0, 0), (1, .iconst 4, 1, 0, 4), (2, .if_icmp .lt 10, 3, 12, 0), (5, .aload_n 0, 1, 0, 0), (6, .aload_n 1, 1, 0, 0), (7, .iload_n 3, 1, 0, 0), (8, .invokevirtual 18, 3, 775, 0), (11, .ireturn, 1, 0, 0), (12, .aload_n 0, 1, 0, 0), (13, .aload_n 1, 1, 0, 0), (14, .iload_n 2, 1, 0, 0), (15, .iconst 1, 1, 0, 1), (16, .iadd, 1, 0, 0), (17, .iload_n 3, 1, 0, 0), (18, .invokevirtual 22, 3, 713, 0), (21, .ifCond .ne 5, 3, 26, 0), (24, .iconst 0, 1, 0, 0), (25, .ireturn, 1, 0, 0), (26, .iload_n 2, 1, 0, 0), (27, .iconst 1, 1, 0, 1), (28, .if_icmp .ne 7, 3, 35, 0), (31, .iconst 1, 1, 0, 1), (32, .goto 6, 3, 38, 0), (35, .sipush 1000, 3, 0, 1000), (38, .istore 4, 2, 0, 0), (40, .iconst 0, 1, 0, 0), (41, .istore 5, 2, 0, 0), (43, .iload 5, 2, 0, 0), (45, .iload 4, 2, 0, 0), (47, .if_icmp .ge 51, 3, 98, 0), (50, .aload_n 1, 1, 0, 0), (51, .getfield 26, 3, 2064, 0), (54, .invokestatic 32, 3, 739, 0), (57, .iload_n 2, 1, 0, 0), (58, .if_icmp .ne 40, 3, 98, 0), (61, .aload_n 1, 1, 0, 0), (62, .getfield 26, 3, 2064, 0), (65, .istore 6, 2, 0, 0), (67, .aload_n 1, 1, 0, 0), (68, .invokevirtual 36, 3, 2370, 0), (71, .aload_n 0, 1, 0, 0), (72, .aload_n 1, 1, 0, 0), (73, .iload_n 2, 1, 0, 0), (74, .iconst 1, 1, 0, 1), (75, .iadd, 1, 0, 0), (76, .iload_n 3, 1, 0, 0), (77, .invokevirtual 22, 3, 713, 0), (80, .ifCond .ne 5, 3, 85, 0), (83, .iconst 0, 1, 0, 0), (84, .ireturn, 1, 0, 0), (85, .aload_n 0, 1, 0, 0), (86, .iload 6, 2, 0, 0), (88, .ineg, 1, 0, 0), (89, .invokevirtual 39, 3, 836, 0), (92, .iinc 5 1, 3, 0, 1), (95, .goto (-52), 3, 43, 0), (98, .iconst 1, 1, 0, 1), (99, .ireturn, 1, 0, 0)]
def pg_X2_readLevel : ur_P := (pr_X2_readLevel, fun _ => ([], 0), 7, 1, 2)
abbrev kX_X2_readLevel : Nat := 22
def pr_X2_levelOf : List ur_E := [(0, .iload_n 0, 1, 0, 0), (1, .lookupswitch 75 #[(42, 73), (43, 71), (45, 71), (60, 69), (61, 69), (118, 67), (119, 67)], 67, 0, 0), (68, .iconst 0, 1, 0, 0), (69, .ireturn, 1, 0, 0), (70, .iconst 1, 1, 0, 1), (71, .ireturn, 1, 0, 0), (72, .iconst 2, 1, 0, 2), (73, .ireturn, 1, 0, 0), (74, .iconst 3, 1, 0, 3), (75, .ireturn, 1, 0, 0), (76, .iconst (-1), 1, 0, (-1)), (77, .ireturn, 1, 0, 0)]
def pg_X2_levelOf : ur_P := (pr_X2_levelOf, fun pc => bif Nat.beq pc 1 then ([(42, 74), (43, 72), (45, 72), (60, 70), (61, 70), (118, 68), (119, 68)], 76) else ([], 0), 1, 0, 30)
abbrev kX_X2_levelOf : Nat := 23
def pr_X2_readPart : List ur_E := [(0, .aload_n 1, 1, 0, 0), (1, .getfield 26, 3, 2064, 0), (4, .istore_n 3, 1, 0, 0), (5, .aload_n 1, 1, 0, 0), (6, .getfield 43, 3, 2072, 0), (9, .istore 4, 2, 0, 0), (11, .iload_n 3, 1, 0, 0), (12, .iconst 3, 1, 0, 3), (13, .if_icmp .ne 15, 3, 28, 0), (16, .ldc 46, 2, 2002, 0), (18, .aload_n 1, 1, 0, 0), (19, .getfield 48, 3, 2070, 0), (22, .invokestatic 52, 3, 4389, 0), (25, .goto 4, 3, 29, 0), (28, .iconst (-1), 1, 0, (-1)), (29, .istore 5, 2, 0, 0), (31, .iload_n 3, 1, 0, 0), (32, .iconst 2, 1, 0, 2), (33, .if_icmp .eq 27, 3, 60, 0), (36, .iload_n 3, 1, 0, 0), (37, .bipush 117, 2, 0, 117), (39, .if_icmp .eq 21, 3, 60, 0), (42, .iload_n 3, 1, 0, 0), (43, .bipush 40, 2, 0, 40), (45, .if_icmp .eq 15, 3, 60, 0), (48, .iload 5, 2, 0, 0), (50, .iconst (-1), 1, 0, (-1)), (51, .if_icmp .ne 9, 3, 60, 0), (54, .aload_n 1, 1, 0, 0), (55, .iconst 1, 1, 0, 1), (56, .invokevirtual 56, 3, 2469, 0), (59, .ireturn, 1, 0, 0), (60, .iload_n 2, 1, 0, 0), (61, .iconst 5, 1, 0, 5), (62, .if_icmp .lt 9, 3, 71, 0), (65, .aload_n 1, 1, 0, 0), (66, .iconst 5, 1, 0, 5), (67, .invokevirtual 56, 3, 2469, 0), (70, .ireturn, 1, 0, 0), (71, .aload_n 1, 1, 0, 0), (72, .invokevirtual 36, 3, 2370, 0), (75, .iload_n 3, 1, 0, 0), (76, .bipush 40, 2, 0, 40), (78, .if_icmp .ne 12, 3, 90, 0), (81, .aload_n 0, 1, 0, 0), (82, .aload_n 1, 1, 0, 0), (83, .iload_n 2, 1, 0, 0), (84, .iconst 1, 1, 0, 1), (85, .iadd, 1, 0, 0), (86, .invokevirtual 60, 3, 807, 0), (89, .ireturn, 1, 0, 0), (90, .iload_n 3, 1, 0, 0), (91, .bipush 117, 2, 0, 117), (93, .if_icmp .ne 16, 3, 109, 0), (96, .aload_n 0, 1, 0, 0), (97, .aload_n 1, 1, 0, 0), (98, .iload_n 2, 1, 0, 0), (99, .iconst 1, 1, 0, 1), (100, .iadd, 1, 0, 0), (101, .invokevirtual 18, 3, 775, 0), (104, .ifCond .ne 5, 3, 109, 0), (107, .iconst 0, 1, 0, 0), (108, .ireturn, 1, 0, 0), (109, .aload_n 0, 1, 0, 0), (110, .iload_n 3, 1, 0, 0), (111, .iconst 2, 1, 0, 2), (112, .if_icmp .ne 8, 3, 120, 0), (115, .iload 4, 2, 0, 0), (117, .goto 18, 3, 135, 0), (120, .iload_n 3, 1, 0, 0), (121, .bipush 117, 2, 0, 117), (123, .if_icmp .ne 8, 3, 131, 0), (126, .bipush (-117), 2, 0, (-117)), (128, .goto 7, 3, 135, 0), (131, .iconst (-1), 1, 0, (-1)), (132, .iload 5, 2, 0, 0), (134, .isub, 1, 0, 0), (135, .invokevirtual 39, 3, 836, 0), (138, .iconst 1, 1, 0, 1), (139, .ireturn, 1, 0, 0)]
def pg_X2_readPart : ur_P := (pr_X2_readPart, fun _ => ([], 0), 6, 1, 2)
abbrev kX_X2_readPart : Nat := 24
def pr_X2_readInner : List ur_E := [(0, .aload_n 0, 1, 0, 0), (1, .aload_n 1, 1, 0, 0), (2, .iconst 0, 1, 0, 0), (3, .iload_n 2, 1, 0, 0), (4, .invokevirtual 22, 3, 713, 0), (7, .ifCond .ne 5, 3, 12, 0), (10, .iconst 0, 1, 0, 0), (11, .ireturn, 1, 0, 0), (12, .aload_n 1, 1, 0, 0), (13, .getfield 26, 3, 2064, 0), (16, .bipush 41, 2, 0, 41), (18, .if_icmp .eq 9, 3, 27, 0), (21, .aload_n 1, 1, 0, 0), (22, .iconst 1, 1, 0, 1), (23, .invokevirtual 56, 3, 2469, 0), (26, .ireturn, 1, 0, 0), (27, .aload_n 1, 1, 0, 0), (28, .invokevirtual 36, 3, 2370, 0), (31, .iconst 1, 1, 0, 1), (32, .ireturn, 1, 0, 0)]
def pg_X2_readInner : ur_P := (pr_X2_readInner, fun _ => ([], 0), 3, 1, 2)
abbrev kX_X2_readInner : Nat := 25
def pr_X2_put : List ur_E := [(0, .aload_n 0, 1, 0, 0), (1, .getfield 63, 3, 520, 0), (4, .sipush 1000, 3, 0, 1000), (7, .if_icmp .ge 23, 3, 30, 0), (10, .aload_n 0, 1, 0, 0), (11, .getfield 9, 3, 515, 0), (14, .aload_n 0, 1, 0, 0), (15, .getfield 63, 3, 520, 0), (18, .iload_n 1, 1, 0, 0), (19, .iastore, 1, 0, 0), (20, .aload_n 0, 1, 0, 0), (21, .dup, 1, 0, 0), (22, .getfield 63, 3, 520, 0), (25, .iconst 1, 1, 0, 1), (26, .iadd, 1, 0, 0), (27, .putfield 63, 3, 520, 0), (30, .return_, 1, 0, 0)]
def pg_X2_put : ur_P := (pr_X2_put, fun _ => ([], 0), 2, 0, 2)
abbrev kX_X2_put : Nat := 26
def pr_X2_valueOf : List ur_E := [(0, .aload_n 0, 1, 0, 0), (1, .iconst 0, 1, 0, 0), (2, .putfield 66, 3, 524, 0), (5, .iconst 0, 1, 0, 0), (6, .istore 5, 2, 0, 0), (8, .iload 5, 2, 0, 0), (10, .aload_n 0, 1, 0, 0), (11, .getfield 63, 3, 520, 0), (14, .if_icmp .ge 130, 3, 144, 0), (17, .aload_n 0, 1, 0, 0), (18, .getfield 9, 3, 515, 0), (21, .iload 5, 2, 0, 0), (23, .iaload, 1, 0, 0), (24, .istore 6, 2, 0, 0), (26, .iload 6, 2, 0, 0), (28, .lookupswitch 104 #[(-117, 85), (-4, 76), (-3, 68), (-2, 60), (-1, 52)], 52, 0, 0), (80, .aload_n 0, 1, 0, 0), (81, .iload_n 1, 1, 0, 0), (82, .invokevirtual 69, 3, 964, 0), (85, .goto 53, 3, 138, 0), (88, .aload_n 0, 1, 0, 0), (89, .iload_n 2, 1, 0, 0), (90, .invokevirtual 69, 3, 964, 0), (93, .goto 45, 3, 138, 0), (96, .aload_n 0, 1, 0, 0), (97, .iload_n 3, 1, 0, 0), (98, .invokevirtual 69, 3, 964, 0), (101, .goto 37, 3, 138, 0), (104, .aload_n 0, 1, 0, 0), (105, .iload 4, 2, 0, 0), (107, .invokevirtual 69, 3, 964, 0), (110, .goto 28, 3, 138, 0), (113, .aload_n 0, 1, 0, 0), (114, .aload_n 0, 1, 0, 0), (115, .invokevirtual 72, 3, 995, 0), (118, .ifCond .ne 7, 3, 125, 0), (121, .iconst 1, 1, 0, 1), (122, .goto 4, 3, 126, 0), (125, .iconst 0, 1, 0, 0), (126, .invokevirtual 69, 3, 964, 0), (129, .goto 9, 3, 138, 0), (132, .aload_n 0, 1, 0, 0), (133, .iload 6, 2, 0, 0), (135, .invokevirtual 76, 3, 900, 0), (138, .iinc 5 1, 3, 0, 1), (141, .goto (-133), 3, 8, 0), (144, .aload_n 0, 1, 0, 0), (145, .getfield 66, 3, 524, 0), (148, .ifCond .le 17, 3, 165, 0), (151, .aload_n 0, 1, 0, 0), (152, .getfield 15, 3, 519, 0), (155, .aload_n 0, 1, 0, 0), (156, .getfield 66, 3, 524, 0), (159, .iconst 1, 1, 0, 1), (160, .isub, 1, 0, 0), (161, .iaload, 1, 0, 0), (162, .goto 4, 3, 166, 0), (165, .iload_n 1, 1, 0, 0), (166, .ireturn, 1, 0, 0)]
def pg_X2_valueOf : ur_P := (pr_X2_valueOf, fun pc => bif Nat.beq pc 28 then ([((-117), 113), ((-4), 104), ((-3), 96), ((-2), 88), ((-1), 80)], 132) else ([], 0), 7, 0, 2)
abbrev kX_X2_valueOf : Nat := 27
def pr_X2_follow : List ur_E := [(0, .iload_n 1, 1, 0, 0), (1, .ifCond .lt 9, 3, 10, 0), (4, .aload_n 0, 1, 0, 0), (5, .iload_n 1, 1, 0, 0), (6, .invokevirtual 69, 3, 964, 0), (9, .return_, 1, 0, 0), (10, .aload_n 0, 1, 0, 0), (11, .invokevirtual 72, 3, 995, 0), (14, .istore_n 2, 1, 0, 0), (15, .aload_n 0, 1, 0, 0), (16, .invokevirtual 72, 3, 995, 0), (19, .istore_n 3, 1, 0, 0), (20, .aload_n 0, 1, 0, 0), (21, .iload_n 1, 1, 0, 0), (22, .ineg, 1, 0, 0), (23, .iload_n 3, 1, 0, 0), (24, .iload_n 2, 1, 0, 0), (25, .invokestatic 79, 3, 935, 0), (28, .invokevirtual 69, 3, 964, 0), (31, .return_, 1, 0, 0)]
def pg_X2_follow : ur_P := (pr_X2_follow, fun _ => ([], 0), 4, 0, 2)
abbrev kX_X2_follow : Nat := 28
def pr_X2_joined : List ur_E := [(0, .iload_n 0, 1, 0, 0), (1, .lookupswitch 107 #[(42, 67), (43, 59), (45, 63), (60, 71), (61, 82), (118, 93)], 59, 0, 0), (60, .iload_n 1, 1, 0, 0), (61, .iload_n 2, 1, 0, 0), (62, .iadd, 1, 0, 0), (63, .ireturn, 1, 0, 0), (64, .iload_n 1, 1, 0, 0), (65, .iload_n 2, 1, 0, 0), (66, .isub, 1, 0, 0), (67, .ireturn, 1, 0, 0), (68, .iload_n 1, 1, 0, 0), (69, .iload_n 2, 1, 0, 0), (70, .imul, 1, 0, 0), (71, .ireturn, 1, 0, 0), (72, .iload_n 1, 1, 0, 0), (73, .iload_n 2, 1, 0, 0), (74, .if_icmp .ge 7, 3, 81, 0), (77, .iconst 1, 1, 0, 1), (78, .goto 4, 3, 82, 0), (81, .iconst 0, 1, 0, 0), (82, .ireturn, 1, 0, 0), (83, .iload_n 1, 1, 0, 0), (84, .iload_n 2, 1, 0, 0), (85, .if_icmp .ne 7, 3, 92, 0), (88, .iconst 1, 1, 0, 1), (89, .goto 4, 3, 93, 0), (92, .iconst 0, 1, 0, 0), (93, .ireturn, 1, 0, 0), (94, .iload_n 1, 1, 0, 0), (95, .ifCond .eq 11, 3, 106, 0), (98, .iload_n 2, 1, 0, 0), (99, .ifCond .eq 7, 3, 106, 0), (102, .iconst 1, 1, 0, 1), (103, .goto 4, 3, 107, 0), (106, .iconst 0, 1, 0, 0), (107, .ireturn, 1, 0, 0), (108, .iload_n 1, 1, 0, 0), (109, .ifCond .ne 7, 3, 116, 0), (112, .iload_n 2, 1, 0, 0), (113, .ifCond .eq 7, 3, 120, 0), (116, .iconst 1, 1, 0, 1), (117, .goto 4, 3, 121, 0), (120, .iconst 0, 1, 0, 0), (121, .ireturn, 1, 0, 0)]
def pg_X2_joined : ur_P := (pr_X2_joined, fun pc => bif Nat.beq pc 1 then ([(42, 68), (43, 60), (45, 64), (60, 72), (61, 83), (118, 94)], 108) else ([], 0), 3, 0, 30)
abbrev kX_X2_joined : Nat := 29
def pr_X2_push : List ur_E := [(0, .aload_n 0, 1, 0, 0), (1, .getfield 66, 3, 524, 0), (4, .bipush 32, 2, 0, 32), (6, .if_icmp .ge 23, 3, 29, 0), (9, .aload_n 0, 1, 0, 0), (10, .getfield 15, 3, 519, 0), (13, .aload_n 0, 1, 0, 0), (14, .getfield 66, 3, 524, 0), (17, .iload_n 1, 1, 0, 0), (18, .iastore, 1, 0, 0), (19, .aload_n 0, 1, 0, 0), (20, .dup, 1, 0, 0), (21, .getfield 66, 3, 524, 0), (24, .iconst 1, 1, 0, 1), (25, .iadd, 1, 0, 0), (26, .putfield 66, 3, 524, 0), (29, .return_, 1, 0, 0)]
def pg_X2_push : ur_P := (pr_X2_push, fun _ => ([], 0), 2, 0, 2)
abbrev kX_X2_push : Nat := 30
def pr_X2_pop : List ur_E := [(0, .aload_n 0, 1, 0, 0), (1, .getfield 66, 3, 524, 0), (4, .ifCond .ne 5, 3, 9, 0), (7, .iconst 0, 1, 0, 0), (8, .ireturn, 1, 0, 0), (9, .aload_n 0, 1, 0, 0), (10, .dup, 1, 0, 0), (11, .getfield 66, 3, 524, 0), (14, .iconst 1, 1, 0, 1), (15, .isub, 1, 0, 0), (16, .putfield 66, 3, 524, 0), (19, .aload_n 0, 1, 0, 0), (20, .getfield 15, 3, 519, 0), (23, .aload_n 0, 1, 0, 0), (24, .getfield 66, 3, 524, 0), (27, .iaload, 1, 0, 0), (28, .ireturn, 1, 0, 0)]
def pg_X2_pop : ur_P := (pr_X2_pop, fun _ => ([], 0), 1, 0, 2)
abbrev kX_X2_pop : Nat := 31
def pr_X3_init : List ur_E := [(0, .aload_n 0, 1, 0, 0), (1, .invokespecial 3, 3, 9001, 0), (4, .aload_n 0, 1, 0, 0), (5, .iconst 5, 1, 0, 5), (6, .newarray .int, 2, 0, 0), (8, .putfield 9, 3, 771, 0), (11, .aload_n 0, 1, 0, 0), (12, .iconst 5, 1, 0, 5), (13, .newarray .int, 2, 0, 0), (15, .putfield 15, 3, 775, 0), (18, .aload_n 0, 1, 0, 0), (19, .bipush 25, 2, 0, 25), (21, .newarray .int, 2, 0, 0), (23, .putfield 18, 3, 779, 0), (26, .return_, 1, 0, 0)]
def pg_X3_init : ur_P := (pr_X3_init, fun _ => ([], 0), 1, 0, 3)
abbrev kX_X3_init : Nat := 32
def pr_X3_settle : List ur_E := [(0, .iconst 0, 1, 0, 0), (1, .istore 5, 2, 0, 0), (3, .aload_n 2, 1, 0, 0), (4, .getfield 21, 3, 1308, 0), (7, .aload_n 2, 1, 0, 0), (8, .aload_n 1, 1, 0, 0), (9, .iload_n 3, 1, 0, 0), (10, .invokevirtual 27, 3, 1479, 0), (13, .iconst (-1), 1, 0, (-1)), (14, .if_icmp .ne 7, 3, 21, 0), (17, .iconst 0, 1, 0, 0), (18, .goto 4, 3, 22, 0), (21, .iconst 1, 1, 0, 1), (22, .iadd, 1, 0, 0), (23, .istore 6, 2, 0, 0), (25, .iconst 0, 1, 0, 0), (26, .istore 7, 2, 0, 0), (28, .iload 7, 2, 0, 0), (30, .aload_n 1, 1, 0, 0), (31, .getfield 31, 3, 304, 0), (34, .if_icmp .ge 77, 3, 111, 0), (37, .aload_n 2, 1, 0, 0), (38, .iload 7, 2, 0, 0), (40, .invokevirtual 36, 3, 1349, 0), (43, .ifCond .ne 62, 3, 105, 0), (46, .aload_n 2, 1, 0, 0), (47, .aload_n 1, 1, 0, 0), (48, .iload 7, 2, 0, 0), (50, .invokevirtual 40, 3, 1607, 0), (53, .ifCond .eq 52, 3, 105, 0), (56, .iload 5, 2, 0, 0), (58, .iconst 1, 1, 0, 1), (59, .iload 7, 2, 0, 0), (61, .ishl, 1, 0, 0), (62, .ior, 1, 0, 0), (63, .istore 5, 2, 0, 0), (65, .iconst 0, 1, 0, 0), (66, .istore 8, 2, 0, 0), (68, .iload 8, 2, 0, 0), (70, .iconst 5, 1, 0, 5), (71, .if_icmp .ge 34, 3, 105, 0), (74, .aload_n 0, 1, 0, 0), (75, .getfield 18, 3, 779, 0), (78, .iload 7, 2, 0, 0), (80, .iconst 5, 1, 0, 5), (81, .imul, 1, 0, 0), (82, .iload 8, 2, 0, 0), (84, .iadd, 1, 0, 0), (85, .aload_n 2, 1, 0, 0), (86, .aload_n 1, 1, 0, 0), (87, .iload 7, 2, 0, 0), (89, .iload_n 3, 1, 0, 0), (90, .iload 6, 2, 0, 0), (92, .iload 8, 2, 0, 0), (94, .iadd, 1, 0, 0), (95, .invokevirtual 44, 3, 1707, 0), (98, .iastore, 1, 0, 0), (99, .iinc 8 1, 3, 0, 1), (102, .goto (-34), 3, 68, 0), (105, .iinc 7 1, 3, 0, 1), (108, .goto (-80), 3, 28, 0), (111, .aload_n 0, 1, 0, 0), (112, .iload 5, 2, 0, 0), (114, .invokestatic 48, 3, 8099, 0), (117, .putfield 54, 3, 780, 0), (120, .aload_n 0, 1, 0, 0), (121, .ldc 57, 2, 0, 2147483647), (123, .putfield 58, 3, 784, 0), (126, .aload_n 0, 1, 0, 0), (127, .iconst 0, 1, 0, 0), (128, .iload 5, 2, 0, 0), (130, .iload 4, 2, 0, 0), (132, .iconst 0, 1, 0, 0), (133, .invokevirtual 61, 3, 1098, 0), (136, .return_, 1, 0, 0)]
def pg_X3_settle : ur_P := (pr_X3_settle, fun _ => ([], 0), 9, 0, 3)
abbrev kX_X3_settle : Nat := 33
def pr_X3_tryRows : List ur_E := [(0, .iload_n 1, 1, 0, 0), (1, .aload_n 0, 1, 0, 0), (2, .getfield 54, 3, 780, 0), (5, .if_icmp .lt 10, 3, 15, 0), (8, .aload_n 0, 1, 0, 0), (9, .iload 4, 2, 0, 0), (11, .invokevirtual 65, 3, 1124, 0), (14, .return_, 1, 0, 0), (15, .iconst 0, 1, 0, 0), (16, .istore 5, 2, 0, 0), (18, .iload 5, 2, 0, 0), (20, .iconst 5, 1, 0, 5), (21, .if_icmp .ge 64, 3, 85, 0), (24, .iload_n 2, 1, 0, 0), (25, .iload 5, 2, 0, 0), (27, .invokestatic 69, 3, 4357, 0), (30, .iconst 1, 1, 0, 1), (31, .if_icmp .ne 48, 3, 79, 0), (34, .aload_n 0, 1, 0, 0), (35, .getfield 9, 3, 771, 0), (38, .iload_n 1, 1, 0, 0), (39, .iload 5, 2, 0, 0), (41, .iastore, 1, 0, 0), (42, .iload_n 3, 1, 0, 0), (43, .aload_n 0, 1, 0, 0), (44, .getfield 18, 3, 779, 0), (47, .iload 5, 2, 0, 0), (49, .iconst 5, 1, 0, 5), (50, .imul, 1, 0, 0), (51, .iload_n 1, 1, 0, 0), (52, .iadd, 1, 0, 0), (53, .iaload, 1, 0, 0), (54, .iadd, 1, 0, 0), (55, .istore 6, 2, 0, 0), (57, .aload_n 0, 1, 0, 0), (58, .iload_n 1, 1, 0, 0), (59, .iconst 1, 1, 0, 1), (60, .iadd, 1, 0, 0), (61, .iload_n 2, 1, 0, 0), (62, .iconst 1, 1, 0, 1), (63, .iload 5, 2, 0, 0), (65, .ishl, 1, 0, 0), (66, .iconst (-1), 1, 0, (-1)), (67, .ixor, 1, 0, 0), (68, .iand, 1, 0, 0), (69, .iload 6, 2, 0, 0), (71, .iload 4, 2, 0, 0), (73, .iload 6, 2, 0, 0), (75, .iadd, 1, 0, 0), (76, .invokevirtual 61, 3, 1098, 0), (79, .iinc 5 1, 3, 0, 1), (82, .goto (-64), 3, 18, 0), (85, .return_, 1, 0, 0)]
def pg_X3_tryRows : ur_P := (pr_X3_tryRows, fun _ => ([], 0), 7, 0, 3)
abbrev kX_X3_tryRows : Nat := 34
def pr_X3_keepIfBetter : List ur_E := [(0, .iload_n 1, 1, 0, 0), (1, .aload_n 0, 1, 0, 0), (2, .getfield 58, 3, 784, 0), (5, .if_icmp .ge 22, 3, 27, 0), (8, .aload_n 0, 1, 0, 0), (9, .iload_n 1, 1, 0, 0), (10, .putfield 58, 3, 784, 0), (13, .aload_n 0, 1, 0, 0), (14, .getfield 9, 3, 771, 0), (17, .iconst 0, 1, 0, 0), (18, .aload_n 0, 1, 0, 0), (19, .getfield 15, 3, 775, 0), (22, .iconst 0, 1, 0, 0), (23, .iconst 5, 1, 0, 5), (24, .invokestatic 73, 3, 9000, 0), (27, .return_, 1, 0, 0)]
def pg_X3_keepIfBetter : ur_P := (pr_X3_keepIfBetter, fun _ => ([], 0), 2, 0, 3)
abbrev kX_X3_keepIfBetter : Nat := 35
def pr_X4_init : List ur_E := [(0, .aload_n 0, 1, 0, 0), (1, .invokespecial 1, 3, 9001, 0), (4, .aload_n 0, 1, 0, 0), (5, .new 7, 3, 5, 0), (8, .dup, 1, 0, 0), (9, .invokespecial 9, 3, 1250, 0), (12, .putfield 10, 3, 1027, 0), (15, .aload_n 0, 1, 0, 0), (16, .new 16, 3, 6, 0), (19, .dup, 1, 0, 0), (20, .invokespecial 18, 3, 1986, 0), (23, .putfield 19, 3, 1031, 0), (26, .aload_n 0, 1, 0, 0), (27, .new 23, 3, 7, 0), (30, .dup, 1, 0, 0), (31, .invokespecial 25, 3, 2178, 0), (34, .putfield 26, 3, 1035, 0), (37, .return_, 1, 0, 0)]
def pg_X4_init : ur_P := (pr_X4_init, fun _ => ([], 0), 1, 0, 4)
abbrev kX_X4_init : Nat := 36
def pr_X4_lay : List ur_E := [(0, .aload_n 0, 1, 0, 0), (1, .getfield 10, 3, 1027, 0), (4, .aload_n 1, 1, 0, 0), (5, .invokevirtual 30, 3, 1316, 0), (8, .aload_n 0, 1, 0, 0), (9, .getfield 19, 3, 1031, 0), (12, .aload_n 2, 1, 0, 0), (13, .invokevirtual 34, 3, 2020, 0), (16, .aload_n 0, 1, 0, 0), (17, .getfield 26, 3, 1035, 0), (20, .aload_n 3, 1, 0, 0), (21, .invokevirtual 37, 3, 2244, 0), (24, .aload_n 0, 1, 0, 0), (25, .iconst 1, 1, 0, 1), (26, .putfield 40, 3, 1037, 0), (29, .return_, 1, 0, 0)]
def pg_X4_lay : ur_P := (pr_X4_lay, fun _ => ([], 0), 4, 0, 4)
abbrev kX_X4_lay : Nat := 37
def pr_X4_giveBack : List ur_E := [(0, .aload_n 1, 1, 0, 0), (1, .aload_n 0, 1, 0, 0), (2, .getfield 10, 3, 1027, 0), (5, .invokevirtual 30, 3, 1316, 0), (8, .aload_n 2, 1, 0, 0), (9, .aload_n 0, 1, 0, 0), (10, .getfield 19, 3, 1031, 0), (13, .invokevirtual 34, 3, 2020, 0), (16, .aload_n 3, 1, 0, 0), (17, .aload_n 0, 1, 0, 0), (18, .getfield 26, 3, 1035, 0), (21, .invokevirtual 37, 3, 2244, 0), (24, .return_, 1, 0, 0)]
def pg_X4_giveBack : ur_P := (pr_X4_giveBack, fun _ => ([], 0), 4, 0, 4)
abbrev kX_X4_giveBack : Nat := 38
def pr_X5_init : List ur_E := [(0, .aload_n 0, 1, 0, 0), (1, .invokespecial 3, 3, 9001, 0), (4, .aload_n 0, 1, 0, 0), (5, .iconst 5, 1, 0, 5), (6, .newarray .int, 2, 0, 0), (8, .putfield 9, 3, 1283, 0), (11, .aload_n 0, 1, 0, 0), (12, .iconst 5, 1, 0, 5), (13, .newarray .int, 2, 0, 0), (15, .putfield 15, 3, 1287, 0), (18, .aload_n 0, 1, 0, 0), (19, .iconst 5, 1, 0, 5), (20, .newarray .int, 2, 0, 0), (22, .putfield 18, 3, 1291, 0), (25, .aload_n 0, 1, 0, 0), (26, .iconst 5, 1, 0, 5), (27, .newarray .int, 2, 0, 0), (29, .putfield 21, 3, 1295, 0), (32, .aload_n 0, 1, 0, 0), (33, .iconst 5, 1, 0, 5), (34, .newarray .int, 2, 0, 0), (36, .putfield 24, 3, 1299, 0), (39, .return_, 1, 0, 0)]
def pg_X5_init : ur_P := (pr_X5_init, fun _ => ([], 0), 1, 0, 5)
abbrev kX_X5_init : Nat := 39
def pr_X5_begin : List ur_E := [(0, .aload_n 1, 1, 0, 0), (1, .getfield 27, 3, 283, 0), (4, .iconst 0, 1, 0, 0), (5, .aload_n 0, 1, 0, 0), (6, .getfield 9, 3, 1283, 0), (9, .iconst 0, 1, 0, 0), (10, .iconst 5, 1, 0, 5), (11, .invokestatic 32, 3, 9000, 0), (14, .aload_n 1, 1, 0, 0), (15, .getfield 27, 3, 283, 0), (18, .iconst 0, 1, 0, 0), (19, .aload_n 0, 1, 0, 0), (20, .getfield 18, 3, 1291, 0), (23, .iconst 0, 1, 0, 0), (24, .iconst 5, 1, 0, 5), (25, .invokestatic 32, 3, 9000, 0), (28, .aload_n 0, 1, 0, 0), (29, .getfield 15, 3, 1287, 0), (32, .iconst (-1), 1, 0, (-1)), (33, .invokestatic 38, 3, 8484, 0), (36, .aload_n 0, 1, 0, 0), (37, .getfield 21, 3, 1295, 0), (40, .iconst 0, 1, 0, 0), (41, .invokestatic 38, 3, 8484, 0), (44, .aload_n 0, 1, 0, 0), (45, .getfield 24, 3, 1299, 0), (48, .iconst 0, 1, 0, 0), (49, .invokestatic 38, 3, 8484, 0), (52, .aload_n 0, 1, 0, 0), (53, .iconst 0, 1, 0, 0), (54, .putfield 44, 3, 1300, 0), (57, .aload_n 0, 1, 0, 0), (58, .iconst 0, 1, 0, 0), (59, .putfield 48, 3, 1304, 0), (62, .aload_n 0, 1, 0, 0), (63, .iconst 0, 1, 0, 0), (64, .putfield 51, 3, 1308, 0), (67, .aload_n 0, 1, 0, 0), (68, .iconst 0, 1, 0, 0), (69, .putfield 54, 3, 1312, 0), (72, .return_, 1, 0, 0)]
def pg_X5_begin : ur_P := (pr_X5_begin, fun _ => ([], 0), 2, 0, 5)
abbrev kX_X5_begin : Nat := 40
def pr_X5_copyFrom : List ur_E := [(0, .aload_n 1, 1, 0, 0), (1, .getfield 9, 3, 1283, 0), (4, .iconst 0, 1, 0, 0), (5, .aload_n 0, 1, 0, 0), (6, .getfield 9, 3, 1283, 0), (9, .iconst 0, 1, 0, 0), (10, .iconst 5, 1, 0, 5), (11, .invokestatic 32, 3, 9000, 0), (14, .aload_n 1, 1, 0, 0), (15, .getfield 15, 3, 1287, 0), (18, .iconst 0, 1, 0, 0), (19, .aload_n 0, 1, 0, 0), (20, .getfield 15, 3, 1287, 0), (23, .iconst 0, 1, 0, 0), (24, .iconst 5, 1, 0, 5), (25, .invokestatic 32, 3, 9000, 0), (28, .aload_n 1, 1, 0, 0), (29, .getfield 18, 3, 1291, 0), (32, .iconst 0, 1, 0, 0), (33, .aload_n 0, 1, 0, 0), (34, .getfield 18, 3, 1291, 0), (37, .iconst 0, 1, 0, 0), (38, .iconst 5, 1, 0, 5), (39, .invokestatic 32, 3, 9000, 0), (42, .aload_n 1, 1, 0, 0), (43, .getfield 21, 3, 1295, 0), (46, .iconst 0, 1, 0, 0), (47, .aload_n 0, 1, 0, 0), (48, .getfield 21, 3, 1295, 0), (51, .iconst 0, 1, 0, 0), (52, .iconst 5, 1, 0, 5), (53, .invokestatic 32, 3, 9000, 0), (56, .aload_n 1, 1, 0, 0), (57, .getfield 24, 3, 1299, 0), (60, .iconst 0, 1, 0, 0), (61, .aload_n 0, 1, 0, 0), (62, .getfield 24, 3, 1299, 0), (65, .iconst 0, 1, 0, 0), (66, .iconst 5, 1, 0, 5), (67, .invokestatic 32, 3, 9000, 0), (70, .aload_n 0, 1, 0, 0), (71, .aload_n 1, 1, 0, 0), (72, .getfield 44, 3, 1300, 0), (75, .putfield 44, 3, 1300, 0), (78, .aload_n 0, 1, 0, 0), (79, .aload_n 1, 1, 0, 0), (80, .getfield 48, 3, 1304, 0), (83, .putfield 48, 3, 1304, 0), (86, .aload_n 0, 1, 0, 0), (87, .aload_n 1, 1, 0, 0), (88, .getfield 51, 3, 1308, 0), (91, .putfield 51, 3, 1308, 0), (94, .aload_n 0, 1, 0, 0), (95, .aload_n 1, 1, 0, 0), (96, .getfield 54, 3, 1312, 0), (99, .putfield 54, 3, 1312, 0), (102, .return_, 1, 0, 0)]
def pg_X5_copyFrom : ur_P := (pr_X5_copyFrom, fun _ => ([], 0), 2, 0, 5)
abbrev kX_X5_copyFrom : Nat := 41
def pr_X5_isInside : List ur_E := [(0, .aload_n 0, 1, 0, 0), (1, .getfield 15, 3, 1287, 0), (4, .iload_n 1, 1, 0, 0), (5, .iaload, 1, 0, 0), (6, .iconst (-1), 1, 0, (-1)), (7, .if_icmp .eq 7, 3, 14, 0), (10, .iconst 1, 1, 0, 1), (11, .goto 4, 3, 15, 0), (14, .iconst 0, 1, 0, 0), (15, .ireturn, 1, 0, 0)]
def pg_X5_isInside : ur_P := (pr_X5_isInside, fun _ => ([], 0), 2, 1, 5)
abbrev kX_X5_isInside : Nat := 42
def pr_X5_allInside : List ur_E := [(0, .iconst 0, 1, 0, 0), (1, .istore_n 2, 1, 0, 0), (2, .iconst 0, 1, 0, 0), (3, .istore_n 3, 1, 0, 0), (4, .iload_n 3, 1, 0, 0), (5, .aload_n 1, 1, 0, 0), (6, .getfield 57, 3, 304, 0), (9, .if_icmp .ge 23, 3, 32, 0), (12, .aload_n 0, 1, 0, 0), (13, .iload_n 3, 1, 0, 0), (14, .invokevirtual 60, 3, 1349, 0), (17, .ifCond .eq 9, 3, 26, 0), (20, .iload_n 2, 1, 0, 0), (21, .iconst 1, 1, 0, 1), (22, .iload_n 3, 1, 0, 0), (23, .ishl, 1, 0, 0), (24, .ior, 1, 0, 0), (25, .istore_n 2, 1, 0, 0), (26, .iinc 3 1, 3, 0, 1), (29, .goto (-25), 3, 4, 0), (32, .iload_n 2, 1, 0, 0), (33, .ireturn, 1, 0, 0)]
def pg_X5_allInside : ur_P := (pr_X5_allInside, fun _ => ([], 0), 4, 0, 5)
abbrev kX_X5_allInside : Nat := 43
def pr_X5_allBeen : List ur_E := [(0, .iconst 0, 1, 0, 0), (1, .istore_n 2, 1, 0, 0), (2, .iconst 0, 1, 0, 0), (3, .istore_n 3, 1, 0, 0), (4, .iload_n 3, 1, 0, 0), (5, .aload_n 1, 1, 0, 0), (6, .getfield 57, 3, 304, 0), (9, .if_icmp .ge 18, 3, 27, 0), (12, .iload_n 2, 1, 0, 0), (13, .aload_n 0, 1, 0, 0), (14, .getfield 24, 3, 1299, 0), (17, .iload_n 3, 1, 0, 0), (18, .iaload, 1, 0, 0), (19, .iadd, 1, 0, 0), (20, .istore_n 2, 1, 0, 0), (21, .iinc 3 1, 3, 0, 1), (24, .goto (-20), 3, 4, 0), (27, .iload_n 2, 1, 0, 0), (28, .ireturn, 1, 0, 0)]
def pg_X5_allBeen : ur_P := (pr_X5_allBeen, fun _ => ([], 0), 4, 0, 5)
abbrev kX_X5_allBeen : Nat := 44
def pr_X5_personsIn : List ur_E := [(0, .iconst 0, 1, 0, 0), (1, .istore_n 3, 1, 0, 0), (2, .iconst 0, 1, 0, 0), (3, .istore 4, 2, 0, 0), (5, .iload 4, 2, 0, 0), (7, .aload_n 1, 1, 0, 0), (8, .getfield 57, 3, 304, 0), (11, .if_icmp .ge 27, 3, 38, 0), (14, .aload_n 0, 1, 0, 0), (15, .getfield 9, 3, 1283, 0), (18, .iload 4, 2, 0, 0), (20, .iaload, 1, 0, 0), (21, .iload_n 2, 1, 0, 0), (22, .if_icmp .ne 10, 3, 32, 0), (25, .iload_n 3, 1, 0, 0), (26, .iconst 1, 1, 0, 1), (27, .iload 4, 2, 0, 0), (29, .ishl, 1, 0, 0), (30, .ior, 1, 0, 0), (31, .istore_n 3, 1, 0, 0), (32, .iinc 4 1, 3, 0, 1), (35, .goto (-30), 3, 5, 0), (38, .iload_n 3, 1, 0, 0), (39, .ireturn, 1, 0, 0)]
def pg_X5_personsIn : ur_P := (pr_X5_personsIn, fun _ => ([], 0), 5, 0, 5)
abbrev kX_X5_personsIn : Nat := 45
def pr_X5_hostOf : List ur_E := [(0, .aload_n 0, 1, 0, 0), (1, .aload_n 1, 1, 0, 0), (2, .iload_n 2, 1, 0, 0), (3, .invokevirtual 64, 3, 1447, 0), (6, .istore_n 3, 1, 0, 0), (7, .iload_n 3, 1, 0, 0), (8, .ifCond .ne 7, 3, 15, 0), (11, .iconst (-1), 1, 0, (-1)), (12, .goto 7, 3, 19, 0), (15, .iload_n 3, 1, 0, 0), (16, .invokestatic 68, 3, 8067, 0), (19, .ireturn, 1, 0, 0)]
def pg_X5_hostOf : ur_P := (pr_X5_hostOf, fun _ => ([], 0), 4, 0, 5)
abbrev kX_X5_hostOf : Nat := 46
def pr_X5_standsBeside : List ur_E := [(0, .aload_n 1, 1, 0, 0), (1, .iload_n 2, 1, 0, 0), (2, .invokevirtual 74, 3, 133, 0), (5, .ifCond .eq 42, 3, 47, 0), (8, .aload_n 1, 1, 0, 0), (9, .iload_n 3, 1, 0, 0), (10, .invokevirtual 77, 3, 101, 0), (13, .ifCond .eq 34, 3, 47, 0), (16, .aload_n 0, 1, 0, 0), (17, .iload_n 2, 1, 0, 0), (18, .invokevirtual 60, 3, 1349, 0), (21, .ifCond .ne 26, 3, 47, 0), (24, .aload_n 1, 1, 0, 0), (25, .getfield 80, 3, 267, 0), (28, .iload_n 3, 1, 0, 0), (29, .iaload, 1, 0, 0), (30, .aload_n 0, 1, 0, 0), (31, .getfield 9, 3, 1283, 0), (34, .iload_n 2, 1, 0, 0), (35, .iaload, 1, 0, 0), (36, .invokestatic 83, 3, 4357, 0), (39, .iconst 1, 1, 0, 1), (40, .if_icmp .ne 7, 3, 47, 0), (43, .iconst 1, 1, 0, 1), (44, .goto 4, 3, 48, 0), (47, .iconst 0, 1, 0, 0), (48, .ireturn, 1, 0, 0)]
def pg_X5_standsBeside : ur_P := (pr_X5_standsBeside, fun _ => ([], 0), 4, 1, 5)
abbrev kX_X5_standsBeside : Nat := 47
def pr_X5_canWalk : List ur_E := [(0, .aload_n 0, 1, 0, 0), (1, .aload_n 1, 1, 0, 0), (2, .iload_n 2, 1, 0, 0), (3, .iload_n 3, 1, 0, 0), (4, .invokevirtual 87, 3, 1513, 0), (7, .ifCond .eq 26, 3, 33, 0), (10, .aload_n 1, 1, 0, 0), (11, .iload_n 3, 1, 0, 0), (12, .invokevirtual 91, 3, 165, 0), (15, .ifCond .ne 18, 3, 33, 0), (18, .aload_n 0, 1, 0, 0), (19, .getfield 48, 3, 1304, 0), (22, .iload_n 3, 1, 0, 0), (23, .invokestatic 83, 3, 4357, 0), (26, .ifCond .ne 7, 3, 33, 0), (29, .iconst 1, 1, 0, 1), (30, .goto 4, 3, 34, 0), (33, .iconst 0, 1, 0, 0), (34, .ireturn, 1, 0, 0)]
def pg_X5_canWalk : ur_P := (pr_X5_canWalk, fun _ => ([], 0), 4, 1, 5)
abbrev kX_X5_canWalk : Nat := 48
def pr_X5_tryWalk : List ur_E := [(0, .aload_n 0, 1, 0, 0), (1, .aload_n 1, 1, 0, 0), (2, .iload_n 2, 1, 0, 0), (3, .iload_n 3, 1, 0, 0), (4, .invokevirtual 94, 3, 1545, 0), (7, .ifCond .ne 5, 3, 12, 0), (10, .iconst 0, 1, 0, 0), (11, .ireturn, 1, 0, 0), (12, .aload_n 0, 1, 0, 0), (13, .getfield 9, 3, 1283, 0), (16, .iload_n 2, 1, 0, 0), (17, .iload_n 3, 1, 0, 0), (18, .iastore, 1, 0, 0), (19, .iconst 1, 1, 0, 1), (20, .ireturn, 1, 0, 0)]
def pg_X5_tryWalk : ur_P := (pr_X5_tryWalk, fun _ => ([], 0), 4, 1, 5)
abbrev kX_X5_tryWalk : Nat := 49
def pr_X5_isLet : List ur_E := [(0, .aload_n 1, 1, 0, 0), (1, .getfield 97, 3, 275, 0), (4, .iload_n 2, 1, 0, 0), (5, .iaload, 1, 0, 0), (6, .iconst 2, 1, 0, 2), (7, .if_icmp .ne 17, 3, 24, 0), (10, .aload_n 1, 1, 0, 0), (11, .getfield 100, 3, 279, 0), (14, .iload_n 2, 1, 0, 0), (15, .iaload, 1, 0, 0), (16, .iconst 4, 1, 0, 4), (17, .if_icmp .ge 7, 3, 24, 0), (20, .iconst 1, 1, 0, 1), (21, .goto 4, 3, 25, 0), (24, .iconst 0, 1, 0, 0), (25, .istore_n 3, 1, 0, 0), (26, .aload_n 0, 1, 0, 0), (27, .getfield 44, 3, 1300, 0), (30, .iload_n 2, 1, 0, 0), (31, .invokestatic 83, 3, 4357, 0), (34, .ifCond .ne 21, 3, 55, 0), (37, .iload_n 3, 1, 0, 0), (38, .ifCond .ne 17, 3, 55, 0), (41, .aload_n 1, 1, 0, 0), (42, .getfield 97, 3, 275, 0), (45, .iload_n 2, 1, 0, 0), (46, .iaload, 1, 0, 0), (47, .iconst 3, 1, 0, 3), (48, .if_icmp .eq 7, 3, 55, 0), (51, .iconst 1, 1, 0, 1), (52, .goto 4, 3, 56, 0), (55, .iconst 0, 1, 0, 0), (56, .ireturn, 1, 0, 0)]
def pg_X5_isLet : ur_P := (pr_X5_isLet, fun _ => ([], 0), 4, 1, 5)
abbrev kX_X5_isLet : Nat := 50
def pr_X5_canShow : List ur_E := [(0, .aload_n 0, 1, 0, 0), (1, .aload_n 1, 1, 0, 0), (2, .iload_n 2, 1, 0, 0), (3, .iload_n 3, 1, 0, 0), (4, .invokevirtual 87, 3, 1513, 0), (7, .ifCond .eq 34, 3, 41, 0), (10, .aload_n 1, 1, 0, 0), (11, .iload_n 3, 1, 0, 0), (12, .invokevirtual 91, 3, 165, 0), (15, .ifCond .eq 26, 3, 41, 0), (18, .aload_n 0, 1, 0, 0), (19, .aload_n 1, 1, 0, 0), (20, .iload_n 2, 1, 0, 0), (21, .invokevirtual 103, 3, 1607, 0), (24, .ifCond .eq 17, 3, 41, 0), (27, .aload_n 0, 1, 0, 0), (28, .aload_n 1, 1, 0, 0), (29, .iload_n 3, 1, 0, 0), (30, .invokevirtual 107, 3, 1479, 0), (33, .iconst (-1), 1, 0, (-1)), (34, .if_icmp .ne 7, 3, 41, 0), (37, .iconst 1, 1, 0, 1), (38, .goto 4, 3, 42, 0), (41, .iconst 0, 1, 0, 0), (42, .ireturn, 1, 0, 0)]
def pg_X5_canShow : ur_P := (pr_X5_canShow, fun _ => ([], 0), 4, 1, 5)
abbrev kX_X5_canShow : Nat := 51
def pr_X5_tryShow : List ur_E := [(0, .aload_n 0, 1, 0, 0), (1, .aload_n 1, 1, 0, 0), (2, .iload_n 2, 1, 0, 0), (3, .iload_n 3, 1, 0, 0), (4, .invokevirtual 110, 3, 1641, 0), (7, .ifCond .ne 5, 3, 12, 0), (10, .iconst (-1), 1, 0, (-1)), (11, .ireturn, 1, 0, 0), (12, .aload_n 0, 1, 0, 0), (13, .aload_n 1, 1, 0, 0), (14, .iload_n 2, 1, 0, 0), (15, .iload_n 3, 1, 0, 0), (16, .aload_n 0, 1, 0, 0), (17, .getfield 51, 3, 1308, 0), (20, .invokevirtual 113, 3, 1707, 0), (23, .istore 4, 2, 0, 0), (25, .aload_n 0, 1, 0, 0), (26, .getfield 18, 3, 1291, 0), (29, .iload_n 2, 1, 0, 0), (30, .aload_n 0, 1, 0, 0), (31, .getfield 9, 3, 1283, 0), (34, .iload_n 2, 1, 0, 0), (35, .iaload, 1, 0, 0), (36, .iastore, 1, 0, 0), (37, .aload_n 0, 1, 0, 0), (38, .getfield 9, 3, 1283, 0), (41, .iload_n 2, 1, 0, 0), (42, .iload_n 3, 1, 0, 0), (43, .iastore, 1, 0, 0), (44, .aload_n 0, 1, 0, 0), (45, .getfield 15, 3, 1287, 0), (48, .iload_n 2, 1, 0, 0), (49, .iload 4, 2, 0, 0), (51, .iastore, 1, 0, 0), (52, .aload_n 0, 1, 0, 0), (53, .getfield 21, 3, 1295, 0), (56, .iload_n 2, 1, 0, 0), (57, .dup2, 1, 0, 0), (58, .iaload, 1, 0, 0), (59, .iconst 1, 1, 0, 1), (60, .iadd, 1, 0, 0), (61, .iastore, 1, 0, 0), (62, .iload 4, 2, 0, 0), (64, .ireturn, 1, 0, 0)]
def pg_X5_tryShow : ur_P := (pr_X5_tryShow, fun _ => ([], 0), 5, 0, 5)
abbrev kX_X5_tryShow : Nat := 52
def pr_X5_stayOf : List ur_E := [(0, .aload_n 1, 1, 0, 0), (1, .getfield 117, 3, 287, 0), (4, .aload_n 1, 1, 0, 0), (5, .getfield 121, 3, 263, 0), (8, .iload_n 3, 1, 0, 0), (9, .iaload, 1, 0, 0), (10, .aload_n 0, 1, 0, 0), (11, .getfield 21, 3, 1295, 0), (14, .iload_n 2, 1, 0, 0), (15, .iaload, 1, 0, 0), (16, .aload_n 1, 1, 0, 0), (17, .getfield 100, 3, 279, 0), (20, .iload_n 2, 1, 0, 0), (21, .iaload, 1, 0, 0), (22, .iload 4, 2, 0, 0), (24, .invokevirtual 124, 3, 875, 0), (27, .istore 5, 2, 0, 0), (29, .iconst 1, 1, 0, 1), (30, .bipush 30, 2, 0, 30), (32, .iload 5, 2, 0, 0), (34, .invokestatic 130, 3, 9003, 0), (37, .invokestatic 135, 3, 9002, 0), (40, .ireturn, 1, 0, 0)]
def pg_X5_stayOf : ur_P := (pr_X5_stayOf, fun _ => ([], 0), 6, 0, 5)
abbrev kX_X5_stayOf : Nat := 53
def pr_X5_canSpeak : List ur_E := [(0, .aload_n 1, 1, 0, 0), (1, .iload_n 2, 1, 0, 0), (2, .invokevirtual 74, 3, 133, 0), (5, .ifCond .eq 45, 3, 50, 0), (8, .aload_n 0, 1, 0, 0), (9, .getfield 21, 3, 1295, 0), (12, .iload_n 2, 1, 0, 0), (13, .iaload, 1, 0, 0), (14, .ifCond .le 36, 3, 50, 0), (17, .aload_n 1, 1, 0, 0), (18, .getfield 97, 3, 275, 0), (21, .iload_n 2, 1, 0, 0), (22, .iaload, 1, 0, 0), (23, .iconst 1, 1, 0, 1), (24, .if_icmp .eq 26, 3, 50, 0), (27, .aload_n 0, 1, 0, 0), (28, .iload_n 2, 1, 0, 0), (29, .invokevirtual 60, 3, 1349, 0), (32, .ifCond .ne 18, 3, 50, 0), (35, .aload_n 0, 1, 0, 0), (36, .getfield 44, 3, 1300, 0), (39, .iload_n 2, 1, 0, 0), (40, .invokestatic 83, 3, 4357, 0), (43, .ifCond .ne 7, 3, 50, 0), (46, .iconst 1, 1, 0, 1), (47, .goto 4, 3, 51, 0), (50, .iconst 0, 1, 0, 0), (51, .ireturn, 1, 0, 0)]
def pg_X5_canSpeak : ur_P := (pr_X5_canSpeak, fun _ => ([], 0), 3, 1, 5)
abbrev kX_X5_canSpeak : Nat := 54
def pr_X5_trySpeak : List ur_E := [(0, .aload_n 0, 1, 0, 0), (1, .aload_n 1, 1, 0, 0), (2, .iload_n 2, 1, 0, 0), (3, .invokevirtual 138, 3, 1735, 0), (6, .ifCond .ne 5, 3, 11, 0), (9, .iconst 0, 1, 0, 0), (10, .ireturn, 1, 0, 0), (11, .aload_n 0, 1, 0, 0), (12, .dup, 1, 0, 0), (13, .getfield 44, 3, 1300, 0), (16, .iconst 1, 1, 0, 1), (17, .iload_n 2, 1, 0, 0), (18, .ishl, 1, 0, 0), (19, .ior, 1, 0, 0), (20, .putfield 44, 3, 1300, 0), (23, .aload_n 0, 1, 0, 0), (24, .getfield 21, 3, 1295, 0), (27, .iload_n 2, 1, 0, 0), (28, .iconst 0, 1, 0, 0), (29, .iastore, 1, 0, 0), (30, .aload_n 0, 1, 0, 0), (31, .getfield 24, 3, 1299, 0), (34, .iload_n 2, 1, 0, 0), (35, .iconst 0, 1, 0, 0), (36, .iastore, 1, 0, 0), (37, .iconst 1, 1, 0, 1), (38, .ireturn, 1, 0, 0)]
def pg_X5_trySpeak : ur_P := (pr_X5_trySpeak, fun _ => ([], 0), 3, 1, 5)
abbrev kX_X5_trySpeak : Nat := 55
def pr_X5_flamesFrom : List ur_E := [(0, .aload_n 1, 1, 0, 0), (1, .iload_n 2, 1, 0, 0), (2, .invokevirtual 77, 3, 101, 0), (5, .ifCond .ne 5, 3, 10, 0), (8, .iconst 0, 1, 0, 0), (9, .ireturn, 1, 0, 0), (10, .aload_n 1, 1, 0, 0), (11, .invokevirtual 141, 3, 195, 0), (14, .aload_n 0, 1, 0, 0), (15, .getfield 48, 3, 1304, 0), (18, .iconst (-1), 1, 0, (-1)), (19, .ixor, 1, 0, 0), (20, .iand, 1, 0, 0), (21, .istore_n 3, 1, 0, 0), (22, .iconst 0, 1, 0, 0), (23, .istore 4, 2, 0, 0), (25, .iload 4, 2, 0, 0), (27, .aload_n 1, 1, 0, 0), (28, .getfield 57, 3, 304, 0), (31, .if_icmp .ge 23, 3, 54, 0), (34, .iload_n 3, 1, 0, 0), (35, .iconst 1, 1, 0, 1), (36, .aload_n 0, 1, 0, 0), (37, .getfield 9, 3, 1283, 0), (40, .iload 4, 2, 0, 0), (42, .iaload, 1, 0, 0), (43, .ishl, 1, 0, 0), (44, .iconst (-1), 1, 0, (-1)), (45, .ixor, 1, 0, 0), (46, .iand, 1, 0, 0), (47, .istore_n 3, 1, 0, 0), (48, .iinc 4 1, 3, 0, 1), (51, .goto (-26), 3, 25, 0), (54, .aload_n 1, 1, 0, 0), (55, .iconst 1, 1, 0, 1), (56, .iload_n 2, 1, 0, 0), (57, .ishl, 1, 0, 0), (58, .iload_n 3, 1, 0, 0), (59, .invokevirtual 145, 3, 263, 0), (62, .ireturn, 1, 0, 0)]
def pg_X5_flamesFrom : ur_P := (pr_X5_flamesFrom, fun _ => ([], 0), 5, 0, 5)
abbrev kX_X5_flamesFrom : Nat := 56
def pr_X5_tryBurn : List ur_E := [(0, .aload_n 0, 1, 0, 0), (1, .aload_n 1, 1, 0, 0), (2, .iload_n 2, 1, 0, 0), (3, .invokevirtual 148, 3, 1799, 0), (6, .istore_n 3, 1, 0, 0), (7, .aload_n 0, 1, 0, 0), (8, .dup, 1, 0, 0), (9, .getfield 48, 3, 1304, 0), (12, .iload_n 3, 1, 0, 0), (13, .ior, 1, 0, 0), (14, .putfield 48, 3, 1304, 0), (17, .iload_n 3, 1, 0, 0), (18, .ifCond .ne 7, 3, 25, 0), (21, .iconst (-1), 1, 0, (-1)), (22, .goto 7, 3, 29, 0), (25, .iload_n 3, 1, 0, 0), (26, .invokestatic 151, 3, 8099, 0), (29, .ireturn, 1, 0, 0)]
def pg_X5_tryBurn : ur_P := (pr_X5_tryBurn, fun _ => ([], 0), 4, 0, 5)
abbrev kX_X5_tryBurn : Nat := 57
def pr_X5_passMinute : List ur_E := [(0, .iconst 0, 1, 0, 0), (1, .istore_n 2, 1, 0, 0), (2, .iconst 0, 1, 0, 0), (3, .istore_n 3, 1, 0, 0), (4, .iload_n 3, 1, 0, 0), (5, .aload_n 1, 1, 0, 0), (6, .getfield 57, 3, 304, 0), (9, .if_icmp .ge 33, 3, 42, 0), (12, .aload_n 0, 1, 0, 0), (13, .getfield 15, 3, 1287, 0), (16, .iload_n 3, 1, 0, 0), (17, .iaload, 1, 0, 0), (18, .ifCond .le 18, 3, 36, 0), (21, .aload_n 0, 1, 0, 0), (22, .aload_n 1, 1, 0, 0), (23, .iload_n 3, 1, 0, 0), (24, .invokevirtual 154, 3, 1895, 0), (27, .ifCond .eq 9, 3, 36, 0), (30, .iload_n 2, 1, 0, 0), (31, .iconst 1, 1, 0, 1), (32, .iload_n 3, 1, 0, 0), (33, .ishl, 1, 0, 0), (34, .ior, 1, 0, 0), (35, .istore_n 2, 1, 0, 0), (36, .iinc 3 1, 3, 0, 1), (39, .goto (-35), 3, 4, 0), (42, .aload_n 0, 1, 0, 0), (43, .dup, 1, 0, 0), (44, .getfield 51, 3, 1308, 0), (47, .iload_n 2, 1, 0, 0), (48, .invokestatic 151, 3, 8099, 0), (51, .iadd, 1, 0, 0), (52, .putfield 51, 3, 1308, 0), (55, .aload_n 0, 1, 0, 0), (56, .dup, 1, 0, 0), (57, .getfield 54, 3, 1312, 0), (60, .iconst 1, 1, 0, 1), (61, .iadd, 1, 0, 0), (62, .putfield 54, 3, 1312, 0), (65, .iload_n 2, 1, 0, 0), (66, .ireturn, 1, 0, 0)]
def pg_X5_passMinute : ur_P := (pr_X5_passMinute, fun _ => ([], 0), 4, 0, 5)
abbrev kX_X5_passMinute : Nat := 58
def pr_X5_comesOut : List ur_E := [(0, .aload_n 0, 1, 0, 0), (1, .getfield 15, 3, 1287, 0), (4, .iload_n 2, 1, 0, 0), (5, .dup2, 1, 0, 0), (6, .iaload, 1, 0, 0), (7, .iconst 1, 1, 0, 1), (8, .isub, 1, 0, 0), (9, .iastore, 1, 0, 0), (10, .aload_n 0, 1, 0, 0), (11, .getfield 24, 3, 1299, 0), (14, .iload_n 2, 1, 0, 0), (15, .dup2, 1, 0, 0), (16, .iaload, 1, 0, 0), (17, .iconst 1, 1, 0, 1), (18, .iadd, 1, 0, 0), (19, .iastore, 1, 0, 0), (20, .aload_n 0, 1, 0, 0), (21, .getfield 15, 3, 1287, 0), (24, .iload_n 2, 1, 0, 0), (25, .iaload, 1, 0, 0), (26, .ifCond .le 5, 3, 31, 0), (29, .iconst 0, 1, 0, 0), (30, .ireturn, 1, 0, 0), (31, .aload_n 0, 1, 0, 0), (32, .aload_n 1, 1, 0, 0), (33, .iload_n 2, 1, 0, 0), (34, .invokevirtual 157, 3, 1927, 0), (37, .istore_n 3, 1, 0, 0), (38, .iload_n 3, 1, 0, 0), (39, .iconst (-1), 1, 0, (-1)), (40, .if_icmp .ne 5, 3, 45, 0), (43, .iconst 0, 1, 0, 0), (44, .ireturn, 1, 0, 0), (45, .aload_n 0, 1, 0, 0), (46, .getfield 9, 3, 1283, 0), (49, .iload_n 2, 1, 0, 0), (50, .iload_n 3, 1, 0, 0), (51, .iastore, 1, 0, 0), (52, .aload_n 0, 1, 0, 0), (53, .getfield 15, 3, 1287, 0), (56, .iload_n 2, 1, 0, 0), (57, .iconst (-1), 1, 0, (-1)), (58, .iastore, 1, 0, 0), (59, .iconst 1, 1, 0, 1), (60, .ireturn, 1, 0, 0)]
def pg_X5_comesOut : ur_P := (pr_X5_comesOut, fun _ => ([], 0), 4, 1, 5)
abbrev kX_X5_comesOut : Nat := 59
def pr_X5_exitOf : List ur_E := [(0, .aload_n 0, 1, 0, 0), (1, .getfield 48, 3, 1304, 0), (4, .aload_n 0, 1, 0, 0), (5, .getfield 18, 3, 1291, 0), (8, .iload_n 2, 1, 0, 0), (9, .iaload, 1, 0, 0), (10, .invokestatic 83, 3, 4357, 0), (13, .ifCond .ne 10, 3, 23, 0), (16, .aload_n 0, 1, 0, 0), (17, .getfield 18, 3, 1291, 0), (20, .iload_n 2, 1, 0, 0), (21, .iaload, 1, 0, 0), (22, .ireturn, 1, 0, 0), (23, .aload_n 1, 1, 0, 0), (24, .getfield 80, 3, 267, 0), (27, .aload_n 0, 1, 0, 0), (28, .getfield 9, 3, 1283, 0), (31, .iload_n 2, 1, 0, 0), (32, .iaload, 1, 0, 0), (33, .iaload, 1, 0, 0), (34, .aload_n 0, 1, 0, 0), (35, .getfield 48, 3, 1304, 0), (38, .iconst (-1), 1, 0, (-1)), (39, .ixor, 1, 0, 0), (40, .iand, 1, 0, 0), (41, .istore_n 3, 1, 0, 0), (42, .iload_n 3, 1, 0, 0), (43, .ifCond .ne 7, 3, 50, 0), (46, .iconst (-1), 1, 0, (-1)), (47, .goto 7, 3, 54, 0), (50, .iload_n 3, 1, 0, 0), (51, .invokestatic 68, 3, 8067, 0), (54, .ireturn, 1, 0, 0)]
def pg_X5_exitOf : ur_P := (pr_X5_exitOf, fun _ => ([], 0), 4, 0, 5)
abbrev kX_X5_exitOf : Nat := 60
def pr_X5_follow : List ur_E := [(0, .iload_n 2, 1, 0, 0), (1, .tableswitch 82 108 111 #[31, 40, 58, 65], 31, 0, 0), (32, .aload_n 0, 1, 0, 0), (33, .aload_n 1, 1, 0, 0), (34, .iload_n 3, 1, 0, 0), (35, .iload 4, 2, 0, 0), (37, .invokevirtual 160, 3, 1577, 0), (40, .ireturn, 1, 0, 0), (41, .aload_n 0, 1, 0, 0), (42, .aload_n 1, 1, 0, 0), (43, .iload_n 3, 1, 0, 0), (44, .iload 4, 2, 0, 0), (46, .invokevirtual 163, 3, 1673, 0), (49, .iconst (-1), 1, 0, (-1)), (50, .if_icmp .eq 7, 3, 57, 0), (53, .iconst 1, 1, 0, 1), (54, .goto 4, 3, 58, 0), (57, .iconst 0, 1, 0, 0), (58, .ireturn, 1, 0, 0), (59, .aload_n 0, 1, 0, 0), (60, .aload_n 1, 1, 0, 0), (61, .iload_n 3, 1, 0, 0), (62, .invokevirtual 167, 3, 1767, 0), (65, .ireturn, 1, 0, 0), (66, .aload_n 0, 1, 0, 0), (67, .aload_n 1, 1, 0, 0), (68, .iload 4, 2, 0, 0), (70, .invokevirtual 170, 3, 1831, 0), (73, .iconst (-1), 1, 0, (-1)), (74, .if_icmp .eq 7, 3, 81, 0), (77, .iconst 1, 1, 0, 1), (78, .goto 4, 3, 82, 0), (81, .iconst 0, 1, 0, 0), (82, .ireturn, 1, 0, 0), (83, .aload_n 0, 1, 0, 0), (84, .aload_n 1, 1, 0, 0), (85, .invokevirtual 173, 3, 1861, 0), (88, .pop, 1, 0, 0), (89, .iconst 1, 1, 0, 1), (90, .ireturn, 1, 0, 0)]
def pg_X5_follow : ur_P := (pr_X5_follow, fun pc => bif Nat.beq pc 1 then ([(108, 32), (109, 41), (110, 59), (111, 66)], 83) else ([], 0), 5, 1, 5)
abbrev kX_X5_follow : Nat := 61
def pr_X6_init : List ur_E := [(0, .aload_n 0, 1, 0, 0), (1, .invokespecial 3, 3, 9001, 0), (4, .aload_n 0, 1, 0, 0), (5, .bipush 40, 2, 0, 40), (7, .newarray .int, 2, 0, 0), (9, .putfield 9, 3, 1539, 0), (12, .aload_n 0, 1, 0, 0), (13, .bipush 40, 2, 0, 40), (15, .newarray .int, 2, 0, 0), (17, .putfield 15, 3, 1543, 0), (20, .aload_n 0, 1, 0, 0), (21, .bipush 40, 2, 0, 40), (23, .newarray .int, 2, 0, 0), (25, .putfield 18, 3, 1547, 0), (28, .return_, 1, 0, 0)]
def pg_X6_init : ur_P := (pr_X6_init, fun _ => ([], 0), 1, 0, 6)
abbrev kX_X6_init : Nat := 62
def pr_X6_copyFrom : List ur_E := [(0, .aload_n 0, 1, 0, 0), (1, .aload_n 1, 1, 0, 0), (2, .getfield 21, 3, 1548, 0), (5, .putfield 21, 3, 1548, 0), (8, .aload_n 1, 1, 0, 0), (9, .getfield 9, 3, 1539, 0), (12, .iconst 0, 1, 0, 0), (13, .aload_n 0, 1, 0, 0), (14, .getfield 9, 3, 1539, 0), (17, .iconst 0, 1, 0, 0), (18, .bipush 40, 2, 0, 40), (20, .invokestatic 25, 3, 9000, 0), (23, .aload_n 1, 1, 0, 0), (24, .getfield 15, 3, 1543, 0), (27, .iconst 0, 1, 0, 0), (28, .aload_n 0, 1, 0, 0), (29, .getfield 15, 3, 1543, 0), (32, .iconst 0, 1, 0, 0), (33, .bipush 40, 2, 0, 40), (35, .invokestatic 25, 3, 9000, 0), (38, .aload_n 1, 1, 0, 0), (39, .getfield 18, 3, 1547, 0), (42, .iconst 0, 1, 0, 0), (43, .aload_n 0, 1, 0, 0), (44, .getfield 18, 3, 1547, 0), (47, .iconst 0, 1, 0, 0), (48, .bipush 40, 2, 0, 40), (50, .invokestatic 25, 3, 9000, 0), (53, .return_, 1, 0, 0)]
def pg_X6_copyFrom : ur_P := (pr_X6_copyFrom, fun _ => ([], 0), 2, 0, 6)
abbrev kX_X6_copyFrom : Nat := 63
def pr_X6_readFrom : List ur_E := [(0, .aload_n 0, 1, 0, 0), (1, .iconst 0, 1, 0, 0), (2, .putfield 21, 3, 1548, 0), (5, .aload_n 1, 1, 0, 0), (6, .invokevirtual 31, 3, 2338, 0), (9, .iconst 0, 1, 0, 0), (10, .istore_n 3, 1, 0, 0), (11, .iload_n 3, 1, 0, 0), (12, .sipush 1000, 3, 0, 1000), (15, .if_icmp .ge 29, 3, 44, 0), (18, .aload_n 1, 1, 0, 0), (19, .getfield 36, 3, 2064, 0), (22, .iconst 1, 1, 0, 1), (23, .if_icmp .eq 21, 3, 44, 0), (26, .aload_n 0, 1, 0, 0), (27, .aload_n 1, 1, 0, 0), (28, .aload_n 2, 1, 0, 0), (29, .invokevirtual 39, 3, 2087, 0), (32, .ifCond .ne 6, 3, 38, 0), (35, .goto 9, 3, 44, 0), (38, .iinc 3 1, 3, 0, 1), (41, .goto (-30), 3, 11, 0), (44, .aload_n 1, 1, 0, 0), (45, .getfield 43, 3, 2076, 0), (48, .ireturn, 1, 0, 0)]
def pg_X6_readFrom : ur_P := (pr_X6_readFrom, fun _ => ([], 0), 4, 0, 6)
abbrev kX_X6_readFrom : Nat := 64
def pr_X6_readLine : List ur_E := [(0, .aload_n 1, 1, 0, 0), (1, .getfield 36, 3, 2064, 0), (4, .istore_n 3, 1, 0, 0), (5, .iload_n 3, 1, 0, 0), (6, .bipush 108, 2, 0, 108), (8, .if_icmp .lt 9, 3, 17, 0), (11, .iload_n 3, 1, 0, 0), (12, .bipush 112, 2, 0, 112), (14, .if_icmp .le 9, 3, 23, 0), (17, .aload_n 1, 1, 0, 0), (18, .iconst 1, 1, 0, 1), (19, .invokevirtual 46, 3, 2469, 0), (22, .ireturn, 1, 0, 0), (23, .aload_n 0, 1, 0, 0), (24, .getfield 21, 3, 1548, 0), (27, .bipush 40, 2, 0, 40), (29, .if_icmp .lt 9, 3, 38, 0), (32, .aload_n 1, 1, 0, 0), (33, .iconst 5, 1, 0, 5), (34, .invokevirtual 46, 3, 2469, 0), (37, .ireturn, 1, 0, 0), (38, .aload_n 0, 1, 0, 0), (39, .getfield 9, 3, 1539, 0), (42, .aload_n 0, 1, 0, 0), (43, .getfield 21, 3, 1548, 0), (46, .iload_n 3, 1, 0, 0), (47, .iastore, 1, 0, 0), (48, .aload_n 0, 1, 0, 0), (49, .getfield 15, 3, 1543, 0), (52, .aload_n 0, 1, 0, 0), (53, .getfield 21, 3, 1548, 0), (56, .iconst (-1), 1, 0, (-1)), (57, .iastore, 1, 0, 0), (58, .aload_n 0, 1, 0, 0), (59, .getfield 18, 3, 1547, 0), (62, .aload_n 0, 1, 0, 0), (63, .getfield 21, 3, 1548, 0), (66, .iconst (-1), 1, 0, (-1)), (67, .iastore, 1, 0, 0), (68, .aload_n 1, 1, 0, 0), (69, .invokevirtual 50, 3, 2370, 0), (72, .iload_n 3, 1, 0, 0), (73, .bipush 108, 2, 0, 108), (75, .if_icmp .eq 15, 3, 90, 0), (78, .iload_n 3, 1, 0, 0), (79, .bipush 109, 2, 0, 109), (81, .if_icmp .eq 9, 3, 90, 0), (84, .iload_n 3, 1, 0, 0), (85, .bipush 110, 2, 0, 110), (87, .if_icmp .ne 7, 3, 94, 0), (90, .iconst 1, 1, 0, 1), (91, .goto 4, 3, 95, 0), (94, .iconst 0, 1, 0, 0), (95, .istore 4, 2, 0, 0), (97, .iload_n 3, 1, 0, 0), (98, .bipush 108, 2, 0, 108), (100, .if_icmp .eq 15, 3, 115, 0), (103, .iload_n 3, 1, 0, 0), (104, .bipush 109, 2, 0, 109), (106, .if_icmp .eq 9, 3, 115, 0), (109, .iload_n 3, 1, 0, 0), (110, .bipush 111, 2, 0, 111), (112, .if_icmp .ne 7, 3, 119, 0), (115, .iconst 1, 1, 0, 1), (116, .goto 4, 3, 120, 0), (119, .iconst 0, 1, 0, 0), (120, .istore 5, 2, 0, 0), (122, .iload 4, 2, 0, 0), (124, .ifCond .eq 12, 3, 136, 0), (127, .aload_n 0, 1, 0, 0), (128, .aload_n 1, 1, 0, 0), (129, .aload_n 2, 1, 0, 0), (130, .invokevirtual 53, 3, 2119, 0), (133, .ifCond .eq 17, 3, 150, 0), (136, .iload 5, 2, 0, 0), (138, .ifCond .eq 14, 3, 152, 0), (141, .aload_n 0, 1, 0, 0), (142, .aload_n 1, 1, 0, 0), (143, .aload_n 2, 1, 0, 0), (144, .invokevirtual 56, 3, 2151, 0), (147, .ifCond .ne 5, 3, 152, 0), (150, .iconst 0, 1, 0, 0), (151, .ireturn, 1, 0, 0), (152, .aload_n 0, 1, 0, 0), (153, .dup, 1, 0, 0), (154, .getfield 21, 3, 1548, 0), (157, .iconst 1, 1, 0, 1), (158, .iadd, 1, 0, 0), (159, .putfield 21, 3, 1548, 0), (162, .aload_n 1, 1, 0, 0), (163, .bipush 59, 2, 0, 59), (165, .invokevirtual 59, 3, 2501, 0), (168, .ireturn, 1, 0, 0)]
def pg_X6_readLine : ur_P := (pr_X6_readLine, fun _ => ([], 0), 6, 1, 6)
abbrev kX_X6_readLine : Nat := 65
def pr_X6_readPerson : List ur_E := [(0, .aload_n 1, 1, 0, 0), (1, .getfield 36, 3, 2064, 0), (4, .iconst 3, 1, 0, 3), (5, .if_icmp .eq 9, 3, 14, 0), (8, .aload_n 1, 1, 0, 0), (9, .iconst 1, 1, 0, 1), (10, .invokevirtual 46, 3, 2469, 0), (13, .ireturn, 1, 0, 0), (14, .aload_n 2, 1, 0, 0), (15, .aload_n 1, 1, 0, 0), (16, .getfield 62, 3, 2070, 0), (19, .invokevirtual 66, 3, 325, 0), (22, .istore_n 3, 1, 0, 0), (23, .iload_n 3, 1, 0, 0), (24, .iconst (-1), 1, 0, (-1)), (25, .if_icmp .ne 9, 3, 34, 0), (28, .aload_n 1, 1, 0, 0), (29, .iconst 2, 1, 0, 2), (30, .invokevirtual 46, 3, 2469, 0), (33, .ireturn, 1, 0, 0), (34, .aload_n 0, 1, 0, 0), (35, .getfield 15, 3, 1543, 0), (38, .aload_n 0, 1, 0, 0), (39, .getfield 21, 3, 1548, 0), (42, .iload_n 3, 1, 0, 0), (43, .iastore, 1, 0, 0), (44, .aload_n 1, 1, 0, 0), (45, .invokevirtual 50, 3, 2370, 0), (48, .iconst 1, 1, 0, 1), (49, .ireturn, 1, 0, 0)]
def pg_X6_readPerson : ur_P := (pr_X6_readPerson, fun _ => ([], 0), 4, 1, 6)
abbrev kX_X6_readPerson : Nat := 66
def pr_X6_readRoom : List ur_E := [(0, .aload_n 2, 1, 0, 0), (1, .aload_n 1, 1, 0, 0), (2, .invokevirtual 72, 3, 485, 0), (5, .ifCond .ne 5, 3, 10, 0), (8, .iconst 0, 1, 0, 0), (9, .ireturn, 1, 0, 0), (10, .aload_n 0, 1, 0, 0), (11, .getfield 18, 3, 1547, 0), (14, .aload_n 0, 1, 0, 0), (15, .getfield 21, 3, 1548, 0), (18, .aload_n 2, 1, 0, 0), (19, .aload_n 1, 1, 0, 0), (20, .getfield 62, 3, 2070, 0), (23, .invokevirtual 76, 3, 293, 0), (26, .iastore, 1, 0, 0), (27, .aload_n 1, 1, 0, 0), (28, .invokevirtual 50, 3, 2370, 0), (31, .iconst 1, 1, 0, 1), (32, .ireturn, 1, 0, 0)]
def pg_X6_readRoom : ur_P := (pr_X6_readRoom, fun _ => ([], 0), 3, 1, 6)
abbrev kX_X6_readRoom : Nat := 67
def pr_X7_init : List ur_E := [(0, .aload_n 0, 1, 0, 0), (1, .invokespecial 3, 3, 9001, 0), (4, .aload_n 0, 1, 0, 0), (5, .bipush 8, 2, 0, 8), (7, .newarray .int, 2, 0, 0), (9, .putfield 9, 3, 1795, 0), (12, .aload_n 0, 1, 0, 0), (13, .bipush 8, 2, 0, 8), (15, .newarray .int, 2, 0, 0), (17, .putfield 15, 3, 1799, 0), (20, .return_, 1, 0, 0)]
def pg_X7_init : ur_P := (pr_X7_init, fun _ => ([], 0), 1, 0, 7)
abbrev kX_X7_init : Nat := 68
def pr_X7_put : List ur_E := [(0, .aload_n 0, 1, 0, 0), (1, .getfield 18, 3, 1804, 0), (4, .bipush 8, 2, 0, 8), (6, .if_icmp .lt 5, 3, 11, 0), (9, .iconst 0, 1, 0, 0), (10, .ireturn, 1, 0, 0), (11, .aload_n 0, 1, 0, 0), (12, .getfield 9, 3, 1795, 0), (15, .aload_n 0, 1, 0, 0), (16, .getfield 18, 3, 1804, 0), (19, .iload_n 1, 1, 0, 0), (20, .iastore, 1, 0, 0), (21, .aload_n 0, 1, 0, 0), (22, .getfield 15, 3, 1799, 0), (25, .aload_n 0, 1, 0, 0), (26, .getfield 18, 3, 1804, 0), (29, .iload_n 2, 1, 0, 0), (30, .iastore, 1, 0, 0), (31, .aload_n 0, 1, 0, 0), (32, .iload_n 3, 1, 0, 0), (33, .ifCond .eq 17, 3, 50, 0), (36, .aload_n 0, 1, 0, 0), (37, .getfield 22, 3, 1800, 0), (40, .iconst 1, 1, 0, 1), (41, .aload_n 0, 1, 0, 0), (42, .getfield 18, 3, 1804, 0), (45, .ishl, 1, 0, 0), (46, .ior, 1, 0, 0), (47, .goto 16, 3, 63, 0), (50, .aload_n 0, 1, 0, 0), (51, .getfield 22, 3, 1800, 0), (54, .iconst 1, 1, 0, 1), (55, .aload_n 0, 1, 0, 0), (56, .getfield 18, 3, 1804, 0), (59, .ishl, 1, 0, 0), (60, .iconst (-1), 1, 0, (-1)), (61, .ixor, 1, 0, 0), (62, .iand, 1, 0, 0), (63, .putfield 22, 3, 1800, 0), (66, .aload_n 0, 1, 0, 0), (67, .dup, 1, 0, 0), (68, .getfield 18, 3, 1804, 0), (71, .iconst 1, 1, 0, 1), (72, .iadd, 1, 0, 0), (73, .putfield 18, 3, 1804, 0), (76, .iconst 1, 1, 0, 1), (77, .ireturn, 1, 0, 0)]
def pg_X7_put : ur_P := (pr_X7_put, fun _ => ([], 0), 4, 1, 7)
abbrev kX_X7_put : Nat := 69
def pr_X7_copyFrom : List ur_E := [(0, .aload_n 0, 1, 0, 0), (1, .aload_n 1, 1, 0, 0), (2, .getfield 18, 3, 1804, 0), (5, .putfield 18, 3, 1804, 0), (8, .aload_n 1, 1, 0, 0), (9, .getfield 9, 3, 1795, 0), (12, .iconst 0, 1, 0, 0), (13, .aload_n 0, 1, 0, 0), (14, .getfield 9, 3, 1795, 0), (17, .iconst 0, 1, 0, 0), (18, .bipush 8, 2, 0, 8), (20, .invokestatic 25, 3, 9000, 0), (23, .aload_n 1, 1, 0, 0), (24, .getfield 15, 3, 1799, 0), (27, .iconst 0, 1, 0, 0), (28, .aload_n 0, 1, 0, 0), (29, .getfield 15, 3, 1799, 0), (32, .iconst 0, 1, 0, 0), (33, .bipush 8, 2, 0, 8), (35, .invokestatic 25, 3, 9000, 0), (38, .aload_n 0, 1, 0, 0), (39, .aload_n 1, 1, 0, 0), (40, .getfield 22, 3, 1800, 0), (43, .putfield 22, 3, 1800, 0), (46, .return_, 1, 0, 0)]
def pg_X7_copyFrom : ur_P := (pr_X7_copyFrom, fun _ => ([], 0), 2, 0, 7)
abbrev kX_X7_copyFrom : Nat := 70
def pr_X8_init : List ur_E := [(0, .aload_n 0, 1, 0, 0), (1, .invokespecial 3, 3, 9001, 0), (4, .aload_n 0, 1, 0, 0), (5, .sipush 1000, 3, 0, 1000), (8, .newarray .char, 2, 0, 0), (10, .putfield 9, 3, 2051, 0), (13, .return_, 1, 0, 0)]
def pg_X8_init : ur_P := (pr_X8_init, fun _ => ([], 0), 1, 0, 8)
abbrev kX_X8_init : Nat := 71
def pr_X8_put : List ur_E := [(0, .iload_n 1, 1, 0, 0), (1, .bipush 10, 2, 0, 10), (3, .if_icmp .eq 15, 3, 18, 0), (6, .iload_n 1, 1, 0, 0), (7, .bipush 32, 2, 0, 32), (9, .if_icmp .lt 13, 3, 22, 0), (12, .iload_n 1, 1, 0, 0), (13, .bipush 126, 2, 0, 126), (15, .if_icmp .gt 7, 3, 22, 0), (18, .iconst 1, 1, 0, 1), (19, .goto 4, 3, 23, 0), (22, .iconst 0, 1, 0, 0), (23, .istore_n 2, 1, 0, 0), (24, .iload_n 2, 1, 0, 0), (25, .ifCond .eq 34, 3, 59, 0), (28, .aload_n 0, 1, 0, 0), (29, .getfield 15, 3, 2052, 0), (32, .sipush 1000, 3, 0, 1000), (35, .if_icmp .ge 24, 3, 59, 0), (38, .aload_n 0, 1, 0, 0), (39, .getfield 9, 3, 2051, 0), (42, .aload_n 0, 1, 0, 0), (43, .getfield 15, 3, 2052, 0), (46, .iload_n 1, 1, 0, 0), (47, .i2c, 1, 0, 0), (48, .castore, 1, 0, 0), (49, .aload_n 0, 1, 0, 0), (50, .dup, 1, 0, 0), (51, .getfield 15, 3, 2052, 0), (54, .iconst 1, 1, 0, 1), (55, .iadd, 1, 0, 0), (56, .putfield 15, 3, 2052, 0), (59, .return_, 1, 0, 0)]
def pg_X8_put : ur_P := (pr_X8_put, fun _ => ([], 0), 3, 0, 8)
abbrev kX_X8_put : Nat := 72
def pr_X8_begin : List ur_E := [(0, .aload_n 0, 1, 0, 0), (1, .iconst 0, 1, 0, 0), (2, .putfield 19, 3, 2056, 0), (5, .aload_n 0, 1, 0, 0), (6, .iconst 0, 1, 0, 0), (7, .putfield 22, 3, 2076, 0), (10, .aload_n 0, 1, 0, 0), (11, .invokevirtual 25, 3, 2370, 0), (14, .return_, 1, 0, 0)]
def pg_X8_begin : ur_P := (pr_X8_begin, fun _ => ([], 0), 1, 0, 8)
abbrev kX_X8_begin : Nat := 73
def pr_X8_advance : List ur_E := [(0, .aload_n 0, 1, 0, 0), (1, .getfield 19, 3, 2056, 0), (4, .aload_n 0, 1, 0, 0), (5, .getfield 15, 3, 2052, 0), (8, .if_icmp .ge 44, 3, 52, 0), (11, .aload_n 0, 1, 0, 0), (12, .getfield 9, 3, 2051, 0), (15, .aload_n 0, 1, 0, 0), (16, .getfield 19, 3, 2056, 0), (19, .caload, 1, 0, 0), (20, .bipush 32, 2, 0, 32), (22, .if_icmp .eq 17, 3, 39, 0), (25, .aload_n 0, 1, 0, 0), (26, .getfield 9, 3, 2051, 0), (29, .aload_n 0, 1, 0, 0), (30, .getfield 19, 3, 2056, 0), (33, .caload, 1, 0, 0), (34, .bipush 10, 2, 0, 10), (36, .if_icmp .ne 16, 3, 52, 0), (39, .aload_n 0, 1, 0, 0), (40, .dup, 1, 0, 0), (41, .getfield 19, 3, 2056, 0), (44, .iconst 1, 1, 0, 1), (45, .iadd, 1, 0, 0), (46, .putfield 19, 3, 2056, 0), (49, .goto (-49), 3, 0, 0), (52, .aload_n 0, 1, 0, 0), (53, .aload_n 0, 1, 0, 0), (54, .getfield 19, 3, 2056, 0), (57, .putfield 28, 3, 2060, 0), (60, .aload_n 0, 1, 0, 0), (61, .getfield 19, 3, 2056, 0), (64, .aload_n 0, 1, 0, 0), (65, .getfield 15, 3, 2052, 0), (68, .if_icmp .lt 11, 3, 79, 0), (71, .aload_n 0, 1, 0, 0), (72, .iconst 1, 1, 0, 1), (73, .putfield 31, 3, 2064, 0), (76, .goto 117, 3, 193, 0), (79, .aload_n 0, 1, 0, 0), (80, .getfield 9, 3, 2051, 0), (83, .aload_n 0, 1, 0, 0), (84, .getfield 19, 3, 2056, 0), (87, .caload, 1, 0, 0), (88, .bipush 97, 2, 0, 97), (90, .if_icmp .lt 24, 3, 114, 0), (93, .aload_n 0, 1, 0, 0), (94, .getfield 9, 3, 2051, 0), (97, .aload_n 0, 1, 0, 0), (98, .getfield 19, 3, 2056, 0), (101, .caload, 1, 0, 0), (102, .bipush 122, 2, 0, 122), (104, .if_icmp .gt 10, 3, 114, 0), (107, .aload_n 0, 1, 0, 0), (108, .invokevirtual 34, 3, 2402, 0), (111, .goto 82, 3, 193, 0), (114, .aload_n 0, 1, 0, 0), (115, .getfield 9, 3, 2051, 0), (118, .aload_n 0, 1, 0, 0), (119, .getfield 19, 3, 2056, 0), (122, .caload, 1, 0, 0), (123, .bipush 48, 2, 0, 48), (125, .if_icmp .lt 24, 3, 149, 0), (128, .aload_n 0, 1, 0, 0), (129, .getfield 9, 3, 2051, 0), (132, .aload_n 0, 1, 0, 0), (133, .getfield 19, 3, 2056, 0), (136, .caload, 1, 0, 0), (137, .bipush 57, 2, 0, 57), (139, .if_icmp .gt 10, 3, 149, 0), (142, .aload_n 0, 1, 0, 0), (143, .invokevirtual 37, 3, 2434, 0), (146, .goto 47, 3, 193, 0), (149, .aload_n 0, 1, 0, 0), (150, .ldc 40, 2, 2001, 0), (152, .aload_n 0, 1, 0, 0), (153, .getfield 9, 3, 2051, 0), (156, .aload_n 0, 1, 0, 0), (157, .getfield 19, 3, 2056, 0), (160, .caload, 1, 0, 0), (161, .invokevirtual 42, 3, 8197, 0), (164, .ifCond .lt 15, 3, 179, 0), (167, .aload_n 0, 1, 0, 0), (168, .getfield 9, 3, 2051, 0), (171, .aload_n 0, 1, 0, 0), (172, .getfield 19, 3, 2056, 0), (175, .caload, 1, 0, 0), (176, .goto 4, 3, 180, 0), (179, .iconst 0, 1, 0, 0), (180, .putfield 31, 3, 2064, 0), (183, .aload_n 0, 1, 0, 0), (184, .dup, 1, 0, 0), (185, .getfield 19, 3, 2056, 0), (188, .iconst 1, 1, 0, 1), (189, .iadd, 1, 0, 0), (190, .putfield 19, 3, 2056, 0), (193, .return_, 1, 0, 0)]
def pg_X8_advance : ur_P := (pr_X8_advance, fun _ => ([], 0), 1, 0, 8)
abbrev kX_X8_advance : Nat := 74
def pr_X8_takeWord : List ur_E := [(0, .aload_n 0, 1, 0, 0), (1, .lconst 0, 1, 0, 0), (2, .putfield 48, 3, 2070, 0), (5, .aload_n 0, 1, 0, 0), (6, .getfield 19, 3, 2056, 0), (9, .aload_n 0, 1, 0, 0), (10, .getfield 15, 3, 2052, 0), (13, .if_icmp .ge 72, 3, 85, 0), (16, .aload_n 0, 1, 0, 0), (17, .getfield 9, 3, 2051, 0), (20, .aload_n 0, 1, 0, 0), (21, .getfield 19, 3, 2056, 0), (24, .caload, 1, 0, 0), (25, .bipush 97, 2, 0, 97), (27, .if_icmp .lt 58, 3, 85, 0), (30, .aload_n 0, 1, 0, 0), (31, .getfield 9, 3, 2051, 0), (34, .aload_n 0, 1, 0, 0), (35, .getfield 19, 3, 2056, 0), (38, .caload, 1, 0, 0), (39, .bipush 122, 2, 0, 122), (41, .if_icmp .gt 44, 3, 85, 0), (44, .aload_n 0, 1, 0, 0), (45, .aload_n 0, 1, 0, 0), (46, .getfield 48, 3, 2070, 0), (49, .ldc2_w 52, 3, 32, 0), (52, .lmul, 1, 0, 0), (53, .aload_n 0, 1, 0, 0), (54, .getfield 9, 3, 2051, 0), (57, .aload_n 0, 1, 0, 0), (58, .getfield 19, 3, 2056, 0), (61, .caload, 1, 0, 0), (62, .bipush 97, 2, 0, 97), (64, .isub, 1, 0, 0), (65, .iconst 1, 1, 0, 1), (66, .iadd, 1, 0, 0), (67, .i2l, 1, 0, 0), (68, .ladd, 1, 0, 0), (69, .putfield 48, 3, 2070, 0), (72, .aload_n 0, 1, 0, 0), (73, .dup, 1, 0, 0), (74, .getfield 19, 3, 2056, 0), (77, .iconst 1, 1, 0, 1), (78, .iadd, 1, 0, 0), (79, .putfield 19, 3, 2056, 0), (82, .goto (-77), 3, 5, 0), (85, .ldc 54, 2, 2000, 0), (87, .aload_n 0, 1, 0, 0), (88, .getfield 48, 3, 2070, 0), (91, .invokestatic 56, 3, 4389, 0), (94, .istore_n 1, 1, 0, 0), (95, .aload_n 0, 1, 0, 0), (96, .iload_n 1, 1, 0, 0), (97, .iconst (-1), 1, 0, (-1)), (98, .if_icmp .ne 7, 3, 105, 0), (101, .iconst 3, 1, 0, 3), (102, .goto 7, 3, 109, 0), (105, .bipush 100, 2, 0, 100), (107, .iload_n 1, 1, 0, 0), (108, .iadd, 1, 0, 0), (109, .putfield 31, 3, 2064, 0), (112, .aload_n 0, 1, 0, 0), (113, .getfield 19, 3, 2056, 0), (116, .aload_n 0, 1, 0, 0), (117, .getfield 28, 3, 2060, 0), (120, .isub, 1, 0, 0), (121, .bipush 8, 2, 0, 8), (123, .if_icmp .le 8, 3, 131, 0), (126, .aload_n 0, 1, 0, 0), (127, .iconst 0, 1, 0, 0), (128, .putfield 31, 3, 2064, 0), (131, .return_, 1, 0, 0)]
def pg_X8_takeWord : ur_P := (pr_X8_takeWord, fun _ => ([], 0), 2, 0, 8)
abbrev kX_X8_takeWord : Nat := 75
def pr_X8_takeDigits : List ur_E := [(0, .aload_n 0, 1, 0, 0), (1, .iconst 0, 1, 0, 0), (2, .putfield 60, 3, 2072, 0), (5, .aload_n 0, 1, 0, 0), (6, .getfield 19, 3, 2056, 0), (9, .aload_n 0, 1, 0, 0), (10, .getfield 15, 3, 2052, 0), (13, .if_icmp .ge 68, 3, 81, 0), (16, .aload_n 0, 1, 0, 0), (17, .getfield 9, 3, 2051, 0), (20, .aload_n 0, 1, 0, 0), (21, .getfield 19, 3, 2056, 0), (24, .caload, 1, 0, 0), (25, .bipush 48, 2, 0, 48), (27, .if_icmp .lt 54, 3, 81, 0), (30, .aload_n 0, 1, 0, 0), (31, .getfield 9, 3, 2051, 0), (34, .aload_n 0, 1, 0, 0), (35, .getfield 19, 3, 2056, 0), (38, .caload, 1, 0, 0), (39, .bipush 57, 2, 0, 57), (41, .if_icmp .gt 40, 3, 81, 0), (44, .aload_n 0, 1, 0, 0), (45, .aload_n 0, 1, 0, 0), (46, .getfield 60, 3, 2072, 0), (49, .bipush 10, 2, 0, 10), (51, .imul, 1, 0, 0), (52, .aload_n 0, 1, 0, 0), (53, .getfield 9, 3, 2051, 0), (56, .aload_n 0, 1, 0, 0), (57, .getfield 19, 3, 2056, 0), (60, .caload, 1, 0, 0), (61, .bipush 48, 2, 0, 48), (63, .isub, 1, 0, 0), (64, .iadd, 1, 0, 0), (65, .putfield 60, 3, 2072, 0), (68, .aload_n 0, 1, 0, 0), (69, .dup, 1, 0, 0), (70, .getfield 19, 3, 2056, 0), (73, .iconst 1, 1, 0, 1), (74, .iadd, 1, 0, 0), (75, .putfield 19, 3, 2056, 0), (78, .goto (-73), 3, 5, 0), (81, .aload_n 0, 1, 0, 0), (82, .aload_n 0, 1, 0, 0), (83, .getfield 19, 3, 2056, 0), (86, .aload_n 0, 1, 0, 0), (87, .getfield 28, 3, 2060, 0), (90, .isub, 1, 0, 0), (91, .iconst 4, 1, 0, 4), (92, .if_icmp .le 7, 3, 99, 0), (95, .iconst 0, 1, 0, 0), (96, .goto 4, 3, 100, 0), (99, .iconst 2, 1, 0, 2), (100, .putfield 31, 3, 2064, 0), (103, .return_, 1, 0, 0)]
def pg_X8_takeDigits : ur_P := (pr_X8_takeDigits, fun _ => ([], 0), 1, 0, 8)
abbrev kX_X8_takeDigits : Nat := 76
def pr_X8_fail : List ur_E := [(0, .aload_n 0, 1, 0, 0), (1, .iload_n 1, 1, 0, 0), (2, .bipush 16, 2, 0, 16), (4, .aload_n 0, 1, 0, 0), (5, .getfield 28, 3, 2060, 0), (8, .imul, 1, 0, 0), (9, .iadd, 1, 0, 0), (10, .putfield 22, 3, 2076, 0), (13, .iconst 0, 1, 0, 0), (14, .ireturn, 1, 0, 0)]
def pg_X8_fail : ur_P := (pr_X8_fail, fun _ => ([], 0), 2, 1, 8)
abbrev kX_X8_fail : Nat := 77
def pr_X8_take : List ur_E := [(0, .aload_n 0, 1, 0, 0), (1, .getfield 31, 3, 2064, 0), (4, .iload_n 1, 1, 0, 0), (5, .if_icmp .eq 9, 3, 14, 0), (8, .aload_n 0, 1, 0, 0), (9, .iconst 1, 1, 0, 1), (10, .invokevirtual 63, 3, 2469, 0), (13, .ireturn, 1, 0, 0), (14, .aload_n 0, 1, 0, 0), (15, .invokevirtual 25, 3, 2370, 0), (18, .iconst 1, 1, 0, 1), (19, .ireturn, 1, 0, 0)]
def pg_X8_take : ur_P := (pr_X8_take, fun _ => ([], 0), 2, 1, 8)
abbrev kX_X8_take : Nat := 78
def pr_X8_isNumber : List ur_E := [(0, .aload_n 0, 1, 0, 0), (1, .getfield 31, 3, 2064, 0), (4, .iconst 2, 1, 0, 2), (5, .if_icmp .eq 9, 3, 14, 0), (8, .aload_n 0, 1, 0, 0), (9, .iconst 1, 1, 0, 1), (10, .invokevirtual 63, 3, 2469, 0), (13, .ireturn, 1, 0, 0), (14, .aload_n 0, 1, 0, 0), (15, .getfield 60, 3, 2072, 0), (18, .iload_n 1, 1, 0, 0), (19, .if_icmp .lt 11, 3, 30, 0), (22, .aload_n 0, 1, 0, 0), (23, .getfield 60, 3, 2072, 0), (26, .iload_n 2, 1, 0, 0), (27, .if_icmp .le 11, 3, 38, 0), (30, .aload_n 0, 1, 0, 0), (31, .iconst 4, 1, 0, 4), (32, .invokevirtual 63, 3, 2469, 0), (35, .ifCond .eq 7, 3, 42, 0), (38, .iconst 1, 1, 0, 1), (39, .goto 4, 3, 43, 0), (42, .iconst 0, 1, 0, 0), (43, .ireturn, 1, 0, 0)]
def pg_X8_isNumber : ur_P := (pr_X8_isNumber, fun _ => ([], 0), 3, 1, 8)
abbrev kX_X8_isNumber : Nat := 79
def pr_X9_init : List ur_E := [(0, .aload_n 0, 1, 0, 0), (1, .invokespecial 3, 3, 9001, 0), (4, .aload_n 0, 1, 0, 0), (5, .new 9, 3, 8, 0), (8, .dup, 1, 0, 0), (9, .invokespecial 11, 3, 2274, 0), (12, .putfield 12, 3, 2307, 0), (15, .aload_n 0, 1, 0, 0), (16, .new 16, 3, 1, 0), (19, .dup, 1, 0, 0), (20, .invokespecial 18, 3, 66, 0), (23, .putfield 19, 3, 2311, 0), (26, .aload_n 0, 1, 0, 0), (27, .new 16, 3, 1, 0), (30, .dup, 1, 0, 0), (31, .invokespecial 18, 3, 66, 0), (34, .putfield 23, 3, 2315, 0), (37, .aload_n 0, 1, 0, 0), (38, .new 26, 3, 6, 0), (41, .dup, 1, 0, 0), (42, .invokespecial 28, 3, 1986, 0), (45, .putfield 29, 3, 2319, 0), (48, .aload_n 0, 1, 0, 0), (49, .new 26, 3, 6, 0), (52, .dup, 1, 0, 0), (53, .invokespecial 28, 3, 1986, 0), (56, .putfield 33, 3, 2323, 0), (59, .aload_n 0, 1, 0, 0), (60, .new 36, 3, 5, 0), (63, .dup, 1, 0, 0), (64, .invokespecial 38, 3, 1250, 0), (67, .putfield 39, 3, 2327, 0), (70, .aload_n 0, 1, 0, 0), (71, .new 36, 3, 5, 0), (74, .dup, 1, 0, 0), (75, .invokespecial 38, 3, 1250, 0), (78, .putfield 43, 3, 2331, 0), (81, .aload_n 0, 1, 0, 0), (82, .new 46, 3, 7, 0), (85, .dup, 1, 0, 0), (86, .invokespecial 48, 3, 2178, 0), (89, .putfield 49, 3, 2335, 0), (92, .aload_n 0, 1, 0, 0), (93, .bipush 16, 2, 0, 16), (95, .anewarray 36, 3, 4, 0), (98, .putfield 53, 3, 2339, 0), (101, .aload_n 0, 1, 0, 0), (102, .iconst 4, 1, 0, 4), (103, .anewarray 57, 3, 5, 0), (106, .putfield 59, 3, 2351, 0), (109, .aload_n 0, 1, 0, 0), (110, .new 63, 3, 3, 0), (113, .dup, 1, 0, 0), (114, .invokespecial 65, 3, 1026, 0), (117, .putfield 66, 3, 2355, 0), (120, .aload_n 0, 1, 0, 0), (121, .new 70, 3, 0, 0), (124, .dup, 1, 0, 0), (125, .invokespecial 72, 3, 2, 0), (128, .putfield 73, 3, 2359, 0), (131, .aload_n 0, 1, 0, 0), (132, .bipush 31, 2, 0, 31), (134, .newarray .int, 2, 0, 0), (136, .putfield 77, 3, 2363, 0), (139, .iconst 0, 1, 0, 0), (140, .istore_n 1, 1, 0, 0), (141, .iload_n 1, 1, 0, 0), (142, .bipush 16, 2, 0, 16), (144, .if_icmp .ge 22, 3, 166, 0), (147, .aload_n 0, 1, 0, 0), (148, .getfield 53, 3, 2339, 0), (151, .iload_n 1, 1, 0, 0), (152, .new 36, 3, 5, 0), (155, .dup, 1, 0, 0), (156, .invokespecial 38, 3, 1250, 0), (159, .aastore, 1, 0, 0), (160, .iinc 1 1, 3, 0, 1), (163, .goto (-22), 3, 141, 0), (166, .iconst 0, 1, 0, 0), (167, .istore_n 1, 1, 0, 0), (168, .iload_n 1, 1, 0, 0), (169, .iconst 4, 1, 0, 4), (170, .if_icmp .ge 22, 3, 192, 0), (173, .aload_n 0, 1, 0, 0), (174, .getfield 59, 3, 2351, 0), (177, .iload_n 1, 1, 0, 0), (178, .new 57, 3, 4, 0), (181, .dup, 1, 0, 0), (182, .invokespecial 81, 3, 1154, 0), (185, .aastore, 1, 0, 0), (186, .iinc 1 1, 3, 0, 1), (189, .goto (-21), 3, 168, 0), (192, .return_, 1, 0, 0)]
def pg_X9_init : ur_P := (pr_X9_init, fun _ => ([], 0), 2, 0, 9)
abbrev kX_X9_init : Nat := 80
def pr_X9_feed : List ur_E := [(0, .aload_n 0, 1, 0, 0), (1, .lload_n 1, 1, 0, 0), (2, .invokevirtual 82, 3, 2628, 0), (5, .aload_n 0, 1, 0, 0), (6, .lload_n 3, 1, 0, 0), (7, .invokevirtual 82, 3, 2628, 0), (10, .aload_n 0, 1, 0, 0), (11, .lload 5, 2, 0, 0), (13, .invokevirtual 82, 3, 2628, 0), (16, .aload_n 0, 1, 0, 0), (17, .getfield 12, 3, 2307, 0), (20, .getfield 86, 3, 2052, 0), (23, .ireturn, 1, 0, 0)]
def pg_X9_feed : ur_P := (pr_X9_feed, fun _ => ([], 0), 7, 0, 9)
abbrev kX_X9_feed : Nat := 81
def pr_X9_feedBytes : List ur_E := [(0, .bipush 56, 2, 0, 56), (2, .istore_n 3, 1, 0, 0), (3, .iload_n 3, 1, 0, 0), (4, .ifCond .lt 24, 3, 28, 0), (7, .aload_n 0, 1, 0, 0), (8, .getfield 12, 3, 2307, 0), (11, .lload_n 1, 1, 0, 0), (12, .iload_n 3, 1, 0, 0), (13, .lushr, 1, 0, 0), (14, .l2i, 1, 0, 0), (15, .sipush 255, 3, 0, 255), (18, .iand, 1, 0, 0), (19, .invokevirtual 90, 3, 2308, 0), (22, .iinc 3 (-8), 3, 0, (-8)), (25, .goto (-22), 3, 3, 0), (28, .return_, 1, 0, 0)]
def pg_X9_feedBytes : ur_P := (pr_X9_feedBytes, fun _ => ([], 0), 4, 0, 9)
abbrev kX_X9_feedBytes : Nat := 82
def pr_X9_marches : List ur_E := [(0, .aload_n 0, 1, 0, 0), (1, .getfield 23, 3, 2315, 0), (4, .aload_n 0, 1, 0, 0), (5, .getfield 12, 3, 2307, 0), (8, .invokevirtual 94, 3, 389, 0), (11, .istore_n 1, 1, 0, 0), (12, .aload_n 0, 1, 0, 0), (13, .getfield 12, 3, 2307, 0), (16, .iconst 0, 1, 0, 0), (17, .putfield 86, 3, 2052, 0), (20, .iload_n 1, 1, 0, 0), (21, .ifCond .eq 5, 3, 26, 0), (24, .iload_n 1, 1, 0, 0), (25, .ireturn, 1, 0, 0), (26, .aload_n 0, 1, 0, 0), (27, .getfield 19, 3, 2311, 0), (30, .astore_n 2, 1, 0, 0), (31, .aload_n 0, 1, 0, 0), (32, .aload_n 0, 1, 0, 0), (33, .getfield 23, 3, 2315, 0), (36, .putfield 19, 3, 2311, 0), (39, .aload_n 0, 1, 0, 0), (40, .aload_n 2, 1, 0, 0), (41, .putfield 23, 3, 2315, 0), (44, .aload_n 0, 1, 0, 0), (45, .invokevirtual 98, 3, 2690, 0), (48, .iconst 0, 1, 0, 0), (49, .ireturn, 1, 0, 0)]
def pg_X9_marches : ur_P := (pr_X9_marches, fun _ => ([], 0), 3, 0, 9)
abbrev kX_X9_marches : Nat := 83
def pr_X9_beginAnew : List ur_E := [(0, .aload_n 0, 1, 0, 0), (1, .getfield 39, 3, 2327, 0), (4, .aload_n 0, 1, 0, 0), (5, .getfield 19, 3, 2311, 0), (8, .invokevirtual 101, 3, 1284, 0), (11, .aload_n 0, 1, 0, 0), (12, .getfield 29, 3, 2319, 0), (15, .iconst 0, 1, 0, 0), (16, .putfield 105, 3, 1548, 0), (19, .aload_n 0, 1, 0, 0), (20, .getfield 49, 3, 2335, 0), (23, .iconst 0, 1, 0, 0), (24, .putfield 108, 3, 1804, 0), (27, .aload_n 0, 1, 0, 0), (28, .iconst 0, 1, 0, 0), (29, .putfield 109, 3, 2344, 0), (32, .iconst 0, 1, 0, 0), (33, .istore_n 1, 1, 0, 0), (34, .iload_n 1, 1, 0, 0), (35, .iconst 4, 1, 0, 4), (36, .if_icmp .ge 19, 3, 55, 0), (39, .aload_n 0, 1, 0, 0), (40, .getfield 59, 3, 2351, 0), (43, .iload_n 1, 1, 0, 0), (44, .aaload, 1, 0, 0), (45, .iconst 0, 1, 0, 0), (46, .putfield 112, 3, 1037, 0), (49, .iinc 1 1, 3, 0, 1), (52, .goto (-18), 3, 34, 0), (55, .return_, 1, 0, 0)]
def pg_X9_beginAnew : ur_P := (pr_X9_beginAnew, fun _ => ([], 0), 2, 0, 9)
abbrev kX_X9_beginAnew : Nat := 84
def pr_X9_evening : List ur_E := [(0, .aload_n 0, 1, 0, 0), (1, .getfield 33, 3, 2323, 0), (4, .aload_n 0, 1, 0, 0), (5, .getfield 12, 3, 2307, 0), (8, .aload_n 0, 1, 0, 0), (9, .getfield 19, 3, 2311, 0), (12, .invokevirtual 116, 3, 2055, 0), (15, .istore_n 1, 1, 0, 0), (16, .aload_n 0, 1, 0, 0), (17, .getfield 12, 3, 2307, 0), (20, .iconst 0, 1, 0, 0), (21, .putfield 86, 3, 2052, 0), (24, .iload_n 1, 1, 0, 0), (25, .ifCond .eq 5, 3, 30, 0), (28, .iload_n 1, 1, 0, 0), (29, .ireturn, 1, 0, 0), (30, .aload_n 0, 1, 0, 0), (31, .getfield 29, 3, 2319, 0), (34, .astore_n 2, 1, 0, 0), (35, .aload_n 0, 1, 0, 0), (36, .aload_n 0, 1, 0, 0), (37, .getfield 33, 3, 2323, 0), (40, .putfield 29, 3, 2319, 0), (43, .aload_n 0, 1, 0, 0), (44, .aload_n 2, 1, 0, 0), (45, .putfield 33, 3, 2323, 0), (48, .iconst 0, 1, 0, 0), (49, .ireturn, 1, 0, 0)]
def pg_X9_evening : ur_P := (pr_X9_evening, fun _ => ([], 0), 3, 0, 9)
abbrev kX_X9_evening : Nat := 85
def pr_X9_room : List ur_E := [(0, .aload_n 0, 1, 0, 0), (1, .getfield 19, 3, 2311, 0), (4, .iload_n 1, 1, 0, 0), (5, .invokevirtual 119, 3, 101, 0), (8, .ifCond .ne 5, 3, 13, 0), (11, .iconst (-1), 1, 0, (-1)), (12, .ireturn, 1, 0, 0), (13, .iload_n 2, 1, 0, 0), (14, .tableswitch 91 0 4 #[34, 46, 56, 66, 78], 34, 0, 0), (48, .aload_n 0, 1, 0, 0), (49, .getfield 19, 3, 2311, 0), (52, .getfield 123, 3, 292, 0), (55, .iload_n 1, 1, 0, 0), (56, .invokestatic 126, 3, 4357, 0), (59, .ireturn, 1, 0, 0), (60, .aload_n 0, 1, 0, 0), (61, .getfield 19, 3, 2311, 0), (64, .getfield 130, 3, 263, 0), (67, .iload_n 1, 1, 0, 0), (68, .iaload, 1, 0, 0), (69, .ireturn, 1, 0, 0), (70, .aload_n 0, 1, 0, 0), (71, .getfield 19, 3, 2311, 0), (74, .getfield 133, 3, 267, 0), (77, .iload_n 1, 1, 0, 0), (78, .iaload, 1, 0, 0), (79, .ireturn, 1, 0, 0), (80, .aload_n 0, 1, 0, 0), (81, .getfield 39, 3, 2327, 0), (84, .getfield 136, 3, 1304, 0), (87, .iload_n 1, 1, 0, 0), (88, .invokestatic 126, 3, 4357, 0), (91, .ireturn, 1, 0, 0), (92, .aload_n 0, 1, 0, 0), (93, .getfield 39, 3, 2327, 0), (96, .aload_n 0, 1, 0, 0), (97, .getfield 19, 3, 2311, 0), (100, .iload_n 1, 1, 0, 0), (101, .invokevirtual 139, 3, 1447, 0), (104, .ireturn, 1, 0, 0), (105, .iconst (-1), 1, 0, (-1)), (106, .ireturn, 1, 0, 0)]
def pg_X9_room : ur_P := (pr_X9_room, fun pc => bif Nat.beq pc 14 then ([(0, 48), (1, 60), (2, 70), (3, 80), (4, 92)], 105) else ([], 0), 3, 0, 9)
abbrev kX_X9_room : Nat := 86
def pr_X9_person : List ur_E := [(0, .aload_n 0, 1, 0, 0), (1, .getfield 19, 3, 2311, 0), (4, .iload_n 1, 1, 0, 0), (5, .invokevirtual 143, 3, 133, 0), (8, .ifCond .ne 6, 3, 14, 0), (11, .bipush (-2), 2, 0, (-2)), (13, .ireturn, 1, 0, 0), (14, .iload_n 2, 1, 0, 0), (15, .tableswitch 99 0 5 #[37, 47, 57, 67, 77, 87], 37, 0, 0), (52, .aload_n 0, 1, 0, 0), (53, .getfield 19, 3, 2311, 0), (56, .getfield 146, 3, 275, 0), (59, .iload_n 1, 1, 0, 0), (60, .iaload, 1, 0, 0), (61, .ireturn, 1, 0, 0), (62, .aload_n 0, 1, 0, 0), (63, .getfield 19, 3, 2311, 0), (66, .getfield 149, 3, 279, 0), (69, .iload_n 1, 1, 0, 0), (70, .iaload, 1, 0, 0), (71, .ireturn, 1, 0, 0), (72, .aload_n 0, 1, 0, 0), (73, .getfield 39, 3, 2327, 0), (76, .getfield 152, 3, 1283, 0), (79, .iload_n 1, 1, 0, 0), (80, .iaload, 1, 0, 0), (81, .ireturn, 1, 0, 0), (82, .aload_n 0, 1, 0, 0), (83, .getfield 39, 3, 2327, 0), (86, .getfield 155, 3, 1287, 0), (89, .iload_n 1, 1, 0, 0), (90, .iaload, 1, 0, 0), (91, .ireturn, 1, 0, 0), (92, .aload_n 0, 1, 0, 0), (93, .getfield 39, 3, 2327, 0), (96, .getfield 158, 3, 1295, 0), (99, .iload_n 1, 1, 0, 0), (100, .iaload, 1, 0, 0), (101, .ireturn, 1, 0, 0), (102, .aload_n 0, 1, 0, 0), (103, .getfield 39, 3, 2327, 0), (106, .getfield 161, 3, 1300, 0), (109, .iload_n 1, 1, 0, 0), (110, .invokestatic 126, 3, 4357, 0), (113, .ireturn, 1, 0, 0), (114, .bipush (-2), 2, 0, (-2)), (116, .ireturn, 1, 0, 0)]
def pg_X9_person : ur_P := (pr_X9_person, fun pc => bif Nat.beq pc 15 then ([(0, 52), (1, 62), (2, 72), (3, 82), (4, 92), (5, 102)], 114) else ([], 0), 3, 0, 9)
abbrev kX_X9_person : Nat := 87
def pr_X9_walk : List ur_E := [(0, .aload_n 0, 1, 0, 0), (1, .getfield 39, 3, 2327, 0), (4, .aload_n 0, 1, 0, 0), (5, .getfield 19, 3, 2311, 0), (8, .iload_n 1, 1, 0, 0), (9, .iload_n 2, 1, 0, 0), (10, .invokevirtual 164, 3, 1545, 0), (13, .ifCond .ne 5, 3, 18, 0), (16, .iconst 0, 1, 0, 0), (17, .ireturn, 1, 0, 0), (18, .aload_n 0, 1, 0, 0), (19, .invokevirtual 168, 3, 2978, 0), (22, .aload_n 0, 1, 0, 0), (23, .getfield 39, 3, 2327, 0), (26, .aload_n 0, 1, 0, 0), (27, .getfield 19, 3, 2311, 0), (30, .iload_n 1, 1, 0, 0), (31, .iload_n 2, 1, 0, 0), (32, .invokevirtual 171, 3, 1577, 0), (35, .ireturn, 1, 0, 0)]
def pg_X9_walk : ur_P := (pr_X9_walk, fun _ => ([], 0), 3, 1, 9)
abbrev kX_X9_walk : Nat := 88
def pr_X9_show : List ur_E := [(0, .aload_n 0, 1, 0, 0), (1, .getfield 39, 3, 2327, 0), (4, .aload_n 0, 1, 0, 0), (5, .getfield 19, 3, 2311, 0), (8, .iload_n 1, 1, 0, 0), (9, .iload_n 2, 1, 0, 0), (10, .invokevirtual 174, 3, 1641, 0), (13, .ifCond .ne 5, 3, 18, 0), (16, .iconst (-1), 1, 0, (-1)), (17, .ireturn, 1, 0, 0), (18, .aload_n 0, 1, 0, 0), (19, .invokevirtual 168, 3, 2978, 0), (22, .aload_n 0, 1, 0, 0), (23, .getfield 39, 3, 2327, 0), (26, .aload_n 0, 1, 0, 0), (27, .getfield 19, 3, 2311, 0), (30, .iload_n 1, 1, 0, 0), (31, .iload_n 2, 1, 0, 0), (32, .invokevirtual 177, 3, 1673, 0), (35, .ireturn, 1, 0, 0)]
def pg_X9_show : ur_P := (pr_X9_show, fun _ => ([], 0), 3, 0, 9)
abbrev kX_X9_show : Nat := 89
def pr_X9_speak : List ur_E := [(0, .aload_n 0, 1, 0, 0), (1, .getfield 39, 3, 2327, 0), (4, .aload_n 0, 1, 0, 0), (5, .getfield 19, 3, 2311, 0), (8, .iload_n 1, 1, 0, 0), (9, .invokevirtual 181, 3, 1735, 0), (12, .ifCond .ne 5, 3, 17, 0), (15, .iconst 0, 1, 0, 0), (16, .ireturn, 1, 0, 0), (17, .aload_n 0, 1, 0, 0), (18, .invokevirtual 168, 3, 2978, 0), (21, .aload_n 0, 1, 0, 0), (22, .getfield 39, 3, 2327, 0), (25, .aload_n 0, 1, 0, 0), (26, .getfield 19, 3, 2311, 0), (29, .iload_n 1, 1, 0, 0), (30, .invokevirtual 185, 3, 1767, 0), (33, .ireturn, 1, 0, 0)]
def pg_X9_speak : ur_P := (pr_X9_speak, fun _ => ([], 0), 2, 1, 9)
abbrev kX_X9_speak : Nat := 90
def pr_X9_burn : List ur_E := [(0, .aload_n 0, 1, 0, 0), (1, .getfield 39, 3, 2327, 0), (4, .aload_n 0, 1, 0, 0), (5, .getfield 19, 3, 2311, 0), (8, .iload_n 1, 1, 0, 0), (9, .invokevirtual 188, 3, 1799, 0), (12, .ifCond .ne 5, 3, 17, 0), (15, .iconst (-1), 1, 0, (-1)), (16, .ireturn, 1, 0, 0), (17, .aload_n 0, 1, 0, 0), (18, .invokevirtual 168, 3, 2978, 0), (21, .aload_n 0, 1, 0, 0), (22, .getfield 39, 3, 2327, 0), (25, .aload_n 0, 1, 0, 0), (26, .getfield 19, 3, 2311, 0), (29, .iload_n 1, 1, 0, 0), (30, .invokevirtual 191, 3, 1831, 0), (33, .ireturn, 1, 0, 0)]
def pg_X9_burn : ur_P := (pr_X9_burn, fun _ => ([], 0), 2, 0, 9)
abbrev kX_X9_burn : Nat := 91
def pr_X9_minute : List ur_E := [(0, .aload_n 0, 1, 0, 0), (1, .invokevirtual 168, 3, 2978, 0), (4, .aload_n 0, 1, 0, 0), (5, .getfield 39, 3, 2327, 0), (8, .aload_n 0, 1, 0, 0), (9, .getfield 19, 3, 2311, 0), (12, .invokevirtual 194, 3, 1861, 0), (15, .ireturn, 1, 0, 0)]
def pg_X9_minute : ur_P := (pr_X9_minute, fun _ => ([], 0), 1, 0, 9)
abbrev kX_X9_minute : Nat := 92
def pr_X9_remember : List ur_E := [(0, .aload_n 0, 1, 0, 0), (1, .getfield 53, 3, 2339, 0), (4, .aload_n 0, 1, 0, 0), (5, .getfield 198, 3, 2340, 0), (8, .aaload, 1, 0, 0), (9, .aload_n 0, 1, 0, 0), (10, .getfield 39, 3, 2327, 0), (13, .invokevirtual 201, 3, 1316, 0), (16, .aload_n 0, 1, 0, 0), (17, .aload_n 0, 1, 0, 0), (18, .getfield 198, 3, 2340, 0), (21, .iconst 1, 1, 0, 1), (22, .iadd, 1, 0, 0), (23, .bipush 16, 2, 0, 16), (25, .irem, 1, 0, 0), (26, .putfield 198, 3, 2340, 0), (29, .aload_n 0, 1, 0, 0), (30, .aload_n 0, 1, 0, 0), (31, .getfield 109, 3, 2344, 0), (34, .iconst 1, 1, 0, 1), (35, .iadd, 1, 0, 0), (36, .bipush 16, 2, 0, 16), (38, .invokestatic 205, 3, 9003, 0), (41, .putfield 109, 3, 2344, 0), (44, .return_, 1, 0, 0)]
def pg_X9_remember : ur_P := (pr_X9_remember, fun _ => ([], 0), 1, 0, 9)
abbrev kX_X9_remember : Nat := 93
def pr_X9_undo : List ur_E := [(0, .aload_n 0, 1, 0, 0), (1, .getfield 109, 3, 2344, 0), (4, .ifCond .ne 5, 3, 9, 0), (7, .iconst 0, 1, 0, 0), (8, .ireturn, 1, 0, 0), (9, .aload_n 0, 1, 0, 0), (10, .aload_n 0, 1, 0, 0), (11, .getfield 198, 3, 2340, 0), (14, .bipush 16, 2, 0, 16), (16, .iadd, 1, 0, 0), (17, .iconst 1, 1, 0, 1), (18, .isub, 1, 0, 0), (19, .bipush 16, 2, 0, 16), (21, .irem, 1, 0, 0), (22, .putfield 198, 3, 2340, 0), (25, .aload_n 0, 1, 0, 0), (26, .dup, 1, 0, 0), (27, .getfield 109, 3, 2344, 0), (30, .iconst 1, 1, 0, 1), (31, .isub, 1, 0, 0), (32, .putfield 109, 3, 2344, 0), (35, .aload_n 0, 1, 0, 0), (36, .getfield 39, 3, 2327, 0), (39, .aload_n 0, 1, 0, 0), (40, .getfield 53, 3, 2339, 0), (43, .aload_n 0, 1, 0, 0), (44, .getfield 198, 3, 2340, 0), (47, .aaload, 1, 0, 0), (48, .invokevirtual 201, 3, 1316, 0), (51, .iconst 1, 1, 0, 1), (52, .ireturn, 1, 0, 0)]
def pg_X9_undo : ur_P := (pr_X9_undo, fun _ => ([], 0), 1, 1, 9)
abbrev kX_X9_undo : Nat := 94
def pr_X9_judged : List ur_E := [(0, .iload_n 1, 1, 0, 0), (1, .ifCond .lt 8, 3, 9, 0), (4, .iload_n 1, 1, 0, 0), (5, .iconst 2, 1, 0, 2), (6, .if_icmp .le 6, 3, 12, 0), (9, .bipush (-2), 2, 0, (-2)), (11, .ireturn, 1, 0, 0), (12, .iconst (-1), 1, 0, (-1)), (13, .istore_n 2, 1, 0, 0), (14, .iconst (-1), 1, 0, (-1)), (15, .istore_n 3, 1, 0, 0), (16, .aload_n 0, 1, 0, 0), (17, .getfield 43, 3, 2331, 0), (20, .aload_n 0, 1, 0, 0), (21, .getfield 19, 3, 2311, 0), (24, .invokevirtual 101, 3, 1284, 0), (27, .iconst 0, 1, 0, 0), (28, .istore 4, 2, 0, 0), (30, .iload 4, 2, 0, 0), (32, .aload_n 0, 1, 0, 0), (33, .getfield 29, 3, 2319, 0), (36, .getfield 105, 3, 1548, 0), (39, .if_icmp .ge 83, 3, 122, 0), (42, .aload_n 0, 1, 0, 0), (43, .getfield 43, 3, 2331, 0), (46, .aload_n 0, 1, 0, 0), (47, .getfield 19, 3, 2311, 0), (50, .aload_n 0, 1, 0, 0), (51, .getfield 29, 3, 2319, 0), (54, .getfield 210, 3, 1539, 0), (57, .iload 4, 2, 0, 0), (59, .iaload, 1, 0, 0), (60, .aload_n 0, 1, 0, 0), (61, .getfield 29, 3, 2319, 0), (64, .getfield 213, 3, 1543, 0), (67, .iload 4, 2, 0, 0), (69, .iaload, 1, 0, 0), (70, .aload_n 0, 1, 0, 0), (71, .getfield 29, 3, 2319, 0), (74, .getfield 216, 3, 1547, 0), (77, .iload 4, 2, 0, 0), (79, .iaload, 1, 0, 0), (80, .invokevirtual 219, 3, 1963, 0), (83, .istore 5, 2, 0, 0), (85, .iload 5, 2, 0, 0), (87, .ifCond .ne 11, 3, 98, 0), (90, .iload_n 2, 1, 0, 0), (91, .iconst (-1), 1, 0, (-1)), (92, .if_icmp .ne 6, 3, 98, 0), (95, .iload 4, 2, 0, 0), (97, .istore_n 2, 1, 0, 0), (98, .aload_n 0, 1, 0, 0), (99, .getfield 43, 3, 2331, 0), (102, .getfield 223, 3, 1308, 0), (105, .ifCond .le 11, 3, 116, 0), (108, .iload_n 3, 1, 0, 0), (109, .iconst (-1), 1, 0, (-1)), (110, .if_icmp .ne 6, 3, 116, 0), (113, .iload 4, 2, 0, 0), (115, .istore_n 3, 1, 0, 0), (116, .iinc 4 1, 3, 0, 1), (119, .goto (-89), 3, 30, 0), (122, .iload_n 1, 1, 0, 0), (123, .iconst 2, 1, 0, 2), (124, .if_icmp .ne 15, 3, 139, 0), (127, .aload_n 0, 1, 0, 0), (128, .getfield 43, 3, 2331, 0), (131, .aload_n 0, 1, 0, 0), (132, .getfield 19, 3, 2311, 0), (135, .invokevirtual 226, 3, 1413, 0), (138, .ireturn, 1, 0, 0), (139, .iload_n 1, 1, 0, 0), (140, .ifCond .ne 7, 3, 147, 0), (143, .iload_n 2, 1, 0, 0), (144, .goto 4, 3, 148, 0), (147, .iload_n 3, 1, 0, 0), (148, .ireturn, 1, 0, 0)]
def pg_X9_judged : ur_P := (pr_X9_judged, fun _ => ([], 0), 6, 0, 9)
abbrev kX_X9_judged : Nat := 95
def pr_X9_host : List ur_E := [(0, .aload_n 0, 1, 0, 0), (1, .getfield 19, 3, 2311, 0), (4, .iload_n 1, 1, 0, 0), (5, .invokevirtual 229, 3, 165, 0), (8, .ifCond .eq 18, 3, 26, 0), (11, .aload_n 0, 1, 0, 0), (12, .getfield 39, 3, 2327, 0), (15, .aload_n 0, 1, 0, 0), (16, .getfield 19, 3, 2311, 0), (19, .iload_n 1, 1, 0, 0), (20, .invokevirtual 232, 3, 1479, 0), (23, .goto 4, 3, 27, 0), (26, .iconst (-1), 1, 0, (-1)), (27, .ireturn, 1, 0, 0)]
def pg_X9_host : ur_P := (pr_X9_host, fun _ => ([], 0), 2, 0, 9)
abbrev kX_X9_host : Nat := 96
def pr_X9_frees : List ur_E := [(0, .aload_n 0, 1, 0, 0), (1, .getfield 19, 3, 2311, 0), (4, .iload_n 1, 1, 0, 0), (5, .invokevirtual 229, 3, 165, 0), (8, .ifCond .eq 11, 3, 19, 0), (11, .aload_n 0, 1, 0, 0), (12, .iload_n 1, 1, 0, 0), (13, .invokevirtual 235, 3, 3141, 0), (16, .goto 4, 3, 20, 0), (19, .iconst (-1), 1, 0, (-1)), (20, .ireturn, 1, 0, 0)]
def pg_X9_frees : ur_P := (pr_X9_frees, fun _ => ([], 0), 2, 0, 9)
abbrev kX_X9_frees : Nat := 97
def pr_X9_minutesTillFree : List ur_E := [(0, .aload_n 0, 1, 0, 0), (1, .getfield 43, 3, 2331, 0), (4, .aload_n 0, 1, 0, 0), (5, .getfield 39, 3, 2327, 0), (8, .invokevirtual 201, 3, 1316, 0), (11, .iconst 0, 1, 0, 0), (12, .istore_n 2, 1, 0, 0), (13, .iload_n 2, 1, 0, 0), (14, .bipush 60, 2, 0, 60), (16, .if_icmp .gt 39, 3, 55, 0), (19, .aload_n 0, 1, 0, 0), (20, .getfield 43, 3, 2331, 0), (23, .aload_n 0, 1, 0, 0), (24, .getfield 19, 3, 2311, 0), (27, .iload_n 1, 1, 0, 0), (28, .invokevirtual 232, 3, 1479, 0), (31, .iconst (-1), 1, 0, (-1)), (32, .if_icmp .ne 5, 3, 37, 0), (35, .iload_n 2, 1, 0, 0), (36, .ireturn, 1, 0, 0), (37, .aload_n 0, 1, 0, 0), (38, .getfield 43, 3, 2331, 0), (41, .aload_n 0, 1, 0, 0), (42, .getfield 19, 3, 2311, 0), (45, .invokevirtual 194, 3, 1861, 0), (48, .pop, 1, 0, 0), (49, .iinc 2 1, 3, 0, 1), (52, .goto (-39), 3, 13, 0), (55, .iconst (-1), 1, 0, (-1)), (56, .ireturn, 1, 0, 0)]
def pg_X9_minutesTillFree : ur_P := (pr_X9_minutesTillFree, fun _ => ([], 0), 3, 0, 9)
abbrev kX_X9_minutesTillFree : Nat := 98
def pr_X9_later : List ur_E := [(0, .aload_n 0, 1, 0, 0), (1, .getfield 19, 3, 2311, 0), (4, .iload_n 1, 1, 0, 0), (5, .invokevirtual 143, 3, 133, 0), (8, .ifCond .eq 13, 3, 21, 0), (11, .iload_n 2, 1, 0, 0), (12, .ifCond .lt 9, 3, 21, 0), (15, .iload_n 2, 1, 0, 0), (16, .bipush 60, 2, 0, 60), (18, .if_icmp .le 5, 3, 23, 0), (21, .iconst (-1), 1, 0, (-1)), (22, .ireturn, 1, 0, 0), (23, .aload_n 0, 1, 0, 0), (24, .getfield 43, 3, 2331, 0), (27, .aload_n 0, 1, 0, 0), (28, .getfield 39, 3, 2327, 0), (31, .invokevirtual 201, 3, 1316, 0), (34, .iconst 0, 1, 0, 0), (35, .istore_n 3, 1, 0, 0), (36, .iload_n 3, 1, 0, 0), (37, .iload_n 2, 1, 0, 0), (38, .if_icmp .ge 21, 3, 59, 0), (41, .aload_n 0, 1, 0, 0), (42, .getfield 43, 3, 2331, 0), (45, .aload_n 0, 1, 0, 0), (46, .getfield 19, 3, 2311, 0), (49, .invokevirtual 194, 3, 1861, 0), (52, .pop, 1, 0, 0), (53, .iinc 3 1, 3, 0, 1), (56, .goto (-20), 3, 36, 0), (59, .aload_n 0, 1, 0, 0), (60, .getfield 43, 3, 2331, 0), (63, .getfield 152, 3, 1283, 0), (66, .iload_n 1, 1, 0, 0), (67, .iaload, 1, 0, 0), (68, .ireturn, 1, 0, 0)]
def pg_X9_later : ur_P := (pr_X9_later, fun _ => ([], 0), 4, 0, 9)
abbrev kX_X9_later : Nat := 99
def pr_X9_out : List ur_E := [(0, .aload_n 0, 1, 0, 0), (1, .getfield 19, 3, 2311, 0), (4, .iload_n 1, 1, 0, 0), (5, .invokevirtual 143, 3, 133, 0), (8, .ifCond .eq 14, 3, 22, 0), (11, .aload_n 0, 1, 0, 0), (12, .getfield 39, 3, 2327, 0), (15, .iload_n 1, 1, 0, 0), (16, .invokevirtual 239, 3, 1349, 0), (19, .ifCond .ne 5, 3, 24, 0), (22, .iconst (-1), 1, 0, (-1)), (23, .ireturn, 1, 0, 0), (24, .aload_n 0, 1, 0, 0), (25, .getfield 43, 3, 2331, 0), (28, .aload_n 0, 1, 0, 0), (29, .getfield 39, 3, 2327, 0), (32, .invokevirtual 201, 3, 1316, 0), (35, .iconst 1, 1, 0, 1), (36, .istore_n 2, 1, 0, 0), (37, .iload_n 2, 1, 0, 0), (38, .bipush 60, 2, 0, 60), (40, .if_icmp .gt 34, 3, 74, 0), (43, .aload_n 0, 1, 0, 0), (44, .getfield 43, 3, 2331, 0), (47, .aload_n 0, 1, 0, 0), (48, .getfield 19, 3, 2311, 0), (51, .invokevirtual 194, 3, 1861, 0), (54, .pop, 1, 0, 0), (55, .aload_n 0, 1, 0, 0), (56, .getfield 43, 3, 2331, 0), (59, .iload_n 1, 1, 0, 0), (60, .invokevirtual 239, 3, 1349, 0), (63, .ifCond .ne 5, 3, 68, 0), (66, .iload_n 2, 1, 0, 0), (67, .ireturn, 1, 0, 0), (68, .iinc 2 1, 3, 0, 1), (71, .goto (-34), 3, 37, 0), (74, .iconst (-1), 1, 0, (-1)), (75, .ireturn, 1, 0, 0)]
def pg_X9_out : ur_P := (pr_X9_out, fun _ => ([], 0), 3, 0, 9)
abbrev kX_X9_out : Nat := 100
def pr_X9_calm : List ur_E := [(0, .aload_n 0, 1, 0, 0), (1, .getfield 43, 3, 2331, 0), (4, .aload_n 0, 1, 0, 0), (5, .getfield 39, 3, 2327, 0), (8, .invokevirtual 201, 3, 1316, 0), (11, .iconst 0, 1, 0, 0), (12, .istore_n 1, 1, 0, 0), (13, .iload_n 1, 1, 0, 0), (14, .bipush 60, 2, 0, 60), (16, .if_icmp .gt 37, 3, 53, 0), (19, .aload_n 0, 1, 0, 0), (20, .getfield 43, 3, 2331, 0), (23, .aload_n 0, 1, 0, 0), (24, .getfield 19, 3, 2311, 0), (27, .invokevirtual 242, 3, 1381, 0), (30, .ifCond .ne 5, 3, 35, 0), (33, .iload_n 1, 1, 0, 0), (34, .ireturn, 1, 0, 0), (35, .aload_n 0, 1, 0, 0), (36, .getfield 43, 3, 2331, 0), (39, .aload_n 0, 1, 0, 0), (40, .getfield 19, 3, 2311, 0), (43, .invokevirtual 194, 3, 1861, 0), (46, .pop, 1, 0, 0), (47, .iinc 1 1, 3, 0, 1), (50, .goto (-37), 3, 13, 0), (53, .iconst (-1), 1, 0, (-1)), (54, .ireturn, 1, 0, 0)]
def pg_X9_calm : ur_P := (pr_X9_calm, fun _ => ([], 0), 2, 0, 9)
abbrev kX_X9_calm : Nat := 101
def pr_X9_may : List ur_E := [(0, .aload_n 0, 1, 0, 0), (1, .getfield 19, 3, 2311, 0), (4, .iload_n 1, 1, 0, 0), (5, .invokevirtual 143, 3, 133, 0), (8, .ifCond .eq 11, 3, 19, 0), (11, .aload_n 0, 1, 0, 0), (12, .iload_n 1, 1, 0, 0), (13, .invokevirtual 245, 3, 3301, 0), (16, .goto 4, 3, 20, 0), (19, .iconst (-1), 1, 0, (-1)), (20, .ireturn, 1, 0, 0)]
def pg_X9_may : ur_P := (pr_X9_may, fun _ => ([], 0), 2, 0, 9)
abbrev kX_X9_may : Nat := 102
def pr_X9_roomsToBeShown : List ur_E := [(0, .iconst 0, 1, 0, 0), (1, .istore_n 2, 1, 0, 0), (2, .iconst 0, 1, 0, 0), (3, .istore_n 3, 1, 0, 0), (4, .iload_n 3, 1, 0, 0), (5, .aload_n 0, 1, 0, 0), (6, .getfield 19, 3, 2311, 0), (9, .getfield 248, 3, 296, 0), (12, .if_icmp .ge 31, 3, 43, 0), (15, .aload_n 0, 1, 0, 0), (16, .getfield 39, 3, 2327, 0), (19, .aload_n 0, 1, 0, 0), (20, .getfield 19, 3, 2311, 0), (23, .iload_n 1, 1, 0, 0), (24, .iload_n 3, 1, 0, 0), (25, .invokevirtual 174, 3, 1641, 0), (28, .ifCond .eq 9, 3, 37, 0), (31, .iload_n 2, 1, 0, 0), (32, .iconst 1, 1, 0, 1), (33, .iload_n 3, 1, 0, 0), (34, .ishl, 1, 0, 0), (35, .ior, 1, 0, 0), (36, .istore_n 2, 1, 0, 0), (37, .iinc 3 1, 3, 0, 1), (40, .goto (-36), 3, 4, 0), (43, .iload_n 2, 1, 0, 0), (44, .ireturn, 1, 0, 0)]
def pg_X9_roomsToBeShown : ur_P := (pr_X9_roomsToBeShown, fun _ => ([], 0), 4, 0, 9)
abbrev kX_X9_roomsToBeShown : Nat := 103
def pr_X9_goes : List ur_E := [(0, .aload_n 0, 1, 0, 0), (1, .getfield 19, 3, 2311, 0), (4, .iload_n 1, 1, 0, 0), (5, .invokevirtual 143, 3, 133, 0), (8, .ifCond .eq 11, 3, 19, 0), (11, .aload_n 0, 1, 0, 0), (12, .iload_n 1, 1, 0, 0), (13, .invokevirtual 251, 3, 3365, 0), (16, .goto 4, 3, 20, 0), (19, .iconst (-1), 1, 0, (-1)), (20, .ireturn, 1, 0, 0)]
def pg_X9_goes : ur_P := (pr_X9_goes, fun _ => ([], 0), 2, 0, 9)
abbrev kX_X9_goes : Nat := 104
def pr_X9_roomsToWalkTo : List ur_E := [(0, .iconst 0, 1, 0, 0), (1, .istore_n 2, 1, 0, 0), (2, .iconst 0, 1, 0, 0), (3, .istore_n 3, 1, 0, 0), (4, .iload_n 3, 1, 0, 0), (5, .aload_n 0, 1, 0, 0), (6, .getfield 19, 3, 2311, 0), (9, .getfield 248, 3, 296, 0), (12, .if_icmp .ge 31, 3, 43, 0), (15, .aload_n 0, 1, 0, 0), (16, .getfield 39, 3, 2327, 0), (19, .aload_n 0, 1, 0, 0), (20, .getfield 19, 3, 2311, 0), (23, .iload_n 1, 1, 0, 0), (24, .iload_n 3, 1, 0, 0), (25, .invokevirtual 164, 3, 1545, 0), (28, .ifCond .eq 9, 3, 37, 0), (31, .iload_n 2, 1, 0, 0), (32, .iconst 1, 1, 0, 1), (33, .iload_n 3, 1, 0, 0), (34, .ishl, 1, 0, 0), (35, .ior, 1, 0, 0), (36, .istore_n 2, 1, 0, 0), (37, .iinc 3 1, 3, 0, 1), (40, .goto (-36), 3, 4, 0), (43, .iload_n 2, 1, 0, 0), (44, .ireturn, 1, 0, 0)]
def pg_X9_roomsToWalkTo : ur_P := (pr_X9_roomsToWalkTo, fun _ => ([], 0), 4, 0, 9)
abbrev kX_X9_roomsToWalkTo : Nat := 105
def pr_X9_stay : List ur_E := [(0, .aload_n 0, 1, 0, 0), (1, .getfield 19, 3, 2311, 0), (4, .iload_n 1, 1, 0, 0), (5, .invokevirtual 143, 3, 133, 0), (8, .ifCond .eq 14, 3, 22, 0), (11, .aload_n 0, 1, 0, 0), (12, .getfield 19, 3, 2311, 0), (15, .iload_n 2, 1, 0, 0), (16, .invokevirtual 229, 3, 165, 0), (19, .ifCond .ne 5, 3, 24, 0), (22, .iconst (-1), 1, 0, (-1)), (23, .ireturn, 1, 0, 0), (24, .aload_n 0, 1, 0, 0), (25, .getfield 39, 3, 2327, 0), (28, .aload_n 0, 1, 0, 0), (29, .getfield 19, 3, 2311, 0), (32, .iload_n 1, 1, 0, 0), (33, .iload_n 2, 1, 0, 0), (34, .aload_n 0, 1, 0, 0), (35, .getfield 39, 3, 2327, 0), (38, .getfield 223, 3, 1308, 0), (41, .invokevirtual 254, 3, 1707, 0), (44, .ireturn, 1, 0, 0)]
def pg_X9_stay : ur_P := (pr_X9_stay, fun _ => ([], 0), 3, 0, 9)
abbrev kX_X9_stay : Nat := 106
def pr_X9_openRooms : List ur_E := [(0, .aload_n 0, 1, 0, 0), (1, .getfield 19, 3, 2311, 0), (4, .invokevirtual 258, 3, 195, 0), (7, .aload_n 0, 1, 0, 0), (8, .getfield 39, 3, 2327, 0), (11, .getfield 136, 3, 1304, 0), (14, .iconst (-1), 1, 0, (-1)), (15, .ixor, 1, 0, 0), (16, .iand, 1, 0, 0), (17, .ireturn, 1, 0, 0)]
def pg_X9_openRooms : ur_P := (pr_X9_openRooms, fun _ => ([], 0), 1, 0, 9)
abbrev kX_X9_openRooms : Nat := 107
def pr_X9_isOpen : List ur_E := [(0, .aload_n 0, 1, 0, 0), (1, .getfield 19, 3, 2311, 0), (4, .iload_n 1, 1, 0, 0), (5, .invokevirtual 119, 3, 101, 0), (8, .ifCond .eq 19, 3, 27, 0), (11, .aload_n 0, 1, 0, 0), (12, .invokevirtual 262, 3, 3427, 0), (15, .iload_n 1, 1, 0, 0), (16, .invokestatic 126, 3, 4357, 0), (19, .iconst 1, 1, 0, 1), (20, .if_icmp .ne 7, 3, 27, 0), (23, .iconst 1, 1, 0, 1), (24, .goto 4, 3, 28, 0), (27, .iconst 0, 1, 0, 0), (28, .ireturn, 1, 0, 0)]
def pg_X9_isOpen : ur_P := (pr_X9_isOpen, fun _ => ([], 0), 2, 1, 9)
abbrev kX_X9_isOpen : Nat := 108
def pr_X9_reach : List ur_E := [(0, .aload_n 0, 1, 0, 0), (1, .iload_n 1, 1, 0, 0), (2, .invokevirtual 265, 3, 3461, 0), (5, .ifCond .eq 20, 3, 25, 0), (8, .aload_n 0, 1, 0, 0), (9, .getfield 19, 3, 2311, 0), (12, .iconst 1, 1, 0, 1), (13, .iload_n 1, 1, 0, 0), (14, .ishl, 1, 0, 0), (15, .aload_n 0, 1, 0, 0), (16, .invokevirtual 262, 3, 3427, 0), (19, .invokevirtual 268, 3, 263, 0), (22, .goto 4, 3, 26, 0), (25, .iconst (-1), 1, 0, (-1)), (26, .ireturn, 1, 0, 0)]
def pg_X9_reach : ur_P := (pr_X9_reach, fun _ => ([], 0), 2, 0, 9)
abbrev kX_X9_reach : Nat := 109
def pr_X9_far : List ur_E := [(0, .aload_n 0, 1, 0, 0), (1, .iload_n 1, 1, 0, 0), (2, .invokevirtual 265, 3, 3461, 0), (5, .ifCond .eq 11, 3, 16, 0), (8, .aload_n 0, 1, 0, 0), (9, .iload_n 2, 1, 0, 0), (10, .invokevirtual 265, 3, 3461, 0), (13, .ifCond .ne 5, 3, 18, 0), (16, .iconst (-1), 1, 0, (-1)), (17, .ireturn, 1, 0, 0), (18, .aload_n 0, 1, 0, 0), (19, .invokevirtual 262, 3, 3427, 0), (22, .istore_n 3, 1, 0, 0), (23, .iconst 1, 1, 0, 1), (24, .iload_n 1, 1, 0, 0), (25, .ishl, 1, 0, 0), (26, .istore 4, 2, 0, 0), (28, .iconst 0, 1, 0, 0), (29, .istore 5, 2, 0, 0), (31, .iload 5, 2, 0, 0), (33, .bipush 8, 2, 0, 8), (35, .if_icmp .ge 38, 3, 73, 0), (38, .iload 4, 2, 0, 0), (40, .iload_n 2, 1, 0, 0), (41, .invokestatic 126, 3, 4357, 0), (44, .iconst 1, 1, 0, 1), (45, .if_icmp .ne 6, 3, 51, 0), (48, .iload 5, 2, 0, 0), (50, .ireturn, 1, 0, 0), (51, .iload 4, 2, 0, 0), (53, .aload_n 0, 1, 0, 0), (54, .getfield 19, 3, 2311, 0), (57, .iload 4, 2, 0, 0), (59, .invokevirtual 271, 3, 229, 0), (62, .iload_n 3, 1, 0, 0), (63, .iand, 1, 0, 0), (64, .ior, 1, 0, 0), (65, .istore 4, 2, 0, 0), (67, .iinc 5 1, 3, 0, 1), (70, .goto (-39), 3, 31, 0), (73, .iconst (-1), 1, 0, (-1)), (74, .ireturn, 1, 0, 0)]
def pg_X9_far : ur_P := (pr_X9_far, fun _ => ([], 0), 6, 0, 9)
abbrev kX_X9_far : Nat := 110
def pr_X9_halls : List ur_E := [(0, .aload_n 0, 1, 0, 0), (1, .invokevirtual 262, 3, 3427, 0), (4, .istore_n 1, 1, 0, 0), (5, .iconst 0, 1, 0, 0), (6, .istore_n 2, 1, 0, 0), (7, .iconst 0, 1, 0, 0), (8, .istore_n 3, 1, 0, 0), (9, .iload_n 3, 1, 0, 0), (10, .aload_n 0, 1, 0, 0), (11, .getfield 19, 3, 2311, 0), (14, .getfield 248, 3, 296, 0), (17, .if_icmp .ge 37, 3, 54, 0), (20, .iload_n 1, 1, 0, 0), (21, .iload_n 3, 1, 0, 0), (22, .invokestatic 126, 3, 4357, 0), (25, .iconst 1, 1, 0, 1), (26, .if_icmp .ne 22, 3, 48, 0), (29, .iload_n 1, 1, 0, 0), (30, .aload_n 0, 1, 0, 0), (31, .getfield 19, 3, 2311, 0), (34, .iconst 1, 1, 0, 1), (35, .iload_n 3, 1, 0, 0), (36, .ishl, 1, 0, 0), (37, .iload_n 1, 1, 0, 0), (38, .invokevirtual 268, 3, 263, 0), (41, .iconst (-1), 1, 0, (-1)), (42, .ixor, 1, 0, 0), (43, .iand, 1, 0, 0), (44, .istore_n 1, 1, 0, 0), (45, .iinc 2 1, 3, 0, 1), (48, .iinc 3 1, 3, 0, 1), (51, .goto (-42), 3, 9, 0), (54, .iload_n 2, 1, 0, 0), (55, .ireturn, 1, 0, 0)]
def pg_X9_halls : ur_P := (pr_X9_halls, fun _ => ([], 0), 4, 0, 9)
abbrev kX_X9_halls : Nat := 111
def pr_X9_hinges : List ur_E := [(0, .aload_n 0, 1, 0, 0), (1, .invokevirtual 262, 3, 3427, 0), (4, .istore_n 1, 1, 0, 0), (5, .iconst 0, 1, 0, 0), (6, .istore_n 2, 1, 0, 0), (7, .iconst 0, 1, 0, 0), (8, .istore_n 3, 1, 0, 0), (9, .iload_n 3, 1, 0, 0), (10, .aload_n 0, 1, 0, 0), (11, .getfield 19, 3, 2311, 0), (14, .getfield 248, 3, 296, 0), (17, .if_icmp .ge 33, 3, 50, 0), (20, .iload_n 1, 1, 0, 0), (21, .iload_n 3, 1, 0, 0), (22, .invokestatic 126, 3, 4357, 0), (25, .iconst 1, 1, 0, 1), (26, .if_icmp .ne 18, 3, 44, 0), (29, .aload_n 0, 1, 0, 0), (30, .iload_n 3, 1, 0, 0), (31, .iload_n 1, 1, 0, 0), (32, .invokevirtual 274, 3, 3623, 0), (35, .ifCond .eq 9, 3, 44, 0), (38, .iload_n 2, 1, 0, 0), (39, .iconst 1, 1, 0, 1), (40, .iload_n 3, 1, 0, 0), (41, .ishl, 1, 0, 0), (42, .ior, 1, 0, 0), (43, .istore_n 2, 1, 0, 0), (44, .iinc 3 1, 3, 0, 1), (47, .goto (-38), 3, 9, 0), (50, .iload_n 2, 1, 0, 0), (51, .ireturn, 1, 0, 0)]
def pg_X9_hinges : ur_P := (pr_X9_hinges, fun _ => ([], 0), 4, 0, 9)
abbrev kX_X9_hinges : Nat := 112
def pr_X9_cuts : List ur_E := [(0, .aload_n 0, 1, 0, 0), (1, .getfield 19, 3, 2311, 0), (4, .iconst 1, 1, 0, 1), (5, .iload_n 1, 1, 0, 0), (6, .ishl, 1, 0, 0), (7, .iload_n 2, 1, 0, 0), (8, .invokevirtual 268, 3, 263, 0), (11, .iconst 1, 1, 0, 1), (12, .iload_n 1, 1, 0, 0), (13, .ishl, 1, 0, 0), (14, .iconst (-1), 1, 0, (-1)), (15, .ixor, 1, 0, 0), (16, .iand, 1, 0, 0), (17, .istore_n 3, 1, 0, 0), (18, .aload_n 0, 1, 0, 0), (19, .getfield 19, 3, 2311, 0), (22, .iload_n 3, 1, 0, 0), (23, .invokestatic 278, 3, 8035, 0), (26, .iload_n 3, 1, 0, 0), (27, .invokevirtual 268, 3, 263, 0), (30, .iload_n 3, 1, 0, 0), (31, .if_icmp .eq 7, 3, 38, 0), (34, .iconst 1, 1, 0, 1), (35, .goto 4, 3, 39, 0), (38, .iconst 0, 1, 0, 0), (39, .ireturn, 1, 0, 0)]
def pg_X9_cuts : ur_P := (pr_X9_cuts, fun _ => ([], 0), 4, 1, 9)
abbrev kX_X9_cuts : Nat := 113
def pr_X9_lines : List ur_E := [(0, .aload_n 0, 1, 0, 0), (1, .iload_n 1, 1, 0, 0), (2, .invokevirtual 265, 3, 3461, 0), (5, .ifCond .ne 5, 3, 10, 0), (8, .iconst (-1), 1, 0, (-1)), (9, .ireturn, 1, 0, 0), (10, .aload_n 0, 1, 0, 0), (11, .getfield 19, 3, 2311, 0), (14, .iconst 1, 1, 0, 1), (15, .iload_n 1, 1, 0, 0), (16, .ishl, 1, 0, 0), (17, .aload_n 0, 1, 0, 0), (18, .invokevirtual 262, 3, 3427, 0), (21, .invokevirtual 268, 3, 263, 0), (24, .istore_n 2, 1, 0, 0), (25, .iload_n 2, 1, 0, 0), (26, .aload_n 0, 1, 0, 0), (27, .getfield 19, 3, 2311, 0), (30, .iload_n 2, 1, 0, 0), (31, .invokevirtual 271, 3, 229, 0), (34, .aload_n 0, 1, 0, 0), (35, .getfield 19, 3, 2311, 0), (38, .getfield 123, 3, 292, 0), (41, .iand, 1, 0, 0), (42, .ior, 1, 0, 0), (43, .invokestatic 283, 3, 8099, 0), (46, .ireturn, 1, 0, 0)]
def pg_X9_lines : ur_P := (pr_X9_lines, fun _ => ([], 0), 3, 0, 9)
abbrev kX_X9_lines : Nat := 114
def pr_X9_fire : List ur_E := [(0, .aload_n 0, 1, 0, 0), (1, .getfield 39, 3, 2327, 0), (4, .aload_n 0, 1, 0, 0), (5, .getfield 19, 3, 2311, 0), (8, .iload_n 1, 1, 0, 0), (9, .invokevirtual 188, 3, 1799, 0), (12, .istore_n 3, 1, 0, 0), (13, .iload_n 3, 1, 0, 0), (14, .ifCond .eq 12, 3, 26, 0), (17, .iload_n 2, 1, 0, 0), (18, .ifCond .lt 8, 3, 26, 0), (21, .iload_n 2, 1, 0, 0), (22, .iconst 1, 1, 0, 1), (23, .if_icmp .le 5, 3, 28, 0), (26, .iconst (-1), 1, 0, (-1)), (27, .ireturn, 1, 0, 0), (28, .iload_n 2, 1, 0, 0), (29, .ifCond .ne 7, 3, 36, 0), (32, .iload_n 3, 1, 0, 0), (33, .goto 19, 3, 52, 0), (36, .aload_n 0, 1, 0, 0), (37, .getfield 19, 3, 2311, 0), (40, .iload_n 3, 1, 0, 0), (41, .invokevirtual 271, 3, 229, 0), (44, .aload_n 0, 1, 0, 0), (45, .getfield 19, 3, 2311, 0), (48, .getfield 123, 3, 292, 0), (51, .iand, 1, 0, 0), (52, .invokestatic 283, 3, 8099, 0), (55, .ireturn, 1, 0, 0)]
def pg_X9_fire : ur_P := (pr_X9_fire, fun _ => ([], 0), 4, 0, 9)
abbrev kX_X9_fire : Nat := 115
def pr_X9_queue : List ur_E := [(0, .aload_n 0, 1, 0, 0), (1, .iload_n 1, 1, 0, 0), (2, .invokevirtual 286, 3, 3109, 0), (5, .istore_n 3, 1, 0, 0), (6, .iload_n 3, 1, 0, 0), (7, .iconst (-1), 1, 0, (-1)), (8, .if_icmp .ne 6, 3, 14, 0), (11, .bipush (-2), 2, 0, (-2)), (13, .ireturn, 1, 0, 0), (14, .aload_n 0, 1, 0, 0), (15, .getfield 66, 3, 2355, 0), (18, .aload_n 0, 1, 0, 0), (19, .getfield 19, 3, 2311, 0), (22, .aload_n 0, 1, 0, 0), (23, .getfield 39, 3, 2327, 0), (26, .iload_n 1, 1, 0, 0), (27, .iload_n 3, 1, 0, 0), (28, .invokevirtual 289, 3, 1066, 0), (31, .iload_n 2, 1, 0, 0), (32, .iconst (-1), 1, 0, (-1)), (33, .if_icmp .ne 11, 3, 44, 0), (36, .aload_n 0, 1, 0, 0), (37, .getfield 66, 3, 2355, 0), (40, .getfield 293, 3, 784, 0), (43, .ireturn, 1, 0, 0), (44, .iload_n 2, 1, 0, 0), (45, .ifCond .lt 26, 3, 71, 0), (48, .iload_n 2, 1, 0, 0), (49, .aload_n 0, 1, 0, 0), (50, .getfield 66, 3, 2355, 0), (53, .getfield 296, 3, 780, 0), (56, .if_icmp .ge 15, 3, 71, 0), (59, .aload_n 0, 1, 0, 0), (60, .getfield 66, 3, 2355, 0), (63, .getfield 297, 3, 775, 0), (66, .iload_n 2, 1, 0, 0), (67, .iaload, 1, 0, 0), (68, .goto 5, 3, 73, 0), (71, .bipush (-2), 2, 0, (-2)), (73, .ireturn, 1, 0, 0)]
def pg_X9_queue : ur_P := (pr_X9_queue, fun _ => ([], 0), 4, 0, 9)
abbrev kX_X9_queue : Nat := 116
def pr_X9_longest : List ur_E := [(0, .iconst (-1), 1, 0, (-1)), (1, .istore_n 1, 1, 0, 0), (2, .iconst 0, 1, 0, 0), (3, .istore_n 2, 1, 0, 0), (4, .iconst 0, 1, 0, 0), (5, .istore_n 3, 1, 0, 0), (6, .iload_n 3, 1, 0, 0), (7, .aload_n 0, 1, 0, 0), (8, .getfield 19, 3, 2311, 0), (11, .getfield 300, 3, 304, 0), (14, .if_icmp .ge 34, 3, 48, 0), (17, .aload_n 0, 1, 0, 0), (18, .getfield 39, 3, 2327, 0), (21, .getfield 303, 3, 1299, 0), (24, .iload_n 3, 1, 0, 0), (25, .iaload, 1, 0, 0), (26, .iload_n 2, 1, 0, 0), (27, .if_icmp .le 15, 3, 42, 0), (30, .aload_n 0, 1, 0, 0), (31, .getfield 39, 3, 2327, 0), (34, .getfield 303, 3, 1299, 0), (37, .iload_n 3, 1, 0, 0), (38, .iaload, 1, 0, 0), (39, .istore_n 2, 1, 0, 0), (40, .iload_n 3, 1, 0, 0), (41, .istore_n 1, 1, 0, 0), (42, .iinc 3 1, 3, 0, 1), (45, .goto (-39), 3, 6, 0), (48, .iload_n 1, 1, 0, 0), (49, .ireturn, 1, 0, 0)]
def pg_X9_longest : ur_P := (pr_X9_longest, fun _ => ([], 0), 4, 0, 9)
abbrev kX_X9_longest : Nat := 117
def pr_X9_as : List ur_E := [(0, .iconst 0, 1, 0, 0), (1, .istore_n 1, 1, 0, 0), (2, .iconst 0, 1, 0, 0), (3, .istore_n 2, 1, 0, 0), (4, .iload_n 2, 1, 0, 0), (5, .aload_n 0, 1, 0, 0), (6, .getfield 19, 3, 2311, 0), (9, .getfield 300, 3, 304, 0), (12, .if_icmp .ge 58, 3, 70, 0), (15, .iconst 0, 1, 0, 0), (16, .istore_n 3, 1, 0, 0), (17, .iload_n 3, 1, 0, 0), (18, .iload_n 2, 1, 0, 0), (19, .if_icmp .ge 45, 3, 64, 0), (22, .aload_n 0, 1, 0, 0), (23, .getfield 39, 3, 2327, 0), (26, .getfield 303, 3, 1299, 0), (29, .iload_n 2, 1, 0, 0), (30, .iaload, 1, 0, 0), (31, .ifCond .le 27, 3, 58, 0), (34, .aload_n 0, 1, 0, 0), (35, .getfield 39, 3, 2327, 0), (38, .getfield 303, 3, 1299, 0), (41, .iload_n 2, 1, 0, 0), (42, .iaload, 1, 0, 0), (43, .aload_n 0, 1, 0, 0), (44, .getfield 39, 3, 2327, 0), (47, .getfield 303, 3, 1299, 0), (50, .iload_n 3, 1, 0, 0), (51, .iaload, 1, 0, 0), (52, .if_icmp .ne 6, 3, 58, 0), (55, .iinc 1 1, 3, 0, 1), (58, .iinc 3 1, 3, 0, 1), (61, .goto (-44), 3, 17, 0), (64, .iinc 2 1, 3, 0, 1), (67, .goto (-63), 3, 4, 0), (70, .iload_n 1, 1, 0, 0), (71, .ireturn, 1, 0, 0)]
def pg_X9_as : ur_P := (pr_X9_as, fun _ => ([], 0), 4, 0, 9)
abbrev kX_X9_as : Nat := 118
def pr_X9_been : List ur_E := [(0, .aload_n 0, 1, 0, 0), (1, .getfield 19, 3, 2311, 0), (4, .iload_n 1, 1, 0, 0), (5, .invokevirtual 143, 3, 133, 0), (8, .ifCond .eq 15, 3, 23, 0), (11, .aload_n 0, 1, 0, 0), (12, .getfield 39, 3, 2327, 0), (15, .getfield 303, 3, 1299, 0), (18, .iload_n 1, 1, 0, 0), (19, .iaload, 1, 0, 0), (20, .goto 4, 3, 24, 0), (23, .iconst (-1), 1, 0, (-1)), (24, .ireturn, 1, 0, 0)]
def pg_X9_been : ur_P := (pr_X9_been, fun _ => ([], 0), 2, 0, 9)
abbrev kX_X9_been : Nat := 119
def pr_X9_alike : List ur_E := [(0, .iconst 0, 1, 0, 0), (1, .istore_n 1, 1, 0, 0), (2, .iload_n 1, 1, 0, 0), (3, .aload_n 0, 1, 0, 0), (4, .getfield 19, 3, 2311, 0), (7, .getfield 300, 3, 304, 0), (10, .if_icmp .ge 36, 3, 46, 0), (13, .aload_n 0, 1, 0, 0), (14, .iload_n 1, 1, 0, 0), (15, .aload_n 0, 1, 0, 0), (16, .getfield 19, 3, 2311, 0), (19, .getfield 123, 3, 292, 0), (22, .invokevirtual 306, 3, 3879, 0), (25, .aload_n 0, 1, 0, 0), (26, .getfield 19, 3, 2311, 0), (29, .getfield 123, 3, 292, 0), (32, .invokestatic 283, 3, 8099, 0), (35, .if_icmp .ge 5, 3, 40, 0), (38, .iconst 0, 1, 0, 0), (39, .ireturn, 1, 0, 0), (40, .iinc 1 1, 3, 0, 1), (43, .goto (-41), 3, 2, 0), (46, .iconst 1, 1, 0, 1), (47, .ireturn, 1, 0, 0)]
def pg_X9_alike : ur_P := (pr_X9_alike, fun _ => ([], 0), 2, 1, 9)
abbrev kX_X9_alike : Nat := 120
def pr_X9_mostKeptAlike : List ur_E := [(0, .aload_n 0, 1, 0, 0), (1, .getfield 77, 3, 2363, 0), (4, .iconst 0, 1, 0, 0), (5, .invokestatic 309, 3, 8484, 0), (8, .iconst 0, 1, 0, 0), (9, .istore_n 3, 1, 0, 0), (10, .iconst 0, 1, 0, 0), (11, .istore 4, 2, 0, 0), (13, .iload 4, 2, 0, 0), (15, .aload_n 0, 1, 0, 0), (16, .getfield 19, 3, 2311, 0), (19, .getfield 248, 3, 296, 0), (22, .if_icmp .ge 65, 3, 87, 0), (25, .iload_n 2, 1, 0, 0), (26, .iload 4, 2, 0, 0), (28, .invokestatic 126, 3, 4357, 0), (31, .iconst 1, 1, 0, 1), (32, .if_icmp .ne 49, 3, 81, 0), (35, .aload_n 0, 1, 0, 0), (36, .getfield 39, 3, 2327, 0), (39, .aload_n 0, 1, 0, 0), (40, .getfield 19, 3, 2311, 0), (43, .iload_n 1, 1, 0, 0), (44, .iload 4, 2, 0, 0), (46, .aload_n 0, 1, 0, 0), (47, .getfield 39, 3, 2327, 0), (50, .getfield 223, 3, 1308, 0), (53, .invokevirtual 254, 3, 1707, 0), (56, .istore 5, 2, 0, 0), (58, .aload_n 0, 1, 0, 0), (59, .getfield 77, 3, 2363, 0), (62, .iload 5, 2, 0, 0), (64, .dup2, 1, 0, 0), (65, .iaload, 1, 0, 0), (66, .iconst 1, 1, 0, 1), (67, .iadd, 1, 0, 0), (68, .iastore, 1, 0, 0), (69, .iload_n 3, 1, 0, 0), (70, .aload_n 0, 1, 0, 0), (71, .getfield 77, 3, 2363, 0), (74, .iload 5, 2, 0, 0), (76, .iaload, 1, 0, 0), (77, .invokestatic 315, 3, 9002, 0), (80, .istore_n 3, 1, 0, 0), (81, .iinc 4 1, 3, 0, 1), (84, .goto (-71), 3, 13, 0), (87, .iload_n 3, 1, 0, 0), (88, .ireturn, 1, 0, 0)]
def pg_X9_mostKeptAlike : ur_P := (pr_X9_mostKeptAlike, fun _ => ([], 0), 6, 0, 9)
abbrev kX_X9_mostKeptAlike : Nat := 121
def pr_X9_roomsKeeping : List ur_E := [(0, .iconst 0, 1, 0, 0), (1, .istore_n 3, 1, 0, 0), (2, .iconst 0, 1, 0, 0), (3, .istore 4, 2, 0, 0), (5, .iload 4, 2, 0, 0), (7, .aload_n 0, 1, 0, 0), (8, .getfield 19, 3, 2311, 0), (11, .getfield 248, 3, 296, 0), (14, .if_icmp .ge 57, 3, 71, 0), (17, .aload_n 0, 1, 0, 0), (18, .getfield 19, 3, 2311, 0), (21, .getfield 123, 3, 292, 0), (24, .iload 4, 2, 0, 0), (26, .invokestatic 126, 3, 4357, 0), (29, .iconst 1, 1, 0, 1), (30, .if_icmp .ne 35, 3, 65, 0), (33, .aload_n 0, 1, 0, 0), (34, .getfield 39, 3, 2327, 0), (37, .aload_n 0, 1, 0, 0), (38, .getfield 19, 3, 2311, 0), (41, .iload_n 1, 1, 0, 0), (42, .iload 4, 2, 0, 0), (44, .aload_n 0, 1, 0, 0), (45, .getfield 39, 3, 2327, 0), (48, .getfield 223, 3, 1308, 0), (51, .invokevirtual 254, 3, 1707, 0), (54, .iload_n 2, 1, 0, 0), (55, .if_icmp .ne 10, 3, 65, 0), (58, .iload_n 3, 1, 0, 0), (59, .iconst 1, 1, 0, 1), (60, .iload 4, 2, 0, 0), (62, .ishl, 1, 0, 0), (63, .ior, 1, 0, 0), (64, .istore_n 3, 1, 0, 0), (65, .iinc 4 1, 3, 0, 1), (68, .goto (-63), 3, 5, 0), (71, .iload_n 3, 1, 0, 0), (72, .ireturn, 1, 0, 0)]
def pg_X9_roomsKeeping : ur_P := (pr_X9_roomsKeeping, fun _ => ([], 0), 5, 0, 9)
abbrev kX_X9_roomsKeeping : Nat := 122
def pr_X9_widows : List ur_E := [(0, .iconst 0, 1, 0, 0), (1, .istore_n 1, 1, 0, 0), (2, .iconst 0, 1, 0, 0), (3, .istore_n 2, 1, 0, 0), (4, .iload_n 2, 1, 0, 0), (5, .aload_n 0, 1, 0, 0), (6, .getfield 19, 3, 2311, 0), (9, .getfield 300, 3, 304, 0), (12, .if_icmp .ge 40, 3, 52, 0), (15, .aload_n 0, 1, 0, 0), (16, .getfield 39, 3, 2327, 0), (19, .iload_n 2, 1, 0, 0), (20, .invokevirtual 239, 3, 1349, 0), (23, .ifCond .ne 23, 3, 46, 0), (26, .aload_n 0, 1, 0, 0), (27, .iload_n 2, 1, 0, 0), (28, .invokevirtual 251, 3, 3365, 0), (31, .aload_n 0, 1, 0, 0), (32, .iload_n 2, 1, 0, 0), (33, .invokevirtual 245, 3, 3301, 0), (36, .ior, 1, 0, 0), (37, .ifCond .ne 9, 3, 46, 0), (40, .iload_n 1, 1, 0, 0), (41, .iconst 1, 1, 0, 1), (42, .iload_n 2, 1, 0, 0), (43, .ishl, 1, 0, 0), (44, .ior, 1, 0, 0), (45, .istore_n 1, 1, 0, 0), (46, .iinc 2 1, 3, 0, 1), (49, .goto (-45), 3, 4, 0), (52, .iload_n 1, 1, 0, 0), (53, .ireturn, 1, 0, 0)]
def pg_X9_widows : ur_P := (pr_X9_widows, fun _ => ([], 0), 3, 0, 9)
abbrev kX_X9_widows : Nat := 123
def pr_X9_see : List ur_E := [(0, .aload_n 0, 1, 0, 0), (1, .getfield 19, 3, 2311, 0), (4, .iload_n 1, 1, 0, 0), (5, .invokevirtual 143, 3, 133, 0), (8, .ifCond .eq 14, 3, 22, 0), (11, .iload_n 2, 1, 0, 0), (12, .iconst 1, 1, 0, 1), (13, .if_icmp .lt 9, 3, 22, 0), (16, .iload_n 2, 1, 0, 0), (17, .bipush 30, 2, 0, 30), (19, .if_icmp .le 5, 3, 24, 0), (22, .iconst 0, 1, 0, 0), (23, .ireturn, 1, 0, 0), (24, .aload_n 0, 1, 0, 0), (25, .getfield 49, 3, 2335, 0), (28, .iload_n 1, 1, 0, 0), (29, .iload_n 2, 1, 0, 0), (30, .iload_n 3, 1, 0, 0), (31, .invokevirtual 318, 3, 2217, 0), (34, .ireturn, 1, 0, 0)]
def pg_X9_see : ur_P := (pr_X9_see, fun _ => ([], 0), 4, 1, 9)
abbrev kX_X9_see : Nat := 124
def pr_X9_which : List ur_E := [(0, .aload_n 0, 1, 0, 0), (1, .getfield 19, 3, 2311, 0), (4, .getfield 123, 3, 292, 0), (7, .istore_n 1, 1, 0, 0), (8, .iconst 0, 1, 0, 0), (9, .istore_n 2, 1, 0, 0), (10, .iload_n 2, 1, 0, 0), (11, .aload_n 0, 1, 0, 0), (12, .getfield 49, 3, 2335, 0), (15, .getfield 108, 3, 1804, 0), (18, .if_icmp .ge 57, 3, 75, 0), (21, .aload_n 0, 1, 0, 0), (22, .aload_n 0, 1, 0, 0), (23, .getfield 49, 3, 2335, 0), (26, .getfield 321, 3, 1795, 0), (29, .iload_n 2, 1, 0, 0), (30, .iaload, 1, 0, 0), (31, .aload_n 0, 1, 0, 0), (32, .getfield 49, 3, 2335, 0), (35, .getfield 322, 3, 1799, 0), (38, .iload_n 2, 1, 0, 0), (39, .iaload, 1, 0, 0), (40, .invokevirtual 325, 3, 3911, 0), (43, .istore_n 3, 1, 0, 0), (44, .iload_n 1, 1, 0, 0), (45, .aload_n 0, 1, 0, 0), (46, .getfield 49, 3, 2335, 0), (49, .getfield 328, 3, 1800, 0), (52, .iload_n 2, 1, 0, 0), (53, .invokestatic 126, 3, 4357, 0), (56, .iconst 1, 1, 0, 1), (57, .if_icmp .ne 7, 3, 64, 0), (60, .iload_n 3, 1, 0, 0), (61, .goto 6, 3, 67, 0), (64, .iload_n 3, 1, 0, 0), (65, .iconst (-1), 1, 0, (-1)), (66, .ixor, 1, 0, 0), (67, .iand, 1, 0, 0), (68, .istore_n 1, 1, 0, 0), (69, .iinc 2 1, 3, 0, 1), (72, .goto (-62), 3, 10, 0), (75, .iload_n 1, 1, 0, 0), (76, .ireturn, 1, 0, 0)]
def pg_X9_which : ur_P := (pr_X9_which, fun _ => ([], 0), 4, 0, 9)
abbrev kX_X9_which : Nat := 125
def pr_X9_ask : List ur_E := [(0, .aload_n 0, 1, 0, 0), (1, .invokevirtual 331, 3, 4003, 0), (4, .istore_n 1, 1, 0, 0), (5, .iload_n 1, 1, 0, 0), (6, .invokestatic 283, 3, 8099, 0), (9, .istore_n 2, 1, 0, 0), (10, .iconst (-1), 1, 0, (-1)), (11, .istore_n 3, 1, 0, 0), (12, .iconst 0, 1, 0, 0), (13, .istore 4, 2, 0, 0), (15, .iload 4, 2, 0, 0), (17, .aload_n 0, 1, 0, 0), (18, .getfield 19, 3, 2311, 0), (21, .getfield 300, 3, 304, 0), (24, .if_icmp .ge 30, 3, 54, 0), (27, .aload_n 0, 1, 0, 0), (28, .iload 4, 2, 0, 0), (30, .iload_n 1, 1, 0, 0), (31, .invokevirtual 306, 3, 3879, 0), (34, .istore 5, 2, 0, 0), (36, .iload 5, 2, 0, 0), (38, .iload_n 2, 1, 0, 0), (39, .if_icmp .ge 9, 3, 48, 0), (42, .iload 5, 2, 0, 0), (44, .istore_n 2, 1, 0, 0), (45, .iload 4, 2, 0, 0), (47, .istore_n 3, 1, 0, 0), (48, .iinc 4 1, 3, 0, 1), (51, .goto (-36), 3, 15, 0), (54, .iload_n 3, 1, 0, 0), (55, .ireturn, 1, 0, 0)]
def pg_X9_ask : ur_P := (pr_X9_ask, fun _ => ([], 0), 6, 0, 9)
abbrev kX_X9_ask : Nat := 126
def pr_X9_chance : List ur_E := [(0, .aload_n 0, 1, 0, 0), (1, .getfield 19, 3, 2311, 0), (4, .iload_n 1, 1, 0, 0), (5, .invokevirtual 143, 3, 133, 0), (8, .ifCond .eq 14, 3, 22, 0), (11, .aload_n 0, 1, 0, 0), (12, .getfield 19, 3, 2311, 0), (15, .iload_n 2, 1, 0, 0), (16, .invokevirtual 229, 3, 165, 0), (19, .ifCond .ne 5, 3, 24, 0), (22, .iconst (-1), 1, 0, (-1)), (23, .ireturn, 1, 0, 0), (24, .iload_n 3, 1, 0, 0), (25, .iconst 1, 1, 0, 1), (26, .if_icmp .lt 21, 3, 47, 0), (29, .iload_n 3, 1, 0, 0), (30, .bipush 6, 2, 0, 6), (32, .if_icmp .gt 15, 3, 47, 0), (35, .iload 4, 2, 0, 0), (37, .ifCond .lt 10, 3, 47, 0), (40, .iload 4, 2, 0, 0), (42, .bipush 10, 2, 0, 10), (44, .if_icmp .le 5, 3, 49, 0), (47, .iconst (-1), 1, 0, (-1)), (48, .ireturn, 1, 0, 0), (49, .aload_n 0, 1, 0, 0), (50, .getfield 43, 3, 2331, 0), (53, .aload_n 0, 1, 0, 0), (54, .getfield 39, 3, 2327, 0), (57, .invokevirtual 201, 3, 1316, 0), (60, .ldc_w 334, 3, 0, 1000000), (63, .istore 5, 2, 0, 0), (65, .iconst 0, 1, 0, 0), (66, .istore 6, 2, 0, 0), (68, .iload 6, 2, 0, 0), (70, .iload_n 3, 1, 0, 0), (71, .if_icmp .ge 50, 3, 121, 0), (74, .aload_n 0, 1, 0, 0), (75, .getfield 43, 3, 2331, 0), (78, .aload_n 0, 1, 0, 0), (79, .getfield 19, 3, 2311, 0), (82, .iload_n 1, 1, 0, 0), (83, .iload_n 2, 1, 0, 0), (84, .invokevirtual 174, 3, 1641, 0), (87, .ifCond .eq 16, 3, 103, 0), (90, .iload 5, 2, 0, 0), (92, .bipush 10, 2, 0, 10), (94, .idiv, 1, 0, 0), (95, .bipush 10, 2, 0, 10), (97, .iload 4, 2, 0, 0), (99, .isub, 1, 0, 0), (100, .imul, 1, 0, 0), (101, .istore 5, 2, 0, 0), (103, .aload_n 0, 1, 0, 0), (104, .getfield 43, 3, 2331, 0), (107, .aload_n 0, 1, 0, 0), (108, .getfield 19, 3, 2311, 0), (111, .invokevirtual 194, 3, 1861, 0), (114, .pop, 1, 0, 0), (115, .iinc 6 1, 3, 0, 1), (118, .goto (-50), 3, 68, 0), (121, .ldc_w 334, 3, 0, 1000000), (124, .iload 5, 2, 0, 0), (126, .isub, 1, 0, 0), (127, .ireturn, 1, 0, 0)]
def pg_X9_chance : ur_P := (pr_X9_chance, fun _ => ([], 0), 7, 0, 9)
abbrev kX_X9_chance : Nat := 127
def pr_X9_rests : List ur_E := [(0, .iload_n 1, 1, 0, 0), (1, .invokestatic 335, 3, 4131, 0), (4, .ifCond .eq 23, 3, 27, 0), (7, .iload_n 2, 1, 0, 0), (8, .invokestatic 335, 3, 4131, 0), (11, .ifCond .eq 16, 3, 27, 0), (14, .iload_n 3, 1, 0, 0), (15, .invokestatic 335, 3, 4131, 0), (18, .ifCond .eq 9, 3, 27, 0), (21, .iload 4, 2, 0, 0), (23, .iconst (-1), 1, 0, (-1)), (24, .if_icmp .ge 11, 3, 35, 0), (30, .dup, 1, 0, 0), (35, .iconst 0, 1, 0, 0), (36, .istore 5, 2, 0, 0), (38, .iconst 0, 1, 0, 0), (39, .istore 6, 2, 0, 0), (41, .iload 6, 2, 0, 0), (43, .iconst 4, 1, 0, 4), (44, .if_icmp .ge 33, 3, 77, 0), (47, .iload 6, 2, 0, 0), (49, .iload_n 1, 1, 0, 0), (50, .iload_n 2, 1, 0, 0), (51, .iload_n 3, 1, 0, 0), (52, .invokestatic 341, 3, 4169, 0), (55, .ifCond .eq 16, 3, 71, 0), (58, .iload 5, 2, 0, 0), (60, .iload 4, 2, 0, 0), (62, .if_icmp .ne 6, 3, 68, 0), (65, .iload 6, 2, 0, 0), (67, .ireturn, 1, 0, 0), (68, .iinc 5 1, 3, 0, 1), (71, .iinc 6 1, 3, 0, 1), (74, .goto (-33), 3, 41, 0), (77, .iload 4, 2, 0, 0), (79, .iconst (-1), 1, 0, (-1)), (80, .if_icmp .eq 11, 3, 91, 0), (86, .dup, 1, 0, 0), (91, .iload 5, 2, 0, 0), (93, .ireturn, 1, 0, 0)]
def pg_X9_rests : ur_P := (pr_X9_rests, fun _ => ([], 0), 7, 0, 9)
abbrev kX_X9_rests : Nat := 128
def pr_X9_isPrize : List ur_E := [(0, .iload_n 0, 1, 0, 0), (1, .ifCond .lt 13, 3, 14, 0), (4, .iload_n 0, 1, 0, 0), (5, .bipush 9, 2, 0, 9), (7, .if_icmp .gt 7, 3, 14, 0), (10, .iconst 1, 1, 0, 1), (11, .goto 4, 3, 15, 0), (14, .iconst 0, 1, 0, 0), (15, .ireturn, 1, 0, 0)]
def pg_X9_isPrize : ur_P := (pr_X9_isPrize, fun _ => ([], 0), 1, 1, 30)
abbrev kX_X9_isPrize : Nat := 129
def pr_X9_isAtRest : List ur_E := [(0, .iload_n 0, 1, 0, 0), (1, .iconst 1, 1, 0, 1), (2, .ishr, 1, 0, 0), (3, .istore 4, 2, 0, 0), (5, .iload_n 0, 1, 0, 0), (6, .iconst 1, 1, 0, 1), (7, .iand, 1, 0, 0), (8, .istore 5, 2, 0, 0), (10, .iload 4, 2, 0, 0), (12, .iload 5, 2, 0, 0), (14, .iload_n 1, 1, 0, 0), (15, .iload_n 2, 1, 0, 0), (16, .iload_n 3, 1, 0, 0), (17, .invokestatic 345, 3, 4203, 0), (20, .iconst 1, 1, 0, 1), (21, .iload 4, 2, 0, 0), (23, .isub, 1, 0, 0), (24, .iload 5, 2, 0, 0), (26, .iload_n 1, 1, 0, 0), (27, .iload_n 2, 1, 0, 0), (28, .iload_n 3, 1, 0, 0), (29, .invokestatic 345, 3, 4203, 0), (32, .if_icmp .lt 32, 3, 64, 0), (35, .iload 5, 2, 0, 0), (37, .iload 4, 2, 0, 0), (39, .iload_n 1, 1, 0, 0), (40, .iload_n 2, 1, 0, 0), (41, .iload_n 3, 1, 0, 0), (42, .invokestatic 345, 3, 4203, 0), (45, .iconst 1, 1, 0, 1), (46, .iload 5, 2, 0, 0), (48, .isub, 1, 0, 0), (49, .iload 4, 2, 0, 0), (51, .iload_n 1, 1, 0, 0), (52, .iload_n 2, 1, 0, 0), (53, .iload_n 3, 1, 0, 0), (54, .invokestatic 345, 3, 4203, 0), (57, .if_icmp .lt 7, 3, 64, 0), (60, .iconst 1, 1, 0, 1), (61, .goto 4, 3, 65, 0), (64, .iconst 0, 1, 0, 0), (65, .ireturn, 1, 0, 0)]
def pg_X9_isAtRest : ur_P := (pr_X9_isAtRest, fun _ => ([], 0), 6, 1, 30)
abbrev kX_X9_isAtRest : Nat := 130
def pr_X9_prize : List ur_E := [(0, .iload_n 0, 1, 0, 0), (1, .iconst 1, 1, 0, 1), (2, .if_icmp .ne 15, 3, 17, 0), (5, .iload_n 1, 1, 0, 0), (6, .iconst 1, 1, 0, 1), (7, .if_icmp .ne 8, 3, 15, 0), (10, .iload_n 2, 1, 0, 0), (11, .ineg, 1, 0, 0), (12, .goto 4, 3, 16, 0), (15, .iload_n 3, 1, 0, 0), (16, .ireturn, 1, 0, 0), (17, .iload_n 1, 1, 0, 0), (18, .iconst 1, 1, 0, 1), (19, .if_icmp .ne 8, 3, 27, 0), (22, .iload 4, 2, 0, 0), (24, .goto 4, 3, 28, 0), (27, .iconst 0, 1, 0, 0), (28, .ireturn, 1, 0, 0)]
def pg_X9_prize : ur_P := (pr_X9_prize, fun _ => ([], 0), 5, 0, 30)
abbrev kX_X9_prize : Nat := 131
def pr_X9_evenings : List ur_E := [(0, .iload_n 1, 1, 0, 0), (1, .ifCond .lt 21, 3, 22, 0), (4, .iload_n 1, 1, 0, 0), (5, .sipush 9999, 3, 0, 9999), (8, .if_icmp .gt 14, 3, 22, 0), (11, .iload_n 2, 1, 0, 0), (12, .iconst 1, 1, 0, 1), (13, .if_icmp .lt 9, 3, 22, 0), (16, .iload_n 2, 1, 0, 0), (17, .bipush 99, 2, 0, 99), (19, .if_icmp .le 5, 3, 24, 0), (22, .iconst (-1), 1, 0, (-1)), (23, .ireturn, 1, 0, 0), (24, .iload_n 3, 1, 0, 0), (25, .ifCond .lt 8, 3, 33, 0), (28, .iload_n 3, 1, 0, 0), (29, .iconst 2, 1, 0, 2), (30, .if_icmp .le 5, 3, 35, 0), (33, .iconst (-1), 1, 0, (-1)), (34, .ireturn, 1, 0, 0), (35, .aload_n 0, 1, 0, 0), (36, .getfield 43, 3, 2331, 0), (39, .aload_n 0, 1, 0, 0), (40, .getfield 39, 3, 2327, 0), (43, .invokevirtual 201, 3, 1316, 0), (46, .aload_n 0, 1, 0, 0), (47, .getfield 73, 3, 2359, 0), (50, .iload_n 1, 1, 0, 0), (51, .i2l, 1, 0, 0), (52, .putfield 349, 3, 2, 0), (55, .iconst 0, 1, 0, 0), (56, .istore 4, 2, 0, 0), (58, .iload 4, 2, 0, 0), (60, .iload_n 2, 1, 0, 0), (61, .if_icmp .ge 25, 3, 86, 0), (64, .aload_n 0, 1, 0, 0), (65, .invokevirtual 353, 3, 4258, 0), (68, .aload_n 0, 1, 0, 0), (69, .getfield 43, 3, 2331, 0), (72, .aload_n 0, 1, 0, 0), (73, .getfield 19, 3, 2311, 0), (76, .invokevirtual 194, 3, 1861, 0), (79, .pop, 1, 0, 0), (80, .iinc 4 1, 3, 0, 1), (83, .goto (-25), 3, 58, 0), (86, .iload_n 3, 1, 0, 0), (87, .lookupswitch 53 #[(0, 25), (1, 41)], 25, 0, 0), (112, .aload_n 0, 1, 0, 0), (113, .getfield 43, 3, 2331, 0), (116, .getfield 223, 3, 1308, 0), (119, .aload_n 0, 1, 0, 0), (120, .getfield 39, 3, 2327, 0), (123, .getfield 223, 3, 1308, 0), (126, .isub, 1, 0, 0), (127, .ireturn, 1, 0, 0), (128, .aload_n 0, 1, 0, 0), (129, .getfield 43, 3, 2331, 0), (132, .aload_n 0, 1, 0, 0), (133, .getfield 19, 3, 2311, 0), (136, .invokevirtual 242, 3, 1381, 0), (139, .ireturn, 1, 0, 0), (140, .aload_n 0, 1, 0, 0), (141, .getfield 43, 3, 2331, 0), (144, .aload_n 0, 1, 0, 0), (145, .getfield 19, 3, 2311, 0), (148, .invokevirtual 226, 3, 1413, 0), (151, .ireturn, 1, 0, 0)]
def pg_X9_evenings : ur_P := (pr_X9_evenings, fun pc => bif Nat.beq pc 87 then ([(0, 112), (1, 128)], 140) else ([], 0), 5, 0, 9)
abbrev kX_X9_evenings : Nat := 132
def pr_X9_followDraws : List ur_E := [(0, .aload_n 0, 1, 0, 0), (1, .getfield 19, 3, 2311, 0), (4, .getfield 300, 3, 304, 0), (7, .ifCond .eq 13, 3, 20, 0), (10, .aload_n 0, 1, 0, 0), (11, .getfield 19, 3, 2311, 0), (14, .getfield 248, 3, 296, 0), (17, .ifCond .ne 4, 3, 21, 0), (20, .return_, 1, 0, 0), (21, .aload_n 0, 1, 0, 0), (22, .getfield 73, 3, 2359, 0), (25, .aload_n 0, 1, 0, 0), (26, .getfield 19, 3, 2311, 0), (29, .getfield 300, 3, 304, 0), (32, .invokevirtual 356, 3, 37, 0), (35, .istore_n 1, 1, 0, 0), (36, .aload_n 0, 1, 0, 0), (37, .getfield 73, 3, 2359, 0), (40, .aload_n 0, 1, 0, 0), (41, .getfield 19, 3, 2311, 0), (44, .getfield 248, 3, 296, 0), (47, .invokevirtual 356, 3, 37, 0), (50, .istore_n 2, 1, 0, 0), (51, .aload_n 0, 1, 0, 0), (52, .getfield 73, 3, 2359, 0), (55, .iconst 5, 1, 0, 5), (56, .invokevirtual 356, 3, 37, 0), (59, .istore_n 3, 1, 0, 0), (60, .iload_n 3, 1, 0, 0), (61, .ifCond .ne 8, 3, 69, 0), (64, .bipush 110, 2, 0, 110), (66, .goto 15, 3, 81, 0), (69, .iload_n 3, 1, 0, 0), (70, .iconst 2, 1, 0, 2), (71, .if_icmp .gt 8, 3, 79, 0), (74, .bipush 108, 2, 0, 108), (76, .goto 5, 3, 81, 0), (79, .bipush 109, 2, 0, 109), (81, .istore 4, 2, 0, 0), (83, .aload_n 0, 1, 0, 0), (84, .getfield 43, 3, 2331, 0), (87, .aload_n 0, 1, 0, 0), (88, .getfield 19, 3, 2311, 0), (91, .iload 4, 2, 0, 0), (93, .iload_n 1, 1, 0, 0), (94, .iload_n 2, 1, 0, 0), (95, .invokevirtual 219, 3, 1963, 0), (98, .pop, 1, 0, 0), (99, .return_, 1, 0, 0)]
def pg_X9_followDraws : ur_P := (pr_X9_followDraws, fun _ => ([], 0), 5, 0, 9)
abbrev kX_X9_followDraws : Nat := 133
def pr_X9_mark : List ur_E := [(0, .iload_n 1, 1, 0, 0), (1, .ifCond .lt 8, 3, 9, 0), (4, .iload_n 1, 1, 0, 0), (5, .iconst 4, 1, 0, 4), (6, .if_icmp .lt 5, 3, 11, 0), (9, .iconst 0, 1, 0, 0), (10, .ireturn, 1, 0, 0), (11, .iload_n 2, 1, 0, 0), (12, .ifCond .ne 26, 3, 38, 0), (15, .aload_n 0, 1, 0, 0), (16, .getfield 59, 3, 2351, 0), (19, .iload_n 1, 1, 0, 0), (20, .aaload, 1, 0, 0), (21, .aload_n 0, 1, 0, 0), (22, .getfield 39, 3, 2327, 0), (25, .aload_n 0, 1, 0, 0), (26, .getfield 29, 3, 2319, 0), (29, .aload_n 0, 1, 0, 0), (30, .getfield 49, 3, 2335, 0), (33, .invokevirtual 359, 3, 1192, 0), (36, .iconst 1, 1, 0, 1), (37, .ireturn, 1, 0, 0), (38, .aload_n 0, 1, 0, 0), (39, .getfield 59, 3, 2351, 0), (42, .iload_n 1, 1, 0, 0), (43, .aaload, 1, 0, 0), (44, .getfield 112, 3, 1037, 0), (47, .ifCond .ne 5, 3, 52, 0), (50, .iconst 0, 1, 0, 0), (51, .ireturn, 1, 0, 0), (52, .aload_n 0, 1, 0, 0), (53, .getfield 59, 3, 2351, 0), (56, .iload_n 1, 1, 0, 0), (57, .aaload, 1, 0, 0), (58, .aload_n 0, 1, 0, 0), (59, .getfield 39, 3, 2327, 0), (62, .aload_n 0, 1, 0, 0), (63, .getfield 29, 3, 2319, 0), (66, .aload_n 0, 1, 0, 0), (67, .getfield 49, 3, 2335, 0), (70, .invokevirtual 363, 3, 1224, 0), (73, .aload_n 0, 1, 0, 0), (74, .iconst 0, 1, 0, 0), (75, .putfield 109, 3, 2344, 0), (78, .iconst 1, 1, 0, 1), (79, .ireturn, 1, 0, 0)]
def pg_X9_mark : ur_P := (pr_X9_mark, fun _ => ([], 0), 3, 1, 9)
abbrev kX_X9_mark : Nat := 134
def pr_X9_count : List ur_E := [(0, .iload_n 1, 1, 0, 0), (1, .tableswitch 172 0 12 #[67, 75, 83, 91, 99, 107, 115, 123, 135, 143, 151, 159, 164], 67, 0, 0), (68, .aload_n 0, 1, 0, 0), (69, .getfield 19, 3, 2311, 0), (72, .getfield 248, 3, 296, 0), (75, .ireturn, 1, 0, 0), (76, .aload_n 0, 1, 0, 0), (77, .getfield 19, 3, 2311, 0), (80, .getfield 366, 3, 300, 0), (83, .ireturn, 1, 0, 0), (84, .aload_n 0, 1, 0, 0), (85, .getfield 19, 3, 2311, 0), (88, .getfield 300, 3, 304, 0), (91, .ireturn, 1, 0, 0), (92, .aload_n 0, 1, 0, 0), (93, .getfield 39, 3, 2327, 0), (96, .getfield 369, 3, 1312, 0), (99, .ireturn, 1, 0, 0), (100, .aload_n 0, 1, 0, 0), (101, .getfield 39, 3, 2327, 0), (104, .getfield 223, 3, 1308, 0), (107, .ireturn, 1, 0, 0), (108, .aload_n 0, 1, 0, 0), (109, .getfield 19, 3, 2311, 0), (112, .getfield 123, 3, 292, 0), (115, .ireturn, 1, 0, 0), (116, .aload_n 0, 1, 0, 0), (117, .getfield 39, 3, 2327, 0), (120, .getfield 136, 3, 1304, 0), (123, .ireturn, 1, 0, 0), (124, .aload_n 0, 1, 0, 0), (125, .getfield 39, 3, 2327, 0), (128, .aload_n 0, 1, 0, 0), (129, .getfield 19, 3, 2311, 0), (132, .invokevirtual 242, 3, 1381, 0), (135, .ireturn, 1, 0, 0), (136, .aload_n 0, 1, 0, 0), (137, .getfield 39, 3, 2327, 0), (140, .getfield 161, 3, 1300, 0), (143, .ireturn, 1, 0, 0), (144, .aload_n 0, 1, 0, 0), (145, .getfield 29, 3, 2319, 0), (148, .getfield 105, 3, 1548, 0), (151, .ireturn, 1, 0, 0), (152, .aload_n 0, 1, 0, 0), (153, .getfield 49, 3, 2335, 0), (156, .getfield 108, 3, 1804, 0), (159, .ireturn, 1, 0, 0), (160, .aload_n 0, 1, 0, 0), (161, .getfield 109, 3, 2344, 0), (164, .ireturn, 1, 0, 0), (165, .aload_n 0, 1, 0, 0), (166, .getfield 12, 3, 2307, 0), (169, .getfield 86, 3, 2052, 0), (172, .ireturn, 1, 0, 0), (173, .iconst (-1), 1, 0, (-1)), (174, .ireturn, 1, 0, 0)]
def pg_X9_count : ur_P := (pr_X9_count, fun pc => bif Nat.beq pc 1 then ([(0, 68), (1, 76), (2, 84), (3, 92), (4, 100), (5, 108), (6, 116), (7, 124), (8, 136), (9, 144), (10, 152), (11, 160), (12, 165)], 173) else ([], 0), 2, 0, 9)
abbrev kX_X9_count : Nat := 135
def pr_X9_bit : List ur_E := [(0, .iload_n 0, 1, 0, 0), (1, .iload_n 1, 1, 0, 0), (2, .ishr, 1, 0, 0), (3, .iconst 1, 1, 0, 1), (4, .iand, 1, 0, 0), (5, .ireturn, 1, 0, 0)]
def pg_X9_bit : ur_P := (pr_X9_bit, fun _ => ([], 0), 2, 0, 30)
abbrev kX_X9_bit : Nat := 136
def pr_X9_numberIn : List ur_E := [(0, .lconst 0, 1, 0, 0), (1, .lstore_n 3, 1, 0, 0), (2, .iconst 0, 1, 0, 0), (3, .istore 5, 2, 0, 0), (5, .iconst 0, 1, 0, 0), (6, .istore 6, 2, 0, 0), (8, .iload 6, 2, 0, 0), (10, .aload_n 0, 1, 0, 0), (11, .invokevirtual 372, 3, 8131, 0), (14, .if_icmp .ge 56, 3, 70, 0), (17, .aload_n 0, 1, 0, 0), (18, .iload 6, 2, 0, 0), (20, .invokevirtual 376, 3, 8165, 0), (23, .istore 7, 2, 0, 0), (25, .iload 7, 2, 0, 0), (27, .bipush 32, 2, 0, 32), (29, .if_icmp .eq 21, 3, 50, 0), (32, .lload_n 3, 1, 0, 0), (33, .ldc2_w 380, 3, 32, 0), (36, .lmul, 1, 0, 0), (37, .iload 7, 2, 0, 0), (39, .bipush 97, 2, 0, 97), (41, .isub, 1, 0, 0), (42, .iconst 1, 1, 0, 1), (43, .iadd, 1, 0, 0), (44, .i2l, 1, 0, 0), (45, .ladd, 1, 0, 0), (46, .lstore_n 3, 1, 0, 0), (47, .goto 17, 3, 64, 0), (50, .lload_n 3, 1, 0, 0), (51, .lload_n 1, 1, 0, 0), (52, .lcmp, 1, 0, 0), (53, .ifCond .ne 6, 3, 59, 0), (56, .iload 5, 2, 0, 0), (58, .ireturn, 1, 0, 0), (59, .lconst 0, 1, 0, 0), (60, .lstore_n 3, 1, 0, 0), (61, .iinc 5 1, 3, 0, 1), (64, .iinc 6 1, 3, 0, 1), (67, .goto (-59), 3, 8, 0), (70, .iconst (-1), 1, 0, (-1)), (71, .ireturn, 1, 0, 0)]
def pg_X9_numberIn : ur_P := (pr_X9_numberIn, fun _ => ([], 0), 8, 0, 30)
abbrev kX_X9_numberIn : Nat := 137
def pr_X10_init : List ur_E := [(0, .aload_n 0, 1, 0, 0), (1, .invokespecial 1, 3, 9001, 0), (4, .aload_n 0, 1, 0, 0), (5, .sipush 1000, 3, 0, 1000), (8, .newarray .int, 2, 0, 0), (10, .putfield 7, 3, 2571, 0), (13, .aload_n 0, 1, 0, 0), (14, .bipush 6, 2, 0, 6), (16, .newarray .int, 2, 0, 0), (18, .putfield 13, 3, 2603, 0), (21, .aload_n 0, 1, 0, 0), (22, .bipush 16, 2, 0, 16), (24, .newarray .long, 2, 0, 0), (26, .putfield 16, 3, 2607, 0), (29, .aload_n 0, 1, 0, 0), (30, .bipush 16, 2, 0, 16), (32, .newarray .int, 2, 0, 0), (34, .putfield 20, 3, 2611, 0), (37, .aload_n 0, 1, 0, 0), (38, .bipush 16, 2, 0, 16), (40, .newarray .int, 2, 0, 0), (42, .putfield 23, 3, 2615, 0), (45, .aload_n 0, 1, 0, 0), (46, .bipush 10, 2, 0, 10), (48, .newarray .long, 2, 0, 0), (50, .putfield 26, 3, 2619, 0), (53, .aload_n 0, 1, 0, 0), (54, .bipush 10, 2, 0, 10), (56, .newarray .int, 2, 0, 0), (58, .putfield 29, 3, 2623, 0), (61, .aload_n 0, 1, 0, 0), (62, .bipush 10, 2, 0, 10), (64, .newarray .int, 2, 0, 0), (66, .putfield 32, 3, 2627, 0), (69, .aload_n 0, 1, 0, 0), (70, .bipush 10, 2, 0, 10), (72, .newarray .int, 2, 0, 0), (74, .putfield 35, 3, 2631, 0), (77, .aload_n 0, 1, 0, 0), (78, .iconst 2, 1, 0, 2), (79, .newarray .int, 2, 0, 0), (81, .putfield 38, 3, 2635, 0), (84, .aload_n 0, 1, 0, 0), (85, .iconst 2, 1, 0, 2), (86, .newarray .int, 2, 0, 0), (88, .putfield 41, 3, 2639, 0), (91, .aload_n 0, 1, 0, 0), (92, .sipush 2000, 3, 0, 2000), (95, .newarray .int, 2, 0, 0), (97, .putfield 44, 3, 2643, 0), (100, .aload_n 0, 1, 0, 0), (101, .bipush 7, 2, 0, 7), (103, .newarray .int, 2, 0, 0), (105, .putfield 47, 3, 2651, 0), (108, .aload_n 0, 1, 0, 0), (109, .bipush 7, 2, 0, 7), (111, .newarray .boolean, 2, 0, 0), (113, .putfield 50, 3, 2655, 0), (116, .aload_n 0, 1, 0, 0), (117, .bipush 7, 2, 0, 7), (119, .newarray .int, 2, 0, 0), (121, .putfield 54, 3, 2659, 0), (124, .aload_n 0, 1, 0, 0), (125, .bipush 7, 2, 0, 7), (127, .newarray .int, 2, 0, 0), (129, .putfield 57, 3, 2663, 0), (132, .aload_n 0, 1, 0, 0), (133, .bipush 7, 2, 0, 7), (135, .newarray .int, 2, 0, 0), (137, .putfield 60, 3, 2667, 0), (140, .aload_n 0, 1, 0, 0), (141, .bipush 7, 2, 0, 7), (143, .newarray .int, 2, 0, 0), (145, .putfield 63, 3, 2671, 0), (148, .aload_n 0, 1, 0, 0), (149, .bipush 7, 2, 0, 7), (151, .newarray .int, 2, 0, 0), (153, .putfield 66, 3, 2675, 0), (156, .aload_n 0, 1, 0, 0), (157, .bipush 7, 2, 0, 7), (159, .newarray .int, 2, 0, 0), (161, .putfield 69, 3, 2679, 0), (164, .aload_n 0, 1, 0, 0), (165, .bipush 7, 2, 0, 7), (167, .newarray .int, 2, 0, 0), (169, .putfield 72, 3, 2683, 0), (172, .aload_n 0, 1, 0, 0), (173, .bipush 7, 2, 0, 7), (175, .newarray .int, 2, 0, 0), (177, .putfield 75, 3, 2687, 0), (180, .aload_n 0, 1, 0, 0), (181, .bipush 7, 2, 0, 7), (183, .newarray .int, 2, 0, 0), (185, .putfield 78, 3, 2691, 0), (188, .aload_n 0, 1, 0, 0), (189, .bipush 20, 2, 0, 20), (191, .newarray .int, 2, 0, 0), (193, .putfield 81, 3, 2695, 0), (196, .aload_n 0, 1, 0, 0), (197, .bipush 6, 2, 0, 6), (199, .newarray .int, 2, 0, 0), (201, .putfield 84, 3, 2707, 0), (204, .aload_n 0, 1, 0, 0), (205, .sipush 240, 3, 0, 240), (208, .newarray .int, 2, 0, 0), (210, .putfield 87, 3, 2711, 0), (213, .aload_n 0, 1, 0, 0), (214, .sipush 240, 3, 0, 240), (217, .newarray .int, 2, 0, 0), (219, .putfield 90, 3, 2715, 0), (222, .aload_n 0, 1, 0, 0), (223, .sipush 240, 3, 0, 240), (226, .newarray .int, 2, 0, 0), (228, .putfield 93, 3, 2719, 0), (231, .aload_n 0, 1, 0, 0), (232, .iconst 5, 1, 0, 5), (233, .newarray .int, 2, 0, 0), (235, .putfield 96, 3, 2723, 0), (238, .aload_n 0, 1, 0, 0), (239, .bipush 40, 2, 0, 40), (241, .newarray .int, 2, 0, 0), (243, .putfield 99, 3, 2727, 0), (246, .aload_n 0, 1, 0, 0), (247, .bipush 40, 2, 0, 40), (249, .newarray .int, 2, 0, 0), (251, .putfield 102, 3, 2731, 0), (254, .aload_n 0, 1, 0, 0), (255, .bipush 40, 2, 0, 40), (257, .newarray .boolean, 2, 0, 0), (259, .putfield 105, 3, 2735, 0), (262, .aload_n 0, 1, 0, 0), (263, .bipush 29, 2, 0, 29), (265, .newarray .int, 2, 0, 0), (267, .putfield 108, 3, 2739, 0), (270, .aload_n 0, 1, 0, 0), (271, .bipush 29, 2, 0, 29), (273, .newarray .int, 2, 0, 0), (275, .putfield 111, 3, 2743, 0), (278, .aload_n 0, 1, 0, 0), (279, .bipush 29, 2, 0, 29), (281, .newarray .int, 2, 0, 0), (283, .putfield 114, 3, 2747, 0), (286, .aload_n 0, 1, 0, 0), (287, .bipush 116, 2, 0, 116), (289, .newarray .int, 2, 0, 0), (291, .putfield 117, 3, 2751, 0), (294, .aload_n 0, 1, 0, 0), (295, .sipush 464, 3, 0, 464), (298, .newarray .int, 2, 0, 0), (300, .putfield 120, 3, 2755, 0), (303, .aload_n 0, 1, 0, 0), (304, .iconst 4, 1, 0, 4), (305, .newarray .boolean, 2, 0, 0), (307, .putfield 123, 3, 2759, 0), (310, .aload_n 0, 1, 0, 0), (311, .iconst 5, 1, 0, 5), (312, .newarray .int, 2, 0, 0), (314, .putfield 126, 3, 2767, 0), (317, .aload_n 0, 1, 0, 0), (318, .iconst 5, 1, 0, 5), (319, .newarray .int, 2, 0, 0), (321, .putfield 129, 3, 2771, 0), (324, .aload_n 0, 1, 0, 0), (325, .bipush 40, 2, 0, 40), (327, .newarray .int, 2, 0, 0), (329, .putfield 132, 3, 2779, 0), (332, .aload_n 0, 1, 0, 0), (333, .bipush 31, 2, 0, 31), (335, .newarray .int, 2, 0, 0), (337, .putfield 135, 3, 2783, 0), (340, .aload_n 0, 1, 0, 0), (341, .invokevirtual 138, 3, 5634, 0), (344, .return_, 1, 0, 0)]
def pg_X10_init : ur_P := (pr_X10_init, fun _ => ([], 0), 1, 0, 10)
abbrev kX_X10_init : Nat := 138
def pr_X10_thrown : List ur_E := [(0, .aload_n 0, 1, 0, 0), (1, .getfield 141, 3, 2560, 0), (4, .ireturn, 1, 0, 0)]
def pg_X10_thrown : ur_P := (pr_X10_thrown, fun _ => ([], 0), 1, 0, 10)
abbrev kX_X10_thrown : Nat := 139
def pr_X10_within : List ur_E := [(0, .iload_n 0, 1, 0, 0), (1, .iload_n 1, 1, 0, 0), (2, .if_icmp .lt 12, 3, 14, 0), (5, .iload_n 0, 1, 0, 0), (6, .iload_n 2, 1, 0, 0), (7, .if_icmp .gt 7, 3, 14, 0), (10, .iconst 1, 1, 0, 1), (11, .goto 4, 3, 15, 0), (14, .iconst 0, 1, 0, 0), (15, .ireturn, 1, 0, 0)]
def pg_X10_within : ur_P := (pr_X10_within, fun _ => ([], 0), 3, 1, 30)
abbrev kX_X10_within : Nat := 140
def pr_X10_between : List ur_E := [(0, .iload_n 0, 1, 0, 0), (1, .iload_n 1, 1, 0, 0), (2, .if_icmp .ge 7, 3, 9, 0), (5, .iload_n 1, 1, 0, 0), (6, .goto 13, 3, 19, 0), (9, .iload_n 0, 1, 0, 0), (10, .iload_n 2, 1, 0, 0), (11, .if_icmp .le 7, 3, 18, 0), (14, .iload_n 2, 1, 0, 0), (15, .goto 4, 3, 19, 0), (18, .iload_n 0, 1, 0, 0), (19, .ireturn, 1, 0, 0)]
def pg_X10_between : ur_P := (pr_X10_between, fun _ => ([], 0), 3, 0, 30)
abbrev kX_X10_between : Nat := 141
def pr_X10_bits : List ur_E := [(0, .iconst 0, 1, 0, 0), (1, .istore_n 1, 1, 0, 0), (2, .iconst 0, 1, 0, 0), (3, .istore_n 2, 1, 0, 0), (4, .iload_n 2, 1, 0, 0), (5, .bipush 8, 2, 0, 8), (7, .if_icmp .ge 17, 3, 24, 0), (10, .iload_n 1, 1, 0, 0), (11, .iload_n 0, 1, 0, 0), (12, .iload_n 2, 1, 0, 0), (13, .ishr, 1, 0, 0), (14, .iconst 1, 1, 0, 1), (15, .iand, 1, 0, 0), (16, .iadd, 1, 0, 0), (17, .istore_n 1, 1, 0, 0), (18, .iinc 2 1, 3, 0, 1), (21, .goto (-17), 3, 4, 0), (24, .iload_n 1, 1, 0, 0), (25, .ireturn, 1, 0, 0)]
def pg_X10_bits : ur_P := (pr_X10_bits, fun _ => ([], 0), 3, 0, 30)
abbrev kX_X10_bits : Nat := 142
def pr_X10_feed : List ur_E := [(0, .aload_n 0, 1, 0, 0), (1, .iconst 0, 1, 0, 0), (2, .putfield 141, 3, 2560, 0), (5, .iconst 0, 1, 0, 0), (6, .istore 7, 2, 0, 0), (8, .iload 7, 2, 0, 0), (10, .bipush 24, 2, 0, 24), (12, .if_icmp .ge 108, 3, 120, 0), (15, .iload 7, 2, 0, 0), (17, .bipush 8, 2, 0, 8), (19, .if_icmp .ge 7, 3, 26, 0), (22, .lload_n 1, 1, 0, 0), (23, .goto 16, 3, 39, 0), (26, .iload 7, 2, 0, 0), (28, .bipush 16, 2, 0, 16), (30, .if_icmp .ge 7, 3, 37, 0), (33, .lload_n 3, 1, 0, 0), (34, .goto 5, 3, 39, 0), (37, .lload 5, 2, 0, 0), (39, .lstore 8, 2, 0, 0), (41, .lload 8, 2, 0, 0), (43, .bipush 56, 2, 0, 56), (45, .bipush 8, 2, 0, 8), (47, .iload 7, 2, 0, 0), (49, .bipush 7, 2, 0, 7), (51, .iand, 1, 0, 0), (52, .imul, 1, 0, 0), (53, .isub, 1, 0, 0), (54, .lushr, 1, 0, 0), (55, .ldc2_w 145, 3, 255, 0), (58, .land, 1, 0, 0), (59, .l2i, 1, 0, 0), (60, .istore 10, 2, 0, 0), (62, .aload_n 0, 1, 0, 0), (63, .getfield 147, 3, 2564, 0), (66, .sipush 1000, 3, 0, 1000), (69, .if_icmp .ge 45, 3, 114, 0), (72, .iload 10, 2, 0, 0), (74, .bipush 10, 2, 0, 10), (76, .if_icmp .eq 17, 3, 93, 0), (79, .iload 10, 2, 0, 0), (81, .bipush 32, 2, 0, 32), (83, .if_icmp .lt 31, 3, 114, 0), (86, .iload 10, 2, 0, 0), (88, .bipush 126, 2, 0, 126), (90, .if_icmp .gt 24, 3, 114, 0), (93, .aload_n 0, 1, 0, 0), (94, .getfield 7, 3, 2571, 0), (97, .aload_n 0, 1, 0, 0), (98, .getfield 147, 3, 2564, 0), (101, .iload 10, 2, 0, 0), (103, .iastore, 1, 0, 0), (104, .aload_n 0, 1, 0, 0), (105, .dup, 1, 0, 0), (106, .getfield 147, 3, 2564, 0), (109, .iconst 1, 1, 0, 1), (110, .iadd, 1, 0, 0), (111, .putfield 147, 3, 2564, 0), (114, .iinc 7 1, 3, 0, 1), (117, .goto (-109), 3, 8, 0), (120, .aload_n 0, 1, 0, 0), (121, .getfield 147, 3, 2564, 0), (124, .ireturn, 1, 0, 0)]
def pg_X10_feed : ur_P := (pr_X10_feed, fun _ => ([], 0), 11, 0, 10)
abbrev kX_X10_feed : Nat := 143
def pr_X10_signAt : List ur_E := [(0, .iload_n 1, 1, 0, 0), (1, .aload_n 0, 1, 0, 0), (2, .getfield 150, 3, 2572, 0), (5, .if_icmp .ge 12, 3, 17, 0), (8, .aload_n 0, 1, 0, 0), (9, .getfield 7, 3, 2571, 0), (12, .iload_n 1, 1, 0, 0), (13, .iaload, 1, 0, 0), (14, .goto 4, 3, 18, 0), (17, .iconst 0, 1, 0, 0), (18, .ireturn, 1, 0, 0)]
def pg_X10_signAt : ur_P := (pr_X10_signAt, fun _ => ([], 0), 2, 0, 10)
abbrev kX_X10_signAt : Nat := 144
def pr_X10_nextToken : List ur_E := [(0, .aload_n 0, 1, 0, 0), (1, .getfield 153, 3, 2576, 0), (4, .aload_n 0, 1, 0, 0), (5, .getfield 150, 3, 2572, 0), (8, .if_icmp .ge 44, 3, 52, 0), (11, .aload_n 0, 1, 0, 0), (12, .getfield 7, 3, 2571, 0), (15, .aload_n 0, 1, 0, 0), (16, .getfield 153, 3, 2576, 0), (19, .iaload, 1, 0, 0), (20, .bipush 32, 2, 0, 32), (22, .if_icmp .eq 17, 3, 39, 0), (25, .aload_n 0, 1, 0, 0), (26, .getfield 7, 3, 2571, 0), (29, .aload_n 0, 1, 0, 0), (30, .getfield 153, 3, 2576, 0), (33, .iaload, 1, 0, 0), (34, .bipush 10, 2, 0, 10), (36, .if_icmp .ne 16, 3, 52, 0), (39, .aload_n 0, 1, 0, 0), (40, .dup, 1, 0, 0), (41, .getfield 153, 3, 2576, 0), (44, .iconst 1, 1, 0, 1), (45, .iadd, 1, 0, 0), (46, .putfield 153, 3, 2576, 0), (49, .goto (-49), 3, 0, 0), (52, .aload_n 0, 1, 0, 0), (53, .aload_n 0, 1, 0, 0), (54, .getfield 153, 3, 2576, 0), (57, .putfield 156, 3, 2580, 0), (60, .aload_n 0, 1, 0, 0), (61, .lconst 0, 1, 0, 0), (62, .putfield 159, 3, 2590, 0), (65, .aload_n 0, 1, 0, 0), (66, .iconst 0, 1, 0, 0), (67, .putfield 163, 3, 2592, 0), (70, .aload_n 0, 1, 0, 0), (71, .getfield 153, 3, 2576, 0), (74, .aload_n 0, 1, 0, 0), (75, .getfield 150, 3, 2572, 0), (78, .if_icmp .ne 9, 3, 87, 0), (81, .aload_n 0, 1, 0, 0), (82, .iconst 0, 1, 0, 0), (83, .putfield 166, 3, 2584, 0), (86, .return_, 1, 0, 0), (87, .aload_n 0, 1, 0, 0), (88, .getfield 7, 3, 2571, 0), (91, .aload_n 0, 1, 0, 0), (92, .getfield 153, 3, 2576, 0), (95, .iaload, 1, 0, 0), (96, .istore_n 1, 1, 0, 0), (97, .iload_n 1, 1, 0, 0), (98, .bipush 97, 2, 0, 97), (100, .if_icmp .lt 112, 3, 212, 0), (103, .iload_n 1, 1, 0, 0), (104, .bipush 122, 2, 0, 122), (106, .if_icmp .gt 106, 3, 212, 0), (109, .aload_n 0, 1, 0, 0), (110, .aload_n 0, 1, 0, 0), (111, .getfield 153, 3, 2576, 0), (114, .invokevirtual 169, 3, 4613, 0), (117, .bipush 97, 2, 0, 97), (119, .if_icmp .lt 69, 3, 188, 0), (122, .aload_n 0, 1, 0, 0), (123, .aload_n 0, 1, 0, 0), (124, .getfield 153, 3, 2576, 0), (127, .invokevirtual 169, 3, 4613, 0), (130, .bipush 122, 2, 0, 122), (132, .if_icmp .gt 56, 3, 188, 0), (135, .aload_n 0, 1, 0, 0), (136, .getfield 153, 3, 2576, 0), (139, .aload_n 0, 1, 0, 0), (140, .getfield 156, 3, 2580, 0), (143, .isub, 1, 0, 0), (144, .bipush 8, 2, 0, 8), (146, .if_icmp .ge 29, 3, 175, 0), (149, .aload_n 0, 1, 0, 0), (150, .aload_n 0, 1, 0, 0), (151, .getfield 159, 3, 2590, 0), (154, .ldc2_w 173, 3, 27, 0), (157, .lmul, 1, 0, 0), (158, .aload_n 0, 1, 0, 0), (159, .aload_n 0, 1, 0, 0), (160, .getfield 153, 3, 2576, 0), (163, .invokevirtual 169, 3, 4613, 0), (166, .i2l, 1, 0, 0), (167, .ladd, 1, 0, 0), (168, .ldc2_w 175, 3, 96, 0), (171, .lsub, 1, 0, 0), (172, .putfield 159, 3, 2590, 0), (175, .aload_n 0, 1, 0, 0), (176, .dup, 1, 0, 0), (177, .getfield 153, 3, 2576, 0), (180, .iconst 1, 1, 0, 1), (181, .iadd, 1, 0, 0), (182, .putfield 153, 3, 2576, 0), (185, .goto (-76), 3, 109, 0), (188, .aload_n 0, 1, 0, 0), (189, .aload_n 0, 1, 0, 0), (190, .getfield 153, 3, 2576, 0), (193, .aload_n 0, 1, 0, 0), (194, .getfield 156, 3, 2580, 0), (197, .isub, 1, 0, 0), (198, .bipush 8, 2, 0, 8), (200, .if_icmp .le 7, 3, 207, 0), (203, .iconst 4, 1, 0, 4), (204, .goto 4, 3, 208, 0), (207, .iconst 1, 1, 0, 1), (208, .putfield 166, 3, 2584, 0), (211, .return_, 1, 0, 0), (212, .iload_n 1, 1, 0, 0), (213, .bipush 48, 2, 0, 48), (215, .if_icmp .lt 107, 3, 322, 0), (218, .iload_n 1, 1, 0, 0), (219, .bipush 57, 2, 0, 57), (221, .if_icmp .gt 101, 3, 322, 0), (224, .aload_n 0, 1, 0, 0), (225, .aload_n 0, 1, 0, 0), (226, .getfield 153, 3, 2576, 0), (229, .invokevirtual 169, 3, 4613, 0), (232, .bipush 48, 2, 0, 48), (234, .if_icmp .lt 65, 3, 299, 0), (237, .aload_n 0, 1, 0, 0), (238, .aload_n 0, 1, 0, 0), (239, .getfield 153, 3, 2576, 0), (242, .invokevirtual 169, 3, 4613, 0), (245, .bipush 57, 2, 0, 57), (247, .if_icmp .gt 52, 3, 299, 0), (250, .aload_n 0, 1, 0, 0), (251, .getfield 153, 3, 2576, 0), (254, .aload_n 0, 1, 0, 0), (255, .getfield 156, 3, 2580, 0), (258, .isub, 1, 0, 0), (259, .iconst 4, 1, 0, 4), (260, .if_icmp .ge 26, 3, 286, 0), (263, .aload_n 0, 1, 0, 0), (264, .aload_n 0, 1, 0, 0), (265, .getfield 163, 3, 2592, 0), (268, .bipush 10, 2, 0, 10), (270, .imul, 1, 0, 0), (271, .aload_n 0, 1, 0, 0), (272, .aload_n 0, 1, 0, 0), (273, .getfield 153, 3, 2576, 0), (276, .invokevirtual 169, 3, 4613, 0), (279, .iadd, 1, 0, 0), (280, .bipush 48, 2, 0, 48), (282, .isub, 1, 0, 0), (283, .putfield 163, 3, 2592, 0), (286, .aload_n 0, 1, 0, 0), (287, .dup, 1, 0, 0), (288, .getfield 153, 3, 2576, 0), (291, .iconst 1, 1, 0, 1), (292, .iadd, 1, 0, 0), (293, .putfield 153, 3, 2576, 0), (296, .goto (-72), 3, 224, 0), (299, .aload_n 0, 1, 0, 0), (300, .aload_n 0, 1, 0, 0), (301, .getfield 153, 3, 2576, 0), (304, .aload_n 0, 1, 0, 0), (305, .getfield 156, 3, 2580, 0), (308, .isub, 1, 0, 0), (309, .iconst 4, 1, 0, 4), (310, .if_icmp .le 7, 3, 317, 0), (313, .iconst 4, 1, 0, 4), (314, .goto 4, 3, 318, 0), (317, .iconst 2, 1, 0, 2), (318, .putfield 166, 3, 2584, 0), (321, .return_, 1, 0, 0), (322, .aload_n 0, 1, 0, 0), (323, .dup, 1, 0, 0), (324, .getfield 153, 3, 2576, 0), (327, .iconst 1, 1, 0, 1), (328, .iadd, 1, 0, 0), (329, .putfield 153, 3, 2576, 0), (332, .aload_n 0, 1, 0, 0), (333, .iload_n 1, 1, 0, 0), (334, .bipush 40, 2, 0, 40), (336, .if_icmp .lt 9, 3, 345, 0), (339, .iload_n 1, 1, 0, 0), (340, .bipush 43, 2, 0, 43), (342, .if_icmp .le 21, 3, 363, 0), (345, .iload_n 1, 1, 0, 0), (346, .bipush 45, 2, 0, 45), (348, .if_icmp .eq 15, 3, 363, 0), (351, .iload_n 1, 1, 0, 0), (352, .bipush 59, 2, 0, 59), (354, .if_icmp .lt 13, 3, 367, 0), (357, .iload_n 1, 1, 0, 0), (358, .bipush 61, 2, 0, 61), (360, .if_icmp .gt 7, 3, 367, 0), (363, .iconst 3, 1, 0, 3), (364, .goto 4, 3, 368, 0), (367, .iconst 4, 1, 0, 4), (368, .putfield 166, 3, 2584, 0), (371, .return_, 1, 0, 0)]
def pg_X10_nextToken : ur_P := (pr_X10_nextToken, fun _ => ([], 0), 2, 0, 10)
abbrev kX_X10_nextToken : Nat := 145
def pr_X10_isWord : List ur_E := [(0, .aload_n 0, 1, 0, 0), (1, .getfield 166, 3, 2584, 0), (4, .iconst 1, 1, 0, 1), (5, .if_icmp .ne 16, 3, 21, 0), (8, .aload_n 0, 1, 0, 0), (9, .getfield 159, 3, 2590, 0), (12, .lload_n 1, 1, 0, 0), (13, .lcmp, 1, 0, 0), (14, .ifCond .ne 7, 3, 21, 0), (17, .iconst 1, 1, 0, 1), (18, .goto 4, 3, 22, 0), (21, .iconst 0, 1, 0, 0), (22, .ireturn, 1, 0, 0)]
def pg_X10_isWord : ur_P := (pr_X10_isWord, fun _ => ([], 0), 3, 1, 10)
abbrev kX_X10_isWord : Nat := 146
def pr_X10_isSign : List ur_E := [(0, .aload_n 0, 1, 0, 0), (1, .getfield 166, 3, 2584, 0), (4, .iconst 3, 1, 0, 3), (5, .if_icmp .ne 20, 3, 25, 0), (8, .aload_n 0, 1, 0, 0), (9, .getfield 7, 3, 2571, 0), (12, .aload_n 0, 1, 0, 0), (13, .getfield 156, 3, 2580, 0), (16, .iaload, 1, 0, 0), (17, .iload_n 1, 1, 0, 0), (18, .if_icmp .ne 7, 3, 25, 0), (21, .iconst 1, 1, 0, 1), (22, .goto 4, 3, 26, 0), (25, .iconst 0, 1, 0, 0), (26, .ireturn, 1, 0, 0)]
def pg_X10_isSign : ur_P := (pr_X10_isSign, fun _ => ([], 0), 2, 1, 10)
abbrev kX_X10_isSign : Nat := 147
def pr_X10_fails : List ur_E := [(0, .aload_n 0, 1, 0, 0), (1, .iload_n 1, 1, 0, 0), (2, .bipush 16, 2, 0, 16), (4, .aload_n 0, 1, 0, 0), (5, .getfield 156, 3, 2580, 0), (8, .imul, 1, 0, 0), (9, .iadd, 1, 0, 0), (10, .putfield 177, 3, 2596, 0), (13, .iconst 0, 1, 0, 0), (14, .ireturn, 1, 0, 0)]
def pg_X10_fails : ur_P := (pr_X10_fails, fun _ => ([], 0), 2, 1, 10)
abbrev kX_X10_fails : Nat := 148
def pr_X10_puts : List ur_E := [(0, .aload_n 0, 1, 0, 0), (1, .getfield 44, 3, 2643, 0), (4, .aload_n 0, 1, 0, 0), (5, .getfield 180, 3, 2644, 0), (8, .iload_n 1, 1, 0, 0), (9, .iastore, 1, 0, 0), (10, .aload_n 0, 1, 0, 0), (11, .dup, 1, 0, 0), (12, .getfield 180, 3, 2644, 0), (15, .iconst 1, 1, 0, 1), (16, .iadd, 1, 0, 0), (17, .putfield 180, 3, 2644, 0), (20, .return_, 1, 0, 0)]
def pg_X10_puts : ur_P := (pr_X10_puts, fun _ => ([], 0), 2, 0, 10)
abbrev kX_X10_puts : Nat := 149
def pr_X10_fact : List ur_E := [(0, .aload_n 0, 1, 0, 0), (1, .getfield 166, 3, 2584, 0), (4, .iconst 1, 1, 0, 1), (5, .if_icmp .eq 5, 3, 10, 0), (8, .iconst 0, 1, 0, 0), (9, .ireturn, 1, 0, 0), (10, .aload_n 0, 1, 0, 0), (11, .getfield 159, 3, 2590, 0), (14, .ldc2_w 183, 3, 271277, 0), (17, .lcmp, 1, 0, 0), (18, .ifCond .ne 5, 3, 23, 0), (21, .iconst 1, 1, 0, 1), (22, .ireturn, 1, 0, 0), (23, .aload_n 0, 1, 0, 0), (24, .getfield 159, 3, 2590, 0), (27, .ldc2_w 185, 3, 10815598, 0), (30, .lcmp, 1, 0, 0), (31, .ifCond .ne 5, 3, 36, 0), (34, .iconst 2, 1, 0, 2), (35, .ireturn, 1, 0, 0), (36, .aload_n 0, 1, 0, 0), (37, .getfield 159, 3, 2590, 0), (40, .ldc2_w 187, 3, 13385674, 0), (43, .lcmp, 1, 0, 0), (44, .ifCond .ne 7, 3, 51, 0), (47, .iconst 3, 1, 0, 3), (48, .goto 19, 3, 67, 0), (51, .aload_n 0, 1, 0, 0), (52, .getfield 159, 3, 2590, 0), (55, .ldc2_w 189, 3, 286624, 0), (58, .lcmp, 1, 0, 0), (59, .ifCond .ne 7, 3, 66, 0), (62, .iconst 4, 1, 0, 4), (63, .goto 4, 3, 67, 0), (66, .iconst 0, 1, 0, 0), (67, .ireturn, 1, 0, 0)]
def pg_X10_fact : ur_P := (pr_X10_fact, fun _ => ([], 0), 1, 0, 10)
abbrev kX_X10_fact : Nat := 150
def pr_X10_reads : List ur_E := [(0, .iconst 0, 1, 0, 0), (1, .istore_n 1, 1, 0, 0), (2, .iconst 1, 1, 0, 1), (3, .istore_n 2, 1, 0, 0), (4, .aload_n 0, 1, 0, 0), (5, .getfield 50, 3, 2655, 0), (8, .iconst 0, 1, 0, 0), (9, .iconst 0, 1, 0, 0), (10, .bastore, 1, 0, 0), (11, .iload_n 2, 1, 0, 0), (12, .ifCond .eq 167, 3, 179, 0), (15, .aload_n 0, 1, 0, 0), (16, .invokevirtual 191, 3, 4803, 0), (19, .istore_n 3, 1, 0, 0), (20, .aload_n 0, 1, 0, 0), (21, .ldc2_w 195, 3, 10631, 0), (24, .invokevirtual 197, 3, 4677, 0), (27, .istore 4, 2, 0, 0), (29, .aload_n 0, 1, 0, 0), (30, .bipush 40, 2, 0, 40), (32, .invokevirtual 201, 3, 4709, 0), (35, .istore 5, 2, 0, 0), (37, .iload_n 3, 1, 0, 0), (38, .ifCond .ne 27, 3, 65, 0), (41, .iload 4, 2, 0, 0), (43, .ifCond .ne 22, 3, 65, 0), (46, .iload 5, 2, 0, 0), (48, .ifCond .ne 17, 3, 65, 0), (51, .aload_n 0, 1, 0, 0), (52, .getfield 166, 3, 2584, 0), (55, .iconst 2, 1, 0, 2), (56, .if_icmp .eq 9, 3, 65, 0), (59, .aload_n 0, 1, 0, 0), (60, .iconst 1, 1, 0, 1), (61, .invokevirtual 205, 3, 4741, 0), (64, .ireturn, 1, 0, 0), (65, .iload_n 1, 1, 0, 0), (66, .iconst 5, 1, 0, 5), (67, .if_icmp .ne 9, 3, 76, 0), (70, .aload_n 0, 1, 0, 0), (71, .iconst 5, 1, 0, 5), (72, .invokevirtual 205, 3, 4741, 0), (75, .ireturn, 1, 0, 0), (76, .iload 4, 2, 0, 0), (78, .ifCond .ne 8, 3, 86, 0), (81, .iload 5, 2, 0, 0), (83, .ifCond .eq 48, 3, 131, 0), (86, .aload_n 0, 1, 0, 0), (87, .iload 4, 2, 0, 0), (89, .ifCond .eq 8, 3, 97, 0), (92, .bipush 30, 2, 0, 30), (94, .goto 5, 3, 99, 0), (97, .bipush 28, 2, 0, 28), (99, .invokevirtual 208, 3, 4772, 0), (102, .iinc 1 1, 3, 0, 1), (105, .aload_n 0, 1, 0, 0), (106, .getfield 47, 3, 2651, 0), (109, .iload_n 1, 1, 0, 0), (110, .iload 4, 2, 0, 0), (112, .ifCond .eq 7, 3, 119, 0), (115, .iconst 1, 1, 0, 1), (116, .goto 4, 3, 120, 0), (119, .iconst 2, 1, 0, 2), (120, .iastore, 1, 0, 0), (121, .aload_n 0, 1, 0, 0), (122, .getfield 50, 3, 2655, 0), (125, .iload_n 1, 1, 0, 0), (126, .iconst 0, 1, 0, 0), (127, .bastore, 1, 0, 0), (128, .goto 44, 3, 172, 0), (131, .aload_n 0, 1, 0, 0), (132, .iload_n 3, 1, 0, 0), (133, .ifCond .le 7, 3, 140, 0), (136, .iload_n 3, 1, 0, 0), (137, .goto 10, 3, 147, 0), (140, .bipush 100, 2, 0, 100), (142, .aload_n 0, 1, 0, 0), (143, .getfield 163, 3, 2592, 0), (146, .iadd, 1, 0, 0), (147, .invokevirtual 208, 3, 4772, 0), (150, .iconst 0, 1, 0, 0), (151, .istore_n 2, 1, 0, 0), (152, .iload_n 1, 1, 0, 0), (153, .ifCond .le 19, 3, 172, 0), (156, .aload_n 0, 1, 0, 0), (157, .getfield 47, 3, 2651, 0), (160, .iload_n 1, 1, 0, 0), (161, .iaload, 1, 0, 0), (162, .iconst 1, 1, 0, 1), (163, .if_icmp .ne 9, 3, 172, 0), (166, .iinc 1 (-1), 3, 0, (-1)), (169, .goto (-17), 3, 152, 0), (172, .aload_n 0, 1, 0, 0), (173, .invokevirtual 212, 3, 4642, 0), (176, .goto (-165), 3, 11, 0), (179, .aload_n 0, 1, 0, 0), (180, .bipush 43, 2, 0, 43), (182, .invokevirtual 201, 3, 4709, 0), (185, .ifCond .ne 21, 3, 206, 0), (188, .aload_n 0, 1, 0, 0), (189, .bipush 45, 2, 0, 45), (191, .invokevirtual 201, 3, 4709, 0), (194, .ifCond .ne 12, 3, 206, 0), (197, .aload_n 0, 1, 0, 0), (198, .bipush 42, 2, 0, 42), (200, .invokevirtual 201, 3, 4709, 0), (203, .ifCond .eq 42, 3, 245, 0), (206, .aload_n 0, 1, 0, 0), (207, .aload_n 0, 1, 0, 0), (208, .bipush 43, 2, 0, 43), (210, .invokevirtual 201, 3, 4709, 0), (213, .ifCond .eq 8, 3, 221, 0), (216, .bipush 20, 2, 0, 20), (218, .goto 19, 3, 237, 0), (221, .aload_n 0, 1, 0, 0), (222, .bipush 45, 2, 0, 45), (224, .invokevirtual 201, 3, 4709, 0), (227, .ifCond .eq 8, 3, 235, 0), (230, .bipush 21, 2, 0, 21), (232, .goto 5, 3, 237, 0), (235, .bipush 22, 2, 0, 22), (237, .invokevirtual 208, 3, 4772, 0), (240, .iconst 1, 1, 0, 1), (241, .istore_n 2, 1, 0, 0), (242, .goto 182, 3, 424, 0), (245, .aload_n 0, 1, 0, 0), (246, .bipush 60, 2, 0, 60), (248, .invokevirtual 201, 3, 4709, 0), (251, .ifCond .ne 12, 3, 263, 0), (254, .aload_n 0, 1, 0, 0), (255, .bipush 61, 2, 0, 61), (257, .invokevirtual 201, 3, 4709, 0), (260, .ifCond .eq 44, 3, 304, 0), (263, .aload_n 0, 1, 0, 0), (264, .getfield 50, 3, 2655, 0), (267, .iload_n 1, 1, 0, 0), (268, .baload, 1, 0, 0), (269, .ifCond .ne 35, 3, 304, 0), (272, .aload_n 0, 1, 0, 0), (273, .aload_n 0, 1, 0, 0), (274, .bipush 60, 2, 0, 60), (276, .invokevirtual 201, 3, 4709, 0), (279, .ifCond .eq 8, 3, 287, 0), (282, .bipush 24, 2, 0, 24), (284, .goto 5, 3, 289, 0), (287, .bipush 25, 2, 0, 25), (289, .invokevirtual 208, 3, 4772, 0), (292, .aload_n 0, 1, 0, 0), (293, .getfield 50, 3, 2655, 0), (296, .iload_n 1, 1, 0, 0), (297, .iconst 1, 1, 0, 1), (298, .bastore, 1, 0, 0), (299, .iconst 1, 1, 0, 1), (300, .istore_n 2, 1, 0, 0), (301, .goto 123, 3, 424, 0), (304, .aload_n 0, 1, 0, 0), (305, .ldc2_w 215, 3, 1111, 0), (308, .invokevirtual 197, 3, 4677, 0), (311, .ifCond .ne 13, 3, 324, 0), (314, .aload_n 0, 1, 0, 0), (315, .ldc2_w 217, 3, 423, 0), (318, .invokevirtual 197, 3, 4677, 0), (321, .ifCond .eq 36, 3, 357, 0), (324, .aload_n 0, 1, 0, 0), (325, .aload_n 0, 1, 0, 0), (326, .ldc2_w 215, 3, 1111, 0), (329, .invokevirtual 197, 3, 4677, 0), (332, .ifCond .eq 8, 3, 340, 0), (335, .bipush 26, 2, 0, 26), (337, .goto 5, 3, 342, 0), (340, .bipush 27, 2, 0, 27), (342, .invokevirtual 208, 3, 4772, 0), (345, .aload_n 0, 1, 0, 0), (346, .getfield 50, 3, 2655, 0), (349, .iload_n 1, 1, 0, 0), (350, .iconst 0, 1, 0, 0), (351, .bastore, 1, 0, 0), (352, .iconst 1, 1, 0, 1), (353, .istore_n 2, 1, 0, 0), (354, .goto 70, 3, 424, 0), (357, .aload_n 0, 1, 0, 0), (358, .bipush 41, 2, 0, 41), (360, .invokevirtual 201, 3, 4709, 0), (363, .ifCond .eq 36, 3, 399, 0), (366, .iload_n 1, 1, 0, 0), (367, .ifCond .le 32, 3, 399, 0), (370, .aload_n 0, 1, 0, 0), (371, .bipush 29, 2, 0, 29), (373, .invokevirtual 208, 3, 4772, 0), (376, .iinc 1 (-1), 3, 0, (-1)), (379, .iload_n 1, 1, 0, 0), (380, .ifCond .le 44, 3, 424, 0), (383, .aload_n 0, 1, 0, 0), (384, .getfield 47, 3, 2651, 0), (387, .iload_n 1, 1, 0, 0), (388, .iaload, 1, 0, 0), (389, .iconst 1, 1, 0, 1), (390, .if_icmp .ne 34, 3, 424, 0), (393, .iinc 1 (-1), 3, 0, (-1)), (396, .goto (-17), 3, 379, 0), (399, .iload_n 1, 1, 0, 0), (400, .ifCond .ne 18, 3, 418, 0), (403, .aload_n 0, 1, 0, 0), (404, .bipush 59, 2, 0, 59), (406, .invokevirtual 201, 3, 4709, 0), (409, .ifCond .eq 9, 3, 418, 0), (412, .aload_n 0, 1, 0, 0), (413, .invokevirtual 212, 3, 4642, 0), (416, .iconst 1, 1, 0, 1), (417, .ireturn, 1, 0, 0), (418, .aload_n 0, 1, 0, 0), (419, .iconst 1, 1, 0, 1), (420, .invokevirtual 205, 3, 4741, 0), (423, .ireturn, 1, 0, 0), (424, .aload_n 0, 1, 0, 0), (425, .invokevirtual 212, 3, 4642, 0), (428, .goto (-417), 3, 11, 0)]
def pg_X10_reads : ur_P := (pr_X10_reads, fun _ => ([], 0), 6, 1, 10)
abbrev kX_X10_reads : Nat := 151
def pr_X10_opens : List ur_E := [(0, .aload_n 0, 1, 0, 0), (1, .getfield 57, 3, 2663, 0), (4, .iload_n 1, 1, 0, 0), (5, .iconst 0, 1, 0, 0), (6, .iastore, 1, 0, 0), (7, .aload_n 0, 1, 0, 0), (8, .getfield 63, 3, 2671, 0), (11, .iload_n 1, 1, 0, 0), (12, .iconst 0, 1, 0, 0), (13, .iastore, 1, 0, 0), (14, .aload_n 0, 1, 0, 0), (15, .getfield 66, 3, 2675, 0), (18, .iload_n 1, 1, 0, 0), (19, .iconst 0, 1, 0, 0), (20, .iastore, 1, 0, 0), (21, .aload_n 0, 1, 0, 0), (22, .getfield 69, 3, 2679, 0), (25, .iload_n 1, 1, 0, 0), (26, .bipush 20, 2, 0, 20), (28, .iastore, 1, 0, 0), (29, .aload_n 0, 1, 0, 0), (30, .getfield 75, 3, 2687, 0), (33, .iload_n 1, 1, 0, 0), (34, .iconst 0, 1, 0, 0), (35, .iastore, 1, 0, 0), (36, .return_, 1, 0, 0)]
def pg_X10_opens : ur_P := (pr_X10_opens, fun _ => ([], 0), 2, 0, 10)
abbrev kX_X10_opens : Nat := 152
def pr_X10_sums : List ur_E := [(0, .aload_n 0, 1, 0, 0), (1, .getfield 66, 3, 2675, 0), (4, .iload_n 1, 1, 0, 0), (5, .aload_n 0, 1, 0, 0), (6, .getfield 69, 3, 2679, 0), (9, .iload_n 1, 1, 0, 0), (10, .iaload, 1, 0, 0), (11, .bipush 21, 2, 0, 21), (13, .if_icmp .ne 19, 3, 32, 0), (16, .aload_n 0, 1, 0, 0), (17, .getfield 66, 3, 2675, 0), (20, .iload_n 1, 1, 0, 0), (21, .iaload, 1, 0, 0), (22, .aload_n 0, 1, 0, 0), (23, .getfield 72, 3, 2683, 0), (26, .iload_n 1, 1, 0, 0), (27, .iaload, 1, 0, 0), (28, .isub, 1, 0, 0), (29, .goto 16, 3, 45, 0), (32, .aload_n 0, 1, 0, 0), (33, .getfield 66, 3, 2675, 0), (36, .iload_n 1, 1, 0, 0), (37, .iaload, 1, 0, 0), (38, .aload_n 0, 1, 0, 0), (39, .getfield 72, 3, 2683, 0), (42, .iload_n 1, 1, 0, 0), (43, .iaload, 1, 0, 0), (44, .iadd, 1, 0, 0), (45, .iastore, 1, 0, 0), (46, .aload_n 0, 1, 0, 0), (47, .getfield 75, 3, 2687, 0), (50, .iload_n 1, 1, 0, 0), (51, .iconst 0, 1, 0, 0), (52, .iastore, 1, 0, 0), (53, .return_, 1, 0, 0)]
def pg_X10_sums : ur_P := (pr_X10_sums, fun _ => ([], 0), 2, 0, 10)
abbrev kX_X10_sums : Nat := 153
def pr_X10_tests : List ur_E := [(0, .aload_n 0, 1, 0, 0), (1, .iload_n 1, 1, 0, 0), (2, .invokevirtual 219, 3, 4900, 0), (5, .aload_n 0, 1, 0, 0), (6, .getfield 66, 3, 2675, 0), (9, .iload_n 1, 1, 0, 0), (10, .iaload, 1, 0, 0), (11, .istore_n 2, 1, 0, 0), (12, .aload_n 0, 1, 0, 0), (13, .getfield 63, 3, 2671, 0), (16, .iload_n 1, 1, 0, 0), (17, .iaload, 1, 0, 0), (18, .bipush 24, 2, 0, 24), (20, .if_icmp .ne 24, 3, 44, 0), (23, .aload_n 0, 1, 0, 0), (24, .getfield 60, 3, 2667, 0), (27, .iload_n 1, 1, 0, 0), (28, .iaload, 1, 0, 0), (29, .aload_n 0, 1, 0, 0), (30, .getfield 66, 3, 2675, 0), (33, .iload_n 1, 1, 0, 0), (34, .iaload, 1, 0, 0), (35, .if_icmp .ge 7, 3, 42, 0), (38, .iconst 1, 1, 0, 1), (39, .goto 4, 3, 43, 0), (42, .iconst 0, 1, 0, 0), (43, .istore_n 2, 1, 0, 0), (44, .aload_n 0, 1, 0, 0), (45, .getfield 63, 3, 2671, 0), (48, .iload_n 1, 1, 0, 0), (49, .iaload, 1, 0, 0), (50, .bipush 25, 2, 0, 25), (52, .if_icmp .ne 24, 3, 76, 0), (55, .aload_n 0, 1, 0, 0), (56, .getfield 60, 3, 2667, 0), (59, .iload_n 1, 1, 0, 0), (60, .iaload, 1, 0, 0), (61, .aload_n 0, 1, 0, 0), (62, .getfield 66, 3, 2675, 0), (65, .iload_n 1, 1, 0, 0), (66, .iaload, 1, 0, 0), (67, .if_icmp .ne 7, 3, 74, 0), (70, .iconst 1, 1, 0, 1), (71, .goto 4, 3, 75, 0), (74, .iconst 0, 1, 0, 0), (75, .istore_n 2, 1, 0, 0), (76, .aload_n 0, 1, 0, 0), (77, .getfield 57, 3, 2663, 0), (80, .iload_n 1, 1, 0, 0), (81, .iaload, 1, 0, 0), (82, .bipush 26, 2, 0, 26), (84, .if_icmp .ne 22, 3, 106, 0), (87, .aload_n 0, 1, 0, 0), (88, .getfield 54, 3, 2659, 0), (91, .iload_n 1, 1, 0, 0), (92, .iaload, 1, 0, 0), (93, .ifCond .eq 11, 3, 104, 0), (96, .iload_n 2, 1, 0, 0), (97, .ifCond .eq 7, 3, 104, 0), (100, .iconst 1, 1, 0, 1), (101, .goto 4, 3, 105, 0), (104, .iconst 0, 1, 0, 0), (105, .istore_n 2, 1, 0, 0), (106, .aload_n 0, 1, 0, 0), (107, .getfield 57, 3, 2663, 0), (110, .iload_n 1, 1, 0, 0), (111, .iaload, 1, 0, 0), (112, .bipush 27, 2, 0, 27), (114, .if_icmp .ne 22, 3, 136, 0), (117, .aload_n 0, 1, 0, 0), (118, .getfield 54, 3, 2659, 0), (121, .iload_n 1, 1, 0, 0), (122, .iaload, 1, 0, 0), (123, .ifCond .ne 7, 3, 130, 0), (126, .iload_n 2, 1, 0, 0), (127, .ifCond .eq 7, 3, 134, 0), (130, .iconst 1, 1, 0, 1), (131, .goto 4, 3, 135, 0), (134, .iconst 0, 1, 0, 0), (135, .istore_n 2, 1, 0, 0), (136, .aload_n 0, 1, 0, 0), (137, .getfield 54, 3, 2659, 0), (140, .iload_n 1, 1, 0, 0), (141, .iload_n 2, 1, 0, 0), (142, .iastore, 1, 0, 0), (143, .aload_n 0, 1, 0, 0), (144, .getfield 63, 3, 2671, 0), (147, .iload_n 1, 1, 0, 0), (148, .iconst 0, 1, 0, 0), (149, .iastore, 1, 0, 0), (150, .aload_n 0, 1, 0, 0), (151, .getfield 66, 3, 2675, 0), (154, .iload_n 1, 1, 0, 0), (155, .iconst 0, 1, 0, 0), (156, .iastore, 1, 0, 0), (157, .aload_n 0, 1, 0, 0), (158, .getfield 69, 3, 2679, 0), (161, .iload_n 1, 1, 0, 0), (162, .bipush 20, 2, 0, 20), (164, .iastore, 1, 0, 0), (165, .return_, 1, 0, 0)]
def pg_X10_tests : ur_P := (pr_X10_tests, fun _ => ([], 0), 3, 0, 10)
abbrev kX_X10_tests : Nat := 154
def pr_X10_worked : List ur_E := [(0, .iconst 0, 1, 0, 0), (1, .istore_n 2, 1, 0, 0), (2, .aload_n 0, 1, 0, 0), (3, .iconst 0, 1, 0, 0), (4, .invokevirtual 222, 3, 4868, 0), (7, .aload_n 0, 1, 0, 0), (8, .getfield 38, 3, 2635, 0), (11, .iload_n 1, 1, 0, 0), (12, .iaload, 1, 0, 0), (13, .istore_n 3, 1, 0, 0), (14, .iload_n 3, 1, 0, 0), (15, .aload_n 0, 1, 0, 0), (16, .getfield 41, 3, 2639, 0), (19, .iload_n 1, 1, 0, 0), (20, .iaload, 1, 0, 0), (21, .if_icmp .ge 314, 3, 335, 0), (24, .aload_n 0, 1, 0, 0), (25, .getfield 44, 3, 2643, 0), (28, .iload_n 3, 1, 0, 0), (29, .iaload, 1, 0, 0), (30, .istore 4, 2, 0, 0), (32, .iload 4, 2, 0, 0), (34, .bipush 28, 2, 0, 28), (36, .if_icmp .eq 10, 3, 46, 0), (39, .iload 4, 2, 0, 0), (41, .bipush 30, 2, 0, 30), (43, .if_icmp .ne 32, 3, 75, 0), (46, .iinc 2 1, 3, 0, 1), (49, .aload_n 0, 1, 0, 0), (50, .getfield 78, 3, 2691, 0), (53, .iload_n 2, 1, 0, 0), (54, .iload 4, 2, 0, 0), (56, .bipush 30, 2, 0, 30), (58, .if_icmp .ne 7, 3, 65, 0), (61, .iconst 1, 1, 0, 1), (62, .goto 4, 3, 66, 0), (65, .iconst 0, 1, 0, 0), (66, .iastore, 1, 0, 0), (67, .aload_n 0, 1, 0, 0), (68, .iload_n 2, 1, 0, 0), (69, .invokevirtual 222, 3, 4868, 0), (72, .goto 257, 3, 329, 0), (75, .iload 4, 2, 0, 0), (77, .bipush 20, 2, 0, 20), (79, .if_icmp .eq 10, 3, 89, 0), (82, .iload 4, 2, 0, 0), (84, .bipush 21, 2, 0, 21), (86, .if_icmp .ne 19, 3, 105, 0), (89, .aload_n 0, 1, 0, 0), (90, .iload_n 2, 1, 0, 0), (91, .invokevirtual 219, 3, 4900, 0), (94, .aload_n 0, 1, 0, 0), (95, .getfield 69, 3, 2679, 0), (98, .iload_n 2, 1, 0, 0), (99, .iload 4, 2, 0, 0), (101, .iastore, 1, 0, 0), (102, .goto 227, 3, 329, 0), (105, .iload 4, 2, 0, 0), (107, .bipush 22, 2, 0, 22), (109, .if_icmp .ne 14, 3, 123, 0), (112, .aload_n 0, 1, 0, 0), (113, .getfield 75, 3, 2687, 0), (116, .iload_n 2, 1, 0, 0), (117, .iload 4, 2, 0, 0), (119, .iastore, 1, 0, 0), (120, .goto 209, 3, 329, 0), (123, .iload 4, 2, 0, 0), (125, .bipush 24, 2, 0, 24), (127, .if_icmp .eq 10, 3, 137, 0), (130, .iload 4, 2, 0, 0), (132, .bipush 25, 2, 0, 25), (134, .if_icmp .ne 46, 3, 180, 0), (137, .aload_n 0, 1, 0, 0), (138, .iload_n 2, 1, 0, 0), (139, .invokevirtual 219, 3, 4900, 0), (142, .aload_n 0, 1, 0, 0), (143, .getfield 60, 3, 2667, 0), (146, .iload_n 2, 1, 0, 0), (147, .aload_n 0, 1, 0, 0), (148, .getfield 66, 3, 2675, 0), (151, .iload_n 2, 1, 0, 0), (152, .iaload, 1, 0, 0), (153, .iastore, 1, 0, 0), (154, .aload_n 0, 1, 0, 0), (155, .getfield 63, 3, 2671, 0), (158, .iload_n 2, 1, 0, 0), (159, .iload 4, 2, 0, 0), (161, .iastore, 1, 0, 0), (162, .aload_n 0, 1, 0, 0), (163, .getfield 66, 3, 2675, 0), (166, .iload_n 2, 1, 0, 0), (167, .iconst 0, 1, 0, 0), (168, .iastore, 1, 0, 0), (169, .aload_n 0, 1, 0, 0), (170, .getfield 69, 3, 2679, 0), (173, .iload_n 2, 1, 0, 0), (174, .bipush 20, 2, 0, 20), (176, .iastore, 1, 0, 0), (177, .goto 152, 3, 329, 0), (180, .iload 4, 2, 0, 0), (182, .bipush 26, 2, 0, 26), (184, .if_icmp .eq 10, 3, 194, 0), (187, .iload 4, 2, 0, 0), (189, .bipush 27, 2, 0, 27), (191, .if_icmp .ne 19, 3, 210, 0), (194, .aload_n 0, 1, 0, 0), (195, .iload_n 2, 1, 0, 0), (196, .invokevirtual 225, 3, 4932, 0), (199, .aload_n 0, 1, 0, 0), (200, .getfield 57, 3, 2663, 0), (203, .iload_n 2, 1, 0, 0), (204, .iload 4, 2, 0, 0), (206, .iastore, 1, 0, 0), (207, .goto 122, 3, 329, 0), (210, .iload 4, 2, 0, 0), (212, .bipush 100, 2, 0, 100), (214, .if_icmp .lt 11, 3, 225, 0), (217, .iload 4, 2, 0, 0), (219, .bipush 100, 2, 0, 100), (221, .isub, 1, 0, 0), (222, .goto 21, 3, 243, 0), (225, .iload 4, 2, 0, 0), (227, .bipush 20, 2, 0, 20), (229, .if_icmp .ge 13, 3, 242, 0), (232, .aload_n 0, 1, 0, 0), (233, .getfield 81, 3, 2695, 0), (236, .iload 4, 2, 0, 0), (238, .iaload, 1, 0, 0), (239, .goto 4, 3, 243, 0), (242, .iconst 0, 1, 0, 0), (243, .istore 5, 2, 0, 0), (245, .iload 4, 2, 0, 0), (247, .bipush 29, 2, 0, 29), (249, .if_icmp .ne 19, 3, 268, 0), (252, .aload_n 0, 1, 0, 0), (253, .iload_n 2, 1, 0, 0), (254, .invokevirtual 225, 3, 4932, 0), (257, .aload_n 0, 1, 0, 0), (258, .getfield 54, 3, 2659, 0), (261, .iload_n 2, 1, 0, 0), (262, .iaload, 1, 0, 0), (263, .istore 5, 2, 0, 0), (265, .iinc 2 (-1), 3, 0, (-1)), (268, .iload_n 2, 1, 0, 0), (269, .ifCond .le 31, 3, 300, 0), (272, .aload_n 0, 1, 0, 0), (273, .getfield 78, 3, 2691, 0), (276, .iload_n 2, 1, 0, 0), (277, .iaload, 1, 0, 0), (278, .iconst 1, 1, 0, 1), (279, .if_icmp .ne 21, 3, 300, 0), (282, .iload 5, 2, 0, 0), (284, .ifCond .ne 7, 3, 291, 0), (287, .iconst 1, 1, 0, 1), (288, .goto 4, 3, 292, 0), (291, .iconst 0, 1, 0, 0), (292, .istore 5, 2, 0, 0), (294, .iinc 2 (-1), 3, 0, (-1)), (297, .goto (-29), 3, 268, 0), (300, .aload_n 0, 1, 0, 0), (301, .getfield 72, 3, 2683, 0), (304, .iload_n 2, 1, 0, 0), (305, .aload_n 0, 1, 0, 0), (306, .getfield 75, 3, 2687, 0), (309, .iload_n 2, 1, 0, 0), (310, .iaload, 1, 0, 0), (311, .ifCond .ne 8, 3, 319, 0), (314, .iload 5, 2, 0, 0), (316, .goto 12, 3, 328, 0), (319, .aload_n 0, 1, 0, 0), (320, .getfield 72, 3, 2683, 0), (323, .iload_n 2, 1, 0, 0), (324, .iaload, 1, 0, 0), (325, .iload 5, 2, 0, 0), (327, .imul, 1, 0, 0), (328, .iastore, 1, 0, 0), (329, .iinc 3 1, 3, 0, 1), (332, .goto (-318), 3, 14, 0), (335, .aload_n 0, 1, 0, 0), (336, .iconst 0, 1, 0, 0), (337, .invokevirtual 225, 3, 4932, 0), (340, .aload_n 0, 1, 0, 0), (341, .getfield 54, 3, 2659, 0), (344, .iconst 0, 1, 0, 0), (345, .iaload, 1, 0, 0), (346, .ireturn, 1, 0, 0)]
def pg_X10_worked : ur_P := (pr_X10_worked, fun _ => ([], 0), 6, 0, 10)
abbrev kX_X10_worked : Nat := 155
def pr_X10_isKept : List ur_E := [(0, .aload_n 0, 1, 0, 0), (1, .getfield 166, 3, 2584, 0), (4, .iconst 1, 1, 0, 1), (5, .if_icmp .eq 5, 3, 10, 0), (8, .iconst 1, 1, 0, 1), (9, .ireturn, 1, 0, 0), (10, .aload_n 0, 1, 0, 0), (11, .getfield 159, 3, 2590, 0), (14, .ldc2_w 228, 3, 365647, 0), (17, .lcmp, 1, 0, 0), (18, .ifCond .eq 212, 3, 230, 0), (21, .aload_n 0, 1, 0, 0), (22, .getfield 159, 3, 2590, 0), (25, .ldc2_w 230, 3, 309142174, 0), (28, .lcmp, 1, 0, 0), (29, .ifCond .eq 201, 3, 230, 0), (32, .aload_n 0, 1, 0, 0), (33, .getfield 159, 3, 2590, 0), (36, .ldc2_w 232, 3, 4555648, 0), (39, .lcmp, 1, 0, 0), (40, .ifCond .eq 190, 3, 230, 0), (43, .aload_n 0, 1, 0, 0), (44, .getfield 159, 3, 2590, 0), (47, .ldc2_w 234, 3, 90090, 0), (50, .lcmp, 1, 0, 0), (51, .ifCond .eq 179, 3, 230, 0), (54, .aload_n 0, 1, 0, 0), (55, .getfield 159, 3, 2590, 0), (58, .ldc2_w 236, 3, 232608281, 0), (61, .lcmp, 1, 0, 0), (62, .ifCond .eq 168, 3, 230, 0), (65, .aload_n 0, 1, 0, 0), (66, .getfield 159, 3, 2590, 0), (69, .ldc2_w 238, 3, 923, 0), (72, .lcmp, 1, 0, 0), (73, .ifCond .eq 157, 3, 230, 0), (76, .aload_n 0, 1, 0, 0), (77, .getfield 159, 3, 2590, 0), (80, .ldc2_w 240, 3, 257, 0), (83, .lcmp, 1, 0, 0), (84, .ifCond .eq 146, 3, 230, 0), (87, .aload_n 0, 1, 0, 0), (88, .getfield 159, 3, 2590, 0), (91, .ldc2_w 242, 3, 10492462, 0), (94, .lcmp, 1, 0, 0), (95, .ifCond .eq 135, 3, 230, 0), (98, .aload_n 0, 1, 0, 0), (99, .getfield 159, 3, 2590, 0), (102, .ldc2_w 244, 3, 453773, 0), (105, .lcmp, 1, 0, 0), (106, .ifCond .eq 124, 3, 230, 0), (109, .aload_n 0, 1, 0, 0), (110, .getfield 159, 3, 2590, 0), (113, .ldc2_w 246, 3, 380237, 0), (116, .lcmp, 1, 0, 0), (117, .ifCond .eq 113, 3, 230, 0), (120, .aload_n 0, 1, 0, 0), (121, .getfield 159, 3, 2590, 0), (124, .ldc2_w 248, 3, 10415990, 0), (127, .lcmp, 1, 0, 0), (128, .ifCond .eq 102, 3, 230, 0), (131, .aload_n 0, 1, 0, 0), (132, .getfield 159, 3, 2590, 0), (135, .ldc2_w 250, 3, 55175, 0), (138, .lcmp, 1, 0, 0), (139, .ifCond .eq 91, 3, 230, 0), (142, .aload_n 0, 1, 0, 0), (143, .getfield 159, 3, 2590, 0), (146, .ldc2_w 252, 3, 191610176, 0), (149, .lcmp, 1, 0, 0), (150, .ifCond .eq 80, 3, 230, 0), (153, .aload_n 0, 1, 0, 0), (154, .getfield 159, 3, 2590, 0), (157, .ldc2_w 254, 3, 4137608, 0), (160, .lcmp, 1, 0, 0), (161, .ifCond .eq 69, 3, 230, 0), (164, .aload_n 0, 1, 0, 0), (165, .getfield 159, 3, 2590, 0), (168, .ldc2_w 256, 3, 459437, 0), (171, .lcmp, 1, 0, 0), (172, .ifCond .eq 58, 3, 230, 0), (175, .aload_n 0, 1, 0, 0), (176, .getfield 159, 3, 2590, 0), (179, .ldc2_w 258, 3, 1758676, 0), (182, .lcmp, 1, 0, 0), (183, .ifCond .eq 47, 3, 230, 0), (186, .aload_n 0, 1, 0, 0), (187, .getfield 159, 3, 2590, 0), (190, .ldc2_w 260, 3, 287991491, 0), (193, .lcmp, 1, 0, 0), (194, .ifCond .eq 36, 3, 230, 0), (197, .aload_n 0, 1, 0, 0), (198, .getfield 159, 3, 2590, 0), (201, .ldc2_w 195, 3, 10631, 0), (204, .lcmp, 1, 0, 0), (205, .ifCond .eq 25, 3, 230, 0), (208, .aload_n 0, 1, 0, 0), (209, .getfield 159, 3, 2590, 0), (212, .ldc2_w 215, 3, 1111, 0), (215, .lcmp, 1, 0, 0), (216, .ifCond .eq 14, 3, 230, 0), (219, .aload_n 0, 1, 0, 0), (220, .getfield 159, 3, 2590, 0), (223, .ldc2_w 217, 3, 423, 0), (226, .lcmp, 1, 0, 0), (227, .ifCond .ne 7, 3, 234, 0), (230, .iconst 1, 1, 0, 1), (231, .goto 4, 3, 235, 0), (234, .iconst 0, 1, 0, 0), (235, .ireturn, 1, 0, 0)]
def pg_X10_isKept : ur_P := (pr_X10_isKept, fun _ => ([], 0), 1, 1, 10)
abbrev kX_X10_isKept : Nat := 156
def pr_X10_roomNamed : List ur_E := [(0, .bipush 8, 2, 0, 8), (2, .iload_n 1, 1, 0, 0), (3, .imul, 1, 0, 0), (4, .istore_n 2, 1, 0, 0), (5, .iload_n 2, 1, 0, 0), (6, .bipush 8, 2, 0, 8), (8, .iload_n 1, 1, 0, 0), (9, .imul, 1, 0, 0), (10, .aload_n 0, 1, 0, 0), (11, .getfield 13, 3, 2603, 0), (14, .iconst 3, 1, 0, 3), (15, .iload_n 1, 1, 0, 0), (16, .imul, 1, 0, 0), (17, .iconst 0, 1, 0, 0), (18, .iadd, 1, 0, 0), (19, .iaload, 1, 0, 0), (20, .iadd, 1, 0, 0), (21, .if_icmp .ge 30, 3, 51, 0), (24, .aload_n 0, 1, 0, 0), (25, .getfield 16, 3, 2607, 0), (28, .iload_n 2, 1, 0, 0), (29, .laload, 1, 0, 0), (30, .aload_n 0, 1, 0, 0), (31, .getfield 159, 3, 2590, 0), (34, .lcmp, 1, 0, 0), (35, .ifCond .ne 10, 3, 45, 0), (38, .iload_n 2, 1, 0, 0), (39, .bipush 8, 2, 0, 8), (41, .iload_n 1, 1, 0, 0), (42, .imul, 1, 0, 0), (43, .isub, 1, 0, 0), (44, .ireturn, 1, 0, 0), (45, .iinc 2 1, 3, 0, 1), (48, .goto (-43), 3, 5, 0), (51, .iconst (-1), 1, 0, (-1)), (52, .ireturn, 1, 0, 0)]
def pg_X10_roomNamed : ur_P := (pr_X10_roomNamed, fun _ => ([], 0), 3, 0, 10)
abbrev kX_X10_roomNamed : Nat := 157
def pr_X10_personNamed : List ur_E := [(0, .iconst 5, 1, 0, 5), (1, .iload_n 1, 1, 0, 0), (2, .imul, 1, 0, 0), (3, .istore_n 2, 1, 0, 0), (4, .iload_n 2, 1, 0, 0), (5, .iconst 5, 1, 0, 5), (6, .iload_n 1, 1, 0, 0), (7, .imul, 1, 0, 0), (8, .aload_n 0, 1, 0, 0), (9, .getfield 13, 3, 2603, 0), (12, .iconst 3, 1, 0, 3), (13, .iload_n 1, 1, 0, 0), (14, .imul, 1, 0, 0), (15, .iconst 2, 1, 0, 2), (16, .iadd, 1, 0, 0), (17, .iaload, 1, 0, 0), (18, .iadd, 1, 0, 0), (19, .if_icmp .ge 29, 3, 48, 0), (22, .aload_n 0, 1, 0, 0), (23, .getfield 26, 3, 2619, 0), (26, .iload_n 2, 1, 0, 0), (27, .laload, 1, 0, 0), (28, .aload_n 0, 1, 0, 0), (29, .getfield 159, 3, 2590, 0), (32, .lcmp, 1, 0, 0), (33, .ifCond .ne 9, 3, 42, 0), (36, .iload_n 2, 1, 0, 0), (37, .iconst 5, 1, 0, 5), (38, .iload_n 1, 1, 0, 0), (39, .imul, 1, 0, 0), (40, .isub, 1, 0, 0), (41, .ireturn, 1, 0, 0), (42, .iinc 2 1, 3, 0, 1), (45, .goto (-41), 3, 4, 0), (48, .iconst (-1), 1, 0, (-1)), (49, .ireturn, 1, 0, 0)]
def pg_X10_personNamed : ur_P := (pr_X10_personNamed, fun _ => ([], 0), 3, 0, 10)
abbrev kX_X10_personNamed : Nat := 158
def pr_X10_needsBoth : List ur_E := [(0, .aload_n 0, 1, 0, 0), (1, .lload_n 1, 1, 0, 0), (2, .invokevirtual 197, 3, 4677, 0), (5, .ifCond .ne 9, 3, 14, 0), (8, .aload_n 0, 1, 0, 0), (9, .iconst 1, 1, 0, 1), (10, .invokevirtual 205, 3, 4741, 0), (13, .ireturn, 1, 0, 0), (14, .aload_n 0, 1, 0, 0), (15, .invokevirtual 212, 3, 4642, 0), (18, .aload_n 0, 1, 0, 0), (19, .getfield 166, 3, 2584, 0), (22, .iconst 2, 1, 0, 2), (23, .if_icmp .eq 9, 3, 32, 0), (26, .aload_n 0, 1, 0, 0), (27, .iconst 1, 1, 0, 1), (28, .invokevirtual 205, 3, 4741, 0), (31, .ireturn, 1, 0, 0), (32, .aload_n 0, 1, 0, 0), (33, .getfield 163, 3, 2592, 0), (36, .iload_n 3, 1, 0, 0), (37, .iload 4, 2, 0, 0), (39, .invokestatic 262, 3, 4487, 0), (42, .ifCond .ne 9, 3, 51, 0), (45, .aload_n 0, 1, 0, 0), (46, .iconst 4, 1, 0, 4), (47, .invokevirtual 205, 3, 4741, 0), (50, .ireturn, 1, 0, 0), (51, .aload_n 0, 1, 0, 0), (52, .aload_n 0, 1, 0, 0), (53, .getfield 163, 3, 2592, 0), (56, .putfield 266, 3, 2696, 0), (59, .aload_n 0, 1, 0, 0), (60, .invokevirtual 212, 3, 4642, 0), (63, .iconst 1, 1, 0, 1), (64, .ireturn, 1, 0, 0)]
def pg_X10_needsBoth : ur_P := (pr_X10_needsBoth, fun _ => ([], 0), 5, 1, 10)
abbrev kX_X10_needsBoth : Nat := 159
def pr_X10_closes : List ur_E := [(0, .aload_n 0, 1, 0, 0), (1, .bipush 59, 2, 0, 59), (3, .invokevirtual 201, 3, 4709, 0), (6, .ifCond .ne 9, 3, 15, 0), (9, .aload_n 0, 1, 0, 0), (10, .iconst 1, 1, 0, 1), (11, .invokevirtual 205, 3, 4741, 0), (14, .ireturn, 1, 0, 0), (15, .aload_n 0, 1, 0, 0), (16, .invokevirtual 212, 3, 4642, 0), (19, .iconst 1, 1, 0, 1), (20, .ireturn, 1, 0, 0)]
def pg_X10_closes : ur_P := (pr_X10_closes, fun _ => ([], 0), 1, 1, 10)
abbrev kX_X10_closes : Nat := 160
def pr_X10_needsNew : List ur_E := [(0, .aload_n 0, 1, 0, 0), (1, .invokevirtual 269, 3, 4995, 0), (4, .ifCond .eq 9, 3, 13, 0), (7, .aload_n 0, 1, 0, 0), (8, .iconst 1, 1, 0, 1), (9, .invokevirtual 205, 3, 4741, 0), (12, .ireturn, 1, 0, 0), (13, .aload_n 0, 1, 0, 0), (14, .iconst 1, 1, 0, 1), (15, .invokevirtual 273, 3, 5029, 0), (18, .ifCond .ge 11, 3, 29, 0), (21, .aload_n 0, 1, 0, 0), (22, .iconst 1, 1, 0, 1), (23, .invokevirtual 276, 3, 5061, 0), (26, .ifCond .lt 9, 3, 35, 0), (29, .aload_n 0, 1, 0, 0), (30, .iconst 3, 1, 0, 3), (31, .invokevirtual 205, 3, 4741, 0), (34, .ireturn, 1, 0, 0), (35, .aload_n 0, 1, 0, 0), (36, .aload_n 0, 1, 0, 0), (37, .getfield 159, 3, 2590, 0), (40, .putfield 279, 3, 2702, 0), (43, .aload_n 0, 1, 0, 0), (44, .invokevirtual 212, 3, 4642, 0), (47, .iconst 1, 1, 0, 1), (48, .ireturn, 1, 0, 0)]
def pg_X10_needsNew : ur_P := (pr_X10_needsNew, fun _ => ([], 0), 1, 1, 10)
abbrev kX_X10_needsNew : Nat := 161
def pr_X10_needsRoom : List ur_E := [(0, .aload_n 0, 1, 0, 0), (1, .invokevirtual 269, 3, 4995, 0), (4, .ifCond .eq 9, 3, 13, 0), (7, .aload_n 0, 1, 0, 0), (8, .iconst 1, 1, 0, 1), (9, .invokevirtual 205, 3, 4741, 0), (12, .ireturn, 1, 0, 0), (13, .aload_n 0, 1, 0, 0), (14, .aload_n 0, 1, 0, 0), (15, .iload_n 1, 1, 0, 0), (16, .invokevirtual 273, 3, 5029, 0), (19, .putfield 266, 3, 2696, 0), (22, .aload_n 0, 1, 0, 0), (23, .getfield 266, 3, 2696, 0), (26, .ifCond .ge 11, 3, 37, 0), (29, .aload_n 0, 1, 0, 0), (30, .iconst 2, 1, 0, 2), (31, .invokevirtual 205, 3, 4741, 0), (34, .ifCond .eq 7, 3, 41, 0), (37, .iconst 1, 1, 0, 1), (38, .goto 4, 3, 42, 0), (41, .iconst 0, 1, 0, 0), (42, .ireturn, 1, 0, 0)]
def pg_X10_needsRoom : ur_P := (pr_X10_needsRoom, fun _ => ([], 0), 2, 1, 10)
abbrev kX_X10_needsRoom : Nat := 162
def pr_X10_readsRoom : List ur_E := [(0, .bipush 8, 2, 0, 8), (2, .aload_n 0, 1, 0, 0), (3, .getfield 13, 3, 2603, 0), (6, .iconst 3, 1, 0, 3), (7, .iaload, 1, 0, 0), (8, .iadd, 1, 0, 0), (9, .istore_n 2, 1, 0, 0), (10, .iload_n 2, 1, 0, 0), (11, .bipush 16, 2, 0, 16), (13, .if_icmp .ne 9, 3, 22, 0), (16, .aload_n 0, 1, 0, 0), (17, .iconst 5, 1, 0, 5), (18, .invokevirtual 205, 3, 4741, 0), (21, .ireturn, 1, 0, 0), (22, .aload_n 0, 1, 0, 0), (23, .invokevirtual 212, 3, 4642, 0), (26, .aload_n 0, 1, 0, 0), (27, .invokevirtual 282, 3, 5155, 0), (30, .ifCond .ne 5, 3, 35, 0), (33, .iconst 0, 1, 0, 0), (34, .ireturn, 1, 0, 0), (35, .aload_n 0, 1, 0, 0), (36, .iconst 0, 1, 0, 0), (37, .putfield 266, 3, 2696, 0), (40, .iload_n 1, 1, 0, 0), (41, .ifCond .eq 18, 3, 59, 0), (44, .aload_n 0, 1, 0, 0), (45, .ldc2_w 232, 3, 4555648, 0), (48, .iconst 1, 1, 0, 1), (49, .bipush 20, 2, 0, 20), (51, .invokevirtual 285, 3, 5097, 0), (54, .ifCond .ne 5, 3, 59, 0), (57, .iconst 0, 1, 0, 0), (58, .ireturn, 1, 0, 0), (59, .aload_n 0, 1, 0, 0), (60, .getfield 20, 3, 2611, 0), (63, .iload_n 2, 1, 0, 0), (64, .aload_n 0, 1, 0, 0), (65, .getfield 266, 3, 2696, 0), (68, .iastore, 1, 0, 0), (69, .aload_n 0, 1, 0, 0), (70, .getfield 23, 3, 2615, 0), (73, .iload_n 2, 1, 0, 0), (74, .iconst 0, 1, 0, 0), (75, .iastore, 1, 0, 0), (76, .aload_n 0, 1, 0, 0), (77, .getfield 16, 3, 2607, 0), (80, .iload_n 2, 1, 0, 0), (81, .aload_n 0, 1, 0, 0), (82, .getfield 279, 3, 2702, 0), (85, .lastore, 1, 0, 0), (86, .aload_n 0, 1, 0, 0), (87, .getfield 13, 3, 2603, 0), (90, .iconst 3, 1, 0, 3), (91, .dup2, 1, 0, 0), (92, .iaload, 1, 0, 0), (93, .iconst 1, 1, 0, 1), (94, .iadd, 1, 0, 0), (95, .iastore, 1, 0, 0), (96, .aload_n 0, 1, 0, 0), (97, .invokevirtual 289, 3, 5123, 0), (100, .ireturn, 1, 0, 0)]
def pg_X10_readsRoom : ur_P := (pr_X10_readsRoom, fun _ => ([], 0), 3, 1, 10)
abbrev kX_X10_readsRoom : Nat := 163
def pr_X10_readsDoor : List ur_E := [(0, .aload_n 0, 1, 0, 0), (1, .getfield 13, 3, 2603, 0), (4, .iconst 4, 1, 0, 4), (5, .iaload, 1, 0, 0), (6, .bipush 10, 2, 0, 10), (8, .if_icmp .ne 9, 3, 17, 0), (11, .aload_n 0, 1, 0, 0), (12, .iconst 5, 1, 0, 5), (13, .invokevirtual 205, 3, 4741, 0), (16, .ireturn, 1, 0, 0), (17, .aload_n 0, 1, 0, 0), (18, .invokevirtual 212, 3, 4642, 0), (21, .aload_n 0, 1, 0, 0), (22, .iconst 1, 1, 0, 1), (23, .invokevirtual 292, 3, 5189, 0), (26, .ifCond .ne 5, 3, 31, 0), (29, .iconst 0, 1, 0, 0), (30, .ireturn, 1, 0, 0), (31, .bipush 8, 2, 0, 8), (33, .aload_n 0, 1, 0, 0), (34, .getfield 266, 3, 2696, 0), (37, .iadd, 1, 0, 0), (38, .istore_n 1, 1, 0, 0), (39, .aload_n 0, 1, 0, 0), (40, .invokevirtual 212, 3, 4642, 0), (43, .aload_n 0, 1, 0, 0), (44, .iconst 1, 1, 0, 1), (45, .invokevirtual 292, 3, 5189, 0), (48, .ifCond .ne 5, 3, 53, 0), (51, .iconst 0, 1, 0, 0), (52, .ireturn, 1, 0, 0), (53, .bipush 8, 2, 0, 8), (55, .aload_n 0, 1, 0, 0), (56, .getfield 266, 3, 2696, 0), (59, .iadd, 1, 0, 0), (60, .istore_n 2, 1, 0, 0), (61, .iload_n 1, 1, 0, 0), (62, .iload_n 2, 1, 0, 0), (63, .if_icmp .eq 38, 3, 101, 0), (66, .aload_n 0, 1, 0, 0), (67, .getfield 20, 3, 2611, 0), (70, .iload_n 1, 1, 0, 0), (71, .iaload, 1, 0, 0), (72, .ifCond .le 12, 3, 84, 0), (75, .aload_n 0, 1, 0, 0), (76, .getfield 20, 3, 2611, 0), (79, .iload_n 2, 1, 0, 0), (80, .iaload, 1, 0, 0), (81, .ifCond .gt 20, 3, 101, 0), (84, .aload_n 0, 1, 0, 0), (85, .getfield 23, 3, 2615, 0), (88, .iload_n 1, 1, 0, 0), (89, .iaload, 1, 0, 0), (90, .aload_n 0, 1, 0, 0), (91, .getfield 266, 3, 2696, 0), (94, .ishr, 1, 0, 0), (95, .iconst 1, 1, 0, 1), (96, .iand, 1, 0, 0), (97, .iconst 1, 1, 0, 1), (98, .if_icmp .ne 9, 3, 107, 0), (101, .aload_n 0, 1, 0, 0), (102, .iconst 3, 1, 0, 3), (103, .invokevirtual 205, 3, 4741, 0), (106, .ireturn, 1, 0, 0), (107, .aload_n 0, 1, 0, 0), (108, .getfield 23, 3, 2615, 0), (111, .iload_n 1, 1, 0, 0), (112, .dup2, 1, 0, 0), (113, .iaload, 1, 0, 0), (114, .iconst 1, 1, 0, 1), (115, .iload_n 2, 1, 0, 0), (116, .bipush 8, 2, 0, 8), (118, .isub, 1, 0, 0), (119, .ishl, 1, 0, 0), (120, .ior, 1, 0, 0), (121, .iastore, 1, 0, 0), (122, .aload_n 0, 1, 0, 0), (123, .getfield 23, 3, 2615, 0), (126, .iload_n 2, 1, 0, 0), (127, .dup2, 1, 0, 0), (128, .iaload, 1, 0, 0), (129, .iconst 1, 1, 0, 1), (130, .iload_n 1, 1, 0, 0), (131, .bipush 8, 2, 0, 8), (133, .isub, 1, 0, 0), (134, .ishl, 1, 0, 0), (135, .ior, 1, 0, 0), (136, .iastore, 1, 0, 0), (137, .aload_n 0, 1, 0, 0), (138, .getfield 13, 3, 2603, 0), (141, .iconst 4, 1, 0, 4), (142, .dup2, 1, 0, 0), (143, .iaload, 1, 0, 0), (144, .iconst 1, 1, 0, 1), (145, .iadd, 1, 0, 0), (146, .iastore, 1, 0, 0), (147, .aload_n 0, 1, 0, 0), (148, .invokevirtual 212, 3, 4642, 0), (151, .aload_n 0, 1, 0, 0), (152, .invokevirtual 289, 3, 5123, 0), (155, .ireturn, 1, 0, 0)]
def pg_X10_readsDoor : ur_P := (pr_X10_readsDoor, fun _ => ([], 0), 3, 1, 10)
abbrev kX_X10_readsDoor : Nat := 164
def pr_X10_readsPerson : List ur_E := [(0, .iconst 5, 1, 0, 5), (1, .aload_n 0, 1, 0, 0), (2, .getfield 13, 3, 2603, 0), (5, .iconst 5, 1, 0, 5), (6, .iaload, 1, 0, 0), (7, .iadd, 1, 0, 0), (8, .istore_n 1, 1, 0, 0), (9, .iload_n 1, 1, 0, 0), (10, .bipush 10, 2, 0, 10), (12, .if_icmp .ne 9, 3, 21, 0), (15, .aload_n 0, 1, 0, 0), (16, .iconst 5, 1, 0, 5), (17, .invokevirtual 205, 3, 4741, 0), (20, .ireturn, 1, 0, 0), (21, .aload_n 0, 1, 0, 0), (22, .invokevirtual 212, 3, 4642, 0), (25, .aload_n 0, 1, 0, 0), (26, .invokevirtual 282, 3, 5155, 0), (29, .ifCond .ne 5, 3, 34, 0), (32, .iconst 0, 1, 0, 0), (33, .ireturn, 1, 0, 0), (34, .aload_n 0, 1, 0, 0), (35, .getfield 279, 3, 2702, 0), (38, .lstore_n 2, 1, 0, 0), (39, .aload_n 0, 1, 0, 0), (40, .getfield 29, 3, 2623, 0), (43, .iload_n 1, 1, 0, 0), (44, .aload_n 0, 1, 0, 0), (45, .ldc2_w 254, 3, 4137608, 0), (48, .invokevirtual 197, 3, 4677, 0), (51, .ifCond .eq 7, 3, 58, 0), (54, .iconst 0, 1, 0, 0), (55, .goto 46, 3, 101, 0), (58, .aload_n 0, 1, 0, 0), (59, .ldc2_w 256, 3, 459437, 0), (62, .invokevirtual 197, 3, 4677, 0), (65, .ifCond .eq 7, 3, 72, 0), (68, .iconst 1, 1, 0, 1), (69, .goto 32, 3, 101, 0), (72, .aload_n 0, 1, 0, 0), (73, .ldc2_w 258, 3, 1758676, 0), (76, .invokevirtual 197, 3, 4677, 0), (79, .ifCond .eq 7, 3, 86, 0), (82, .iconst 2, 1, 0, 2), (83, .goto 18, 3, 101, 0), (86, .aload_n 0, 1, 0, 0), (87, .ldc2_w 260, 3, 287991491, 0), (90, .invokevirtual 197, 3, 4677, 0), (93, .ifCond .eq 7, 3, 100, 0), (96, .iconst 3, 1, 0, 3), (97, .goto 4, 3, 101, 0), (100, .iconst (-1), 1, 0, (-1)), (101, .iastore, 1, 0, 0), (102, .aload_n 0, 1, 0, 0), (103, .getfield 29, 3, 2623, 0), (106, .iload_n 1, 1, 0, 0), (107, .iaload, 1, 0, 0), (108, .ifCond .ge 9, 3, 117, 0), (111, .aload_n 0, 1, 0, 0), (112, .iconst 1, 1, 0, 1), (113, .invokevirtual 205, 3, 4741, 0), (116, .ireturn, 1, 0, 0), (117, .aload_n 0, 1, 0, 0), (118, .invokevirtual 212, 3, 4642, 0), (121, .aload_n 0, 1, 0, 0), (122, .ldc2_w 238, 3, 923, 0), (125, .iconst 0, 1, 0, 0), (126, .bipush 99, 2, 0, 99), (128, .invokevirtual 285, 3, 5097, 0), (131, .ifCond .ne 5, 3, 136, 0), (134, .iconst 0, 1, 0, 0), (135, .ireturn, 1, 0, 0), (136, .aload_n 0, 1, 0, 0), (137, .getfield 32, 3, 2627, 0), (140, .iload_n 1, 1, 0, 0), (141, .aload_n 0, 1, 0, 0), (142, .getfield 266, 3, 2696, 0), (145, .iastore, 1, 0, 0), (146, .aload_n 0, 1, 0, 0), (147, .ldc2_w 240, 3, 257, 0), (150, .invokevirtual 197, 3, 4677, 0), (153, .ifCond .ne 9, 3, 162, 0), (156, .aload_n 0, 1, 0, 0), (157, .iconst 1, 1, 0, 1), (158, .invokevirtual 205, 3, 4741, 0), (161, .ireturn, 1, 0, 0), (162, .aload_n 0, 1, 0, 0), (163, .invokevirtual 212, 3, 4642, 0), (166, .aload_n 0, 1, 0, 0), (167, .iconst 1, 1, 0, 1), (168, .invokevirtual 292, 3, 5189, 0), (171, .ifCond .ne 5, 3, 176, 0), (174, .iconst 0, 1, 0, 0), (175, .ireturn, 1, 0, 0), (176, .aload_n 0, 1, 0, 0), (177, .getfield 20, 3, 2611, 0), (180, .bipush 8, 2, 0, 8), (182, .aload_n 0, 1, 0, 0), (183, .getfield 266, 3, 2696, 0), (186, .iadd, 1, 0, 0), (187, .iaload, 1, 0, 0), (188, .ifCond .le 9, 3, 197, 0), (191, .aload_n 0, 1, 0, 0), (192, .iconst 2, 1, 0, 2), (193, .invokevirtual 205, 3, 4741, 0), (196, .ireturn, 1, 0, 0), (197, .aload_n 0, 1, 0, 0), (198, .getfield 35, 3, 2631, 0), (201, .iload_n 1, 1, 0, 0), (202, .aload_n 0, 1, 0, 0), (203, .getfield 266, 3, 2696, 0), (206, .iastore, 1, 0, 0), (207, .aload_n 0, 1, 0, 0), (208, .invokevirtual 212, 3, 4642, 0), (211, .aload_n 0, 1, 0, 0), (212, .getfield 26, 3, 2619, 0), (215, .iload_n 1, 1, 0, 0), (216, .lload_n 2, 1, 0, 0), (217, .lastore, 1, 0, 0), (218, .aload_n 0, 1, 0, 0), (219, .getfield 13, 3, 2603, 0), (222, .iconst 5, 1, 0, 5), (223, .dup2, 1, 0, 0), (224, .iaload, 1, 0, 0), (225, .iconst 1, 1, 0, 1), (226, .iadd, 1, 0, 0), (227, .iastore, 1, 0, 0), (228, .aload_n 0, 1, 0, 0), (229, .invokevirtual 289, 3, 5123, 0), (232, .ireturn, 1, 0, 0)]
def pg_X10_readsPerson : ur_P := (pr_X10_readsPerson, fun _ => ([], 0), 4, 1, 10)
abbrev kX_X10_readsPerson : Nat := 165
def pr_X10_readsStays : List ur_E := [(0, .aload_n 0, 1, 0, 0), (1, .getfield 41, 3, 2639, 0), (4, .iconst 1, 1, 0, 1), (5, .iaload, 1, 0, 0), (6, .aload_n 0, 1, 0, 0), (7, .getfield 38, 3, 2635, 0), (10, .iconst 1, 1, 0, 1), (11, .iaload, 1, 0, 0), (12, .if_icmp .le 9, 3, 21, 0), (15, .aload_n 0, 1, 0, 0), (16, .iconst 3, 1, 0, 3), (17, .invokevirtual 205, 3, 4741, 0), (20, .ireturn, 1, 0, 0), (21, .aload_n 0, 1, 0, 0), (22, .invokevirtual 212, 3, 4642, 0), (25, .aload_n 0, 1, 0, 0), (26, .getfield 38, 3, 2635, 0), (29, .iconst 1, 1, 0, 1), (30, .aload_n 0, 1, 0, 0), (31, .getfield 180, 3, 2644, 0), (34, .iastore, 1, 0, 0), (35, .aload_n 0, 1, 0, 0), (36, .invokevirtual 295, 3, 4835, 0), (39, .ifCond .ne 5, 3, 44, 0), (42, .iconst 0, 1, 0, 0), (43, .ireturn, 1, 0, 0), (44, .aload_n 0, 1, 0, 0), (45, .getfield 41, 3, 2639, 0), (48, .iconst 1, 1, 0, 1), (49, .aload_n 0, 1, 0, 0), (50, .getfield 180, 3, 2644, 0), (53, .iastore, 1, 0, 0), (54, .iconst 1, 1, 0, 1), (55, .ireturn, 1, 0, 0)]
def pg_X10_readsStays : ur_P := (pr_X10_readsStays, fun _ => ([], 0), 1, 1, 10)
abbrev kX_X10_readsStays : Nat := 166
def pr_X10_begins : List ur_E := [(0, .aload_n 0, 1, 0, 0), (1, .aload_n 0, 1, 0, 0), (2, .getfield 147, 3, 2564, 0), (5, .putfield 150, 3, 2572, 0), (8, .aload_n 0, 1, 0, 0), (9, .iconst 0, 1, 0, 0), (10, .putfield 147, 3, 2564, 0), (13, .aload_n 0, 1, 0, 0), (14, .iconst 0, 1, 0, 0), (15, .putfield 153, 3, 2576, 0), (18, .aload_n 0, 1, 0, 0), (19, .invokevirtual 212, 3, 4642, 0), (22, .return_, 1, 0, 0)]
def pg_X10_begins : ur_P := (pr_X10_begins, fun _ => ([], 0), 1, 0, 10)
abbrev kX_X10_begins : Nat := 167
def pr_X10_readsAll : List ur_E := [(0, .iconst 0, 1, 0, 0), (1, .istore_n 1, 1, 0, 0), (2, .iload_n 1, 1, 0, 0), (3, .iconst 3, 1, 0, 3), (4, .if_icmp .ge 18, 3, 22, 0), (7, .aload_n 0, 1, 0, 0), (8, .getfield 13, 3, 2603, 0), (11, .iconst 3, 1, 0, 3), (12, .iload_n 1, 1, 0, 0), (13, .iadd, 1, 0, 0), (14, .iconst 0, 1, 0, 0), (15, .iastore, 1, 0, 0), (16, .iinc 1 1, 3, 0, 1), (19, .goto (-17), 3, 2, 0), (22, .aload_n 0, 1, 0, 0), (23, .getfield 38, 3, 2635, 0), (26, .iconst 1, 1, 0, 1), (27, .sipush 1000, 3, 0, 1000), (30, .iastore, 1, 0, 0), (31, .aload_n 0, 1, 0, 0), (32, .getfield 41, 3, 2639, 0), (35, .iconst 1, 1, 0, 1), (36, .sipush 1000, 3, 0, 1000), (39, .iastore, 1, 0, 0), (40, .aload_n 0, 1, 0, 0), (41, .sipush 1000, 3, 0, 1000), (44, .putfield 180, 3, 2644, 0), (47, .aload_n 0, 1, 0, 0), (48, .invokevirtual 298, 3, 5346, 0), (51, .aload_n 0, 1, 0, 0), (52, .getfield 166, 3, 2584, 0), (55, .ifCond .eq 105, 3, 160, 0), (58, .aload_n 0, 1, 0, 0), (59, .ldc2_w 228, 3, 365647, 0), (62, .invokevirtual 197, 3, 4677, 0), (65, .ifCond .eq 11, 3, 76, 0), (68, .aload_n 0, 1, 0, 0), (69, .iconst 0, 1, 0, 0), (70, .invokevirtual 301, 3, 5221, 0), (73, .goto 77, 3, 150, 0), (76, .aload_n 0, 1, 0, 0), (77, .ldc2_w 230, 3, 309142174, 0), (80, .invokevirtual 197, 3, 4677, 0), (83, .ifCond .eq 11, 3, 94, 0), (86, .aload_n 0, 1, 0, 0), (87, .iconst 1, 1, 0, 1), (88, .invokevirtual 301, 3, 5221, 0), (91, .goto 59, 3, 150, 0), (94, .aload_n 0, 1, 0, 0), (95, .ldc2_w 234, 3, 90090, 0), (98, .invokevirtual 197, 3, 4677, 0), (101, .ifCond .eq 10, 3, 111, 0), (104, .aload_n 0, 1, 0, 0), (105, .invokevirtual 305, 3, 5251, 0), (108, .goto 42, 3, 150, 0), (111, .aload_n 0, 1, 0, 0), (112, .ldc2_w 236, 3, 232608281, 0), (115, .invokevirtual 197, 3, 4677, 0), (118, .ifCond .eq 10, 3, 128, 0), (121, .aload_n 0, 1, 0, 0), (122, .invokevirtual 308, 3, 5283, 0), (125, .goto 25, 3, 150, 0), (128, .aload_n 0, 1, 0, 0), (129, .ldc2_w 242, 3, 10492462, 0), (132, .invokevirtual 197, 3, 4677, 0), (135, .ifCond .eq 10, 3, 145, 0), (138, .aload_n 0, 1, 0, 0), (139, .invokevirtual 311, 3, 5315, 0), (142, .goto 8, 3, 150, 0), (145, .aload_n 0, 1, 0, 0), (146, .iconst 1, 1, 0, 1), (147, .invokevirtual 205, 3, 4741, 0), (150, .istore_n 1, 1, 0, 0), (151, .iload_n 1, 1, 0, 0), (152, .ifCond .ne 5, 3, 157, 0), (155, .iconst 0, 1, 0, 0), (156, .ireturn, 1, 0, 0), (157, .goto (-106), 3, 51, 0), (160, .iconst 1, 1, 0, 1), (161, .ireturn, 1, 0, 0)]
def pg_X10_readsAll : ur_P := (pr_X10_readsAll, fun _ => ([], 0), 2, 1, 10)
abbrev kX_X10_readsAll : Nat := 168
def pr_X10_shifts : List ur_E := [(0, .iconst 0, 1, 0, 0), (1, .istore_n 2, 1, 0, 0), (2, .iload_n 2, 1, 0, 0), (3, .iload_n 1, 1, 0, 0), (4, .if_icmp .ge 17, 3, 21, 0), (7, .aload_n 0, 1, 0, 0), (8, .iload_n 2, 1, 0, 0), (9, .aload_n 0, 1, 0, 0), (10, .iload_n 1, 1, 0, 0), (11, .iload_n 2, 1, 0, 0), (12, .iadd, 1, 0, 0), (13, .iaload, 1, 0, 0), (14, .iastore, 1, 0, 0), (15, .iinc 2 1, 3, 0, 1), (18, .goto (-16), 3, 2, 0), (21, .return_, 1, 0, 0)]
def pg_X10_shifts : ur_P := (pr_X10_shifts, fun _ => ([], 0), 3, 0, 30)
abbrev kX_X10_shifts : Nat := 169
def pr_X10_shiftsNames : List ur_E := [(0, .iconst 0, 1, 0, 0), (1, .istore_n 2, 1, 0, 0), (2, .iload_n 2, 1, 0, 0), (3, .iload_n 1, 1, 0, 0), (4, .if_icmp .ge 17, 3, 21, 0), (7, .aload_n 0, 1, 0, 0), (8, .iload_n 2, 1, 0, 0), (9, .aload_n 0, 1, 0, 0), (10, .iload_n 1, 1, 0, 0), (11, .iload_n 2, 1, 0, 0), (12, .iadd, 1, 0, 0), (13, .laload, 1, 0, 0), (14, .lastore, 1, 0, 0), (15, .iinc 2 1, 3, 0, 1), (18, .goto (-16), 3, 2, 0), (21, .return_, 1, 0, 0)]
def pg_X10_shiftsNames : ur_P := (pr_X10_shiftsNames, fun _ => ([], 0), 3, 0, 30)
abbrev kX_X10_shiftsNames : Nat := 170
def pr_X10_lays : List ur_E := [(0, .aload_n 0, 1, 0, 0), (1, .getfield 13, 3, 2603, 0), (4, .iconst 3, 1, 0, 3), (5, .invokestatic 314, 3, 5412, 0), (8, .aload_n 0, 1, 0, 0), (9, .getfield 16, 3, 2607, 0), (12, .bipush 8, 2, 0, 8), (14, .invokestatic 318, 3, 5444, 0), (17, .aload_n 0, 1, 0, 0), (18, .getfield 26, 3, 2619, 0), (21, .iconst 5, 1, 0, 5), (22, .invokestatic 318, 3, 5444, 0), (25, .aload_n 0, 1, 0, 0), (26, .getfield 20, 3, 2611, 0), (29, .bipush 8, 2, 0, 8), (31, .invokestatic 314, 3, 5412, 0), (34, .aload_n 0, 1, 0, 0), (35, .getfield 23, 3, 2615, 0), (38, .bipush 8, 2, 0, 8), (40, .invokestatic 314, 3, 5412, 0), (43, .aload_n 0, 1, 0, 0), (44, .getfield 29, 3, 2623, 0), (47, .iconst 5, 1, 0, 5), (48, .invokestatic 314, 3, 5412, 0), (51, .aload_n 0, 1, 0, 0), (52, .getfield 32, 3, 2627, 0), (55, .iconst 5, 1, 0, 5), (56, .invokestatic 314, 3, 5412, 0), (59, .aload_n 0, 1, 0, 0), (60, .getfield 35, 3, 2631, 0), (63, .iconst 5, 1, 0, 5), (64, .invokestatic 314, 3, 5412, 0), (67, .aload_n 0, 1, 0, 0), (68, .getfield 44, 3, 2643, 0), (71, .sipush 1000, 3, 0, 1000), (74, .invokestatic 314, 3, 5412, 0), (77, .aload_n 0, 1, 0, 0), (78, .getfield 38, 3, 2635, 0), (81, .iconst 0, 1, 0, 0), (82, .aload_n 0, 1, 0, 0), (83, .getfield 38, 3, 2635, 0), (86, .iconst 1, 1, 0, 1), (87, .iaload, 1, 0, 0), (88, .sipush 1000, 3, 0, 1000), (91, .isub, 1, 0, 0), (92, .iastore, 1, 0, 0), (93, .aload_n 0, 1, 0, 0), (94, .getfield 41, 3, 2639, 0), (97, .iconst 0, 1, 0, 0), (98, .aload_n 0, 1, 0, 0), (99, .getfield 41, 3, 2639, 0), (102, .iconst 1, 1, 0, 1), (103, .iaload, 1, 0, 0), (104, .sipush 1000, 3, 0, 1000), (107, .isub, 1, 0, 0), (108, .iastore, 1, 0, 0), (109, .return_, 1, 0, 0)]
def pg_X10_lays : ur_P := (pr_X10_lays, fun _ => ([], 0), 1, 0, 10)
abbrev kX_X10_lays : Nat := 171
def pr_X10_copies : List ur_E := [(0, .iconst 0, 1, 0, 0), (1, .istore 4, 2, 0, 0), (3, .iload 4, 2, 0, 0), (5, .bipush 29, 2, 0, 29), (7, .if_icmp .ge 21, 3, 28, 0), (10, .aload_n 2, 1, 0, 0), (11, .iload_n 3, 1, 0, 0), (12, .iload 4, 2, 0, 0), (14, .iadd, 1, 0, 0), (15, .aload_n 0, 1, 0, 0), (16, .iload_n 1, 1, 0, 0), (17, .iload 4, 2, 0, 0), (19, .iadd, 1, 0, 0), (20, .iaload, 1, 0, 0), (21, .iastore, 1, 0, 0), (22, .iinc 4 1, 3, 0, 1), (25, .goto (-22), 3, 3, 0), (28, .return_, 1, 0, 0)]
def pg_X10_copies : ur_P := (pr_X10_copies, fun _ => ([], 0), 5, 0, 30)
abbrev kX_X10_copies : Nat := 172
def pr_X10_readsLine : List ur_E := [(0, .aload_n 0, 1, 0, 0), (1, .ldc2_w 244, 3, 453773, 0), (4, .invokevirtual 197, 3, 4677, 0), (7, .ifCond .eq 7, 3, 14, 0), (10, .iconst 0, 1, 0, 0), (11, .goto 60, 3, 71, 0), (14, .aload_n 0, 1, 0, 0), (15, .ldc2_w 246, 3, 380237, 0), (18, .invokevirtual 197, 3, 4677, 0), (21, .ifCond .eq 7, 3, 28, 0), (24, .iconst 1, 1, 0, 1), (25, .goto 46, 3, 71, 0), (28, .aload_n 0, 1, 0, 0), (29, .ldc2_w 248, 3, 10415990, 0), (32, .invokevirtual 197, 3, 4677, 0), (35, .ifCond .eq 7, 3, 42, 0), (38, .iconst 2, 1, 0, 2), (39, .goto 32, 3, 71, 0), (42, .aload_n 0, 1, 0, 0), (43, .ldc2_w 250, 3, 55175, 0), (46, .invokevirtual 197, 3, 4677, 0), (49, .ifCond .eq 7, 3, 56, 0), (52, .iconst 3, 1, 0, 3), (53, .goto 18, 3, 71, 0), (56, .aload_n 0, 1, 0, 0), (57, .ldc2_w 252, 3, 191610176, 0), (60, .invokevirtual 197, 3, 4677, 0), (63, .ifCond .eq 7, 3, 70, 0), (66, .iconst 4, 1, 0, 4), (67, .goto 4, 3, 71, 0), (70, .iconst (-1), 1, 0, (-1)), (71, .istore_n 1, 1, 0, 0), (72, .iload_n 1, 1, 0, 0), (73, .ifCond .ge 9, 3, 82, 0), (76, .aload_n 0, 1, 0, 0), (77, .iconst 1, 1, 0, 1), (78, .invokevirtual 205, 3, 4741, 0), (81, .ireturn, 1, 0, 0), (82, .aload_n 0, 1, 0, 0), (83, .getfield 84, 3, 2707, 0), (86, .iconst 5, 1, 0, 5), (87, .iaload, 1, 0, 0), (88, .bipush 40, 2, 0, 40), (90, .if_icmp .ne 9, 3, 99, 0), (93, .aload_n 0, 1, 0, 0), (94, .iconst 5, 1, 0, 5), (95, .invokevirtual 205, 3, 4741, 0), (98, .ireturn, 1, 0, 0), (99, .aload_n 0, 1, 0, 0), (100, .invokevirtual 212, 3, 4642, 0), (103, .sipush 200, 3, 0, 200), (106, .aload_n 0, 1, 0, 0), (107, .getfield 84, 3, 2707, 0), (110, .iconst 5, 1, 0, 5), (111, .iaload, 1, 0, 0), (112, .iadd, 1, 0, 0), (113, .istore_n 2, 1, 0, 0), (114, .aload_n 0, 1, 0, 0), (115, .getfield 87, 3, 2711, 0), (118, .iload_n 2, 1, 0, 0), (119, .iload_n 1, 1, 0, 0), (120, .iastore, 1, 0, 0), (121, .iload_n 1, 1, 0, 0), (122, .iconst 3, 1, 0, 3), (123, .if_icmp .ge 46, 3, 169, 0), (126, .aload_n 0, 1, 0, 0), (127, .invokevirtual 269, 3, 4995, 0), (130, .ifCond .eq 9, 3, 139, 0), (133, .aload_n 0, 1, 0, 0), (134, .iconst 1, 1, 0, 1), (135, .invokevirtual 205, 3, 4741, 0), (138, .ireturn, 1, 0, 0), (139, .aload_n 0, 1, 0, 0), (140, .getfield 90, 3, 2715, 0), (143, .iload_n 2, 1, 0, 0), (144, .aload_n 0, 1, 0, 0), (145, .iconst 0, 1, 0, 0), (146, .invokevirtual 276, 3, 5061, 0), (149, .iastore, 1, 0, 0), (150, .aload_n 0, 1, 0, 0), (151, .getfield 90, 3, 2715, 0), (154, .iload_n 2, 1, 0, 0), (155, .iaload, 1, 0, 0), (156, .ifCond .ge 9, 3, 165, 0), (159, .aload_n 0, 1, 0, 0), (160, .iconst 2, 1, 0, 2), (161, .invokevirtual 205, 3, 4741, 0), (164, .ireturn, 1, 0, 0), (165, .aload_n 0, 1, 0, 0), (166, .invokevirtual 212, 3, 4642, 0), (169, .iload_n 1, 1, 0, 0), (170, .iconst 2, 1, 0, 2), (171, .if_icmp .eq 32, 3, 203, 0), (174, .iload_n 1, 1, 0, 0), (175, .iconst 4, 1, 0, 4), (176, .if_icmp .eq 27, 3, 203, 0), (179, .aload_n 0, 1, 0, 0), (180, .iconst 0, 1, 0, 0), (181, .invokevirtual 292, 3, 5189, 0), (184, .ifCond .ne 5, 3, 189, 0), (187, .iconst 0, 1, 0, 0), (188, .ireturn, 1, 0, 0), (189, .aload_n 0, 1, 0, 0), (190, .getfield 93, 3, 2719, 0), (193, .iload_n 2, 1, 0, 0), (194, .aload_n 0, 1, 0, 0), (195, .getfield 266, 3, 2696, 0), (198, .iastore, 1, 0, 0), (199, .aload_n 0, 1, 0, 0), (200, .invokevirtual 212, 3, 4642, 0), (203, .aload_n 0, 1, 0, 0), (204, .getfield 84, 3, 2707, 0), (207, .iconst 5, 1, 0, 5), (208, .dup2, 1, 0, 0), (209, .iaload, 1, 0, 0), (210, .iconst 1, 1, 0, 1), (211, .iadd, 1, 0, 0), (212, .iastore, 1, 0, 0), (213, .aload_n 0, 1, 0, 0), (214, .invokevirtual 289, 3, 5123, 0), (217, .ireturn, 1, 0, 0)]
def pg_X10_readsLine : ur_P := (pr_X10_readsLine, fun _ => ([], 0), 3, 1, 10)
abbrev kX_X10_readsLine : Nat := 173
def pr_X10_laysLines : List ur_E := [(0, .aload_n 0, 1, 0, 0), (1, .getfield 84, 3, 2707, 0), (4, .iload_n 2, 1, 0, 0), (5, .aload_n 0, 1, 0, 0), (6, .getfield 84, 3, 2707, 0), (9, .iload_n 1, 1, 0, 0), (10, .iaload, 1, 0, 0), (11, .iastore, 1, 0, 0), (12, .iconst 0, 1, 0, 0), (13, .istore_n 3, 1, 0, 0), (14, .iload_n 3, 1, 0, 0), (15, .bipush 40, 2, 0, 40), (17, .if_icmp .ge 75, 3, 92, 0), (20, .aload_n 0, 1, 0, 0), (21, .getfield 87, 3, 2711, 0), (24, .bipush 40, 2, 0, 40), (26, .iload_n 2, 1, 0, 0), (27, .imul, 1, 0, 0), (28, .iload_n 3, 1, 0, 0), (29, .iadd, 1, 0, 0), (30, .aload_n 0, 1, 0, 0), (31, .getfield 87, 3, 2711, 0), (34, .bipush 40, 2, 0, 40), (36, .iload_n 1, 1, 0, 0), (37, .imul, 1, 0, 0), (38, .iload_n 3, 1, 0, 0), (39, .iadd, 1, 0, 0), (40, .iaload, 1, 0, 0), (41, .iastore, 1, 0, 0), (42, .aload_n 0, 1, 0, 0), (43, .getfield 90, 3, 2715, 0), (46, .bipush 40, 2, 0, 40), (48, .iload_n 2, 1, 0, 0), (49, .imul, 1, 0, 0), (50, .iload_n 3, 1, 0, 0), (51, .iadd, 1, 0, 0), (52, .aload_n 0, 1, 0, 0), (53, .getfield 90, 3, 2715, 0), (56, .bipush 40, 2, 0, 40), (58, .iload_n 1, 1, 0, 0), (59, .imul, 1, 0, 0), (60, .iload_n 3, 1, 0, 0), (61, .iadd, 1, 0, 0), (62, .iaload, 1, 0, 0), (63, .iastore, 1, 0, 0), (64, .aload_n 0, 1, 0, 0), (65, .getfield 93, 3, 2719, 0), (68, .bipush 40, 2, 0, 40), (70, .iload_n 2, 1, 0, 0), (71, .imul, 1, 0, 0), (72, .iload_n 3, 1, 0, 0), (73, .iadd, 1, 0, 0), (74, .aload_n 0, 1, 0, 0), (75, .getfield 93, 3, 2719, 0), (78, .bipush 40, 2, 0, 40), (80, .iload_n 1, 1, 0, 0), (81, .imul, 1, 0, 0), (82, .iload_n 3, 1, 0, 0), (83, .iadd, 1, 0, 0), (84, .iaload, 1, 0, 0), (85, .iastore, 1, 0, 0), (86, .iinc 3 1, 3, 0, 1), (89, .goto (-75), 3, 14, 0), (92, .return_, 1, 0, 0)]
def pg_X10_laysLines : ur_P := (pr_X10_laysLines, fun _ => ([], 0), 4, 0, 10)
abbrev kX_X10_laysLines : Nat := 174
def pr_X10_laysSeen : List ur_E := [(0, .aload_n 0, 1, 0, 0), (1, .getfield 96, 3, 2723, 0), (4, .iload_n 2, 1, 0, 0), (5, .aload_n 0, 1, 0, 0), (6, .getfield 96, 3, 2723, 0), (9, .iload_n 1, 1, 0, 0), (10, .iaload, 1, 0, 0), (11, .iastore, 1, 0, 0), (12, .iconst 0, 1, 0, 0), (13, .istore_n 3, 1, 0, 0), (14, .iload_n 3, 1, 0, 0), (15, .bipush 8, 2, 0, 8), (17, .if_icmp .ge 75, 3, 92, 0), (20, .aload_n 0, 1, 0, 0), (21, .getfield 99, 3, 2727, 0), (24, .bipush 8, 2, 0, 8), (26, .iload_n 2, 1, 0, 0), (27, .imul, 1, 0, 0), (28, .iload_n 3, 1, 0, 0), (29, .iadd, 1, 0, 0), (30, .aload_n 0, 1, 0, 0), (31, .getfield 99, 3, 2727, 0), (34, .bipush 8, 2, 0, 8), (36, .iload_n 1, 1, 0, 0), (37, .imul, 1, 0, 0), (38, .iload_n 3, 1, 0, 0), (39, .iadd, 1, 0, 0), (40, .iaload, 1, 0, 0), (41, .iastore, 1, 0, 0), (42, .aload_n 0, 1, 0, 0), (43, .getfield 102, 3, 2731, 0), (46, .bipush 8, 2, 0, 8), (48, .iload_n 2, 1, 0, 0), (49, .imul, 1, 0, 0), (50, .iload_n 3, 1, 0, 0), (51, .iadd, 1, 0, 0), (52, .aload_n 0, 1, 0, 0), (53, .getfield 102, 3, 2731, 0), (56, .bipush 8, 2, 0, 8), (58, .iload_n 1, 1, 0, 0), (59, .imul, 1, 0, 0), (60, .iload_n 3, 1, 0, 0), (61, .iadd, 1, 0, 0), (62, .iaload, 1, 0, 0), (63, .iastore, 1, 0, 0), (64, .aload_n 0, 1, 0, 0), (65, .getfield 105, 3, 2735, 0), (68, .bipush 8, 2, 0, 8), (70, .iload_n 2, 1, 0, 0), (71, .imul, 1, 0, 0), (72, .iload_n 3, 1, 0, 0), (73, .iadd, 1, 0, 0), (74, .aload_n 0, 1, 0, 0), (75, .getfield 105, 3, 2735, 0), (78, .bipush 8, 2, 0, 8), (80, .iload_n 1, 1, 0, 0), (81, .imul, 1, 0, 0), (82, .iload_n 3, 1, 0, 0), (83, .iadd, 1, 0, 0), (84, .baload, 1, 0, 0), (85, .bastore, 1, 0, 0), (86, .iinc 3 1, 3, 0, 1), (89, .goto (-75), 3, 14, 0), (92, .return_, 1, 0, 0)]
def pg_X10_laysSeen : ur_P := (pr_X10_laysSeen, fun _ => ([], 0), 4, 0, 10)
abbrev kX_X10_laysSeen : Nat := 175
def pr_X10_fresh0 : List ur_E := [(0, .iconst 0, 1, 0, 0), (1, .istore_n 1, 1, 0, 0), (2, .iload_n 1, 1, 0, 0), (3, .bipush 29, 2, 0, 29), (5, .if_icmp .ge 32, 3, 37, 0), (8, .aload_n 0, 1, 0, 0), (9, .getfield 108, 3, 2739, 0), (12, .iload_n 1, 1, 0, 0), (13, .iload_n 1, 1, 0, 0), (14, .bipush 14, 2, 0, 14), (16, .if_icmp .lt 13, 3, 29, 0), (19, .iload_n 1, 1, 0, 0), (20, .bipush 19, 2, 0, 19), (22, .if_icmp .ge 7, 3, 29, 0), (25, .iconst (-1), 1, 0, (-1)), (26, .goto 4, 3, 30, 0), (29, .iconst 0, 1, 0, 0), (30, .iastore, 1, 0, 0), (31, .iinc 1 1, 3, 0, 1), (34, .goto (-32), 3, 2, 0), (37, .iconst 0, 1, 0, 0), (38, .istore_n 1, 1, 0, 0), (39, .iload_n 1, 1, 0, 0), (40, .aload_n 0, 1, 0, 0), (41, .getfield 13, 3, 2603, 0), (44, .iconst 2, 1, 0, 2), (45, .iaload, 1, 0, 0), (46, .if_icmp .ge 23, 3, 69, 0), (49, .aload_n 0, 1, 0, 0), (50, .getfield 108, 3, 2739, 0), (53, .iconst 4, 1, 0, 4), (54, .iload_n 1, 1, 0, 0), (55, .iadd, 1, 0, 0), (56, .aload_n 0, 1, 0, 0), (57, .getfield 35, 3, 2631, 0), (60, .iload_n 1, 1, 0, 0), (61, .iaload, 1, 0, 0), (62, .iastore, 1, 0, 0), (63, .iinc 1 1, 3, 0, 1), (66, .goto (-27), 3, 39, 0), (69, .return_, 1, 0, 0)]
def pg_X10_fresh0 : ur_P := (pr_X10_fresh0, fun _ => ([], 0), 2, 0, 10)
abbrev kX_X10_fresh0 : Nat := 176
def pr_X10_marches : List ur_E := [(0, .aload_n 0, 1, 0, 0), (1, .iconst 0, 1, 0, 0), (2, .putfield 141, 3, 2560, 0), (5, .aload_n 0, 1, 0, 0), (6, .invokevirtual 322, 3, 5379, 0), (9, .ifCond .ne 8, 3, 17, 0), (12, .aload_n 0, 1, 0, 0), (13, .getfield 177, 3, 2596, 0), (16, .ireturn, 1, 0, 0), (17, .aload_n 0, 1, 0, 0), (18, .invokevirtual 325, 3, 5474, 0), (21, .aload_n 0, 1, 0, 0), (22, .invokevirtual 138, 3, 5634, 0), (25, .aload_n 0, 1, 0, 0), (26, .getfield 84, 3, 2707, 0), (29, .iconst 0, 1, 0, 0), (30, .iconst 0, 1, 0, 0), (31, .iastore, 1, 0, 0), (32, .aload_n 0, 1, 0, 0), (33, .getfield 96, 3, 2723, 0), (36, .iconst 0, 1, 0, 0), (37, .iconst 0, 1, 0, 0), (38, .iastore, 1, 0, 0), (39, .aload_n 0, 1, 0, 0), (40, .iconst 0, 1, 0, 0), (41, .putfield 328, 3, 2760, 0), (44, .iconst 0, 1, 0, 0), (45, .istore_n 1, 1, 0, 0), (46, .iload_n 1, 1, 0, 0), (47, .iconst 4, 1, 0, 4), (48, .if_icmp .ge 16, 3, 64, 0), (51, .aload_n 0, 1, 0, 0), (52, .getfield 123, 3, 2759, 0), (55, .iload_n 1, 1, 0, 0), (56, .iconst 0, 1, 0, 0), (57, .bastore, 1, 0, 0), (58, .iinc 1 1, 3, 0, 1), (61, .goto (-15), 3, 46, 0), (64, .iconst 0, 1, 0, 0), (65, .ireturn, 1, 0, 0)]
def pg_X10_marches : ur_P := (pr_X10_marches, fun _ => ([], 0), 2, 0, 10)
abbrev kX_X10_marches : Nat := 177
def pr_X10_evening : List ur_E := [(0, .aload_n 0, 1, 0, 0), (1, .iconst 0, 1, 0, 0), (2, .putfield 141, 3, 2560, 0), (5, .aload_n 0, 1, 0, 0), (6, .getfield 84, 3, 2707, 0), (9, .iconst 5, 1, 0, 5), (10, .iconst 0, 1, 0, 0), (11, .iastore, 1, 0, 0), (12, .aload_n 0, 1, 0, 0), (13, .invokevirtual 298, 3, 5346, 0), (16, .aload_n 0, 1, 0, 0), (17, .getfield 166, 3, 2584, 0), (20, .ifCond .eq 15, 3, 35, 0), (23, .aload_n 0, 1, 0, 0), (24, .invokevirtual 331, 3, 5539, 0), (27, .ifCond .ne (-11), 3, 16, 0), (30, .aload_n 0, 1, 0, 0), (31, .getfield 177, 3, 2596, 0), (34, .ireturn, 1, 0, 0), (35, .aload_n 0, 1, 0, 0), (36, .iconst 5, 1, 0, 5), (37, .iconst 0, 1, 0, 0), (38, .invokevirtual 334, 3, 5574, 0), (41, .iconst 0, 1, 0, 0), (42, .ireturn, 1, 0, 0)]
def pg_X10_evening : ur_P := (pr_X10_evening, fun _ => ([], 0), 1, 0, 10)
abbrev kX_X10_evening : Nat := 178
def pr_X10_isRoom : List ur_E := [(0, .iload_n 1, 1, 0, 0), (1, .ifCond .lt 17, 3, 18, 0), (4, .iload_n 1, 1, 0, 0), (5, .aload_n 0, 1, 0, 0), (6, .getfield 13, 3, 2603, 0), (9, .iconst 0, 1, 0, 0), (10, .iaload, 1, 0, 0), (11, .if_icmp .ge 7, 3, 18, 0), (14, .iconst 1, 1, 0, 1), (15, .goto 4, 3, 19, 0), (18, .iconst 0, 1, 0, 0), (19, .ireturn, 1, 0, 0)]
def pg_X10_isRoom : ur_P := (pr_X10_isRoom, fun _ => ([], 0), 2, 1, 10)
abbrev kX_X10_isRoom : Nat := 179
def pr_X10_isPerson : List ur_E := [(0, .iload_n 1, 1, 0, 0), (1, .ifCond .lt 17, 3, 18, 0), (4, .iload_n 1, 1, 0, 0), (5, .aload_n 0, 1, 0, 0), (6, .getfield 13, 3, 2603, 0), (9, .iconst 2, 1, 0, 2), (10, .iaload, 1, 0, 0), (11, .if_icmp .ge 7, 3, 18, 0), (14, .iconst 1, 1, 0, 1), (15, .goto 4, 3, 19, 0), (18, .iconst 0, 1, 0, 0), (19, .ireturn, 1, 0, 0)]
def pg_X10_isPerson : ur_P := (pr_X10_isPerson, fun _ => ([], 0), 2, 1, 10)
abbrev kX_X10_isPerson : Nat := 180
def pr_X10_isUnsaid : List ur_E := [(0, .aload_n 0, 1, 0, 0), (1, .iload_n 1, 1, 0, 0), (2, .invokevirtual 338, 3, 5733, 0), (5, .ifCond .eq 16, 3, 21, 0), (8, .aload_n 0, 1, 0, 0), (9, .getfield 20, 3, 2611, 0), (12, .iload_n 1, 1, 0, 0), (13, .iaload, 1, 0, 0), (14, .ifCond .le 7, 3, 21, 0), (17, .iconst 1, 1, 0, 1), (18, .goto 4, 3, 22, 0), (21, .iconst 0, 1, 0, 0), (22, .ireturn, 1, 0, 0)]
def pg_X10_isUnsaid : ur_P := (pr_X10_isUnsaid, fun _ => ([], 0), 2, 1, 10)
abbrev kX_X10_isUnsaid : Nat := 181
def pr_X10_unsaids : List ur_E := [(0, .iconst 0, 1, 0, 0), (1, .istore_n 1, 1, 0, 0), (2, .iconst 0, 1, 0, 0), (3, .istore_n 2, 1, 0, 0), (4, .iload_n 2, 1, 0, 0), (5, .aload_n 0, 1, 0, 0), (6, .getfield 13, 3, 2603, 0), (9, .iconst 0, 1, 0, 0), (10, .iaload, 1, 0, 0), (11, .if_icmp .ge 28, 3, 39, 0), (14, .iload_n 1, 1, 0, 0), (15, .aload_n 0, 1, 0, 0), (16, .getfield 20, 3, 2611, 0), (19, .iload_n 2, 1, 0, 0), (20, .iaload, 1, 0, 0), (21, .ifCond .le 9, 3, 30, 0), (24, .iconst 1, 1, 0, 1), (25, .iload_n 2, 1, 0, 0), (26, .ishl, 1, 0, 0), (27, .goto 4, 3, 31, 0), (30, .iconst 0, 1, 0, 0), (31, .ior, 1, 0, 0), (32, .istore_n 1, 1, 0, 0), (33, .iinc 2 1, 3, 0, 1), (36, .goto (-32), 3, 4, 0), (39, .iload_n 1, 1, 0, 0), (40, .ireturn, 1, 0, 0)]
def pg_X10_unsaids : ur_P := (pr_X10_unsaids, fun _ => ([], 0), 3, 0, 10)
abbrev kX_X10_unsaids : Nat := 182
def pr_X10_open : List ur_E := [(0, .iconst 1, 1, 0, 1), (1, .aload_n 0, 1, 0, 0), (2, .getfield 13, 3, 2603, 0), (5, .iconst 0, 1, 0, 0), (6, .iaload, 1, 0, 0), (7, .ishl, 1, 0, 0), (8, .iconst 1, 1, 0, 1), (9, .isub, 1, 0, 0), (10, .aload_n 0, 1, 0, 0), (11, .invokevirtual 341, 3, 5827, 0), (14, .iconst (-1), 1, 0, (-1)), (15, .ixor, 1, 0, 0), (16, .iand, 1, 0, 0), (17, .aload_n 0, 1, 0, 0), (18, .getfield 108, 3, 2739, 0), (21, .iconst 2, 1, 0, 2), (22, .iaload, 1, 0, 0), (23, .iconst (-1), 1, 0, (-1)), (24, .ixor, 1, 0, 0), (25, .iand, 1, 0, 0), (26, .ireturn, 1, 0, 0)]
def pg_X10_open : ur_P := (pr_X10_open, fun _ => ([], 0), 1, 0, 10)
abbrev kX_X10_open : Nat := 183
def pr_X10_isOpen : List ur_E := [(0, .aload_n 0, 1, 0, 0), (1, .iload_n 1, 1, 0, 0), (2, .invokevirtual 338, 3, 5733, 0), (5, .ifCond .eq 19, 3, 24, 0), (8, .aload_n 0, 1, 0, 0), (9, .invokevirtual 344, 3, 5859, 0), (12, .iload_n 1, 1, 0, 0), (13, .ishr, 1, 0, 0), (14, .iconst 1, 1, 0, 1), (15, .iand, 1, 0, 0), (16, .iconst 1, 1, 0, 1), (17, .if_icmp .ne 7, 3, 24, 0), (20, .iconst 1, 1, 0, 1), (21, .goto 4, 3, 25, 0), (24, .iconst 0, 1, 0, 0), (25, .ireturn, 1, 0, 0)]
def pg_X10_isOpen : ur_P := (pr_X10_isOpen, fun _ => ([], 0), 2, 1, 10)
abbrev kX_X10_isOpen : Nat := 184
def pr_X10_isInside : List ur_E := [(0, .aload_n 0, 1, 0, 0), (1, .getfield 108, 3, 2739, 0), (4, .bipush 14, 2, 0, 14), (6, .iload_n 1, 1, 0, 0), (7, .iadd, 1, 0, 0), (8, .iaload, 1, 0, 0), (9, .ifCond .lt 7, 3, 16, 0), (12, .iconst 1, 1, 0, 1), (13, .goto 4, 3, 17, 0), (16, .iconst 0, 1, 0, 0), (17, .ireturn, 1, 0, 0)]
def pg_X10_isInside : ur_P := (pr_X10_isInside, fun _ => ([], 0), 2, 1, 10)
abbrev kX_X10_isInside : Nat := 185
def pr_X10_hostOf : List ur_E := [(0, .iconst 0, 1, 0, 0), (1, .istore_n 2, 1, 0, 0), (2, .iload_n 2, 1, 0, 0), (3, .aload_n 0, 1, 0, 0), (4, .getfield 13, 3, 2603, 0), (7, .iconst 2, 1, 0, 2), (8, .iaload, 1, 0, 0), (9, .if_icmp .ge 31, 3, 40, 0), (12, .aload_n 0, 1, 0, 0), (13, .iload_n 2, 1, 0, 0), (14, .invokevirtual 347, 3, 5925, 0), (17, .ifCond .eq 17, 3, 34, 0), (20, .aload_n 0, 1, 0, 0), (21, .getfield 108, 3, 2739, 0), (24, .iconst 4, 1, 0, 4), (25, .iload_n 2, 1, 0, 0), (26, .iadd, 1, 0, 0), (27, .iaload, 1, 0, 0), (28, .iload_n 1, 1, 0, 0), (29, .if_icmp .ne 5, 3, 34, 0), (32, .iload_n 2, 1, 0, 0), (33, .ireturn, 1, 0, 0), (34, .iinc 2 1, 3, 0, 1), (37, .goto (-35), 3, 2, 0), (40, .iconst (-1), 1, 0, (-1)), (41, .ireturn, 1, 0, 0)]
def pg_X10_hostOf : ur_P := (pr_X10_hostOf, fun _ => ([], 0), 3, 0, 10)
abbrev kX_X10_hostOf : Nat := 186
def pr_X10_insiders : List ur_E := [(0, .iconst 0, 1, 0, 0), (1, .istore_n 1, 1, 0, 0), (2, .iconst 0, 1, 0, 0), (3, .istore_n 2, 1, 0, 0), (4, .iload_n 2, 1, 0, 0), (5, .aload_n 0, 1, 0, 0), (6, .getfield 13, 3, 2603, 0), (9, .iconst 2, 1, 0, 2), (10, .iaload, 1, 0, 0), (11, .if_icmp .ge 27, 3, 38, 0), (14, .iload_n 1, 1, 0, 0), (15, .aload_n 0, 1, 0, 0), (16, .iload_n 2, 1, 0, 0), (17, .invokevirtual 347, 3, 5925, 0), (20, .ifCond .eq 9, 3, 29, 0), (23, .iconst 1, 1, 0, 1), (24, .iload_n 2, 1, 0, 0), (25, .ishl, 1, 0, 0), (26, .goto 4, 3, 30, 0), (29, .iconst 0, 1, 0, 0), (30, .ior, 1, 0, 0), (31, .istore_n 1, 1, 0, 0), (32, .iinc 2 1, 3, 0, 1), (35, .goto (-31), 3, 4, 0), (38, .iload_n 1, 1, 0, 0), (39, .ireturn, 1, 0, 0)]
def pg_X10_insiders : ur_P := (pr_X10_insiders, fun _ => ([], 0), 3, 0, 10)
abbrev kX_X10_insiders : Nat := 187
def pr_X10_whoIn : List ur_E := [(0, .iconst 0, 1, 0, 0), (1, .istore_n 2, 1, 0, 0), (2, .iconst 0, 1, 0, 0), (3, .istore_n 3, 1, 0, 0), (4, .iload_n 3, 1, 0, 0), (5, .aload_n 0, 1, 0, 0), (6, .getfield 13, 3, 2603, 0), (9, .iconst 2, 1, 0, 2), (10, .iaload, 1, 0, 0), (11, .if_icmp .ge 31, 3, 42, 0), (14, .iload_n 2, 1, 0, 0), (15, .aload_n 0, 1, 0, 0), (16, .getfield 108, 3, 2739, 0), (19, .iconst 4, 1, 0, 4), (20, .iload_n 3, 1, 0, 0), (21, .iadd, 1, 0, 0), (22, .iaload, 1, 0, 0), (23, .iload_n 1, 1, 0, 0), (24, .if_icmp .ne 9, 3, 33, 0), (27, .iconst 1, 1, 0, 1), (28, .iload_n 3, 1, 0, 0), (29, .ishl, 1, 0, 0), (30, .goto 4, 3, 34, 0), (33, .iconst 0, 1, 0, 0), (34, .ior, 1, 0, 0), (35, .istore_n 2, 1, 0, 0), (36, .iinc 3 1, 3, 0, 1), (39, .goto (-35), 3, 4, 0), (42, .iload_n 2, 1, 0, 0), (43, .ireturn, 1, 0, 0)]
def pg_X10_whoIn : ur_P := (pr_X10_whoIn, fun _ => ([], 0), 4, 0, 10)
abbrev kX_X10_whoIn : Nat := 188
def pr_X10_stayOf : List ur_E := [(0, .aload_n 0, 1, 0, 0), (1, .getfield 20, 3, 2611, 0), (4, .iload_n 2, 1, 0, 0), (5, .iaload, 1, 0, 0), (6, .istore 4, 2, 0, 0), (8, .aload_n 0, 1, 0, 0), (9, .getfield 41, 3, 2639, 0), (12, .iconst 0, 1, 0, 0), (13, .iaload, 1, 0, 0), (14, .aload_n 0, 1, 0, 0), (15, .getfield 38, 3, 2635, 0), (18, .iconst 0, 1, 0, 0), (19, .iaload, 1, 0, 0), (20, .if_icmp .le 56, 3, 76, 0), (23, .aload_n 0, 1, 0, 0), (24, .getfield 81, 3, 2695, 0), (27, .iconst 1, 1, 0, 1), (28, .aload_n 0, 1, 0, 0), (29, .getfield 20, 3, 2611, 0), (32, .iload_n 2, 1, 0, 0), (33, .iaload, 1, 0, 0), (34, .iastore, 1, 0, 0), (35, .aload_n 0, 1, 0, 0), (36, .getfield 81, 3, 2695, 0), (39, .iconst 2, 1, 0, 2), (40, .aload_n 0, 1, 0, 0), (41, .getfield 108, 3, 2739, 0), (44, .bipush 19, 2, 0, 19), (46, .iload_n 1, 1, 0, 0), (47, .iadd, 1, 0, 0), (48, .iaload, 1, 0, 0), (49, .iastore, 1, 0, 0), (50, .aload_n 0, 1, 0, 0), (51, .getfield 81, 3, 2695, 0), (54, .iconst 3, 1, 0, 3), (55, .aload_n 0, 1, 0, 0), (56, .getfield 32, 3, 2627, 0), (59, .iload_n 1, 1, 0, 0), (60, .iaload, 1, 0, 0), (61, .iastore, 1, 0, 0), (62, .aload_n 0, 1, 0, 0), (63, .getfield 81, 3, 2695, 0), (66, .iconst 4, 1, 0, 4), (67, .iload_n 3, 1, 0, 0), (68, .iastore, 1, 0, 0), (69, .aload_n 0, 1, 0, 0), (70, .iconst 0, 1, 0, 0), (71, .invokevirtual 350, 3, 4965, 0), (74, .istore 4, 2, 0, 0), (76, .iload 4, 2, 0, 0), (78, .iconst 1, 1, 0, 1), (79, .bipush 30, 2, 0, 30), (81, .invokestatic 353, 3, 4519, 0), (84, .ireturn, 1, 0, 0)]
def pg_X10_stayOf : ur_P := (pr_X10_stayOf, fun _ => ([], 0), 5, 0, 10)
abbrev kX_X10_stayOf : Nat := 189
def pr_X10_isFit : List ur_E := [(0, .aload_n 0, 1, 0, 0), (1, .getfield 108, 3, 2739, 0), (4, .iconst 3, 1, 0, 3), (5, .iaload, 1, 0, 0), (6, .iload_n 1, 1, 0, 0), (7, .ishr, 1, 0, 0), (8, .iconst 1, 1, 0, 1), (9, .iand, 1, 0, 0), (10, .ifCond .ne 45, 3, 55, 0), (13, .aload_n 0, 1, 0, 0), (14, .getfield 29, 3, 2623, 0), (17, .iload_n 1, 1, 0, 0), (18, .iaload, 1, 0, 0), (19, .iconst 3, 1, 0, 3), (20, .if_icmp .eq 35, 3, 55, 0), (23, .aload_n 0, 1, 0, 0), (24, .getfield 29, 3, 2623, 0), (27, .iload_n 1, 1, 0, 0), (28, .iaload, 1, 0, 0), (29, .iconst 2, 1, 0, 2), (30, .if_icmp .ne 13, 3, 43, 0), (33, .aload_n 0, 1, 0, 0), (34, .getfield 32, 3, 2627, 0), (37, .iload_n 1, 1, 0, 0), (38, .iaload, 1, 0, 0), (39, .iconst 3, 1, 0, 3), (40, .if_icmp .le 15, 3, 55, 0), (43, .aload_n 0, 1, 0, 0), (44, .iload_n 1, 1, 0, 0), (45, .invokevirtual 347, 3, 5925, 0), (48, .ifCond .ne 7, 3, 55, 0), (51, .iconst 1, 1, 0, 1), (52, .goto 4, 3, 56, 0), (55, .iconst 0, 1, 0, 0), (56, .ireturn, 1, 0, 0)]
def pg_X10_isFit : ur_P := (pr_X10_isFit, fun _ => ([], 0), 2, 1, 10)
abbrev kX_X10_isFit : Nat := 190
def pr_X10_canShow : List ur_E := [(0, .aload_n 0, 1, 0, 0), (1, .iload_n 1, 1, 0, 0), (2, .invokevirtual 357, 3, 6085, 0), (5, .ifCond .eq 45, 3, 50, 0), (8, .aload_n 0, 1, 0, 0), (9, .getfield 20, 3, 2611, 0), (12, .iload_n 2, 1, 0, 0), (13, .iaload, 1, 0, 0), (14, .ifCond .le 36, 3, 50, 0), (17, .aload_n 0, 1, 0, 0), (18, .getfield 23, 3, 2615, 0), (21, .aload_n 0, 1, 0, 0), (22, .getfield 108, 3, 2739, 0), (25, .iconst 4, 1, 0, 4), (26, .iload_n 1, 1, 0, 0), (27, .iadd, 1, 0, 0), (28, .iaload, 1, 0, 0), (29, .iaload, 1, 0, 0), (30, .iload_n 2, 1, 0, 0), (31, .ishr, 1, 0, 0), (32, .iconst 1, 1, 0, 1), (33, .iand, 1, 0, 0), (34, .iconst 1, 1, 0, 1), (35, .if_icmp .ne 15, 3, 50, 0), (38, .aload_n 0, 1, 0, 0), (39, .iload_n 2, 1, 0, 0), (40, .invokevirtual 360, 3, 5957, 0), (43, .ifCond .ge 7, 3, 50, 0), (46, .iconst 1, 1, 0, 1), (47, .goto 4, 3, 51, 0), (50, .iconst 0, 1, 0, 0), (51, .ireturn, 1, 0, 0)]
def pg_X10_canShow : ur_P := (pr_X10_canShow, fun _ => ([], 0), 3, 1, 10)
abbrev kX_X10_canShow : Nat := 191
def pr_X10_shows : List ur_E := [(0, .aload_n 0, 1, 0, 0), (1, .iload_n 1, 1, 0, 0), (2, .iload_n 2, 1, 0, 0), (3, .aload_n 0, 1, 0, 0), (4, .getfield 108, 3, 2739, 0), (7, .iconst 1, 1, 0, 1), (8, .iaload, 1, 0, 0), (9, .invokevirtual 363, 3, 6057, 0), (12, .istore_n 3, 1, 0, 0), (13, .aload_n 0, 1, 0, 0), (14, .getfield 108, 3, 2739, 0), (17, .bipush 9, 2, 0, 9), (19, .iload_n 1, 1, 0, 0), (20, .iadd, 1, 0, 0), (21, .aload_n 0, 1, 0, 0), (22, .getfield 108, 3, 2739, 0), (25, .iconst 4, 1, 0, 4), (26, .iload_n 1, 1, 0, 0), (27, .iadd, 1, 0, 0), (28, .iaload, 1, 0, 0), (29, .iastore, 1, 0, 0), (30, .aload_n 0, 1, 0, 0), (31, .getfield 108, 3, 2739, 0), (34, .iconst 4, 1, 0, 4), (35, .iload_n 1, 1, 0, 0), (36, .iadd, 1, 0, 0), (37, .iload_n 2, 1, 0, 0), (38, .iastore, 1, 0, 0), (39, .aload_n 0, 1, 0, 0), (40, .getfield 108, 3, 2739, 0), (43, .bipush 14, 2, 0, 14), (45, .iload_n 1, 1, 0, 0), (46, .iadd, 1, 0, 0), (47, .iload_n 3, 1, 0, 0), (48, .iastore, 1, 0, 0), (49, .aload_n 0, 1, 0, 0), (50, .getfield 108, 3, 2739, 0), (53, .bipush 19, 2, 0, 19), (55, .iload_n 1, 1, 0, 0), (56, .iadd, 1, 0, 0), (57, .dup2, 1, 0, 0), (58, .iaload, 1, 0, 0), (59, .iconst 1, 1, 0, 1), (60, .iadd, 1, 0, 0), (61, .iastore, 1, 0, 0), (62, .iload_n 3, 1, 0, 0), (63, .ireturn, 1, 0, 0)]
def pg_X10_shows : ur_P := (pr_X10_shows, fun _ => ([], 0), 4, 0, 10)
abbrev kX_X10_shows : Nat := 192
def pr_X10_goesOf : List ur_E := [(0, .aload_n 0, 1, 0, 0), (1, .iload_n 1, 1, 0, 0), (2, .invokevirtual 347, 3, 5925, 0), (5, .ifCond .eq 7, 3, 12, 0), (8, .iconst 0, 1, 0, 0), (9, .goto 21, 3, 30, 0), (12, .aload_n 0, 1, 0, 0), (13, .getfield 23, 3, 2615, 0), (16, .aload_n 0, 1, 0, 0), (17, .getfield 108, 3, 2739, 0), (20, .iconst 4, 1, 0, 4), (21, .iload_n 1, 1, 0, 0), (22, .iadd, 1, 0, 0), (23, .iaload, 1, 0, 0), (24, .iaload, 1, 0, 0), (25, .aload_n 0, 1, 0, 0), (26, .invokevirtual 344, 3, 5859, 0), (29, .iand, 1, 0, 0), (30, .ireturn, 1, 0, 0)]
def pg_X10_goesOf : ur_P := (pr_X10_goesOf, fun _ => ([], 0), 2, 0, 10)
abbrev kX_X10_goesOf : Nat := 193
def pr_X10_canSpeak : List ur_E := [(0, .aload_n 0, 1, 0, 0), (1, .getfield 29, 3, 2623, 0), (4, .iload_n 1, 1, 0, 0), (5, .iaload, 1, 0, 0), (6, .iconst 1, 1, 0, 1), (7, .if_icmp .eq 40, 3, 47, 0), (10, .aload_n 0, 1, 0, 0), (11, .iload_n 1, 1, 0, 0), (12, .invokevirtual 347, 3, 5925, 0), (15, .ifCond .ne 32, 3, 47, 0), (18, .aload_n 0, 1, 0, 0), (19, .getfield 108, 3, 2739, 0), (22, .bipush 19, 2, 0, 19), (24, .iload_n 1, 1, 0, 0), (25, .iadd, 1, 0, 0), (26, .iaload, 1, 0, 0), (27, .ifCond .le 20, 3, 47, 0), (30, .aload_n 0, 1, 0, 0), (31, .getfield 108, 3, 2739, 0), (34, .iconst 3, 1, 0, 3), (35, .iaload, 1, 0, 0), (36, .iload_n 1, 1, 0, 0), (37, .ishr, 1, 0, 0), (38, .iconst 1, 1, 0, 1), (39, .iand, 1, 0, 0), (40, .ifCond .ne 7, 3, 47, 0), (43, .iconst 1, 1, 0, 1), (44, .goto 4, 3, 48, 0), (47, .iconst 0, 1, 0, 0), (48, .ireturn, 1, 0, 0)]
def pg_X10_canSpeak : ur_P := (pr_X10_canSpeak, fun _ => ([], 0), 2, 1, 10)
abbrev kX_X10_canSpeak : Nat := 194
def pr_X10_speaks : List ur_E := [(0, .aload_n 0, 1, 0, 0), (1, .getfield 108, 3, 2739, 0), (4, .iconst 3, 1, 0, 3), (5, .dup2, 1, 0, 0), (6, .iaload, 1, 0, 0), (7, .iconst 1, 1, 0, 1), (8, .iload_n 1, 1, 0, 0), (9, .ishl, 1, 0, 0), (10, .ior, 1, 0, 0), (11, .iastore, 1, 0, 0), (12, .aload_n 0, 1, 0, 0), (13, .getfield 108, 3, 2739, 0), (16, .bipush 19, 2, 0, 19), (18, .iload_n 1, 1, 0, 0), (19, .iadd, 1, 0, 0), (20, .iconst 0, 1, 0, 0), (21, .iastore, 1, 0, 0), (22, .aload_n 0, 1, 0, 0), (23, .getfield 108, 3, 2739, 0), (26, .bipush 24, 2, 0, 24), (28, .iload_n 1, 1, 0, 0), (29, .iadd, 1, 0, 0), (30, .iconst 0, 1, 0, 0), (31, .iastore, 1, 0, 0), (32, .return_, 1, 0, 0)]
def pg_X10_speaks : ur_P := (pr_X10_speaks, fun _ => ([], 0), 2, 0, 10)
abbrev kX_X10_speaks : Nat := 195
def pr_X10_burntBy : List ur_E := [(0, .iconst 0, 1, 0, 0), (1, .istore_n 2, 1, 0, 0), (2, .iconst 0, 1, 0, 0), (3, .istore_n 3, 1, 0, 0), (4, .iload_n 3, 1, 0, 0), (5, .aload_n 0, 1, 0, 0), (6, .getfield 13, 3, 2603, 0), (9, .iconst 0, 1, 0, 0), (10, .iaload, 1, 0, 0), (11, .if_icmp .ge 39, 3, 50, 0), (14, .iload_n 2, 1, 0, 0), (15, .aload_n 0, 1, 0, 0), (16, .invokevirtual 344, 3, 5859, 0), (19, .iload_n 3, 1, 0, 0), (20, .ishr, 1, 0, 0), (21, .iconst 1, 1, 0, 1), (22, .iand, 1, 0, 0), (23, .iconst 1, 1, 0, 1), (24, .if_icmp .ne 17, 3, 41, 0), (27, .aload_n 0, 1, 0, 0), (28, .iload_n 3, 1, 0, 0), (29, .invokevirtual 366, 3, 6021, 0), (32, .ifCond .ne 9, 3, 41, 0), (35, .iconst 1, 1, 0, 1), (36, .iload_n 3, 1, 0, 0), (37, .ishl, 1, 0, 0), (38, .goto 4, 3, 42, 0), (41, .iconst 0, 1, 0, 0), (42, .ior, 1, 0, 0), (43, .istore_n 2, 1, 0, 0), (44, .iinc 3 1, 3, 0, 1), (47, .goto (-43), 3, 4, 0), (50, .aload_n 0, 1, 0, 0), (51, .iconst 1, 1, 0, 1), (52, .iload_n 1, 1, 0, 0), (53, .ishl, 1, 0, 0), (54, .iload_n 2, 1, 0, 0), (55, .invokevirtual 369, 3, 6311, 0), (58, .ireturn, 1, 0, 0)]
def pg_X10_burntBy : ur_P := (pr_X10_burntBy, fun _ => ([], 0), 4, 0, 10)
abbrev kX_X10_burntBy : Nat := 196
def pr_X10_spreads : List ur_E := [(0, .iload_n 1, 1, 0, 0), (1, .iload_n 2, 1, 0, 0), (2, .iand, 1, 0, 0), (3, .istore_n 3, 1, 0, 0), (4, .iconst 0, 1, 0, 0), (5, .istore 4, 2, 0, 0), (7, .iload 4, 2, 0, 0), (9, .bipush 8, 2, 0, 8), (11, .if_icmp .ge 55, 3, 66, 0), (14, .iconst 0, 1, 0, 0), (15, .istore 5, 2, 0, 0), (17, .iload 5, 2, 0, 0), (19, .aload_n 0, 1, 0, 0), (20, .getfield 13, 3, 2603, 0), (23, .iconst 0, 1, 0, 0), (24, .iaload, 1, 0, 0), (25, .if_icmp .ge 35, 3, 60, 0), (28, .iload_n 3, 1, 0, 0), (29, .iload_n 3, 1, 0, 0), (30, .iload 5, 2, 0, 0), (32, .ishr, 1, 0, 0), (33, .iconst 1, 1, 0, 1), (34, .iand, 1, 0, 0), (35, .iconst 1, 1, 0, 1), (36, .if_icmp .ne 15, 3, 51, 0), (39, .aload_n 0, 1, 0, 0), (40, .getfield 23, 3, 2615, 0), (43, .iload 5, 2, 0, 0), (45, .iaload, 1, 0, 0), (46, .iload_n 2, 1, 0, 0), (47, .iand, 1, 0, 0), (48, .goto 4, 3, 52, 0), (51, .iconst 0, 1, 0, 0), (52, .ior, 1, 0, 0), (53, .istore_n 3, 1, 0, 0), (54, .iinc 5 1, 3, 0, 1), (57, .goto (-40), 3, 17, 0), (60, .iinc 4 1, 3, 0, 1), (63, .goto (-56), 3, 7, 0), (66, .iload_n 3, 1, 0, 0), (67, .ireturn, 1, 0, 0)]
def pg_X10_spreads : ur_P := (pr_X10_spreads, fun _ => ([], 0), 6, 0, 10)
abbrev kX_X10_spreads : Nat := 197
def pr_X10_canBurn : List ur_E := [(0, .aload_n 0, 1, 0, 0), (1, .iload_n 1, 1, 0, 0), (2, .invokevirtual 373, 3, 5893, 0), (5, .ifCond .eq 15, 3, 20, 0), (8, .aload_n 0, 1, 0, 0), (9, .iload_n 1, 1, 0, 0), (10, .invokevirtual 366, 3, 6021, 0), (13, .ifCond .ne 7, 3, 20, 0), (16, .iconst 1, 1, 0, 1), (17, .goto 4, 3, 21, 0), (20, .iconst 0, 1, 0, 0), (21, .ireturn, 1, 0, 0)]
def pg_X10_canBurn : ur_P := (pr_X10_canBurn, fun _ => ([], 0), 2, 1, 10)
abbrev kX_X10_canBurn : Nat := 198
def pr_X10_firstOf : List ur_E := [(0, .iconst 0, 1, 0, 0), (1, .istore_n 1, 1, 0, 0), (2, .iload_n 1, 1, 0, 0), (3, .bipush 8, 2, 0, 8), (5, .if_icmp .ge 20, 3, 25, 0), (8, .iload_n 0, 1, 0, 0), (9, .iload_n 1, 1, 0, 0), (10, .ishr, 1, 0, 0), (11, .iconst 1, 1, 0, 1), (12, .iand, 1, 0, 0), (13, .iconst 1, 1, 0, 1), (14, .if_icmp .ne 5, 3, 19, 0), (17, .iload_n 1, 1, 0, 0), (18, .ireturn, 1, 0, 0), (19, .iinc 1 1, 3, 0, 1), (22, .goto (-20), 3, 2, 0), (25, .iconst (-1), 1, 0, (-1)), (26, .ireturn, 1, 0, 0)]
def pg_X10_firstOf : ur_P := (pr_X10_firstOf, fun _ => ([], 0), 2, 0, 30)
abbrev kX_X10_firstOf : Nat := 199
def pr_X10_passes : List ur_E := [(0, .iconst 0, 1, 0, 0), (1, .istore_n 1, 1, 0, 0), (2, .iconst 0, 1, 0, 0), (3, .istore_n 2, 1, 0, 0), (4, .iload_n 2, 1, 0, 0), (5, .aload_n 0, 1, 0, 0), (6, .getfield 13, 3, 2603, 0), (9, .iconst 2, 1, 0, 2), (10, .iaload, 1, 0, 0), (11, .if_icmp .ge 158, 3, 169, 0), (14, .aload_n 0, 1, 0, 0), (15, .getfield 108, 3, 2739, 0), (18, .bipush 14, 2, 0, 14), (20, .iload_n 2, 1, 0, 0), (21, .iadd, 1, 0, 0), (22, .iaload, 1, 0, 0), (23, .iconst 1, 1, 0, 1), (24, .if_icmp .ge 6, 3, 30, 0), (27, .goto 136, 3, 163, 0), (30, .aload_n 0, 1, 0, 0), (31, .getfield 108, 3, 2739, 0), (34, .bipush 14, 2, 0, 14), (36, .iload_n 2, 1, 0, 0), (37, .iadd, 1, 0, 0), (38, .dup2, 1, 0, 0), (39, .iaload, 1, 0, 0), (40, .iconst 1, 1, 0, 1), (41, .isub, 1, 0, 0), (42, .iastore, 1, 0, 0), (43, .aload_n 0, 1, 0, 0), (44, .getfield 108, 3, 2739, 0), (47, .bipush 24, 2, 0, 24), (49, .iload_n 2, 1, 0, 0), (50, .iadd, 1, 0, 0), (51, .dup2, 1, 0, 0), (52, .iaload, 1, 0, 0), (53, .iconst 1, 1, 0, 1), (54, .iadd, 1, 0, 0), (55, .iastore, 1, 0, 0), (56, .aload_n 0, 1, 0, 0), (57, .getfield 108, 3, 2739, 0), (60, .bipush 14, 2, 0, 14), (62, .iload_n 2, 1, 0, 0), (63, .iadd, 1, 0, 0), (64, .iaload, 1, 0, 0), (65, .ifCond .le 6, 3, 71, 0), (68, .goto 95, 3, 163, 0), (71, .aload_n 0, 1, 0, 0), (72, .aload_n 0, 1, 0, 0), (73, .getfield 108, 3, 2739, 0), (76, .bipush 9, 2, 0, 9), (78, .iload_n 2, 1, 0, 0), (79, .iadd, 1, 0, 0), (80, .iaload, 1, 0, 0), (81, .invokevirtual 373, 3, 5893, 0), (84, .ifCond .eq 15, 3, 99, 0), (87, .aload_n 0, 1, 0, 0), (88, .getfield 108, 3, 2739, 0), (91, .bipush 9, 2, 0, 9), (93, .iload_n 2, 1, 0, 0), (94, .iadd, 1, 0, 0), (95, .iaload, 1, 0, 0), (96, .goto 24, 3, 120, 0), (99, .aload_n 0, 1, 0, 0), (100, .getfield 23, 3, 2615, 0), (103, .aload_n 0, 1, 0, 0), (104, .getfield 108, 3, 2739, 0), (107, .iconst 4, 1, 0, 4), (108, .iload_n 2, 1, 0, 0), (109, .iadd, 1, 0, 0), (110, .iaload, 1, 0, 0), (111, .iaload, 1, 0, 0), (112, .aload_n 0, 1, 0, 0), (113, .invokevirtual 344, 3, 5859, 0), (116, .iand, 1, 0, 0), (117, .invokestatic 376, 3, 6371, 0), (120, .istore_n 3, 1, 0, 0), (121, .iload_n 3, 1, 0, 0), (122, .ifCond .ge 6, 3, 128, 0), (125, .goto 38, 3, 163, 0), (128, .aload_n 0, 1, 0, 0), (129, .getfield 108, 3, 2739, 0), (132, .iconst 4, 1, 0, 4), (133, .iload_n 2, 1, 0, 0), (134, .iadd, 1, 0, 0), (135, .iload_n 3, 1, 0, 0), (136, .iastore, 1, 0, 0), (137, .aload_n 0, 1, 0, 0), (138, .getfield 108, 3, 2739, 0), (141, .bipush 14, 2, 0, 14), (143, .iload_n 2, 1, 0, 0), (144, .iadd, 1, 0, 0), (145, .iconst (-1), 1, 0, (-1)), (146, .iastore, 1, 0, 0), (147, .aload_n 0, 1, 0, 0), (148, .getfield 108, 3, 2739, 0), (151, .iconst 1, 1, 0, 1), (152, .dup2, 1, 0, 0), (153, .iaload, 1, 0, 0), (154, .iconst 1, 1, 0, 1), (155, .iadd, 1, 0, 0), (156, .iastore, 1, 0, 0), (157, .iload_n 1, 1, 0, 0), (158, .iconst 1, 1, 0, 1), (159, .iload_n 2, 1, 0, 0), (160, .ishl, 1, 0, 0), (161, .ior, 1, 0, 0), (162, .istore_n 1, 1, 0, 0), (163, .iinc 2 1, 3, 0, 1), (166, .goto (-162), 3, 4, 0), (169, .aload_n 0, 1, 0, 0), (170, .getfield 108, 3, 2739, 0), (173, .iconst 0, 1, 0, 0), (174, .dup2, 1, 0, 0), (175, .iaload, 1, 0, 0), (176, .iconst 1, 1, 0, 1), (177, .iadd, 1, 0, 0), (178, .iastore, 1, 0, 0), (179, .iload_n 1, 1, 0, 0), (180, .ireturn, 1, 0, 0)]
def pg_X10_passes : ur_P := (pr_X10_passes, fun _ => ([], 0), 4, 0, 10)
abbrev kX_X10_passes : Nat := 200
def pr_X10_room : List ur_E := [(0, .aload_n 0, 1, 0, 0), (1, .iconst 0, 1, 0, 0), (2, .putfield 141, 3, 2560, 0), (5, .aload_n 0, 1, 0, 0), (6, .iload_n 1, 1, 0, 0), (7, .invokevirtual 338, 3, 5733, 0), (10, .ifCond .eq 12, 3, 22, 0), (13, .iload_n 2, 1, 0, 0), (14, .iconst 0, 1, 0, 0), (15, .iconst 4, 1, 0, 4), (16, .invokestatic 262, 3, 4487, 0), (19, .ifCond .ne 5, 3, 24, 0), (22, .iconst (-1), 1, 0, (-1)), (23, .ireturn, 1, 0, 0), (24, .iload_n 2, 1, 0, 0), (25, .iconst 2, 1, 0, 2), (26, .if_icmp .ge 31, 3, 57, 0), (29, .iload_n 2, 1, 0, 0), (30, .ifCond .ne 20, 3, 50, 0), (33, .aload_n 0, 1, 0, 0), (34, .getfield 20, 3, 2611, 0), (37, .iload_n 1, 1, 0, 0), (38, .iaload, 1, 0, 0), (39, .ifCond .le 7, 3, 46, 0), (42, .iconst 1, 1, 0, 1), (43, .goto 13, 3, 56, 0), (46, .iconst 0, 1, 0, 0), (47, .goto 9, 3, 56, 0), (50, .aload_n 0, 1, 0, 0), (51, .getfield 20, 3, 2611, 0), (54, .iload_n 1, 1, 0, 0), (55, .iaload, 1, 0, 0), (56, .ireturn, 1, 0, 0), (57, .iload_n 2, 1, 0, 0), (58, .iconst 2, 1, 0, 2), (59, .if_icmp .ne 12, 3, 71, 0), (62, .aload_n 0, 1, 0, 0), (63, .getfield 23, 3, 2615, 0), (66, .iload_n 1, 1, 0, 0), (67, .iaload, 1, 0, 0), (68, .goto 26, 3, 94, 0), (71, .iload_n 2, 1, 0, 0), (72, .iconst 3, 1, 0, 3), (73, .if_icmp .ne 16, 3, 89, 0), (76, .aload_n 0, 1, 0, 0), (77, .getfield 108, 3, 2739, 0), (80, .iconst 2, 1, 0, 2), (81, .iaload, 1, 0, 0), (82, .iload_n 1, 1, 0, 0), (83, .ishr, 1, 0, 0), (84, .iconst 1, 1, 0, 1), (85, .iand, 1, 0, 0), (86, .goto 8, 3, 94, 0), (89, .aload_n 0, 1, 0, 0), (90, .iload_n 1, 1, 0, 0), (91, .invokevirtual 366, 3, 6021, 0), (94, .ireturn, 1, 0, 0)]
def pg_X10_room : ur_P := (pr_X10_room, fun _ => ([], 0), 3, 0, 10)
abbrev kX_X10_room : Nat := 201
def pr_X10_person : List ur_E := [(0, .aload_n 0, 1, 0, 0), (1, .iconst 0, 1, 0, 0), (2, .putfield 141, 3, 2560, 0), (5, .aload_n 0, 1, 0, 0), (6, .iload_n 1, 1, 0, 0), (7, .invokevirtual 379, 3, 5765, 0), (10, .ifCond .eq 12, 3, 22, 0), (13, .iload_n 2, 1, 0, 0), (14, .iconst 0, 1, 0, 0), (15, .iconst 5, 1, 0, 5), (16, .invokestatic 262, 3, 4487, 0), (19, .ifCond .ne 6, 3, 25, 0), (22, .bipush (-2), 2, 0, (-2)), (24, .ireturn, 1, 0, 0), (25, .iload_n 2, 1, 0, 0), (26, .iconst 3, 1, 0, 3), (27, .if_icmp .ge 39, 3, 66, 0), (30, .iload_n 2, 1, 0, 0), (31, .ifCond .ne 12, 3, 43, 0), (34, .aload_n 0, 1, 0, 0), (35, .getfield 29, 3, 2623, 0), (38, .iload_n 1, 1, 0, 0), (39, .iaload, 1, 0, 0), (40, .goto 25, 3, 65, 0), (43, .iload_n 2, 1, 0, 0), (44, .iconst 1, 1, 0, 1), (45, .if_icmp .ne 12, 3, 57, 0), (48, .aload_n 0, 1, 0, 0), (49, .getfield 32, 3, 2627, 0), (52, .iload_n 1, 1, 0, 0), (53, .iaload, 1, 0, 0), (54, .goto 11, 3, 65, 0), (57, .aload_n 0, 1, 0, 0), (58, .getfield 108, 3, 2739, 0), (61, .iconst 4, 1, 0, 4), (62, .iload_n 1, 1, 0, 0), (63, .iadd, 1, 0, 0), (64, .iaload, 1, 0, 0), (65, .ireturn, 1, 0, 0), (66, .iload_n 2, 1, 0, 0), (67, .iconst 3, 1, 0, 3), (68, .if_icmp .ne 15, 3, 83, 0), (71, .aload_n 0, 1, 0, 0), (72, .getfield 108, 3, 2739, 0), (75, .bipush 14, 2, 0, 14), (77, .iload_n 1, 1, 0, 0), (78, .iadd, 1, 0, 0), (79, .iaload, 1, 0, 0), (80, .goto 30, 3, 110, 0), (83, .iload_n 2, 1, 0, 0), (84, .iconst 4, 1, 0, 4), (85, .if_icmp .ne 15, 3, 100, 0), (88, .aload_n 0, 1, 0, 0), (89, .getfield 108, 3, 2739, 0), (92, .bipush 19, 2, 0, 19), (94, .iload_n 1, 1, 0, 0), (95, .iadd, 1, 0, 0), (96, .iaload, 1, 0, 0), (97, .goto 13, 3, 110, 0), (100, .aload_n 0, 1, 0, 0), (101, .getfield 108, 3, 2739, 0), (104, .iconst 3, 1, 0, 3), (105, .iaload, 1, 0, 0), (106, .iload_n 1, 1, 0, 0), (107, .ishr, 1, 0, 0), (108, .iconst 1, 1, 0, 1), (109, .iand, 1, 0, 0), (110, .ireturn, 1, 0, 0)]
def pg_X10_person : ur_P := (pr_X10_person, fun _ => ([], 0), 3, 0, 10)
abbrev kX_X10_person : Nat := 202
def pr_X10_keeps : List ur_E := [(0, .aload_n 0, 1, 0, 0), (1, .getfield 328, 3, 2760, 0), (4, .bipush 16, 2, 0, 16), (6, .if_icmp .ne 43, 3, 49, 0), (9, .iconst 0, 1, 0, 0), (10, .istore_n 1, 1, 0, 0), (11, .iload_n 1, 1, 0, 0), (12, .sipush 435, 3, 0, 435), (15, .if_icmp .ge 24, 3, 39, 0), (18, .aload_n 0, 1, 0, 0), (19, .getfield 120, 3, 2755, 0), (22, .iload_n 1, 1, 0, 0), (23, .aload_n 0, 1, 0, 0), (24, .getfield 120, 3, 2755, 0), (27, .iload_n 1, 1, 0, 0), (28, .bipush 29, 2, 0, 29), (30, .iadd, 1, 0, 0), (31, .iaload, 1, 0, 0), (32, .iastore, 1, 0, 0), (33, .iinc 1 1, 3, 0, 1), (36, .goto (-25), 3, 11, 0), (39, .aload_n 0, 1, 0, 0), (40, .dup, 1, 0, 0), (41, .getfield 328, 3, 2760, 0), (44, .iconst 1, 1, 0, 1), (45, .isub, 1, 0, 0), (46, .putfield 328, 3, 2760, 0), (49, .aload_n 0, 1, 0, 0), (50, .getfield 108, 3, 2739, 0), (53, .iconst 0, 1, 0, 0), (54, .aload_n 0, 1, 0, 0), (55, .getfield 120, 3, 2755, 0), (58, .bipush 29, 2, 0, 29), (60, .aload_n 0, 1, 0, 0), (61, .getfield 328, 3, 2760, 0), (64, .imul, 1, 0, 0), (65, .invokestatic 382, 3, 5512, 0), (68, .aload_n 0, 1, 0, 0), (69, .dup, 1, 0, 0), (70, .getfield 328, 3, 2760, 0), (73, .iconst 1, 1, 0, 1), (74, .iadd, 1, 0, 0), (75, .putfield 328, 3, 2760, 0), (78, .return_, 1, 0, 0)]
def pg_X10_keeps : ur_P := (pr_X10_keeps, fun _ => ([], 0), 2, 0, 10)
abbrev kX_X10_keeps : Nat := 203
def pr_X10_walk : List ur_E := [(0, .aload_n 0, 1, 0, 0), (1, .iconst 0, 1, 0, 0), (2, .putfield 141, 3, 2560, 0), (5, .aload_n 0, 1, 0, 0), (6, .iload_n 1, 1, 0, 0), (7, .invokevirtual 379, 3, 5765, 0), (10, .ifCond .eq 23, 3, 33, 0), (13, .aload_n 0, 1, 0, 0), (14, .iload_n 2, 1, 0, 0), (15, .invokevirtual 338, 3, 5733, 0), (18, .ifCond .eq 15, 3, 33, 0), (21, .aload_n 0, 1, 0, 0), (22, .iload_n 1, 1, 0, 0), (23, .invokevirtual 386, 3, 6181, 0), (26, .iload_n 2, 1, 0, 0), (27, .ishr, 1, 0, 0), (28, .iconst 1, 1, 0, 1), (29, .iand, 1, 0, 0), (30, .ifCond .ne 5, 3, 35, 0), (33, .iconst 0, 1, 0, 0), (34, .ireturn, 1, 0, 0), (35, .aload_n 0, 1, 0, 0), (36, .invokevirtual 389, 3, 6498, 0), (39, .aload_n 0, 1, 0, 0), (40, .getfield 108, 3, 2739, 0), (43, .iconst 4, 1, 0, 4), (44, .iload_n 1, 1, 0, 0), (45, .iadd, 1, 0, 0), (46, .iload_n 2, 1, 0, 0), (47, .iastore, 1, 0, 0), (48, .iconst 1, 1, 0, 1), (49, .ireturn, 1, 0, 0)]
def pg_X10_walk : ur_P := (pr_X10_walk, fun _ => ([], 0), 3, 1, 10)
abbrev kX_X10_walk : Nat := 204
def pr_X10_show : List ur_E := [(0, .aload_n 0, 1, 0, 0), (1, .iconst 0, 1, 0, 0), (2, .putfield 141, 3, 2560, 0), (5, .aload_n 0, 1, 0, 0), (6, .iload_n 1, 1, 0, 0), (7, .invokevirtual 379, 3, 5765, 0), (10, .ifCond .eq 20, 3, 30, 0), (13, .aload_n 0, 1, 0, 0), (14, .iload_n 2, 1, 0, 0), (15, .invokevirtual 338, 3, 5733, 0), (18, .ifCond .eq 12, 3, 30, 0), (21, .aload_n 0, 1, 0, 0), (22, .iload_n 1, 1, 0, 0), (23, .iload_n 2, 1, 0, 0), (24, .invokevirtual 392, 3, 6119, 0), (27, .ifCond .ne 5, 3, 32, 0), (30, .iconst (-1), 1, 0, (-1)), (31, .ireturn, 1, 0, 0), (32, .aload_n 0, 1, 0, 0), (33, .invokevirtual 389, 3, 6498, 0), (36, .aload_n 0, 1, 0, 0), (37, .iload_n 1, 1, 0, 0), (38, .iload_n 2, 1, 0, 0), (39, .invokevirtual 396, 3, 6151, 0), (42, .ireturn, 1, 0, 0)]
def pg_X10_show : ur_P := (pr_X10_show, fun _ => ([], 0), 3, 0, 10)
abbrev kX_X10_show : Nat := 205
def pr_X10_speak : List ur_E := [(0, .aload_n 0, 1, 0, 0), (1, .iconst 0, 1, 0, 0), (2, .putfield 141, 3, 2560, 0), (5, .aload_n 0, 1, 0, 0), (6, .iload_n 1, 1, 0, 0), (7, .invokevirtual 379, 3, 5765, 0), (10, .ifCond .eq 11, 3, 21, 0), (13, .aload_n 0, 1, 0, 0), (14, .iload_n 1, 1, 0, 0), (15, .invokevirtual 399, 3, 6213, 0), (18, .ifCond .ne 5, 3, 23, 0), (21, .iconst 0, 1, 0, 0), (22, .ireturn, 1, 0, 0), (23, .aload_n 0, 1, 0, 0), (24, .invokevirtual 389, 3, 6498, 0), (27, .aload_n 0, 1, 0, 0), (28, .iload_n 1, 1, 0, 0), (29, .invokevirtual 402, 3, 6244, 0), (32, .iconst 1, 1, 0, 1), (33, .ireturn, 1, 0, 0)]
def pg_X10_speak : ur_P := (pr_X10_speak, fun _ => ([], 0), 2, 1, 10)
abbrev kX_X10_speak : Nat := 206
def pr_X10_burn : List ur_E := [(0, .aload_n 0, 1, 0, 0), (1, .iconst 0, 1, 0, 0), (2, .putfield 141, 3, 2560, 0), (5, .aload_n 0, 1, 0, 0), (6, .iload_n 1, 1, 0, 0), (7, .invokevirtual 405, 3, 6341, 0), (10, .ifCond .ne 5, 3, 15, 0), (13, .iconst (-1), 1, 0, (-1)), (14, .ireturn, 1, 0, 0), (15, .aload_n 0, 1, 0, 0), (16, .invokevirtual 389, 3, 6498, 0), (19, .aload_n 0, 1, 0, 0), (20, .iload_n 1, 1, 0, 0), (21, .invokevirtual 408, 3, 6277, 0), (24, .istore_n 2, 1, 0, 0), (25, .aload_n 0, 1, 0, 0), (26, .getfield 108, 3, 2739, 0), (29, .iconst 2, 1, 0, 2), (30, .dup2, 1, 0, 0), (31, .iaload, 1, 0, 0), (32, .iload_n 2, 1, 0, 0), (33, .ior, 1, 0, 0), (34, .iastore, 1, 0, 0), (35, .iload_n 2, 1, 0, 0), (36, .invokestatic 411, 3, 4547, 0), (39, .ireturn, 1, 0, 0)]
def pg_X10_burn : ur_P := (pr_X10_burn, fun _ => ([], 0), 3, 0, 10)
abbrev kX_X10_burn : Nat := 207
def pr_X10_minute : List ur_E := [(0, .aload_n 0, 1, 0, 0), (1, .iconst 0, 1, 0, 0), (2, .putfield 141, 3, 2560, 0), (5, .aload_n 0, 1, 0, 0), (6, .invokevirtual 389, 3, 6498, 0), (9, .aload_n 0, 1, 0, 0), (10, .invokevirtual 414, 3, 6403, 0), (13, .ireturn, 1, 0, 0)]
def pg_X10_minute : ur_P := (pr_X10_minute, fun _ => ([], 0), 1, 0, 10)
abbrev kX_X10_minute : Nat := 208
def pr_X10_undo : List ur_E := [(0, .aload_n 0, 1, 0, 0), (1, .iconst 0, 1, 0, 0), (2, .putfield 141, 3, 2560, 0), (5, .aload_n 0, 1, 0, 0), (6, .getfield 328, 3, 2760, 0), (9, .ifCond .ne 5, 3, 14, 0), (12, .iconst 0, 1, 0, 0), (13, .ireturn, 1, 0, 0), (14, .aload_n 0, 1, 0, 0), (15, .dup, 1, 0, 0), (16, .getfield 328, 3, 2760, 0), (19, .iconst 1, 1, 0, 1), (20, .isub, 1, 0, 0), (21, .putfield 328, 3, 2760, 0), (24, .aload_n 0, 1, 0, 0), (25, .getfield 120, 3, 2755, 0), (28, .bipush 29, 2, 0, 29), (30, .aload_n 0, 1, 0, 0), (31, .getfield 328, 3, 2760, 0), (34, .imul, 1, 0, 0), (35, .aload_n 0, 1, 0, 0), (36, .getfield 108, 3, 2739, 0), (39, .iconst 0, 1, 0, 0), (40, .invokestatic 382, 3, 5512, 0), (43, .iconst 1, 1, 0, 1), (44, .ireturn, 1, 0, 0)]
def pg_X10_undo : ur_P := (pr_X10_undo, fun _ => ([], 0), 1, 1, 10)
abbrev kX_X10_undo : Nat := 209
def pr_X10_allBeen : List ur_E := [(0, .iconst 0, 1, 0, 0), (1, .istore_n 1, 1, 0, 0), (2, .iconst 0, 1, 0, 0), (3, .istore_n 2, 1, 0, 0), (4, .iload_n 2, 1, 0, 0), (5, .iconst 5, 1, 0, 5), (6, .if_icmp .ge 21, 3, 27, 0), (9, .iload_n 1, 1, 0, 0), (10, .aload_n 0, 1, 0, 0), (11, .getfield 108, 3, 2739, 0), (14, .bipush 24, 2, 0, 24), (16, .iload_n 2, 1, 0, 0), (17, .iadd, 1, 0, 0), (18, .iaload, 1, 0, 0), (19, .iadd, 1, 0, 0), (20, .istore_n 1, 1, 0, 0), (21, .iinc 2 1, 3, 0, 1), (24, .goto (-20), 3, 4, 0), (27, .iload_n 1, 1, 0, 0), (28, .ireturn, 1, 0, 0)]
def pg_X10_allBeen : ur_P := (pr_X10_allBeen, fun _ => ([], 0), 3, 0, 10)
abbrev kX_X10_allBeen : Nat := 210
def pr_X10_isDone : List ur_E := [(0, .aload_n 0, 1, 0, 0), (1, .getfield 90, 3, 2715, 0), (4, .iload_n 1, 1, 0, 0), (5, .iaload, 1, 0, 0), (6, .istore_n 2, 1, 0, 0), (7, .aload_n 0, 1, 0, 0), (8, .getfield 93, 3, 2719, 0), (11, .iload_n 1, 1, 0, 0), (12, .iaload, 1, 0, 0), (13, .istore_n 3, 1, 0, 0), (14, .aload_n 0, 1, 0, 0), (15, .getfield 87, 3, 2711, 0), (18, .iload_n 1, 1, 0, 0), (19, .iaload, 1, 0, 0), (20, .istore 4, 2, 0, 0), (22, .iload 4, 2, 0, 0), (24, .iconst 4, 1, 0, 4), (25, .if_icmp .ne 11, 3, 36, 0), (28, .aload_n 0, 1, 0, 0), (29, .invokevirtual 414, 3, 6403, 0), (32, .pop, 1, 0, 0), (33, .goto 109, 3, 142, 0), (36, .iload 4, 2, 0, 0), (38, .ifCond .ne 29, 3, 67, 0), (41, .aload_n 0, 1, 0, 0), (42, .iload_n 2, 1, 0, 0), (43, .invokevirtual 386, 3, 6181, 0), (46, .iload_n 3, 1, 0, 0), (47, .ishr, 1, 0, 0), (48, .iconst 1, 1, 0, 1), (49, .iand, 1, 0, 0), (50, .ifCond .ne 5, 3, 55, 0), (53, .iconst 0, 1, 0, 0), (54, .ireturn, 1, 0, 0), (55, .aload_n 0, 1, 0, 0), (56, .getfield 108, 3, 2739, 0), (59, .iconst 4, 1, 0, 4), (60, .iload_n 2, 1, 0, 0), (61, .iadd, 1, 0, 0), (62, .iload_n 3, 1, 0, 0), (63, .iastore, 1, 0, 0), (64, .goto 78, 3, 142, 0), (67, .iload 4, 2, 0, 0), (69, .iconst 1, 1, 0, 1), (70, .if_icmp .ne 24, 3, 94, 0), (73, .aload_n 0, 1, 0, 0), (74, .iload_n 2, 1, 0, 0), (75, .iload_n 3, 1, 0, 0), (76, .invokevirtual 392, 3, 6119, 0), (79, .ifCond .ne 5, 3, 84, 0), (82, .iconst 0, 1, 0, 0), (83, .ireturn, 1, 0, 0), (84, .aload_n 0, 1, 0, 0), (85, .iload_n 2, 1, 0, 0), (86, .iload_n 3, 1, 0, 0), (87, .invokevirtual 396, 3, 6151, 0), (90, .pop, 1, 0, 0), (91, .goto 51, 3, 142, 0), (94, .iload 4, 2, 0, 0), (96, .iconst 2, 1, 0, 2), (97, .if_icmp .ne 21, 3, 118, 0), (100, .aload_n 0, 1, 0, 0), (101, .iload_n 2, 1, 0, 0), (102, .invokevirtual 399, 3, 6213, 0), (105, .ifCond .ne 5, 3, 110, 0), (108, .iconst 0, 1, 0, 0), (109, .ireturn, 1, 0, 0), (110, .aload_n 0, 1, 0, 0), (111, .iload_n 2, 1, 0, 0), (112, .invokevirtual 402, 3, 6244, 0), (115, .goto 27, 3, 142, 0), (118, .aload_n 0, 1, 0, 0), (119, .iload_n 3, 1, 0, 0), (120, .invokevirtual 405, 3, 6341, 0), (123, .ifCond .ne 5, 3, 128, 0), (126, .iconst 0, 1, 0, 0), (127, .ireturn, 1, 0, 0), (128, .aload_n 0, 1, 0, 0), (129, .getfield 108, 3, 2739, 0), (132, .iconst 2, 1, 0, 2), (133, .dup2, 1, 0, 0), (134, .iaload, 1, 0, 0), (135, .aload_n 0, 1, 0, 0), (136, .iload_n 3, 1, 0, 0), (137, .invokevirtual 408, 3, 6277, 0), (140, .ior, 1, 0, 0), (141, .iastore, 1, 0, 0), (142, .iconst 1, 1, 0, 1), (143, .ireturn, 1, 0, 0)]
def pg_X10_isDone : ur_P := (pr_X10_isDone, fun _ => ([], 0), 5, 1, 10)
abbrev kX_X10_isDone : Nat := 211
def pr_X10_judged : List ur_E := [(0, .aload_n 0, 1, 0, 0), (1, .iconst 0, 1, 0, 0), (2, .putfield 141, 3, 2560, 0), (5, .iload_n 1, 1, 0, 0), (6, .iconst 0, 1, 0, 0), (7, .iconst 2, 1, 0, 2), (8, .invokestatic 262, 3, 4487, 0), (11, .ifCond .ne 6, 3, 17, 0), (14, .bipush (-2), 2, 0, (-2)), (16, .ireturn, 1, 0, 0), (17, .aload_n 0, 1, 0, 0), (18, .getfield 108, 3, 2739, 0), (21, .iconst 0, 1, 0, 0), (22, .aload_n 0, 1, 0, 0), (23, .getfield 111, 3, 2743, 0), (26, .iconst 0, 1, 0, 0), (27, .invokestatic 382, 3, 5512, 0), (30, .aload_n 0, 1, 0, 0), (31, .invokevirtual 138, 3, 5634, 0), (34, .iconst (-1), 1, 0, (-1)), (35, .istore_n 2, 1, 0, 0), (36, .iconst (-1), 1, 0, (-1)), (37, .istore_n 3, 1, 0, 0), (38, .iconst 0, 1, 0, 0), (39, .istore 4, 2, 0, 0), (41, .iload 4, 2, 0, 0), (43, .aload_n 0, 1, 0, 0), (44, .getfield 84, 3, 2707, 0), (47, .iconst 0, 1, 0, 0), (48, .iaload, 1, 0, 0), (49, .if_icmp .ge 41, 3, 90, 0), (52, .aload_n 0, 1, 0, 0), (53, .iload 4, 2, 0, 0), (55, .invokevirtual 417, 3, 6757, 0), (58, .ifCond .ne 10, 3, 68, 0), (61, .iload_n 2, 1, 0, 0), (62, .ifCond .ge 6, 3, 68, 0), (65, .iload 4, 2, 0, 0), (67, .istore_n 2, 1, 0, 0), (68, .aload_n 0, 1, 0, 0), (69, .getfield 108, 3, 2739, 0), (72, .iconst 1, 1, 0, 1), (73, .iaload, 1, 0, 0), (74, .ifCond .le 10, 3, 84, 0), (77, .iload_n 3, 1, 0, 0), (78, .ifCond .ge 6, 3, 84, 0), (81, .iload 4, 2, 0, 0), (83, .istore_n 3, 1, 0, 0), (84, .iinc 4 1, 3, 0, 1), (87, .goto (-46), 3, 41, 0), (90, .aload_n 0, 1, 0, 0), (91, .invokevirtual 420, 3, 6723, 0), (94, .istore 4, 2, 0, 0), (96, .aload_n 0, 1, 0, 0), (97, .getfield 111, 3, 2743, 0), (100, .iconst 0, 1, 0, 0), (101, .aload_n 0, 1, 0, 0), (102, .getfield 108, 3, 2739, 0), (105, .iconst 0, 1, 0, 0), (106, .invokestatic 382, 3, 5512, 0), (109, .iload_n 1, 1, 0, 0), (110, .ifCond .ne 7, 3, 117, 0), (113, .iload_n 2, 1, 0, 0), (114, .goto 14, 3, 128, 0), (117, .iload_n 1, 1, 0, 0), (118, .iconst 1, 1, 0, 1), (119, .if_icmp .ne 7, 3, 126, 0), (122, .iload_n 3, 1, 0, 0), (123, .goto 5, 3, 128, 0), (126, .iload 4, 2, 0, 0), (128, .ireturn, 1, 0, 0)]
def pg_X10_judged : ur_P := (pr_X10_judged, fun _ => ([], 0), 5, 0, 10)
abbrev kX_X10_judged : Nat := 212
def pr_X10_host : List ur_E := [(0, .aload_n 0, 1, 0, 0), (1, .iconst 0, 1, 0, 0), (2, .putfield 141, 3, 2560, 0), (5, .aload_n 0, 1, 0, 0), (6, .iload_n 1, 1, 0, 0), (7, .invokevirtual 423, 3, 5797, 0), (10, .ifCond .eq 11, 3, 21, 0), (13, .aload_n 0, 1, 0, 0), (14, .iload_n 1, 1, 0, 0), (15, .invokevirtual 360, 3, 5957, 0), (18, .goto 4, 3, 22, 0), (21, .iconst (-1), 1, 0, (-1)), (22, .ireturn, 1, 0, 0)]
def pg_X10_host : ur_P := (pr_X10_host, fun _ => ([], 0), 2, 0, 10)
abbrev kX_X10_host : Nat := 213
def pr_X10_freesOf : List ur_E := [(0, .aload_n 0, 1, 0, 0), (1, .getfield 108, 3, 2739, 0), (4, .iconst 0, 1, 0, 0), (5, .aload_n 0, 1, 0, 0), (6, .getfield 114, 3, 2747, 0), (9, .iconst 0, 1, 0, 0), (10, .invokestatic 382, 3, 5512, 0), (13, .iconst 0, 1, 0, 0), (14, .istore_n 2, 1, 0, 0), (15, .iload_n 2, 1, 0, 0), (16, .bipush 60, 2, 0, 60), (18, .if_icmp .gt 22, 3, 40, 0), (21, .aload_n 0, 1, 0, 0), (22, .iload_n 1, 1, 0, 0), (23, .invokevirtual 360, 3, 5957, 0), (26, .ifCond .lt 14, 3, 40, 0), (29, .aload_n 0, 1, 0, 0), (30, .invokevirtual 414, 3, 6403, 0), (33, .pop, 1, 0, 0), (34, .iinc 2 1, 3, 0, 1), (37, .goto (-22), 3, 15, 0), (40, .aload_n 0, 1, 0, 0), (41, .getfield 114, 3, 2747, 0), (44, .iconst 0, 1, 0, 0), (45, .aload_n 0, 1, 0, 0), (46, .getfield 108, 3, 2739, 0), (49, .iconst 0, 1, 0, 0), (50, .invokestatic 382, 3, 5512, 0), (53, .iload_n 2, 1, 0, 0), (54, .bipush 60, 2, 0, 60), (56, .if_icmp .le 7, 3, 63, 0), (59, .iconst (-1), 1, 0, (-1)), (60, .goto 4, 3, 64, 0), (63, .iload_n 2, 1, 0, 0), (64, .ireturn, 1, 0, 0)]
def pg_X10_freesOf : ur_P := (pr_X10_freesOf, fun _ => ([], 0), 3, 0, 10)
abbrev kX_X10_freesOf : Nat := 214
def pr_X10_frees : List ur_E := [(0, .aload_n 0, 1, 0, 0), (1, .iconst 0, 1, 0, 0), (2, .putfield 141, 3, 2560, 0), (5, .aload_n 0, 1, 0, 0), (6, .iload_n 1, 1, 0, 0), (7, .invokevirtual 423, 3, 5797, 0), (10, .ifCond .eq 11, 3, 21, 0), (13, .aload_n 0, 1, 0, 0), (14, .iload_n 1, 1, 0, 0), (15, .invokevirtual 426, 3, 6853, 0), (18, .goto 4, 3, 22, 0), (21, .iconst (-1), 1, 0, (-1)), (22, .ireturn, 1, 0, 0)]
def pg_X10_frees : ur_P := (pr_X10_frees, fun _ => ([], 0), 2, 0, 10)
abbrev kX_X10_frees : Nat := 215
def pr_X10_later : List ur_E := [(0, .aload_n 0, 1, 0, 0), (1, .iconst 0, 1, 0, 0), (2, .putfield 141, 3, 2560, 0), (5, .aload_n 0, 1, 0, 0), (6, .iload_n 1, 1, 0, 0), (7, .invokevirtual 379, 3, 5765, 0), (10, .ifCond .eq 13, 3, 23, 0), (13, .iload_n 2, 1, 0, 0), (14, .iconst 0, 1, 0, 0), (15, .bipush 60, 2, 0, 60), (17, .invokestatic 262, 3, 4487, 0), (20, .ifCond .ne 5, 3, 25, 0), (23, .iconst (-1), 1, 0, (-1)), (24, .ireturn, 1, 0, 0), (25, .aload_n 0, 1, 0, 0), (26, .getfield 108, 3, 2739, 0), (29, .iconst 0, 1, 0, 0), (30, .aload_n 0, 1, 0, 0), (31, .getfield 114, 3, 2747, 0), (34, .iconst 0, 1, 0, 0), (35, .invokestatic 382, 3, 5512, 0), (38, .iconst 0, 1, 0, 0), (39, .istore_n 3, 1, 0, 0), (40, .iload_n 3, 1, 0, 0), (41, .iload_n 2, 1, 0, 0), (42, .if_icmp .ge 14, 3, 56, 0), (45, .aload_n 0, 1, 0, 0), (46, .invokevirtual 414, 3, 6403, 0), (49, .pop, 1, 0, 0), (50, .iinc 3 1, 3, 0, 1), (53, .goto (-13), 3, 40, 0), (56, .aload_n 0, 1, 0, 0), (57, .getfield 108, 3, 2739, 0), (60, .iconst 4, 1, 0, 4), (61, .iload_n 1, 1, 0, 0), (62, .iadd, 1, 0, 0), (63, .iaload, 1, 0, 0), (64, .istore_n 3, 1, 0, 0), (65, .aload_n 0, 1, 0, 0), (66, .getfield 114, 3, 2747, 0), (69, .iconst 0, 1, 0, 0), (70, .aload_n 0, 1, 0, 0), (71, .getfield 108, 3, 2739, 0), (74, .iconst 0, 1, 0, 0), (75, .invokestatic 382, 3, 5512, 0), (78, .iload_n 3, 1, 0, 0), (79, .ireturn, 1, 0, 0)]
def pg_X10_later : ur_P := (pr_X10_later, fun _ => ([], 0), 4, 0, 10)
abbrev kX_X10_later : Nat := 216
def pr_X10_out : List ur_E := [(0, .aload_n 0, 1, 0, 0), (1, .iconst 0, 1, 0, 0), (2, .putfield 141, 3, 2560, 0), (5, .aload_n 0, 1, 0, 0), (6, .iload_n 1, 1, 0, 0), (7, .invokevirtual 379, 3, 5765, 0), (10, .ifCond .eq 11, 3, 21, 0), (13, .aload_n 0, 1, 0, 0), (14, .iload_n 1, 1, 0, 0), (15, .invokevirtual 347, 3, 5925, 0), (18, .ifCond .ne 5, 3, 23, 0), (21, .iconst (-1), 1, 0, (-1)), (22, .ireturn, 1, 0, 0), (23, .aload_n 0, 1, 0, 0), (24, .getfield 108, 3, 2739, 0), (27, .iconst 0, 1, 0, 0), (28, .aload_n 0, 1, 0, 0), (29, .getfield 114, 3, 2747, 0), (32, .iconst 0, 1, 0, 0), (33, .invokestatic 382, 3, 5512, 0), (36, .iconst 0, 1, 0, 0), (37, .istore_n 2, 1, 0, 0), (38, .iload_n 2, 1, 0, 0), (39, .bipush 60, 2, 0, 60), (41, .if_icmp .gt 22, 3, 63, 0), (44, .aload_n 0, 1, 0, 0), (45, .iload_n 1, 1, 0, 0), (46, .invokevirtual 347, 3, 5925, 0), (49, .ifCond .eq 14, 3, 63, 0), (52, .aload_n 0, 1, 0, 0), (53, .invokevirtual 414, 3, 6403, 0), (56, .pop, 1, 0, 0), (57, .iinc 2 1, 3, 0, 1), (60, .goto (-22), 3, 38, 0), (63, .aload_n 0, 1, 0, 0), (64, .getfield 114, 3, 2747, 0), (67, .iconst 0, 1, 0, 0), (68, .aload_n 0, 1, 0, 0), (69, .getfield 108, 3, 2739, 0), (72, .iconst 0, 1, 0, 0), (73, .invokestatic 382, 3, 5512, 0), (76, .iload_n 2, 1, 0, 0), (77, .bipush 60, 2, 0, 60), (79, .if_icmp .le 7, 3, 86, 0), (82, .iconst (-1), 1, 0, (-1)), (83, .goto 4, 3, 87, 0), (86, .iload_n 2, 1, 0, 0), (87, .ireturn, 1, 0, 0)]
def pg_X10_out : ur_P := (pr_X10_out, fun _ => ([], 0), 3, 0, 10)
abbrev kX_X10_out : Nat := 217
def pr_X10_calm : List ur_E := [(0, .aload_n 0, 1, 0, 0), (1, .iconst 0, 1, 0, 0), (2, .putfield 141, 3, 2560, 0), (5, .aload_n 0, 1, 0, 0), (6, .getfield 108, 3, 2739, 0), (9, .iconst 0, 1, 0, 0), (10, .aload_n 0, 1, 0, 0), (11, .getfield 114, 3, 2747, 0), (14, .iconst 0, 1, 0, 0), (15, .invokestatic 382, 3, 5512, 0), (18, .iconst 0, 1, 0, 0), (19, .istore_n 1, 1, 0, 0), (20, .iload_n 1, 1, 0, 0), (21, .bipush 60, 2, 0, 60), (23, .if_icmp .gt 21, 3, 44, 0), (26, .aload_n 0, 1, 0, 0), (27, .invokevirtual 429, 3, 5987, 0), (30, .ifCond .eq 14, 3, 44, 0), (33, .aload_n 0, 1, 0, 0), (34, .invokevirtual 414, 3, 6403, 0), (37, .pop, 1, 0, 0), (38, .iinc 1 1, 3, 0, 1), (41, .goto (-21), 3, 20, 0), (44, .aload_n 0, 1, 0, 0), (45, .getfield 114, 3, 2747, 0), (48, .iconst 0, 1, 0, 0), (49, .aload_n 0, 1, 0, 0), (50, .getfield 108, 3, 2739, 0), (53, .iconst 0, 1, 0, 0), (54, .invokestatic 382, 3, 5512, 0), (57, .iload_n 1, 1, 0, 0), (58, .bipush 60, 2, 0, 60), (60, .if_icmp .le 7, 3, 67, 0), (63, .iconst (-1), 1, 0, (-1)), (64, .goto 4, 3, 68, 0), (67, .iload_n 1, 1, 0, 0), (68, .ireturn, 1, 0, 0)]
def pg_X10_calm : ur_P := (pr_X10_calm, fun _ => ([], 0), 2, 0, 10)
abbrev kX_X10_calm : Nat := 218
def pr_X10_mayOf : List ur_E := [(0, .iconst 0, 1, 0, 0), (1, .istore_n 2, 1, 0, 0), (2, .iconst 0, 1, 0, 0), (3, .istore_n 3, 1, 0, 0), (4, .iload_n 3, 1, 0, 0), (5, .aload_n 0, 1, 0, 0), (6, .getfield 13, 3, 2603, 0), (9, .iconst 0, 1, 0, 0), (10, .iaload, 1, 0, 0), (11, .if_icmp .ge 28, 3, 39, 0), (14, .iload_n 2, 1, 0, 0), (15, .aload_n 0, 1, 0, 0), (16, .iload_n 1, 1, 0, 0), (17, .iload_n 3, 1, 0, 0), (18, .invokevirtual 392, 3, 6119, 0), (21, .ifCond .eq 9, 3, 30, 0), (24, .iconst 1, 1, 0, 1), (25, .iload_n 3, 1, 0, 0), (26, .ishl, 1, 0, 0), (27, .goto 4, 3, 31, 0), (30, .iconst 0, 1, 0, 0), (31, .ior, 1, 0, 0), (32, .istore_n 2, 1, 0, 0), (33, .iinc 3 1, 3, 0, 1), (36, .goto (-32), 3, 4, 0), (39, .iload_n 2, 1, 0, 0), (40, .ireturn, 1, 0, 0)]
def pg_X10_mayOf : ur_P := (pr_X10_mayOf, fun _ => ([], 0), 4, 0, 10)
abbrev kX_X10_mayOf : Nat := 219
def pr_X10_may : List ur_E := [(0, .aload_n 0, 1, 0, 0), (1, .iconst 0, 1, 0, 0), (2, .putfield 141, 3, 2560, 0), (5, .aload_n 0, 1, 0, 0), (6, .iload_n 1, 1, 0, 0), (7, .invokevirtual 379, 3, 5765, 0), (10, .ifCond .eq 11, 3, 21, 0), (13, .aload_n 0, 1, 0, 0), (14, .iload_n 1, 1, 0, 0), (15, .invokevirtual 432, 3, 7013, 0), (18, .goto 4, 3, 22, 0), (21, .iconst (-1), 1, 0, (-1)), (22, .ireturn, 1, 0, 0)]
def pg_X10_may : ur_P := (pr_X10_may, fun _ => ([], 0), 2, 0, 10)
abbrev kX_X10_may : Nat := 220
def pr_X10_goes : List ur_E := [(0, .aload_n 0, 1, 0, 0), (1, .iconst 0, 1, 0, 0), (2, .putfield 141, 3, 2560, 0), (5, .aload_n 0, 1, 0, 0), (6, .iload_n 1, 1, 0, 0), (7, .invokevirtual 379, 3, 5765, 0), (10, .ifCond .eq 11, 3, 21, 0), (13, .aload_n 0, 1, 0, 0), (14, .iload_n 1, 1, 0, 0), (15, .invokevirtual 386, 3, 6181, 0), (18, .goto 4, 3, 22, 0), (21, .iconst (-1), 1, 0, (-1)), (22, .ireturn, 1, 0, 0)]
def pg_X10_goes : ur_P := (pr_X10_goes, fun _ => ([], 0), 2, 0, 10)
abbrev kX_X10_goes : Nat := 221
def pr_X10_stay : List ur_E := [(0, .aload_n 0, 1, 0, 0), (1, .iconst 0, 1, 0, 0), (2, .putfield 141, 3, 2560, 0), (5, .aload_n 0, 1, 0, 0), (6, .iload_n 1, 1, 0, 0), (7, .invokevirtual 379, 3, 5765, 0), (10, .ifCond .eq 26, 3, 36, 0), (13, .aload_n 0, 1, 0, 0), (14, .iload_n 2, 1, 0, 0), (15, .invokevirtual 423, 3, 5797, 0), (18, .ifCond .eq 18, 3, 36, 0), (21, .aload_n 0, 1, 0, 0), (22, .iload_n 1, 1, 0, 0), (23, .iload_n 2, 1, 0, 0), (24, .aload_n 0, 1, 0, 0), (25, .getfield 108, 3, 2739, 0), (28, .iconst 1, 1, 0, 1), (29, .iaload, 1, 0, 0), (30, .invokevirtual 363, 3, 6057, 0), (33, .goto 4, 3, 37, 0), (36, .iconst (-1), 1, 0, (-1)), (37, .ireturn, 1, 0, 0)]
def pg_X10_stay : ur_P := (pr_X10_stay, fun _ => ([], 0), 3, 0, 10)
abbrev kX_X10_stay : Nat := 222
def pr_X10_widows : List ur_E := [(0, .aload_n 0, 1, 0, 0), (1, .iconst 0, 1, 0, 0), (2, .putfield 141, 3, 2560, 0), (5, .iconst 0, 1, 0, 0), (6, .istore_n 1, 1, 0, 0), (7, .iconst 0, 1, 0, 0), (8, .istore_n 2, 1, 0, 0), (9, .iload_n 2, 1, 0, 0), (10, .aload_n 0, 1, 0, 0), (11, .getfield 13, 3, 2603, 0), (14, .iconst 2, 1, 0, 2), (15, .iaload, 1, 0, 0), (16, .if_icmp .ge 43, 3, 59, 0), (19, .iload_n 1, 1, 0, 0), (20, .aload_n 0, 1, 0, 0), (21, .iload_n 2, 1, 0, 0), (22, .invokevirtual 347, 3, 5925, 0), (25, .ifCond .ne 25, 3, 50, 0), (28, .aload_n 0, 1, 0, 0), (29, .iload_n 2, 1, 0, 0), (30, .invokevirtual 386, 3, 6181, 0), (33, .ifCond .ne 17, 3, 50, 0), (36, .aload_n 0, 1, 0, 0), (37, .iload_n 2, 1, 0, 0), (38, .invokevirtual 432, 3, 7013, 0), (41, .ifCond .ne 9, 3, 50, 0), (44, .iconst 1, 1, 0, 1), (45, .iload_n 2, 1, 0, 0), (46, .ishl, 1, 0, 0), (47, .goto 4, 3, 51, 0), (50, .iconst 0, 1, 0, 0), (51, .ior, 1, 0, 0), (52, .istore_n 1, 1, 0, 0), (53, .iinc 2 1, 3, 0, 1), (56, .goto (-47), 3, 9, 0), (59, .iload_n 1, 1, 0, 0), (60, .ireturn, 1, 0, 0)]
def pg_X10_widows : ur_P := (pr_X10_widows, fun _ => ([], 0), 3, 0, 10)
abbrev kX_X10_widows : Nat := 223
def pr_X10_reach : List ur_E := [(0, .aload_n 0, 1, 0, 0), (1, .iconst 0, 1, 0, 0), (2, .putfield 141, 3, 2560, 0), (5, .aload_n 0, 1, 0, 0), (6, .iload_n 1, 1, 0, 0), (7, .invokevirtual 373, 3, 5893, 0), (10, .ifCond .eq 17, 3, 27, 0), (13, .aload_n 0, 1, 0, 0), (14, .iconst 1, 1, 0, 1), (15, .iload_n 1, 1, 0, 0), (16, .ishl, 1, 0, 0), (17, .aload_n 0, 1, 0, 0), (18, .invokevirtual 344, 3, 5859, 0), (21, .invokevirtual 369, 3, 6311, 0), (24, .goto 4, 3, 28, 0), (27, .iconst (-1), 1, 0, (-1)), (28, .ireturn, 1, 0, 0)]
def pg_X10_reach : ur_P := (pr_X10_reach, fun _ => ([], 0), 2, 0, 10)
abbrev kX_X10_reach : Nat := 224
def pr_X10_far : List ur_E := [(0, .aload_n 0, 1, 0, 0), (1, .iconst 0, 1, 0, 0), (2, .putfield 141, 3, 2560, 0), (5, .aload_n 0, 1, 0, 0), (6, .iload_n 1, 1, 0, 0), (7, .invokevirtual 373, 3, 5893, 0), (10, .ifCond .eq 11, 3, 21, 0), (13, .aload_n 0, 1, 0, 0), (14, .iload_n 2, 1, 0, 0), (15, .invokevirtual 373, 3, 5893, 0), (18, .ifCond .ne 5, 3, 23, 0), (21, .iconst (-1), 1, 0, (-1)), (22, .ireturn, 1, 0, 0), (23, .iconst 1, 1, 0, 1), (24, .iload_n 1, 1, 0, 0), (25, .ishl, 1, 0, 0), (26, .istore_n 3, 1, 0, 0), (27, .iconst 0, 1, 0, 0), (28, .istore 4, 2, 0, 0), (30, .iload 4, 2, 0, 0), (32, .bipush 8, 2, 0, 8), (34, .if_icmp .ge 78, 3, 112, 0), (37, .iload_n 3, 1, 0, 0), (38, .iload_n 2, 1, 0, 0), (39, .ishr, 1, 0, 0), (40, .iconst 1, 1, 0, 1), (41, .iand, 1, 0, 0), (42, .iconst 1, 1, 0, 1), (43, .if_icmp .ne 6, 3, 49, 0), (46, .iload 4, 2, 0, 0), (48, .ireturn, 1, 0, 0), (49, .iload_n 3, 1, 0, 0), (50, .istore 5, 2, 0, 0), (52, .iconst 0, 1, 0, 0), (53, .istore 6, 2, 0, 0), (55, .iload 6, 2, 0, 0), (57, .aload_n 0, 1, 0, 0), (58, .getfield 13, 3, 2603, 0), (61, .iconst 0, 1, 0, 0), (62, .iaload, 1, 0, 0), (63, .if_icmp .ge 40, 3, 103, 0), (66, .iload 5, 2, 0, 0), (68, .iload_n 3, 1, 0, 0), (69, .iload 6, 2, 0, 0), (71, .ishr, 1, 0, 0), (72, .iconst 1, 1, 0, 1), (73, .iand, 1, 0, 0), (74, .iconst 1, 1, 0, 1), (75, .if_icmp .ne 18, 3, 93, 0), (78, .aload_n 0, 1, 0, 0), (79, .getfield 23, 3, 2615, 0), (82, .iload 6, 2, 0, 0), (84, .iaload, 1, 0, 0), (85, .aload_n 0, 1, 0, 0), (86, .invokevirtual 344, 3, 5859, 0), (89, .iand, 1, 0, 0), (90, .goto 4, 3, 94, 0), (93, .iconst 0, 1, 0, 0), (94, .ior, 1, 0, 0), (95, .istore 5, 2, 0, 0), (97, .iinc 6 1, 3, 0, 1), (100, .goto (-45), 3, 55, 0), (103, .iload 5, 2, 0, 0), (105, .istore_n 3, 1, 0, 0), (106, .iinc 4 1, 3, 0, 1), (109, .goto (-79), 3, 30, 0), (112, .iconst (-1), 1, 0, (-1)), (113, .ireturn, 1, 0, 0)]
def pg_X10_far : ur_P := (pr_X10_far, fun _ => ([], 0), 7, 0, 10)
abbrev kX_X10_far : Nat := 225
def pr_X10_pieces : List ur_E := [(0, .iload_n 1, 1, 0, 0), (1, .istore_n 2, 1, 0, 0), (2, .iconst 0, 1, 0, 0), (3, .istore_n 3, 1, 0, 0), (4, .iload_n 2, 1, 0, 0), (5, .ifCond .eq 25, 3, 30, 0), (8, .iload_n 2, 1, 0, 0), (9, .aload_n 0, 1, 0, 0), (10, .iconst 1, 1, 0, 1), (11, .iload_n 2, 1, 0, 0), (12, .invokestatic 376, 3, 6371, 0), (15, .ishl, 1, 0, 0), (16, .iload_n 1, 1, 0, 0), (17, .invokevirtual 369, 3, 6311, 0), (20, .iconst (-1), 1, 0, (-1)), (21, .ixor, 1, 0, 0), (22, .iand, 1, 0, 0), (23, .istore_n 2, 1, 0, 0), (24, .iinc 3 1, 3, 0, 1), (27, .goto (-23), 3, 4, 0), (30, .iload_n 3, 1, 0, 0), (31, .ireturn, 1, 0, 0)]
def pg_X10_pieces : ur_P := (pr_X10_pieces, fun _ => ([], 0), 4, 0, 10)
abbrev kX_X10_pieces : Nat := 226
def pr_X10_halls : List ur_E := [(0, .aload_n 0, 1, 0, 0), (1, .iconst 0, 1, 0, 0), (2, .putfield 141, 3, 2560, 0), (5, .aload_n 0, 1, 0, 0), (6, .aload_n 0, 1, 0, 0), (7, .invokevirtual 344, 3, 5859, 0), (10, .invokevirtual 435, 3, 7237, 0), (13, .ireturn, 1, 0, 0)]
def pg_X10_halls : ur_P := (pr_X10_halls, fun _ => ([], 0), 1, 0, 10)
abbrev kX_X10_halls : Nat := 227
def pr_X10_hinges : List ur_E := [(0, .aload_n 0, 1, 0, 0), (1, .iconst 0, 1, 0, 0), (2, .putfield 141, 3, 2560, 0), (5, .iconst 0, 1, 0, 0), (6, .istore_n 1, 1, 0, 0), (7, .iconst 0, 1, 0, 0), (8, .istore_n 2, 1, 0, 0), (9, .iload_n 2, 1, 0, 0), (10, .aload_n 0, 1, 0, 0), (11, .getfield 13, 3, 2603, 0), (14, .iconst 0, 1, 0, 0), (15, .iaload, 1, 0, 0), (16, .if_icmp .ge 55, 3, 71, 0), (19, .aload_n 0, 1, 0, 0), (20, .iload_n 2, 1, 0, 0), (21, .invokevirtual 373, 3, 5893, 0), (24, .ifCond .ne 6, 3, 30, 0), (27, .goto 38, 3, 65, 0), (30, .iload_n 1, 1, 0, 0), (31, .aload_n 0, 1, 0, 0), (32, .aload_n 0, 1, 0, 0), (33, .iconst 1, 1, 0, 1), (34, .iload_n 2, 1, 0, 0), (35, .ishl, 1, 0, 0), (36, .aload_n 0, 1, 0, 0), (37, .invokevirtual 344, 3, 5859, 0), (40, .invokevirtual 369, 3, 6311, 0), (43, .iconst 1, 1, 0, 1), (44, .iload_n 2, 1, 0, 0), (45, .ishl, 1, 0, 0), (46, .iconst (-1), 1, 0, (-1)), (47, .ixor, 1, 0, 0), (48, .iand, 1, 0, 0), (49, .invokevirtual 435, 3, 7237, 0), (52, .iconst 1, 1, 0, 1), (53, .if_icmp .le 9, 3, 62, 0), (56, .iconst 1, 1, 0, 1), (57, .iload_n 2, 1, 0, 0), (58, .ishl, 1, 0, 0), (59, .goto 4, 3, 63, 0), (62, .iconst 0, 1, 0, 0), (63, .ior, 1, 0, 0), (64, .istore_n 1, 1, 0, 0), (65, .iinc 2 1, 3, 0, 1), (68, .goto (-59), 3, 9, 0), (71, .iload_n 1, 1, 0, 0), (72, .ireturn, 1, 0, 0)]
def pg_X10_hinges : ur_P := (pr_X10_hinges, fun _ => ([], 0), 3, 0, 10)
abbrev kX_X10_hinges : Nat := 228
def pr_X10_unsaidBy : List ur_E := [(0, .iconst 0, 1, 0, 0), (1, .istore_n 2, 1, 0, 0), (2, .iconst 0, 1, 0, 0), (3, .istore_n 3, 1, 0, 0), (4, .iload_n 3, 1, 0, 0), (5, .aload_n 0, 1, 0, 0), (6, .getfield 13, 3, 2603, 0), (9, .iconst 0, 1, 0, 0), (10, .iaload, 1, 0, 0), (11, .if_icmp .ge 36, 3, 47, 0), (14, .iload_n 2, 1, 0, 0), (15, .iload_n 1, 1, 0, 0), (16, .iload_n 3, 1, 0, 0), (17, .ishr, 1, 0, 0), (18, .iconst 1, 1, 0, 1), (19, .iand, 1, 0, 0), (20, .iconst 1, 1, 0, 1), (21, .if_icmp .ne 17, 3, 38, 0), (24, .aload_n 0, 1, 0, 0), (25, .getfield 23, 3, 2615, 0), (28, .iload_n 3, 1, 0, 0), (29, .iaload, 1, 0, 0), (30, .aload_n 0, 1, 0, 0), (31, .invokevirtual 341, 3, 5827, 0), (34, .iand, 1, 0, 0), (35, .goto 4, 3, 39, 0), (38, .iconst 0, 1, 0, 0), (39, .ior, 1, 0, 0), (40, .istore_n 2, 1, 0, 0), (41, .iinc 3 1, 3, 0, 1), (44, .goto (-40), 3, 4, 0), (47, .iload_n 2, 1, 0, 0), (48, .ireturn, 1, 0, 0)]
def pg_X10_unsaidBy : ur_P := (pr_X10_unsaidBy, fun _ => ([], 0), 4, 0, 10)
abbrev kX_X10_unsaidBy : Nat := 229
def pr_X10_lines : List ur_E := [(0, .aload_n 0, 1, 0, 0), (1, .iconst 0, 1, 0, 0), (2, .putfield 141, 3, 2560, 0), (5, .aload_n 0, 1, 0, 0), (6, .iload_n 1, 1, 0, 0), (7, .invokevirtual 373, 3, 5893, 0), (10, .ifCond .ne 5, 3, 15, 0), (13, .iconst (-1), 1, 0, (-1)), (14, .ireturn, 1, 0, 0), (15, .aload_n 0, 1, 0, 0), (16, .iconst 1, 1, 0, 1), (17, .iload_n 1, 1, 0, 0), (18, .ishl, 1, 0, 0), (19, .aload_n 0, 1, 0, 0), (20, .invokevirtual 344, 3, 5859, 0), (23, .invokevirtual 369, 3, 6311, 0), (26, .istore_n 2, 1, 0, 0), (27, .iload_n 2, 1, 0, 0), (28, .invokestatic 411, 3, 4547, 0), (31, .aload_n 0, 1, 0, 0), (32, .iload_n 2, 1, 0, 0), (33, .invokevirtual 438, 3, 7333, 0), (36, .invokestatic 411, 3, 4547, 0), (39, .iadd, 1, 0, 0), (40, .ireturn, 1, 0, 0)]
def pg_X10_lines : ur_P := (pr_X10_lines, fun _ => ([], 0), 3, 0, 10)
abbrev kX_X10_lines : Nat := 230
def pr_X10_fire : List ur_E := [(0, .aload_n 0, 1, 0, 0), (1, .iconst 0, 1, 0, 0), (2, .putfield 141, 3, 2560, 0), (5, .iload_n 2, 1, 0, 0), (6, .iconst 0, 1, 0, 0), (7, .iconst 1, 1, 0, 1), (8, .invokestatic 262, 3, 4487, 0), (11, .ifCond .eq 11, 3, 22, 0), (14, .aload_n 0, 1, 0, 0), (15, .iload_n 1, 1, 0, 0), (16, .invokevirtual 405, 3, 6341, 0), (19, .ifCond .ne 5, 3, 24, 0), (22, .iconst (-1), 1, 0, (-1)), (23, .ireturn, 1, 0, 0), (24, .aload_n 0, 1, 0, 0), (25, .iload_n 1, 1, 0, 0), (26, .invokevirtual 408, 3, 6277, 0), (29, .istore_n 3, 1, 0, 0), (30, .iload_n 2, 1, 0, 0), (31, .ifCond .ne 10, 3, 41, 0), (34, .iload_n 3, 1, 0, 0), (35, .invokestatic 411, 3, 4547, 0), (38, .goto 11, 3, 49, 0), (41, .aload_n 0, 1, 0, 0), (42, .iload_n 3, 1, 0, 0), (43, .invokevirtual 438, 3, 7333, 0), (46, .invokestatic 411, 3, 4547, 0), (49, .ireturn, 1, 0, 0)]
def pg_X10_fire : ur_P := (pr_X10_fire, fun _ => ([], 0), 4, 0, 10)
abbrev kX_X10_fire : Nat := 231
def pr_X10_queues : List ur_E := [(0, .aload_n 0, 1, 0, 0), (1, .getfield 441, 3, 2772, 0), (4, .ifCond .lt 13, 3, 17, 0), (7, .iload 6, 2, 0, 0), (9, .aload_n 0, 1, 0, 0), (10, .getfield 441, 3, 2772, 0), (13, .if_icmp .lt 4, 3, 17, 0), (16, .return_, 1, 0, 0), (17, .iload_n 2, 1, 0, 0), (18, .ifCond .ne 39, 3, 57, 0), (21, .aload_n 0, 1, 0, 0), (22, .iload 6, 2, 0, 0), (24, .putfield 441, 3, 2772, 0), (27, .iconst 0, 1, 0, 0), (28, .istore 7, 2, 0, 0), (30, .iload 7, 2, 0, 0), (32, .iconst 5, 1, 0, 5), (33, .if_icmp .ge 23, 3, 56, 0), (36, .aload_n 0, 1, 0, 0), (37, .getfield 129, 3, 2771, 0), (40, .iload 7, 2, 0, 0), (42, .aload_n 0, 1, 0, 0), (43, .getfield 126, 3, 2767, 0), (46, .iload 7, 2, 0, 0), (48, .iaload, 1, 0, 0), (49, .iastore, 1, 0, 0), (50, .iinc 7 1, 3, 0, 1), (53, .goto (-23), 3, 30, 0), (56, .return_, 1, 0, 0), (57, .iconst 0, 1, 0, 0), (58, .istore 7, 2, 0, 0), (60, .iload 7, 2, 0, 0), (62, .aload_n 0, 1, 0, 0), (63, .getfield 13, 3, 2603, 0), (66, .iconst 2, 1, 0, 2), (67, .iaload, 1, 0, 0), (68, .if_icmp .ge 70, 3, 138, 0), (71, .iload_n 2, 1, 0, 0), (72, .iload 7, 2, 0, 0), (74, .ishr, 1, 0, 0), (75, .iconst 1, 1, 0, 1), (76, .iand, 1, 0, 0), (77, .ifCond .ne 6, 3, 83, 0), (80, .goto 52, 3, 132, 0), (83, .aload_n 0, 1, 0, 0), (84, .getfield 126, 3, 2767, 0), (87, .iload_n 3, 1, 0, 0), (88, .iload 7, 2, 0, 0), (90, .iastore, 1, 0, 0), (91, .iload 4, 2, 0, 0), (93, .aload_n 0, 1, 0, 0), (94, .iload 7, 2, 0, 0), (96, .iload_n 1, 1, 0, 0), (97, .iload 5, 2, 0, 0), (99, .invokevirtual 363, 3, 6057, 0), (102, .iadd, 1, 0, 0), (103, .istore 8, 2, 0, 0), (105, .aload_n 0, 1, 0, 0), (106, .iload_n 1, 1, 0, 0), (107, .iload_n 2, 1, 0, 0), (108, .iconst 1, 1, 0, 1), (109, .iload 7, 2, 0, 0), (111, .ishl, 1, 0, 0), (112, .iconst (-1), 1, 0, (-1)), (113, .ixor, 1, 0, 0), (114, .iand, 1, 0, 0), (115, .iload_n 3, 1, 0, 0), (116, .iconst 1, 1, 0, 1), (117, .iadd, 1, 0, 0), (118, .iload 8, 2, 0, 0), (120, .iload 5, 2, 0, 0), (122, .iconst 1, 1, 0, 1), (123, .iadd, 1, 0, 0), (124, .iload 6, 2, 0, 0), (126, .iload 8, 2, 0, 0), (128, .iadd, 1, 0, 0), (129, .invokevirtual 444, 3, 7438, 0), (132, .iinc 7 1, 3, 0, 1), (135, .goto (-75), 3, 60, 0), (138, .return_, 1, 0, 0)]
def pg_X10_queues : ur_P := (pr_X10_queues, fun _ => ([], 0), 9, 0, 10)
abbrev kX_X10_queues : Nat := 232
def pr_X10_queue : List ur_E := [(0, .aload_n 0, 1, 0, 0), (1, .iconst 0, 1, 0, 0), (2, .putfield 141, 3, 2560, 0), (5, .aload_n 0, 1, 0, 0), (6, .iload_n 1, 1, 0, 0), (7, .invokevirtual 423, 3, 5797, 0), (10, .ifCond .ne 6, 3, 16, 0), (13, .bipush (-2), 2, 0, (-2)), (15, .ireturn, 1, 0, 0), (16, .aload_n 0, 1, 0, 0), (17, .iload_n 1, 1, 0, 0), (18, .invokevirtual 426, 3, 6853, 0), (21, .istore_n 3, 1, 0, 0), (22, .iconst 0, 1, 0, 0), (23, .istore 4, 2, 0, 0), (25, .iconst 0, 1, 0, 0), (26, .istore 5, 2, 0, 0), (28, .iload 5, 2, 0, 0), (30, .aload_n 0, 1, 0, 0), (31, .getfield 13, 3, 2603, 0), (34, .iconst 2, 1, 0, 2), (35, .iaload, 1, 0, 0), (36, .if_icmp .ge 31, 3, 67, 0), (39, .iload 4, 2, 0, 0), (41, .aload_n 0, 1, 0, 0), (42, .iload 5, 2, 0, 0), (44, .invokevirtual 357, 3, 6085, 0), (47, .ifCond .eq 10, 3, 57, 0), (50, .iconst 1, 1, 0, 1), (51, .iload 5, 2, 0, 0), (53, .ishl, 1, 0, 0), (54, .goto 4, 3, 58, 0), (57, .iconst 0, 1, 0, 0), (58, .ior, 1, 0, 0), (59, .istore 4, 2, 0, 0), (61, .iinc 5 1, 3, 0, 1), (64, .goto (-36), 3, 28, 0), (67, .iload_n 3, 1, 0, 0), (68, .ifCond .lt 23, 3, 91, 0), (71, .iload_n 2, 1, 0, 0), (72, .iconst (-1), 1, 0, (-1)), (73, .if_icmp .eq 21, 3, 94, 0), (76, .iload_n 2, 1, 0, 0), (77, .iconst 0, 1, 0, 0), (78, .iload 4, 2, 0, 0), (80, .invokestatic 411, 3, 4547, 0), (83, .iconst 1, 1, 0, 1), (84, .isub, 1, 0, 0), (85, .invokestatic 262, 3, 4487, 0), (88, .ifCond .ne 6, 3, 94, 0), (91, .bipush (-2), 2, 0, (-2)), (93, .ireturn, 1, 0, 0), (94, .aload_n 0, 1, 0, 0), (95, .iconst (-1), 1, 0, (-1)), (96, .putfield 441, 3, 2772, 0), (99, .aload_n 0, 1, 0, 0), (100, .iload_n 1, 1, 0, 0), (101, .iload 4, 2, 0, 0), (103, .iconst 0, 1, 0, 0), (104, .iload_n 3, 1, 0, 0), (105, .aload_n 0, 1, 0, 0), (106, .getfield 108, 3, 2739, 0), (109, .iconst 1, 1, 0, 1), (110, .iaload, 1, 0, 0), (111, .iload_n 3, 1, 0, 0), (112, .ifCond .le 7, 3, 119, 0), (115, .iconst 1, 1, 0, 1), (116, .goto 4, 3, 120, 0), (119, .iconst 0, 1, 0, 0), (120, .iadd, 1, 0, 0), (121, .iconst 0, 1, 0, 0), (122, .invokevirtual 444, 3, 7438, 0), (125, .iload_n 2, 1, 0, 0), (126, .iconst (-1), 1, 0, (-1)), (127, .if_icmp .ne 10, 3, 137, 0), (130, .aload_n 0, 1, 0, 0), (131, .getfield 441, 3, 2772, 0), (134, .goto 9, 3, 143, 0), (137, .aload_n 0, 1, 0, 0), (138, .getfield 129, 3, 2771, 0), (141, .iload_n 2, 1, 0, 0), (142, .iaload, 1, 0, 0), (143, .ireturn, 1, 0, 0)]
def pg_X10_queue : ur_P := (pr_X10_queue, fun _ => ([], 0), 6, 0, 10)
abbrev kX_X10_queue : Nat := 233
def pr_X10_longest : List ur_E := [(0, .aload_n 0, 1, 0, 0), (1, .iconst 0, 1, 0, 0), (2, .putfield 141, 3, 2560, 0), (5, .iconst (-1), 1, 0, (-1)), (6, .istore_n 1, 1, 0, 0), (7, .iconst 0, 1, 0, 0), (8, .istore_n 2, 1, 0, 0), (9, .iload_n 2, 1, 0, 0), (10, .aload_n 0, 1, 0, 0), (11, .getfield 13, 3, 2603, 0), (14, .iconst 2, 1, 0, 2), (15, .iaload, 1, 0, 0), (16, .if_icmp .ge 40, 3, 56, 0), (19, .aload_n 0, 1, 0, 0), (20, .getfield 108, 3, 2739, 0), (23, .bipush 24, 2, 0, 24), (25, .iload_n 2, 1, 0, 0), (26, .iadd, 1, 0, 0), (27, .iaload, 1, 0, 0), (28, .iload_n 1, 1, 0, 0), (29, .ifCond .ge 7, 3, 36, 0), (32, .iconst 0, 1, 0, 0), (33, .goto 12, 3, 45, 0), (36, .aload_n 0, 1, 0, 0), (37, .getfield 108, 3, 2739, 0), (40, .bipush 24, 2, 0, 24), (42, .iload_n 1, 1, 0, 0), (43, .iadd, 1, 0, 0), (44, .iaload, 1, 0, 0), (45, .if_icmp .le 5, 3, 50, 0), (48, .iload_n 2, 1, 0, 0), (49, .istore_n 1, 1, 0, 0), (50, .iinc 2 1, 3, 0, 1), (53, .goto (-44), 3, 9, 0), (56, .iload_n 1, 1, 0, 0), (57, .ireturn, 1, 0, 0)]
def pg_X10_longest : ur_P := (pr_X10_longest, fun _ => ([], 0), 3, 0, 10)
abbrev kX_X10_longest : Nat := 234
def pr_X10_as : List ur_E := [(0, .aload_n 0, 1, 0, 0), (1, .iconst 0, 1, 0, 0), (2, .putfield 141, 3, 2560, 0), (5, .iconst 0, 1, 0, 0), (6, .istore_n 1, 1, 0, 0), (7, .iconst 0, 1, 0, 0), (8, .istore_n 2, 1, 0, 0), (9, .iload_n 2, 1, 0, 0), (10, .aload_n 0, 1, 0, 0), (11, .getfield 13, 3, 2603, 0), (14, .iconst 2, 1, 0, 2), (15, .iaload, 1, 0, 0), (16, .if_icmp .ge 63, 3, 79, 0), (19, .iconst 0, 1, 0, 0), (20, .istore_n 3, 1, 0, 0), (21, .iload_n 3, 1, 0, 0), (22, .iload_n 2, 1, 0, 0), (23, .if_icmp .ge 50, 3, 73, 0), (26, .iload_n 1, 1, 0, 0), (27, .aload_n 0, 1, 0, 0), (28, .getfield 108, 3, 2739, 0), (31, .bipush 24, 2, 0, 24), (33, .iload_n 2, 1, 0, 0), (34, .iadd, 1, 0, 0), (35, .iaload, 1, 0, 0), (36, .ifCond .le 28, 3, 64, 0), (39, .aload_n 0, 1, 0, 0), (40, .getfield 108, 3, 2739, 0), (43, .bipush 24, 2, 0, 24), (45, .iload_n 2, 1, 0, 0), (46, .iadd, 1, 0, 0), (47, .iaload, 1, 0, 0), (48, .aload_n 0, 1, 0, 0), (49, .getfield 108, 3, 2739, 0), (52, .bipush 24, 2, 0, 24), (54, .iload_n 3, 1, 0, 0), (55, .iadd, 1, 0, 0), (56, .iaload, 1, 0, 0), (57, .if_icmp .ne 7, 3, 64, 0), (60, .iconst 1, 1, 0, 1), (61, .goto 4, 3, 65, 0), (64, .iconst 0, 1, 0, 0), (65, .iadd, 1, 0, 0), (66, .istore_n 1, 1, 0, 0), (67, .iinc 3 1, 3, 0, 1), (70, .goto (-49), 3, 21, 0), (73, .iinc 2 1, 3, 0, 1), (76, .goto (-67), 3, 9, 0), (79, .iload_n 1, 1, 0, 0), (80, .ireturn, 1, 0, 0)]
def pg_X10_as : ur_P := (pr_X10_as, fun _ => ([], 0), 4, 0, 10)
abbrev kX_X10_as : Nat := 235
def pr_X10_been : List ur_E := [(0, .aload_n 0, 1, 0, 0), (1, .iconst 0, 1, 0, 0), (2, .putfield 141, 3, 2560, 0), (5, .aload_n 0, 1, 0, 0), (6, .iload_n 1, 1, 0, 0), (7, .invokevirtual 379, 3, 5765, 0), (10, .ifCond .eq 15, 3, 25, 0), (13, .aload_n 0, 1, 0, 0), (14, .getfield 108, 3, 2739, 0), (17, .bipush 24, 2, 0, 24), (19, .iload_n 1, 1, 0, 0), (20, .iadd, 1, 0, 0), (21, .iaload, 1, 0, 0), (22, .goto 4, 3, 26, 0), (25, .iconst (-1), 1, 0, (-1)), (26, .ireturn, 1, 0, 0)]
def pg_X10_been : ur_P := (pr_X10_been, fun _ => ([], 0), 2, 0, 10)
abbrev kX_X10_been : Nat := 236
def pr_X10_alike : List ur_E := [(0, .aload_n 0, 1, 0, 0), (1, .iconst 0, 1, 0, 0), (2, .putfield 141, 3, 2560, 0), (5, .aload_n 0, 1, 0, 0), (6, .invokevirtual 341, 3, 5827, 0), (9, .invokestatic 376, 3, 6371, 0), (12, .istore_n 1, 1, 0, 0), (13, .iconst 0, 1, 0, 0), (14, .istore_n 2, 1, 0, 0), (15, .iload_n 2, 1, 0, 0), (16, .aload_n 0, 1, 0, 0), (17, .getfield 13, 3, 2603, 0), (20, .iconst 0, 1, 0, 0), (21, .iaload, 1, 0, 0), (22, .if_icmp .ge 65, 3, 87, 0), (25, .iconst 0, 1, 0, 0), (26, .istore_n 3, 1, 0, 0), (27, .iload_n 3, 1, 0, 0), (28, .aload_n 0, 1, 0, 0), (29, .getfield 13, 3, 2603, 0), (32, .iconst 2, 1, 0, 2), (33, .iaload, 1, 0, 0), (34, .if_icmp .ge 47, 3, 81, 0), (37, .aload_n 0, 1, 0, 0), (38, .getfield 20, 3, 2611, 0), (41, .iload_n 2, 1, 0, 0), (42, .iaload, 1, 0, 0), (43, .ifCond .le 32, 3, 75, 0), (46, .aload_n 0, 1, 0, 0), (47, .iload_n 3, 1, 0, 0), (48, .iload_n 2, 1, 0, 0), (49, .aload_n 0, 1, 0, 0), (50, .getfield 108, 3, 2739, 0), (53, .iconst 1, 1, 0, 1), (54, .iaload, 1, 0, 0), (55, .invokevirtual 363, 3, 6057, 0), (58, .aload_n 0, 1, 0, 0), (59, .iload_n 3, 1, 0, 0), (60, .iload_n 1, 1, 0, 0), (61, .aload_n 0, 1, 0, 0), (62, .getfield 108, 3, 2739, 0), (65, .iconst 1, 1, 0, 1), (66, .iaload, 1, 0, 0), (67, .invokevirtual 363, 3, 6057, 0), (70, .if_icmp .eq 5, 3, 75, 0), (73, .iconst 0, 1, 0, 0), (74, .ireturn, 1, 0, 0), (75, .iinc 3 1, 3, 0, 1), (78, .goto (-51), 3, 27, 0), (81, .iinc 2 1, 3, 0, 1), (84, .goto (-69), 3, 15, 0), (87, .iconst 1, 1, 0, 1), (88, .ireturn, 1, 0, 0)]
def pg_X10_alike : ur_P := (pr_X10_alike, fun _ => ([], 0), 4, 1, 10)
abbrev kX_X10_alike : Nat := 237
def pr_X10_laysStays : List ur_E := [(0, .iconst 0, 1, 0, 0), (1, .istore_n 1, 1, 0, 0), (2, .iload_n 1, 1, 0, 0), (3, .aload_n 0, 1, 0, 0), (4, .getfield 13, 3, 2603, 0), (7, .iconst 2, 1, 0, 2), (8, .iaload, 1, 0, 0), (9, .if_icmp .ge 63, 3, 72, 0), (12, .iconst 0, 1, 0, 0), (13, .istore_n 2, 1, 0, 0), (14, .iload_n 2, 1, 0, 0), (15, .aload_n 0, 1, 0, 0), (16, .getfield 13, 3, 2603, 0), (19, .iconst 0, 1, 0, 0), (20, .iaload, 1, 0, 0), (21, .if_icmp .ge 45, 3, 66, 0), (24, .aload_n 0, 1, 0, 0), (25, .getfield 132, 3, 2779, 0), (28, .bipush 8, 2, 0, 8), (30, .iload_n 1, 1, 0, 0), (31, .imul, 1, 0, 0), (32, .iload_n 2, 1, 0, 0), (33, .iadd, 1, 0, 0), (34, .aload_n 0, 1, 0, 0), (35, .getfield 20, 3, 2611, 0), (38, .iload_n 2, 1, 0, 0), (39, .iaload, 1, 0, 0), (40, .ifCond .le 18, 3, 58, 0), (43, .aload_n 0, 1, 0, 0), (44, .iload_n 1, 1, 0, 0), (45, .iload_n 2, 1, 0, 0), (46, .aload_n 0, 1, 0, 0), (47, .getfield 108, 3, 2739, 0), (50, .iconst 1, 1, 0, 1), (51, .iaload, 1, 0, 0), (52, .invokevirtual 363, 3, 6057, 0), (55, .goto 4, 3, 59, 0), (58, .iconst 0, 1, 0, 0), (59, .iastore, 1, 0, 0), (60, .iinc 2 1, 3, 0, 1), (63, .goto (-49), 3, 14, 0), (66, .iinc 1 1, 3, 0, 1), (69, .goto (-67), 3, 2, 0), (72, .return_, 1, 0, 0)]
def pg_X10_laysStays : ur_P := (pr_X10_laysStays, fun _ => ([], 0), 3, 0, 10)
abbrev kX_X10_laysStays : Nat := 238
def pr_X10_see : List ur_E := [(0, .aload_n 0, 1, 0, 0), (1, .iconst 0, 1, 0, 0), (2, .putfield 141, 3, 2560, 0), (5, .aload_n 0, 1, 0, 0), (6, .iload_n 1, 1, 0, 0), (7, .invokevirtual 379, 3, 5765, 0), (10, .ifCond .eq 24, 3, 34, 0), (13, .iload_n 2, 1, 0, 0), (14, .iconst 1, 1, 0, 1), (15, .bipush 30, 2, 0, 30), (17, .invokestatic 262, 3, 4487, 0), (20, .ifCond .eq 14, 3, 34, 0), (23, .aload_n 0, 1, 0, 0), (24, .getfield 96, 3, 2723, 0), (27, .iconst 0, 1, 0, 0), (28, .iaload, 1, 0, 0), (29, .bipush 8, 2, 0, 8), (31, .if_icmp .ne 5, 3, 36, 0), (34, .iconst 0, 1, 0, 0), (35, .ireturn, 1, 0, 0), (36, .aload_n 0, 1, 0, 0), (37, .getfield 99, 3, 2727, 0), (40, .aload_n 0, 1, 0, 0), (41, .getfield 96, 3, 2723, 0), (44, .iconst 0, 1, 0, 0), (45, .iaload, 1, 0, 0), (46, .iload_n 1, 1, 0, 0), (47, .iastore, 1, 0, 0), (48, .aload_n 0, 1, 0, 0), (49, .getfield 102, 3, 2731, 0), (52, .aload_n 0, 1, 0, 0), (53, .getfield 96, 3, 2723, 0), (56, .iconst 0, 1, 0, 0), (57, .iaload, 1, 0, 0), (58, .iload_n 2, 1, 0, 0), (59, .iastore, 1, 0, 0), (60, .aload_n 0, 1, 0, 0), (61, .getfield 105, 3, 2735, 0), (64, .aload_n 0, 1, 0, 0), (65, .getfield 96, 3, 2723, 0), (68, .iconst 0, 1, 0, 0), (69, .iaload, 1, 0, 0), (70, .iload_n 3, 1, 0, 0), (71, .bastore, 1, 0, 0), (72, .aload_n 0, 1, 0, 0), (73, .getfield 96, 3, 2723, 0), (76, .iconst 0, 1, 0, 0), (77, .dup2, 1, 0, 0), (78, .iaload, 1, 0, 0), (79, .iconst 1, 1, 0, 1), (80, .iadd, 1, 0, 0), (81, .iastore, 1, 0, 0), (82, .iconst 1, 1, 0, 1), (83, .ireturn, 1, 0, 0)]
def pg_X10_see : ur_P := (pr_X10_see, fun _ => ([], 0), 4, 1, 10)
abbrev kX_X10_see : Nat := 239
def pr_X10_isAsSeen : List ur_E := [(0, .iconst 0, 1, 0, 0), (1, .istore_n 2, 1, 0, 0), (2, .iload_n 2, 1, 0, 0), (3, .aload_n 0, 1, 0, 0), (4, .getfield 96, 3, 2723, 0), (7, .iconst 0, 1, 0, 0), (8, .iaload, 1, 0, 0), (9, .if_icmp .ge 50, 3, 59, 0), (12, .aload_n 0, 1, 0, 0), (13, .getfield 132, 3, 2779, 0), (16, .bipush 8, 2, 0, 8), (18, .aload_n 0, 1, 0, 0), (19, .getfield 99, 3, 2727, 0), (22, .iload_n 2, 1, 0, 0), (23, .iaload, 1, 0, 0), (24, .imul, 1, 0, 0), (25, .iload_n 1, 1, 0, 0), (26, .iadd, 1, 0, 0), (27, .iaload, 1, 0, 0), (28, .aload_n 0, 1, 0, 0), (29, .getfield 102, 3, 2731, 0), (32, .iload_n 2, 1, 0, 0), (33, .iaload, 1, 0, 0), (34, .if_icmp .ne 7, 3, 41, 0), (37, .iconst 1, 1, 0, 1), (38, .goto 4, 3, 42, 0), (41, .iconst 0, 1, 0, 0), (42, .aload_n 0, 1, 0, 0), (43, .getfield 105, 3, 2735, 0), (46, .iload_n 2, 1, 0, 0), (47, .baload, 1, 0, 0), (48, .if_icmp .eq 5, 3, 53, 0), (51, .iconst 0, 1, 0, 0), (52, .ireturn, 1, 0, 0), (53, .iinc 2 1, 3, 0, 1), (56, .goto (-54), 3, 2, 0), (59, .iconst 1, 1, 0, 1), (60, .ireturn, 1, 0, 0)]
def pg_X10_isAsSeen : ur_P := (pr_X10_isAsSeen, fun _ => ([], 0), 3, 1, 10)
abbrev kX_X10_isAsSeen : Nat := 240
def pr_X10_which : List ur_E := [(0, .aload_n 0, 1, 0, 0), (1, .iconst 0, 1, 0, 0), (2, .putfield 141, 3, 2560, 0), (5, .aload_n 0, 1, 0, 0), (6, .invokevirtual 448, 3, 7618, 0), (9, .iconst 0, 1, 0, 0), (10, .istore_n 1, 1, 0, 0), (11, .iconst 0, 1, 0, 0), (12, .istore_n 2, 1, 0, 0), (13, .iload_n 2, 1, 0, 0), (14, .aload_n 0, 1, 0, 0), (15, .getfield 13, 3, 2603, 0), (18, .iconst 0, 1, 0, 0), (19, .iaload, 1, 0, 0), (20, .if_icmp .ge 36, 3, 56, 0), (23, .iload_n 1, 1, 0, 0), (24, .aload_n 0, 1, 0, 0), (25, .getfield 20, 3, 2611, 0), (28, .iload_n 2, 1, 0, 0), (29, .iaload, 1, 0, 0), (30, .ifCond .le 17, 3, 47, 0), (33, .aload_n 0, 1, 0, 0), (34, .iload_n 2, 1, 0, 0), (35, .invokevirtual 451, 3, 7685, 0), (38, .ifCond .eq 9, 3, 47, 0), (41, .iconst 1, 1, 0, 1), (42, .iload_n 2, 1, 0, 0), (43, .ishl, 1, 0, 0), (44, .goto 4, 3, 48, 0), (47, .iconst 0, 1, 0, 0), (48, .ior, 1, 0, 0), (49, .istore_n 1, 1, 0, 0), (50, .iinc 2 1, 3, 0, 1), (53, .goto (-40), 3, 13, 0), (56, .iload_n 1, 1, 0, 0), (57, .ireturn, 1, 0, 0)]
def pg_X10_which : ur_P := (pr_X10_which, fun _ => ([], 0), 3, 0, 10)
abbrev kX_X10_which : Nat := 241
def pr_X10_ask : List ur_E := [(0, .aload_n 0, 1, 0, 0), (1, .iconst 0, 1, 0, 0), (2, .putfield 141, 3, 2560, 0), (5, .aload_n 0, 1, 0, 0), (6, .invokevirtual 454, 3, 7715, 0), (9, .istore_n 1, 1, 0, 0), (10, .iload_n 1, 1, 0, 0), (11, .invokestatic 411, 3, 4547, 0), (14, .istore_n 2, 1, 0, 0), (15, .iconst (-1), 1, 0, (-1)), (16, .istore_n 3, 1, 0, 0), (17, .iconst 0, 1, 0, 0), (18, .istore 4, 2, 0, 0), (20, .iload 4, 2, 0, 0), (22, .aload_n 0, 1, 0, 0), (23, .getfield 13, 3, 2603, 0), (26, .iconst 2, 1, 0, 2), (27, .iaload, 1, 0, 0), (28, .if_icmp .ge 130, 3, 158, 0), (31, .iconst 0, 1, 0, 0), (32, .istore 5, 2, 0, 0), (34, .iconst 0, 1, 0, 0), (35, .istore 6, 2, 0, 0), (37, .iload 6, 2, 0, 0), (39, .bipush 31, 2, 0, 31), (41, .if_icmp .ge 17, 3, 58, 0), (44, .aload_n 0, 1, 0, 0), (45, .getfield 135, 3, 2783, 0), (48, .iload 6, 2, 0, 0), (50, .iconst 0, 1, 0, 0), (51, .iastore, 1, 0, 0), (52, .iinc 6 1, 3, 0, 1), (55, .goto (-18), 3, 37, 0), (58, .iconst 0, 1, 0, 0), (59, .istore 6, 2, 0, 0), (61, .iload 6, 2, 0, 0), (63, .aload_n 0, 1, 0, 0), (64, .getfield 13, 3, 2603, 0), (67, .iconst 0, 1, 0, 0), (68, .iaload, 1, 0, 0), (69, .if_icmp .ge 68, 3, 137, 0), (72, .iload_n 1, 1, 0, 0), (73, .iload 6, 2, 0, 0), (75, .ishr, 1, 0, 0), (76, .iconst 1, 1, 0, 1), (77, .iand, 1, 0, 0), (78, .ifCond .ne 6, 3, 84, 0), (81, .goto 50, 3, 131, 0), (84, .aload_n 0, 1, 0, 0), (85, .getfield 135, 3, 2783, 0), (88, .aload_n 0, 1, 0, 0), (89, .getfield 132, 3, 2779, 0), (92, .bipush 8, 2, 0, 8), (94, .iload 4, 2, 0, 0), (96, .imul, 1, 0, 0), (97, .iload 6, 2, 0, 0), (99, .iadd, 1, 0, 0), (100, .iaload, 1, 0, 0), (101, .dup2, 1, 0, 0), (102, .iaload, 1, 0, 0), (103, .iconst 1, 1, 0, 1), (104, .iadd, 1, 0, 0), (105, .iastore, 1, 0, 0), (106, .iload 5, 2, 0, 0), (108, .aload_n 0, 1, 0, 0), (109, .getfield 135, 3, 2783, 0), (112, .aload_n 0, 1, 0, 0), (113, .getfield 132, 3, 2779, 0), (116, .bipush 8, 2, 0, 8), (118, .iload 4, 2, 0, 0), (120, .imul, 1, 0, 0), (121, .iload 6, 2, 0, 0), (123, .iadd, 1, 0, 0), (124, .iaload, 1, 0, 0), (125, .iaload, 1, 0, 0), (126, .invokestatic 457, 3, 9002, 0), (129, .istore 5, 2, 0, 0), (131, .iinc 6 1, 3, 0, 1), (134, .goto (-73), 3, 61, 0), (137, .iload 5, 2, 0, 0), (139, .iload_n 2, 1, 0, 0), (140, .if_icmp .lt 6, 3, 146, 0), (143, .goto 9, 3, 152, 0), (146, .iload 5, 2, 0, 0), (148, .istore_n 2, 1, 0, 0), (149, .iload 4, 2, 0, 0), (151, .istore_n 3, 1, 0, 0), (152, .iinc 4 1, 3, 0, 1), (155, .goto (-135), 3, 20, 0), (158, .iload_n 3, 1, 0, 0), (159, .ireturn, 1, 0, 0)]
def pg_X10_ask : ur_P := (pr_X10_ask, fun _ => ([], 0), 7, 0, 10)
abbrev kX_X10_ask : Nat := 242
def pr_X10_chance : List ur_E := [(0, .aload_n 0, 1, 0, 0), (1, .iconst 0, 1, 0, 0), (2, .putfield 141, 3, 2560, 0), (5, .aload_n 0, 1, 0, 0), (6, .iload_n 1, 1, 0, 0), (7, .invokevirtual 379, 3, 5765, 0), (10, .ifCond .eq 32, 3, 42, 0), (13, .aload_n 0, 1, 0, 0), (14, .iload_n 2, 1, 0, 0), (15, .invokevirtual 423, 3, 5797, 0), (18, .ifCond .eq 24, 3, 42, 0), (21, .iload_n 3, 1, 0, 0), (22, .iconst 1, 1, 0, 1), (23, .bipush 6, 2, 0, 6), (25, .invokestatic 262, 3, 4487, 0), (28, .ifCond .eq 14, 3, 42, 0), (31, .iload 4, 2, 0, 0), (33, .iconst 0, 1, 0, 0), (34, .bipush 10, 2, 0, 10), (36, .invokestatic 262, 3, 4487, 0), (39, .ifCond .ne 5, 3, 44, 0), (42, .iconst (-1), 1, 0, (-1)), (43, .ireturn, 1, 0, 0), (44, .lconst 0, 1, 0, 0), (45, .lstore 5, 2, 0, 0), (47, .lconst 1, 1, 1, 0), (48, .lstore 7, 2, 0, 0), (50, .iconst 0, 1, 0, 0), (51, .istore 9, 2, 0, 0), (53, .iload 9, 2, 0, 0), (55, .iload_n 3, 1, 0, 0), (56, .if_icmp .ge 17, 3, 73, 0), (59, .lload 7, 2, 0, 0), (61, .ldc2_w 462, 3, 10, 0), (64, .lmul, 1, 0, 0), (65, .lstore 7, 2, 0, 0), (67, .iinc 9 1, 3, 0, 1), (70, .goto (-17), 3, 53, 0), (73, .aload_n 0, 1, 0, 0), (74, .getfield 108, 3, 2739, 0), (77, .iconst 0, 1, 0, 0), (78, .aload_n 0, 1, 0, 0), (79, .getfield 114, 3, 2747, 0), (82, .iconst 0, 1, 0, 0), (83, .invokestatic 382, 3, 5512, 0), (86, .iconst 0, 1, 0, 0), (87, .istore 9, 2, 0, 0), (89, .iload 9, 2, 0, 0), (91, .iconst 1, 1, 0, 1), (92, .iload_n 3, 1, 0, 0), (93, .ishl, 1, 0, 0), (94, .if_icmp .ge 124, 3, 218, 0), (97, .lconst 1, 1, 1, 0), (98, .lstore 10, 2, 0, 0), (100, .iconst 0, 1, 0, 0), (101, .istore 12, 2, 0, 0), (103, .iconst 0, 1, 0, 0), (104, .istore 13, 2, 0, 0), (106, .iload 13, 2, 0, 0), (108, .iload_n 3, 1, 0, 0), (109, .if_icmp .ge 78, 3, 187, 0), (112, .iload 9, 2, 0, 0), (114, .iload 13, 2, 0, 0), (116, .ishr, 1, 0, 0), (117, .iconst 1, 1, 0, 1), (118, .iand, 1, 0, 0), (119, .iconst 1, 1, 0, 1), (120, .if_icmp .ne 7, 3, 127, 0), (123, .iconst 1, 1, 0, 1), (124, .goto 4, 3, 128, 0), (127, .iconst 0, 1, 0, 0), (128, .istore 14, 2, 0, 0), (130, .lload 10, 2, 0, 0), (132, .iload 14, 2, 0, 0), (134, .ifCond .eq 9, 3, 143, 0), (137, .iload 4, 2, 0, 0), (139, .i2l, 1, 0, 0), (140, .goto 9, 3, 149, 0), (143, .bipush 10, 2, 0, 10), (145, .iload 4, 2, 0, 0), (147, .isub, 1, 0, 0), (148, .i2l, 1, 0, 0), (149, .lmul, 1, 0, 0), (150, .lstore 10, 2, 0, 0), (152, .iload 14, 2, 0, 0), (154, .ifCond .eq 22, 3, 176, 0), (157, .aload_n 0, 1, 0, 0), (158, .iload_n 1, 1, 0, 0), (159, .iload_n 2, 1, 0, 0), (160, .invokevirtual 392, 3, 6119, 0), (163, .ifCond .eq 13, 3, 176, 0), (166, .aload_n 0, 1, 0, 0), (167, .iload_n 1, 1, 0, 0), (168, .iload_n 2, 1, 0, 0), (169, .invokevirtual 396, 3, 6151, 0), (172, .pop, 1, 0, 0), (173, .iconst 1, 1, 0, 1), (174, .istore 12, 2, 0, 0), (176, .aload_n 0, 1, 0, 0), (177, .invokevirtual 414, 3, 6403, 0), (180, .pop, 1, 0, 0), (181, .iinc 13 1, 3, 0, 1), (184, .goto (-78), 3, 106, 0), (187, .iload 12, 2, 0, 0), (189, .ifCond .eq 10, 3, 199, 0), (192, .lload 5, 2, 0, 0), (194, .lload 10, 2, 0, 0), (196, .ladd, 1, 0, 0), (197, .lstore 5, 2, 0, 0), (199, .aload_n 0, 1, 0, 0), (200, .getfield 114, 3, 2747, 0), (203, .iconst 0, 1, 0, 0), (204, .aload_n 0, 1, 0, 0), (205, .getfield 108, 3, 2739, 0), (208, .iconst 0, 1, 0, 0), (209, .invokestatic 382, 3, 5512, 0), (212, .iinc 9 1, 3, 0, 1), (215, .goto (-126), 3, 89, 0), (218, .lload 5, 2, 0, 0), (220, .ldc2_w 464, 3, 1000000, 0), (223, .lmul, 1, 0, 0), (224, .lload 7, 2, 0, 0), (226, .ldiv, 1, 0, 0), (227, .l2i, 1, 0, 0), (228, .ireturn, 1, 0, 0)]
def pg_X10_chance : ur_P := (pr_X10_chance, fun _ => ([], 0), 15, 0, 10)
abbrev kX_X10_chance : Nat := 243
def pr_X10_getsBy : List ur_E := [(0, .iload_n 3, 1, 0, 0), (1, .iconst 1, 1, 0, 1), (2, .if_icmp .ne 18, 3, 20, 0), (5, .iload 4, 2, 0, 0), (7, .iconst 1, 1, 0, 1), (8, .if_icmp .ne 8, 3, 16, 0), (11, .iload_n 0, 1, 0, 0), (12, .ineg, 1, 0, 0), (13, .goto 18, 3, 31, 0), (16, .iload_n 1, 1, 0, 0), (17, .goto 14, 3, 31, 0), (20, .iload 4, 2, 0, 0), (22, .iconst 1, 1, 0, 1), (23, .if_icmp .ne 7, 3, 30, 0), (26, .iload_n 2, 1, 0, 0), (27, .goto 4, 3, 31, 0), (30, .iconst 0, 1, 0, 0), (31, .ireturn, 1, 0, 0)]
def pg_X10_getsBy : ur_P := (pr_X10_getsBy, fun _ => ([], 0), 5, 0, 30)
abbrev kX_X10_getsBy : Nat := 244
def pr_X10_rests : List ur_E := [(0, .aload_n 0, 1, 0, 0), (1, .iload_n 1, 1, 0, 0), (2, .iconst 0, 1, 0, 0), (3, .bipush 9, 2, 0, 9), (5, .invokestatic 262, 3, 4487, 0), (8, .ifCond .eq 33, 3, 41, 0), (11, .iload_n 2, 1, 0, 0), (12, .iconst 0, 1, 0, 0), (13, .bipush 9, 2, 0, 9), (15, .invokestatic 262, 3, 4487, 0), (18, .ifCond .eq 23, 3, 41, 0), (21, .iload_n 3, 1, 0, 0), (22, .iconst 0, 1, 0, 0), (23, .bipush 9, 2, 0, 9), (25, .invokestatic 262, 3, 4487, 0), (28, .ifCond .eq 13, 3, 41, 0), (31, .iload 4, 2, 0, 0), (33, .iconst (-1), 1, 0, (-1)), (34, .if_icmp .lt 7, 3, 41, 0), (37, .iconst 0, 1, 0, 0), (38, .goto 4, 3, 42, 0), (41, .iconst 1, 1, 0, 1), (42, .putfield 141, 3, 2560, 0), (45, .aload_n 0, 1, 0, 0), (46, .getfield 141, 3, 2560, 0), (49, .iconst 1, 1, 0, 1), (50, .if_icmp .ne 5, 3, 55, 0), (53, .iconst 0, 1, 0, 0), (54, .ireturn, 1, 0, 0), (55, .iconst 0, 1, 0, 0), (56, .istore 5, 2, 0, 0), (58, .iconst 0, 1, 0, 0), (59, .istore 6, 2, 0, 0), (61, .iload 6, 2, 0, 0), (63, .iconst 4, 1, 0, 4), (64, .if_icmp .ge 87, 3, 151, 0), (67, .iload 6, 2, 0, 0), (69, .iconst 2, 1, 0, 2), (70, .idiv, 1, 0, 0), (71, .istore 7, 2, 0, 0), (73, .iload 6, 2, 0, 0), (75, .iconst 2, 1, 0, 2), (76, .irem, 1, 0, 0), (77, .istore 8, 2, 0, 0), (79, .iload_n 1, 1, 0, 0), (80, .iload_n 2, 1, 0, 0), (81, .iload_n 3, 1, 0, 0), (82, .iconst 1, 1, 0, 1), (83, .iload 7, 2, 0, 0), (85, .isub, 1, 0, 0), (86, .iload 8, 2, 0, 0), (88, .invokestatic 466, 3, 7819, 0), (91, .iload_n 1, 1, 0, 0), (92, .iload_n 2, 1, 0, 0), (93, .iload_n 3, 1, 0, 0), (94, .iload 7, 2, 0, 0), (96, .iload 8, 2, 0, 0), (98, .invokestatic 466, 3, 7819, 0), (101, .if_icmp .gt 44, 3, 145, 0), (104, .iload_n 1, 1, 0, 0), (105, .iload_n 2, 1, 0, 0), (106, .iload_n 3, 1, 0, 0), (107, .iconst 1, 1, 0, 1), (108, .iload 8, 2, 0, 0), (110, .isub, 1, 0, 0), (111, .iload 7, 2, 0, 0), (113, .invokestatic 466, 3, 7819, 0), (116, .iload_n 1, 1, 0, 0), (117, .iload_n 2, 1, 0, 0), (118, .iload_n 3, 1, 0, 0), (119, .iload 8, 2, 0, 0), (121, .iload 7, 2, 0, 0), (123, .invokestatic 466, 3, 7819, 0), (126, .if_icmp .le 6, 3, 132, 0), (129, .goto 16, 3, 145, 0), (132, .iload 5, 2, 0, 0), (134, .iload 4, 2, 0, 0), (136, .if_icmp .ne 6, 3, 142, 0), (139, .iload 6, 2, 0, 0), (141, .ireturn, 1, 0, 0), (142, .iinc 5 1, 3, 0, 1), (145, .iinc 6 1, 3, 0, 1), (148, .goto (-87), 3, 61, 0), (151, .aload_n 0, 1, 0, 0), (152, .iload 4, 2, 0, 0), (154, .iconst (-1), 1, 0, (-1)), (155, .if_icmp .ne 7, 3, 162, 0), (158, .iconst 0, 1, 0, 0), (159, .goto 4, 3, 163, 0), (162, .iconst 1, 1, 0, 1), (163, .putfield 141, 3, 2560, 0), (166, .iload 4, 2, 0, 0), (168, .iconst (-1), 1, 0, (-1)), (169, .if_icmp .ne 8, 3, 177, 0), (172, .iload 5, 2, 0, 0), (174, .goto 4, 3, 178, 0), (177, .iconst 0, 1, 0, 0), (178, .ireturn, 1, 0, 0)]
def pg_X10_rests : ur_P := (pr_X10_rests, fun _ => ([], 0), 9, 0, 10)
abbrev kX_X10_rests : Nat := 245
def pr_X10_draws : List ur_E := [(0, .aload_n 0, 1, 0, 0), (1, .aload_n 0, 1, 0, 0), (2, .getfield 470, 3, 2786, 0), (5, .ldc2_w 473, 3, 1103515245, 0), (8, .lmul, 1, 0, 0), (9, .ldc2_w 475, 3, 12345, 0), (12, .ladd, 1, 0, 0), (13, .ldc2_w 477, 3, 2147483648, 0), (16, .lrem, 1, 0, 0), (17, .putfield 470, 3, 2786, 0), (20, .aload_n 0, 1, 0, 0), (21, .getfield 470, 3, 2786, 0), (24, .ldc2_w 479, 3, 65536, 0), (27, .ldiv, 1, 0, 0), (28, .iload_n 1, 1, 0, 0), (29, .i2l, 1, 0, 0), (30, .lrem, 1, 0, 0), (31, .l2i, 1, 0, 0), (32, .ireturn, 1, 0, 0)]
def pg_X10_draws : ur_P := (pr_X10_draws, fun _ => ([], 0), 2, 0, 10)
abbrev kX_X10_draws : Nat := 246
def pr_X10_livesMinute : List ur_E := [(0, .aload_n 0, 1, 0, 0), (1, .getfield 13, 3, 2603, 0), (4, .iconst 2, 1, 0, 2), (5, .iaload, 1, 0, 0), (6, .ifCond .le 110, 3, 116, 0), (9, .aload_n 0, 1, 0, 0), (10, .getfield 13, 3, 2603, 0), (13, .iconst 0, 1, 0, 0), (14, .iaload, 1, 0, 0), (15, .ifCond .le 101, 3, 116, 0), (18, .aload_n 0, 1, 0, 0), (19, .aload_n 0, 1, 0, 0), (20, .getfield 13, 3, 2603, 0), (23, .iconst 2, 1, 0, 2), (24, .iaload, 1, 0, 0), (25, .invokevirtual 481, 3, 7877, 0), (28, .istore_n 1, 1, 0, 0), (29, .aload_n 0, 1, 0, 0), (30, .aload_n 0, 1, 0, 0), (31, .getfield 13, 3, 2603, 0), (34, .iconst 0, 1, 0, 0), (35, .iaload, 1, 0, 0), (36, .invokevirtual 481, 3, 7877, 0), (39, .istore_n 2, 1, 0, 0), (40, .aload_n 0, 1, 0, 0), (41, .iconst 5, 1, 0, 5), (42, .invokevirtual 481, 3, 7877, 0), (45, .istore_n 3, 1, 0, 0), (46, .iload_n 3, 1, 0, 0), (47, .ifCond .ne 16, 3, 63, 0), (50, .aload_n 0, 1, 0, 0), (51, .iload_n 1, 1, 0, 0), (52, .invokevirtual 399, 3, 6213, 0), (55, .ifCond .eq 8, 3, 63, 0), (58, .aload_n 0, 1, 0, 0), (59, .iload_n 1, 1, 0, 0), (60, .invokevirtual 402, 3, 6244, 0), (63, .iload_n 3, 1, 0, 0), (64, .iconst 1, 1, 0, 1), (65, .if_icmp .eq 8, 3, 73, 0), (68, .iload_n 3, 1, 0, 0), (69, .iconst 2, 1, 0, 2), (70, .if_icmp .ne 25, 3, 95, 0), (73, .aload_n 0, 1, 0, 0), (74, .iload_n 1, 1, 0, 0), (75, .invokevirtual 386, 3, 6181, 0), (78, .iload_n 2, 1, 0, 0), (79, .ishr, 1, 0, 0), (80, .iconst 1, 1, 0, 1), (81, .iand, 1, 0, 0), (82, .iconst 1, 1, 0, 1), (83, .if_icmp .ne 12, 3, 95, 0), (86, .aload_n 0, 1, 0, 0), (87, .getfield 108, 3, 2739, 0), (90, .iconst 4, 1, 0, 4), (91, .iload_n 1, 1, 0, 0), (92, .iadd, 1, 0, 0), (93, .iload_n 2, 1, 0, 0), (94, .iastore, 1, 0, 0), (95, .iload_n 3, 1, 0, 0), (96, .iconst 2, 1, 0, 2), (97, .if_icmp .le 19, 3, 116, 0), (100, .aload_n 0, 1, 0, 0), (101, .iload_n 1, 1, 0, 0), (102, .iload_n 2, 1, 0, 0), (103, .invokevirtual 392, 3, 6119, 0), (106, .ifCond .eq 10, 3, 116, 0), (109, .aload_n 0, 1, 0, 0), (110, .iload_n 1, 1, 0, 0), (111, .iload_n 2, 1, 0, 0), (112, .invokevirtual 396, 3, 6151, 0), (115, .pop, 1, 0, 0), (116, .aload_n 0, 1, 0, 0), (117, .invokevirtual 414, 3, 6403, 0), (120, .pop, 1, 0, 0), (121, .return_, 1, 0, 0)]
def pg_X10_livesMinute : ur_P := (pr_X10_livesMinute, fun _ => ([], 0), 4, 0, 10)
abbrev kX_X10_livesMinute : Nat := 247
def pr_X10_evenings : List ur_E := [(0, .aload_n 0, 1, 0, 0), (1, .iconst 0, 1, 0, 0), (2, .putfield 141, 3, 2560, 0), (5, .iload_n 1, 1, 0, 0), (6, .iconst 0, 1, 0, 0), (7, .sipush 9999, 3, 0, 9999), (10, .invokestatic 262, 3, 4487, 0), (13, .ifCond .eq 22, 3, 35, 0), (16, .iload_n 2, 1, 0, 0), (17, .iconst 1, 1, 0, 1), (18, .bipush 99, 2, 0, 99), (20, .invokestatic 262, 3, 4487, 0), (23, .ifCond .eq 12, 3, 35, 0), (26, .iload_n 3, 1, 0, 0), (27, .iconst 0, 1, 0, 0), (28, .iconst 2, 1, 0, 2), (29, .invokestatic 262, 3, 4487, 0), (32, .ifCond .ne 5, 3, 37, 0), (35, .iconst (-1), 1, 0, (-1)), (36, .ireturn, 1, 0, 0), (37, .aload_n 0, 1, 0, 0), (38, .iload_n 1, 1, 0, 0), (39, .i2l, 1, 0, 0), (40, .putfield 470, 3, 2786, 0), (43, .aload_n 0, 1, 0, 0), (44, .getfield 108, 3, 2739, 0), (47, .iconst 0, 1, 0, 0), (48, .aload_n 0, 1, 0, 0), (49, .getfield 111, 3, 2743, 0), (52, .iconst 0, 1, 0, 0), (53, .invokestatic 382, 3, 5512, 0), (56, .iconst 0, 1, 0, 0), (57, .istore 4, 2, 0, 0), (59, .iload 4, 2, 0, 0), (61, .iload_n 2, 1, 0, 0), (62, .if_icmp .ge 13, 3, 75, 0), (65, .aload_n 0, 1, 0, 0), (66, .invokevirtual 484, 3, 7906, 0), (69, .iinc 4 1, 3, 0, 1), (72, .goto (-13), 3, 59, 0), (75, .aload_n 0, 1, 0, 0), (76, .getfield 108, 3, 2739, 0), (79, .iconst 1, 1, 0, 1), (80, .iaload, 1, 0, 0), (81, .aload_n 0, 1, 0, 0), (82, .getfield 111, 3, 2743, 0), (85, .iconst 1, 1, 0, 1), (86, .iaload, 1, 0, 0), (87, .isub, 1, 0, 0), (88, .istore 4, 2, 0, 0), (90, .aload_n 0, 1, 0, 0), (91, .invokevirtual 429, 3, 5987, 0), (94, .istore 5, 2, 0, 0), (96, .aload_n 0, 1, 0, 0), (97, .invokevirtual 420, 3, 6723, 0), (100, .istore 6, 2, 0, 0), (102, .aload_n 0, 1, 0, 0), (103, .getfield 111, 3, 2743, 0), (106, .iconst 0, 1, 0, 0), (107, .aload_n 0, 1, 0, 0), (108, .getfield 108, 3, 2739, 0), (111, .iconst 0, 1, 0, 0), (112, .invokestatic 382, 3, 5512, 0), (115, .iload_n 3, 1, 0, 0), (116, .ifCond .ne 8, 3, 124, 0), (119, .iload 4, 2, 0, 0), (121, .goto 15, 3, 136, 0), (124, .iload_n 3, 1, 0, 0), (125, .iconst 1, 1, 0, 1), (126, .if_icmp .ne 8, 3, 134, 0), (129, .iload 5, 2, 0, 0), (131, .goto 5, 3, 136, 0), (134, .iload 6, 2, 0, 0), (136, .ireturn, 1, 0, 0)]
def pg_X10_evenings : ur_P := (pr_X10_evenings, fun _ => ([], 0), 7, 0, 10)
abbrev kX_X10_evenings : Nat := 248
def pr_X10_mark : List ur_E := [(0, .aload_n 0, 1, 0, 0), (1, .iconst 0, 1, 0, 0), (2, .putfield 141, 3, 2560, 0), (5, .iload_n 1, 1, 0, 0), (6, .iconst 0, 1, 0, 0), (7, .iconst 3, 1, 0, 3), (8, .invokestatic 262, 3, 4487, 0), (11, .ifCond .eq 16, 3, 27, 0), (14, .iload_n 2, 1, 0, 0), (15, .ifCond .eq 14, 3, 29, 0), (18, .aload_n 0, 1, 0, 0), (19, .getfield 123, 3, 2759, 0), (22, .iload_n 1, 1, 0, 0), (23, .baload, 1, 0, 0), (24, .ifCond .ne 5, 3, 29, 0), (27, .iconst 0, 1, 0, 0), (28, .ireturn, 1, 0, 0), (29, .aload_n 0, 1, 0, 0), (30, .getfield 123, 3, 2759, 0), (33, .iload_n 1, 1, 0, 0), (34, .iconst 1, 1, 0, 1), (35, .bastore, 1, 0, 0), (36, .iload_n 2, 1, 0, 0), (37, .ifCond .eq 9, 3, 46, 0), (40, .iconst 1, 1, 0, 1), (41, .iload_n 1, 1, 0, 0), (42, .iadd, 1, 0, 0), (43, .goto 4, 3, 47, 0), (46, .iconst 0, 1, 0, 0), (47, .istore_n 3, 1, 0, 0), (48, .iload_n 2, 1, 0, 0), (49, .ifCond .eq 7, 3, 56, 0), (52, .iconst 0, 1, 0, 0), (53, .goto 6, 3, 59, 0), (56, .iconst 1, 1, 0, 1), (57, .iload_n 1, 1, 0, 0), (58, .iadd, 1, 0, 0), (59, .istore 4, 2, 0, 0), (61, .aload_n 0, 1, 0, 0), (62, .iload_n 3, 1, 0, 0), (63, .iload 4, 2, 0, 0), (65, .invokevirtual 334, 3, 5574, 0), (68, .aload_n 0, 1, 0, 0), (69, .iload_n 3, 1, 0, 0), (70, .iload 4, 2, 0, 0), (72, .invokevirtual 487, 3, 5606, 0), (75, .iload_n 2, 1, 0, 0), (76, .ifCond .eq 27, 3, 103, 0), (79, .aload_n 0, 1, 0, 0), (80, .getfield 117, 3, 2751, 0), (83, .bipush 29, 2, 0, 29), (85, .iload_n 1, 1, 0, 0), (86, .imul, 1, 0, 0), (87, .aload_n 0, 1, 0, 0), (88, .getfield 108, 3, 2739, 0), (91, .iconst 0, 1, 0, 0), (92, .invokestatic 382, 3, 5512, 0), (95, .aload_n 0, 1, 0, 0), (96, .iconst 0, 1, 0, 0), (97, .putfield 328, 3, 2760, 0), (100, .goto 19, 3, 119, 0), (103, .aload_n 0, 1, 0, 0), (104, .getfield 108, 3, 2739, 0), (107, .iconst 0, 1, 0, 0), (108, .aload_n 0, 1, 0, 0), (109, .getfield 117, 3, 2751, 0), (112, .bipush 29, 2, 0, 29), (114, .iload_n 1, 1, 0, 0), (115, .imul, 1, 0, 0), (116, .invokestatic 382, 3, 5512, 0), (119, .iconst 1, 1, 0, 1), (120, .ireturn, 1, 0, 0)]
def pg_X10_mark : ur_P := (pr_X10_mark, fun _ => ([], 0), 5, 1, 10)
abbrev kX_X10_mark : Nat := 249
def pr_X10_count : List ur_E := [(0, .aload_n 0, 1, 0, 0), (1, .iconst 0, 1, 0, 0), (2, .putfield 141, 3, 2560, 0), (5, .iload_n 1, 1, 0, 0), (6, .iconst 0, 1, 0, 0), (7, .bipush 12, 2, 0, 12), (9, .invokestatic 262, 3, 4487, 0), (12, .ifCond .ne 5, 3, 17, 0), (15, .iconst (-1), 1, 0, (-1)), (16, .ireturn, 1, 0, 0), (17, .iload_n 1, 1, 0, 0), (18, .iconst 3, 1, 0, 3), (19, .if_icmp .ge 10, 3, 29, 0), (22, .aload_n 0, 1, 0, 0), (23, .getfield 13, 3, 2603, 0), (26, .iload_n 1, 1, 0, 0), (27, .iaload, 1, 0, 0), (28, .ireturn, 1, 0, 0), (29, .iload_n 1, 1, 0, 0), (30, .iconst 5, 1, 0, 5), (31, .if_icmp .ge 24, 3, 55, 0), (34, .iload_n 1, 1, 0, 0), (35, .iconst 3, 1, 0, 3), (36, .if_icmp .ne 12, 3, 48, 0), (39, .aload_n 0, 1, 0, 0), (40, .getfield 108, 3, 2739, 0), (43, .iconst 0, 1, 0, 0), (44, .iaload, 1, 0, 0), (45, .goto 9, 3, 54, 0), (48, .aload_n 0, 1, 0, 0), (49, .getfield 108, 3, 2739, 0), (52, .iconst 1, 1, 0, 1), (53, .iaload, 1, 0, 0), (54, .ireturn, 1, 0, 0), (55, .iload_n 1, 1, 0, 0), (56, .bipush 9, 2, 0, 9), (58, .if_icmp .ge 50, 3, 108, 0), (61, .iload_n 1, 1, 0, 0), (62, .iconst 5, 1, 0, 5), (63, .if_icmp .ne 10, 3, 73, 0), (66, .aload_n 0, 1, 0, 0), (67, .invokevirtual 341, 3, 5827, 0), (70, .goto 37, 3, 107, 0), (73, .iload_n 1, 1, 0, 0), (74, .bipush 6, 2, 0, 6), (76, .if_icmp .ne 12, 3, 88, 0), (79, .aload_n 0, 1, 0, 0), (80, .getfield 108, 3, 2739, 0), (83, .iconst 2, 1, 0, 2), (84, .iaload, 1, 0, 0), (85, .goto 22, 3, 107, 0), (88, .iload_n 1, 1, 0, 0), (89, .bipush 7, 2, 0, 7), (91, .if_icmp .ne 10, 3, 101, 0), (94, .aload_n 0, 1, 0, 0), (95, .invokevirtual 429, 3, 5987, 0), (98, .goto 9, 3, 107, 0), (101, .aload_n 0, 1, 0, 0), (102, .getfield 108, 3, 2739, 0), (105, .iconst 3, 1, 0, 3), (106, .iaload, 1, 0, 0), (107, .ireturn, 1, 0, 0), (108, .iload_n 1, 1, 0, 0), (109, .bipush 11, 2, 0, 11), (111, .if_icmp .ge 25, 3, 136, 0), (114, .iload_n 1, 1, 0, 0), (115, .bipush 9, 2, 0, 9), (117, .if_icmp .ne 12, 3, 129, 0), (120, .aload_n 0, 1, 0, 0), (121, .getfield 84, 3, 2707, 0), (124, .iconst 0, 1, 0, 0), (125, .iaload, 1, 0, 0), (126, .goto 9, 3, 135, 0), (129, .aload_n 0, 1, 0, 0), (130, .getfield 96, 3, 2723, 0), (133, .iconst 0, 1, 0, 0), (134, .iaload, 1, 0, 0), (135, .ireturn, 1, 0, 0), (136, .iload_n 1, 1, 0, 0), (137, .bipush 11, 2, 0, 11), (139, .if_icmp .ne 10, 3, 149, 0), (142, .aload_n 0, 1, 0, 0), (143, .getfield 328, 3, 2760, 0), (146, .goto 7, 3, 153, 0), (149, .aload_n 0, 1, 0, 0), (150, .getfield 147, 3, 2564, 0), (153, .ireturn, 1, 0, 0)]
def pg_X10_count : ur_P := (pr_X10_count, fun _ => ([], 0), 2, 0, 10)
abbrev kX_X10_count : Nat := 250
def pr_J6_lowestOneBit_0f7a4 : List ur_E := [(0, .iload_n 0, 1, 0, 0), (1, .iload_n 0, 1, 0, 0), (2, .ineg, 1, 0, 0), (3, .iand, 1, 0, 0), (4, .ireturn, 1, 0, 0)]
def pg_J6_lowestOneBit_0f7a4 : ur_P := (pr_J6_lowestOneBit_0f7a4, fun _ => ([], 0), 1, 0, 30)
abbrev kX_J6_lowestOneBit_0f7a4 : Nat := 251
def pr_J6_numberOfTrailingZeros_0f7a4 : List ur_E := [(0, .iload_n 0, 1, 0, 0), (1, .iconst (-1), 1, 0, (-1)), (2, .ixor, 1, 0, 0), (3, .iload_n 0, 1, 0, 0), (4, .iconst 1, 1, 0, 1), (5, .isub, 1, 0, 0), (6, .iand, 1, 0, 0), (7, .istore_n 0, 1, 0, 0), (8, .iload_n 0, 1, 0, 0), (9, .ifCond .gt 8, 3, 17, 0), (12, .iload_n 0, 1, 0, 0), (13, .bipush 32, 2, 0, 32), (15, .iand, 1, 0, 0), (16, .ireturn, 1, 0, 0), (17, .iconst 1, 1, 0, 1), (18, .istore_n 1, 1, 0, 0), (19, .iload_n 0, 1, 0, 0), (20, .ldc_w 264, 3, 0, 65536), (23, .if_icmp .le 11, 3, 34, 0), (26, .iinc 1 16, 3, 0, 16), (29, .iload_n 0, 1, 0, 0), (30, .bipush 16, 2, 0, 16), (32, .iushr, 1, 0, 0), (33, .istore_n 0, 1, 0, 0), (34, .iload_n 0, 1, 0, 0), (35, .sipush 256, 3, 0, 256), (38, .if_icmp .le 11, 3, 49, 0), (41, .iinc 1 8, 3, 0, 8), (44, .iload_n 0, 1, 0, 0), (45, .bipush 8, 2, 0, 8), (47, .iushr, 1, 0, 0), (48, .istore_n 0, 1, 0, 0), (49, .iload_n 0, 1, 0, 0), (50, .bipush 16, 2, 0, 16), (52, .if_icmp .le 10, 3, 62, 0), (55, .iinc 1 4, 3, 0, 4), (58, .iload_n 0, 1, 0, 0), (59, .iconst 4, 1, 0, 4), (60, .iushr, 1, 0, 0), (61, .istore_n 0, 1, 0, 0), (62, .iload_n 0, 1, 0, 0), (63, .iconst 4, 1, 0, 4), (64, .if_icmp .le 10, 3, 74, 0), (67, .iinc 1 2, 3, 0, 2), (70, .iload_n 0, 1, 0, 0), (71, .iconst 2, 1, 0, 2), (72, .iushr, 1, 0, 0), (73, .istore_n 0, 1, 0, 0), (74, .iload_n 1, 1, 0, 0), (75, .iload_n 0, 1, 0, 0), (76, .iconst 1, 1, 0, 1), (77, .iushr, 1, 0, 0), (78, .iadd, 1, 0, 0), (79, .ireturn, 1, 0, 0)]
def pg_J6_numberOfTrailingZeros_0f7a4 : ur_P := (pr_J6_numberOfTrailingZeros_0f7a4, fun _ => ([], 0), 2, 0, 30)
abbrev kX_J6_numberOfTrailingZeros_0f7a4 : Nat := 252
def pr_J6_bitCount_0f7a4 : List ur_E := [(0, .iload_n 0, 1, 0, 0), (1, .iload_n 0, 1, 0, 0), (2, .iconst 1, 1, 0, 1), (3, .iushr, 1, 0, 0), (4, .ldc_w 265, 3, 0, 1431655765), (7, .iand, 1, 0, 0), (8, .isub, 1, 0, 0), (9, .istore_n 0, 1, 0, 0), (10, .iload_n 0, 1, 0, 0), (11, .ldc_w 266, 3, 0, 858993459), (14, .iand, 1, 0, 0), (15, .iload_n 0, 1, 0, 0), (16, .iconst 2, 1, 0, 2), (17, .iushr, 1, 0, 0), (18, .ldc_w 266, 3, 0, 858993459), (21, .iand, 1, 0, 0), (22, .iadd, 1, 0, 0), (23, .istore_n 0, 1, 0, 0), (24, .iload_n 0, 1, 0, 0), (25, .iload_n 0, 1, 0, 0), (26, .iconst 4, 1, 0, 4), (27, .iushr, 1, 0, 0), (28, .iadd, 1, 0, 0), (29, .ldc_w 267, 3, 0, 252645135), (32, .iand, 1, 0, 0), (33, .istore_n 0, 1, 0, 0), (34, .iload_n 0, 1, 0, 0), (35, .iload_n 0, 1, 0, 0), (36, .bipush 8, 2, 0, 8), (38, .iushr, 1, 0, 0), (39, .iadd, 1, 0, 0), (40, .istore_n 0, 1, 0, 0), (41, .iload_n 0, 1, 0, 0), (42, .iload_n 0, 1, 0, 0), (43, .bipush 16, 2, 0, 16), (45, .iushr, 1, 0, 0), (46, .iadd, 1, 0, 0), (47, .istore_n 0, 1, 0, 0), (48, .iload_n 0, 1, 0, 0), (49, .bipush 63, 2, 0, 63), (51, .iand, 1, 0, 0), (52, .ireturn, 1, 0, 0)]
def pg_J6_bitCount_0f7a4 : ur_P := (pr_J6_bitCount_0f7a4, fun _ => ([], 0), 1, 0, 30)
abbrev kX_J6_bitCount_0f7a4 : Nat := 253
def pr_J0_length_8abf5 : List ur_E := [(0, .aload_n 0, 1, 0, 0), (1, .getfield 9, 3, 5123, 0), (4, .arraylength, 1, 0, 0), (5, .aload_n 0, 1, 0, 0), (6, .invokevirtual 335, 3, 8259, 0), (9, .ishr, 1, 0, 0), (10, .ireturn, 1, 0, 0)]
def pg_J0_length_8abf5 : ur_P := (pr_J0_length_8abf5, fun _ => ([], 0), 1, 0, 20)
abbrev kX_J0_length_8abf5 : Nat := 254
def pr_J0_charAt_5068e : List ur_E := [(0, .aload_n 0, 1, 0, 0), (1, .invokevirtual 492, 3, 8291, 0), (4, .ifCond .eq 12, 3, 16, 0), (7, .aload_n 0, 1, 0, 0), (8, .getfield 9, 3, 5123, 0), (11, .iload_n 1, 1, 0, 0), (12, .invokestatic 495, 3, 8357, 0), (15, .ireturn, 1, 0, 0), (16, .aload_n 0, 1, 0, 0), (17, .getfield 9, 3, 5123, 0), (20, .iload_n 1, 1, 0, 0), (24, .ireturn, 1, 0, 0)]
def pg_J0_charAt_5068e : ur_P := (pr_J0_charAt_5068e, fun _ => ([], 0), 2, 2, 20)
abbrev kX_J0_charAt_5068e : Nat := 255
def pr_J0_indexOf_0f7a4 : List ur_E := [(0, .aload_n 0, 1, 0, 0), (1, .iload_n 1, 1, 0, 0), (2, .iconst 0, 1, 0, 0), (3, .invokevirtual 633, 3, 8231, 0), (6, .ireturn, 1, 0, 0)]
def pg_J0_indexOf_0f7a4 : ur_P := (pr_J0_indexOf_0f7a4, fun _ => ([], 0), 2, 0, 20)
abbrev kX_J0_indexOf_0f7a4 : Nat := 256
def pr_J0_indexOf_7cf53 : List ur_E := [(0, .aload_n 0, 1, 0, 0), (1, .invokevirtual 492, 3, 8291, 0), (4, .ifCond .eq 19, 3, 23, 0), (7, .aload_n 0, 1, 0, 0), (8, .getfield 9, 3, 5123, 0), (11, .iload_n 1, 1, 0, 0), (12, .iload_n 2, 1, 0, 0), (13, .aload_n 0, 1, 0, 0), (14, .invokevirtual 505, 3, 8131, 0), (17, .invokestatic 637, 3, 8425, 0), (20, .goto 16, 3, 36, 0), (23, .aload_n 0, 1, 0, 0), (24, .getfield 9, 3, 5123, 0), (27, .iload_n 1, 1, 0, 0), (28, .iload_n 2, 1, 0, 0), (29, .aload_n 0, 1, 0, 0), (30, .invokevirtual 505, 3, 8131, 0), (36, .ireturn, 1, 0, 0)]
def pg_J0_indexOf_7cf53 : ur_P := (pr_J0_indexOf_7cf53, fun _ => ([], 0), 3, 0, 20)
abbrev kX_J0_indexOf_7cf53 : Nat := 257
def pr_J0_coder_7d493 : List ur_E := [(0, .getstatic 38, 3, 0, 1), (3, .ifCond .eq 10, 3, 13, 0), (6, .aload_n 0, 1, 0, 0), (7, .getfield 15, 3, 5120, 0), (10, .goto 4, 3, 14, 0), (13, .iconst 1, 1, 0, 1), (14, .ireturn, 1, 0, 0)]
def pg_J0_coder_7d493 : ur_P := (pr_J0_coder_7d493, fun _ => ([], 0), 1, 3, 20)
abbrev kX_J0_coder_7d493 : Nat := 258
def pr_J0_isLatin1_aae02 : List ur_E := [(0, .getstatic 38, 3, 0, 1), (3, .ifCond .eq 14, 3, 17, 0), (6, .aload_n 0, 1, 0, 0), (7, .getfield 15, 3, 5120, 0), (10, .ifCond .ne 7, 3, 17, 0), (13, .iconst 1, 1, 0, 1), (14, .goto 4, 3, 18, 0), (17, .iconst 0, 1, 0, 0), (18, .ireturn, 1, 0, 0)]
def pg_J0_isLatin1_aae02 : ur_P := (pr_J0_isLatin1_aae02, fun _ => ([], 0), 1, 1, 20)
abbrev kX_J0_isLatin1_aae02 : Nat := 259
def pr_J0_checkIndex_df160 : List ur_E := [(0, .iload_n 0, 1, 0, 0), (1, .iload_n 1, 1, 0, 0), (2, .getstatic 1053, 3, 2020, 0), (5, .invokestatic 1059, 3, 8519, 0), (8, .pop, 1, 0, 0), (9, .return_, 1, 0, 0)]
def pg_J0_checkIndex_df160 : ur_P := (pr_J0_checkIndex_df160, fun _ => ([], 0), 2, 0, 30)
abbrev kX_J0_checkIndex_df160 : Nat := 260
def pr_J1_charAt_3b067 : List ur_E := [(0, .iload_n 1, 1, 0, 0), (1, .aload_n 0, 1, 0, 0), (2, .arraylength, 1, 0, 0), (3, .invokestatic 9, 3, 8324, 0), (6, .aload_n 0, 1, 0, 0), (7, .iload_n 1, 1, 0, 0), (8, .baload, 1, 0, 0), (9, .sipush 255, 3, 0, 255), (12, .iand, 1, 0, 0), (13, .i2c, 1, 0, 0), (14, .ireturn, 1, 0, 0)]
def pg_J1_charAt_3b067 : ur_P := (pr_J1_charAt_3b067, fun _ => ([], 0), 2, 2, 30)
abbrev kX_J1_charAt_3b067 : Nat := 261
def pr_J1_canEncode_9a6ad : List ur_E := [(0, .iload_n 0, 1, 0, 0), (1, .ifCond .lt 14, 3, 15, 0), (4, .iload_n 0, 1, 0, 0), (5, .sipush 255, 3, 0, 255), (8, .if_icmp .gt 7, 3, 15, 0), (11, .iconst 1, 1, 0, 1), (12, .goto 4, 3, 16, 0), (15, .iconst 0, 1, 0, 0), (16, .ireturn, 1, 0, 0)]
def pg_J1_canEncode_9a6ad : ur_P := (pr_J1_canEncode_9a6ad, fun _ => ([], 0), 1, 1, 30)
abbrev kX_J1_canEncode_9a6ad : Nat := 262
def pr_J1_indexOf_4cfef : List ur_E := [(0, .iload_n 1, 1, 0, 0), (1, .invokestatic 88, 3, 8387, 0), (4, .ifCond .ne 5, 3, 9, 0), (7, .iconst (-1), 1, 0, (-1)), (8, .ireturn, 1, 0, 0), (9, .iload_n 2, 1, 0, 0), (10, .iconst 0, 1, 0, 0), (11, .invokestatic 92, 3, 9002, 0), (14, .istore_n 2, 1, 0, 0), (15, .iload_n 3, 1, 0, 0), (16, .aload_n 0, 1, 0, 0), (17, .arraylength, 1, 0, 0), (18, .invokestatic 38, 3, 9003, 0), (21, .istore_n 3, 1, 0, 0), (22, .iload_n 2, 1, 0, 0), (23, .iload_n 3, 1, 0, 0), (24, .if_icmp .lt 5, 3, 29, 0), (27, .iconst (-1), 1, 0, (-1)), (28, .ireturn, 1, 0, 0), (29, .aload_n 0, 1, 0, 0), (30, .iload_n 1, 1, 0, 0), (31, .iload_n 2, 1, 0, 0), (32, .iload_n 3, 1, 0, 0), (33, .invokestatic 95, 3, 8457, 0), (36, .ireturn, 1, 0, 0)]
def pg_J1_indexOf_4cfef : ur_P := (pr_J1_indexOf_4cfef, fun _ => ([], 0), 4, 0, 30)
abbrev kX_J1_indexOf_4cfef : Nat := 263
def pr_J1_indexOfChar_4cfef : List ur_E := [(0, .iload_n 1, 1, 0, 0), (1, .i2b, 1, 0, 0), (2, .istore 4, 2, 0, 0), (4, .iload_n 2, 1, 0, 0), (5, .istore 5, 2, 0, 0), (7, .iload 5, 2, 0, 0), (9, .iload_n 3, 1, 0, 0), (10, .if_icmp .ge 21, 3, 31, 0), (13, .aload_n 0, 1, 0, 0), (14, .iload 5, 2, 0, 0), (16, .baload, 1, 0, 0), (17, .iload 4, 2, 0, 0), (19, .if_icmp .ne 6, 3, 25, 0), (22, .iload 5, 2, 0, 0), (24, .ireturn, 1, 0, 0), (25, .iinc 5 1, 3, 0, 1), (28, .goto (-21), 3, 7, 0), (31, .iconst (-1), 1, 0, (-1)), (32, .ireturn, 1, 0, 0)]
def pg_J1_indexOfChar_4cfef : ur_P := (pr_J1_indexOfChar_4cfef, fun _ => ([], 0), 6, 0, 30)
abbrev kX_J1_indexOfChar_4cfef : Nat := 264
def pr_J7_fill_53178 : List ur_E := [(0, .iconst 0, 1, 0, 0), (1, .istore_n 2, 1, 0, 0), (2, .aload_n 0, 1, 0, 0), (3, .arraylength, 1, 0, 0), (4, .istore_n 3, 1, 0, 0), (5, .iload_n 2, 1, 0, 0), (6, .iload_n 3, 1, 0, 0), (7, .if_icmp .ge 13, 3, 20, 0), (10, .aload_n 0, 1, 0, 0), (11, .iload_n 2, 1, 0, 0), (12, .iload_n 1, 1, 0, 0), (13, .iastore, 1, 0, 0), (14, .iinc 2 1, 3, 0, 1), (17, .goto (-12), 3, 5, 0), (20, .return_, 1, 0, 0)]
def pg_J7_fill_53178 : ur_P := (pr_J7_fill_53178, fun _ => ([], 0), 4, 0, 30)
abbrev kX_J7_fill_53178 : Nat := 265
def pr_J3_checkIndex_8e157 : List ur_E := [(0, .iload_n 0, 1, 0, 0), (1, .ifCond .lt 8, 3, 9, 0), (4, .iload_n 0, 1, 0, 0), (5, .iload_n 1, 1, 0, 0), (6, .if_icmp .lt 10, 3, 16, 0), (9, .aload_n 2, 1, 0, 0), (10, .iload_n 0, 1, 0, 0), (11, .iload_n 1, 1, 0, 0), (16, .iload_n 0, 1, 0, 0), (17, .ireturn, 1, 0, 0)]
def pg_J3_checkIndex_8e157 : ur_P := (pr_J3_checkIndex_8e157, fun _ => ([], 0), 3, 0, 30)
abbrev kX_J3_checkIndex_8e157 : Nat := 266
abbrev gn_X0_init : ur_P × ur_NI := (pg_X0_init, yX0_init, cX0_init, none)
abbrev gn_X0_below : ur_P × ur_NI := (pg_X0_below, yX0_below, cX0_below, (some .int))
abbrev gn_X1_init : ur_P × ur_NI := (pg_X1_init, yX1_init, cX1_init, none)
abbrev gn_X1_hasRoom : ur_P × ur_NI := (pg_X1_hasRoom, yX1_hasRoom, cX1_hasRoom, (some .boolean))
abbrev gn_X1_hasPerson : ur_P × ur_NI := (pg_X1_hasPerson, yX1_hasPerson, cX1_hasPerson, (some .boolean))
abbrev gn_X1_isUnsaid : ur_P × ur_NI := (pg_X1_isUnsaid, yX1_isUnsaid, cX1_isUnsaid, (some .boolean))
abbrev gn_X1_saidRooms : ur_P × ur_NI := (pg_X1_saidRooms, yX1_saidRooms, cX1_saidRooms, (some .int))
abbrev gn_X1_roomsBeside : ur_P × ur_NI := (pg_X1_roomsBeside, yX1_roomsBeside, cX1_roomsBeside, (some .int))
abbrev gn_X1_spread : ur_P × ur_NI := (pg_X1_spread, yX1_spread, cX1_spread, (some .int))
abbrev gn_X1_roomNamed : ur_P × ur_NI := (pg_X1_roomNamed, yX1_roomNamed, cX1_roomNamed, (some .int))
abbrev gn_X1_personNamed : ur_P × ur_NI := (pg_X1_personNamed, yX1_personNamed, cX1_personNamed, (some .int))
abbrev gn_X1_clear : ur_P × ur_NI := (pg_X1_clear, yX1_clear, cX1_clear, none)
abbrev gn_X1_readFrom : ur_P × ur_NI := (pg_X1_readFrom, yX1_readFrom, cX1_readFrom, (some .int))
abbrev gn_X1_readRoom : ur_P × ur_NI := (pg_X1_readRoom, yX1_readRoom, cX1_readRoom, (some .boolean))
abbrev gn_X1_takeNewName : ur_P × ur_NI := (pg_X1_takeNewName, yX1_takeNewName, cX1_takeNewName, (some .boolean))
abbrev gn_X1_isRoomName : ur_P × ur_NI := (pg_X1_isRoomName, yX1_isRoomName, cX1_isRoomName, (some .boolean))
abbrev gn_X1_readDoor : ur_P × ur_NI := (pg_X1_readDoor, yX1_readDoor, cX1_readDoor, (some .boolean))
abbrev gn_X1_canJoin : ur_P × ur_NI := (pg_X1_canJoin, yX1_canJoin, cX1_canJoin, (some .boolean))
abbrev gn_X1_readPerson : ur_P × ur_NI := (pg_X1_readPerson, yX1_readPerson, cX1_readPerson, (some .boolean))
abbrev gn_X1_addPerson : ur_P × ur_NI := (pg_X1_addPerson, yX1_addPerson, cX1_addPerson, none)
abbrev gn_X1_readStays : ur_P × ur_NI := (pg_X1_readStays, yX1_readStays, cX1_readStays, (some .boolean))
abbrev gn_X2_init : ur_P × ur_NI := (pg_X2_init, yX2_init, cX2_init, none)
abbrev gn_X2_readLevel : ur_P × ur_NI := (pg_X2_readLevel, yX2_readLevel, cX2_readLevel, (some .boolean))
abbrev gn_X2_levelOf : ur_P × ur_NI := (pg_X2_levelOf, yX2_levelOf, cX2_levelOf, (some .int))
abbrev gn_X2_readPart : ur_P × ur_NI := (pg_X2_readPart, yX2_readPart, cX2_readPart, (some .boolean))
abbrev gn_X2_readInner : ur_P × ur_NI := (pg_X2_readInner, yX2_readInner, cX2_readInner, (some .boolean))
abbrev gn_X2_put : ur_P × ur_NI := (pg_X2_put, yX2_put, cX2_put, none)
abbrev gn_X2_valueOf : ur_P × ur_NI := (pg_X2_valueOf, yX2_valueOf, cX2_valueOf, (some .int))
abbrev gn_X2_follow : ur_P × ur_NI := (pg_X2_follow, yX2_follow, cX2_follow, none)
abbrev gn_X2_joined : ur_P × ur_NI := (pg_X2_joined, yX2_joined, cX2_joined, (some .int))
abbrev gn_X2_push : ur_P × ur_NI := (pg_X2_push, yX2_push, cX2_push, none)
abbrev gn_X2_pop : ur_P × ur_NI := (pg_X2_pop, yX2_pop, cX2_pop, (some .int))
abbrev gn_X3_init : ur_P × ur_NI := (pg_X3_init, yX3_init, cX3_init, none)
abbrev gn_X3_settle : ur_P × ur_NI := (pg_X3_settle, yX3_settle, cX3_settle, none)
abbrev gn_X3_tryRows : ur_P × ur_NI := (pg_X3_tryRows, yX3_tryRows, cX3_tryRows, none)
abbrev gn_X3_keepIfBetter : ur_P × ur_NI := (pg_X3_keepIfBetter, yX3_keepIfBetter, cX3_keepIfBetter, none)
abbrev gn_X4_init : ur_P × ur_NI := (pg_X4_init, yX4_init, cX4_init, none)
abbrev gn_X4_lay : ur_P × ur_NI := (pg_X4_lay, yX4_lay, cX4_lay, none)
abbrev gn_X4_giveBack : ur_P × ur_NI := (pg_X4_giveBack, yX4_giveBack, cX4_giveBack, none)
abbrev gn_X5_init : ur_P × ur_NI := (pg_X5_init, yX5_init, cX5_init, none)
abbrev gn_X5_begin : ur_P × ur_NI := (pg_X5_begin, yX5_begin, cX5_begin, none)
abbrev gn_X5_copyFrom : ur_P × ur_NI := (pg_X5_copyFrom, yX5_copyFrom, cX5_copyFrom, none)
abbrev gn_X5_isInside : ur_P × ur_NI := (pg_X5_isInside, yX5_isInside, cX5_isInside, (some .boolean))
abbrev gn_X5_allInside : ur_P × ur_NI := (pg_X5_allInside, yX5_allInside, cX5_allInside, (some .int))
abbrev gn_X5_allBeen : ur_P × ur_NI := (pg_X5_allBeen, yX5_allBeen, cX5_allBeen, (some .int))
abbrev gn_X5_personsIn : ur_P × ur_NI := (pg_X5_personsIn, yX5_personsIn, cX5_personsIn, (some .int))
abbrev gn_X5_hostOf : ur_P × ur_NI := (pg_X5_hostOf, yX5_hostOf, cX5_hostOf, (some .int))
abbrev gn_X5_standsBeside : ur_P × ur_NI := (pg_X5_standsBeside, yX5_standsBeside, cX5_standsBeside, (some .boolean))
abbrev gn_X5_canWalk : ur_P × ur_NI := (pg_X5_canWalk, yX5_canWalk, cX5_canWalk, (some .boolean))
abbrev gn_X5_tryWalk : ur_P × ur_NI := (pg_X5_tryWalk, yX5_tryWalk, cX5_tryWalk, (some .boolean))
abbrev gn_X5_isLet : ur_P × ur_NI := (pg_X5_isLet, yX5_isLet, cX5_isLet, (some .boolean))
abbrev gn_X5_canShow : ur_P × ur_NI := (pg_X5_canShow, yX5_canShow, cX5_canShow, (some .boolean))
abbrev gn_X5_tryShow : ur_P × ur_NI := (pg_X5_tryShow, yX5_tryShow, cX5_tryShow, (some .int))
abbrev gn_X5_stayOf : ur_P × ur_NI := (pg_X5_stayOf, yX5_stayOf, cX5_stayOf, (some .int))
abbrev gn_X5_canSpeak : ur_P × ur_NI := (pg_X5_canSpeak, yX5_canSpeak, cX5_canSpeak, (some .boolean))
abbrev gn_X5_trySpeak : ur_P × ur_NI := (pg_X5_trySpeak, yX5_trySpeak, cX5_trySpeak, (some .boolean))
abbrev gn_X5_flamesFrom : ur_P × ur_NI := (pg_X5_flamesFrom, yX5_flamesFrom, cX5_flamesFrom, (some .int))
abbrev gn_X5_tryBurn : ur_P × ur_NI := (pg_X5_tryBurn, yX5_tryBurn, cX5_tryBurn, (some .int))
abbrev gn_X5_passMinute : ur_P × ur_NI := (pg_X5_passMinute, yX5_passMinute, cX5_passMinute, (some .int))
abbrev gn_X5_comesOut : ur_P × ur_NI := (pg_X5_comesOut, yX5_comesOut, cX5_comesOut, (some .boolean))
abbrev gn_X5_exitOf : ur_P × ur_NI := (pg_X5_exitOf, yX5_exitOf, cX5_exitOf, (some .int))
abbrev gn_X5_follow : ur_P × ur_NI := (pg_X5_follow, yX5_follow, cX5_follow, (some .boolean))
abbrev gn_X6_init : ur_P × ur_NI := (pg_X6_init, yX6_init, cX6_init, none)
abbrev gn_X6_copyFrom : ur_P × ur_NI := (pg_X6_copyFrom, yX6_copyFrom, cX6_copyFrom, none)
abbrev gn_X6_readFrom : ur_P × ur_NI := (pg_X6_readFrom, yX6_readFrom, cX6_readFrom, (some .int))
abbrev gn_X6_readLine : ur_P × ur_NI := (pg_X6_readLine, yX6_readLine, cX6_readLine, (some .boolean))
abbrev gn_X6_readPerson : ur_P × ur_NI := (pg_X6_readPerson, yX6_readPerson, cX6_readPerson, (some .boolean))
abbrev gn_X6_readRoom : ur_P × ur_NI := (pg_X6_readRoom, yX6_readRoom, cX6_readRoom, (some .boolean))
abbrev gn_X7_init : ur_P × ur_NI := (pg_X7_init, yX7_init, cX7_init, none)
abbrev gn_X7_put : ur_P × ur_NI := (pg_X7_put, yX7_put, cX7_put, (some .boolean))
abbrev gn_X7_copyFrom : ur_P × ur_NI := (pg_X7_copyFrom, yX7_copyFrom, cX7_copyFrom, none)
abbrev gn_X8_init : ur_P × ur_NI := (pg_X8_init, yX8_init, cX8_init, none)
abbrev gn_X8_put : ur_P × ur_NI := (pg_X8_put, yX8_put, cX8_put, none)
abbrev gn_X8_begin : ur_P × ur_NI := (pg_X8_begin, yX8_begin, cX8_begin, none)
abbrev gn_X8_advance : ur_P × ur_NI := (pg_X8_advance, yX8_advance, cX8_advance, none)
abbrev gn_X8_takeWord : ur_P × ur_NI := (pg_X8_takeWord, yX8_takeWord, cX8_takeWord, none)
abbrev gn_X8_takeDigits : ur_P × ur_NI := (pg_X8_takeDigits, yX8_takeDigits, cX8_takeDigits, none)
abbrev gn_X8_fail : ur_P × ur_NI := (pg_X8_fail, yX8_fail, cX8_fail, (some .boolean))
abbrev gn_X8_take : ur_P × ur_NI := (pg_X8_take, yX8_take, cX8_take, (some .boolean))
abbrev gn_X8_isNumber : ur_P × ur_NI := (pg_X8_isNumber, yX8_isNumber, cX8_isNumber, (some .boolean))
abbrev gn_X9_init : ur_P × ur_NI := (pg_X9_init, yX9_init, cX9_init, none)
abbrev gn_X9_feed : ur_P × ur_NI := (pg_X9_feed, yX9_feed, cX9_feed, (some .int))
abbrev gn_X9_feedBytes : ur_P × ur_NI := (pg_X9_feedBytes, yX9_feedBytes, cX9_feedBytes, none)
abbrev gn_X9_marches : ur_P × ur_NI := (pg_X9_marches, yX9_marches, cX9_marches, (some .int))
abbrev gn_X9_beginAnew : ur_P × ur_NI := (pg_X9_beginAnew, yX9_beginAnew, cX9_beginAnew, none)
abbrev gn_X9_evening : ur_P × ur_NI := (pg_X9_evening, yX9_evening, cX9_evening, (some .int))
abbrev gn_X9_room : ur_P × ur_NI := (pg_X9_room, yX9_room, cX9_room, (some .int))
abbrev gn_X9_person : ur_P × ur_NI := (pg_X9_person, yX9_person, cX9_person, (some .int))
abbrev gn_X9_walk : ur_P × ur_NI := (pg_X9_walk, yX9_walk, cX9_walk, (some .boolean))
abbrev gn_X9_show : ur_P × ur_NI := (pg_X9_show, yX9_show, cX9_show, (some .int))
abbrev gn_X9_speak : ur_P × ur_NI := (pg_X9_speak, yX9_speak, cX9_speak, (some .boolean))
abbrev gn_X9_burn : ur_P × ur_NI := (pg_X9_burn, yX9_burn, cX9_burn, (some .int))
abbrev gn_X9_minute : ur_P × ur_NI := (pg_X9_minute, yX9_minute, cX9_minute, (some .int))
abbrev gn_X9_remember : ur_P × ur_NI := (pg_X9_remember, yX9_remember, cX9_remember, none)
abbrev gn_X9_undo : ur_P × ur_NI := (pg_X9_undo, yX9_undo, cX9_undo, (some .boolean))
abbrev gn_X9_judged : ur_P × ur_NI := (pg_X9_judged, yX9_judged, cX9_judged, (some .int))
abbrev gn_X9_host : ur_P × ur_NI := (pg_X9_host, yX9_host, cX9_host, (some .int))
abbrev gn_X9_frees : ur_P × ur_NI := (pg_X9_frees, yX9_frees, cX9_frees, (some .int))
abbrev gn_X9_minutesTillFree : ur_P × ur_NI := (pg_X9_minutesTillFree, yX9_minutesTillFree, cX9_minutesTillFree, (some .int))
abbrev gn_X9_later : ur_P × ur_NI := (pg_X9_later, yX9_later, cX9_later, (some .int))
abbrev gn_X9_out : ur_P × ur_NI := (pg_X9_out, yX9_out, cX9_out, (some .int))
abbrev gn_X9_calm : ur_P × ur_NI := (pg_X9_calm, yX9_calm, cX9_calm, (some .int))
abbrev gn_X9_may : ur_P × ur_NI := (pg_X9_may, yX9_may, cX9_may, (some .int))
abbrev gn_X9_roomsToBeShown : ur_P × ur_NI := (pg_X9_roomsToBeShown, yX9_roomsToBeShown, cX9_roomsToBeShown, (some .int))
abbrev gn_X9_goes : ur_P × ur_NI := (pg_X9_goes, yX9_goes, cX9_goes, (some .int))
abbrev gn_X9_roomsToWalkTo : ur_P × ur_NI := (pg_X9_roomsToWalkTo, yX9_roomsToWalkTo, cX9_roomsToWalkTo, (some .int))
abbrev gn_X9_stay : ur_P × ur_NI := (pg_X9_stay, yX9_stay, cX9_stay, (some .int))
abbrev gn_X9_openRooms : ur_P × ur_NI := (pg_X9_openRooms, yX9_openRooms, cX9_openRooms, (some .int))
abbrev gn_X9_isOpen : ur_P × ur_NI := (pg_X9_isOpen, yX9_isOpen, cX9_isOpen, (some .boolean))
abbrev gn_X9_reach : ur_P × ur_NI := (pg_X9_reach, yX9_reach, cX9_reach, (some .int))
abbrev gn_X9_far : ur_P × ur_NI := (pg_X9_far, yX9_far, cX9_far, (some .int))
abbrev gn_X9_halls : ur_P × ur_NI := (pg_X9_halls, yX9_halls, cX9_halls, (some .int))
abbrev gn_X9_hinges : ur_P × ur_NI := (pg_X9_hinges, yX9_hinges, cX9_hinges, (some .int))
abbrev gn_X9_cuts : ur_P × ur_NI := (pg_X9_cuts, yX9_cuts, cX9_cuts, (some .boolean))
abbrev gn_X9_lines : ur_P × ur_NI := (pg_X9_lines, yX9_lines, cX9_lines, (some .int))
abbrev gn_X9_fire : ur_P × ur_NI := (pg_X9_fire, yX9_fire, cX9_fire, (some .int))
abbrev gn_X9_queue : ur_P × ur_NI := (pg_X9_queue, yX9_queue, cX9_queue, (some .int))
abbrev gn_X9_longest : ur_P × ur_NI := (pg_X9_longest, yX9_longest, cX9_longest, (some .int))
abbrev gn_X9_as : ur_P × ur_NI := (pg_X9_as, yX9_as, cX9_as, (some .int))
abbrev gn_X9_been : ur_P × ur_NI := (pg_X9_been, yX9_been, cX9_been, (some .int))
abbrev gn_X9_alike : ur_P × ur_NI := (pg_X9_alike, yX9_alike, cX9_alike, (some .boolean))
abbrev gn_X9_mostKeptAlike : ur_P × ur_NI := (pg_X9_mostKeptAlike, yX9_mostKeptAlike, cX9_mostKeptAlike, (some .int))
abbrev gn_X9_roomsKeeping : ur_P × ur_NI := (pg_X9_roomsKeeping, yX9_roomsKeeping, cX9_roomsKeeping, (some .int))
abbrev gn_X9_widows : ur_P × ur_NI := (pg_X9_widows, yX9_widows, cX9_widows, (some .int))
abbrev gn_X9_see : ur_P × ur_NI := (pg_X9_see, yX9_see, cX9_see, (some .boolean))
abbrev gn_X9_which : ur_P × ur_NI := (pg_X9_which, yX9_which, cX9_which, (some .int))
abbrev gn_X9_ask : ur_P × ur_NI := (pg_X9_ask, yX9_ask, cX9_ask, (some .int))
abbrev gn_X9_chance : ur_P × ur_NI := (pg_X9_chance, yX9_chance, cX9_chance, (some .int))
abbrev gn_X9_rests : ur_P × ur_NI := (pg_X9_rests, yX9_rests, cX9_rests, (some .int))
abbrev gn_X9_isPrize : ur_P × ur_NI := (pg_X9_isPrize, yX9_isPrize, cX9_isPrize, (some .boolean))
abbrev gn_X9_isAtRest : ur_P × ur_NI := (pg_X9_isAtRest, yX9_isAtRest, cX9_isAtRest, (some .boolean))
abbrev gn_X9_prize : ur_P × ur_NI := (pg_X9_prize, yX9_prize, cX9_prize, (some .int))
abbrev gn_X9_evenings : ur_P × ur_NI := (pg_X9_evenings, yX9_evenings, cX9_evenings, (some .int))
abbrev gn_X9_followDraws : ur_P × ur_NI := (pg_X9_followDraws, yX9_followDraws, cX9_followDraws, none)
abbrev gn_X9_mark : ur_P × ur_NI := (pg_X9_mark, yX9_mark, cX9_mark, (some .boolean))
abbrev gn_X9_count : ur_P × ur_NI := (pg_X9_count, yX9_count, cX9_count, (some .int))
abbrev gn_X9_bit : ur_P × ur_NI := (pg_X9_bit, yX9_bit, cX9_bit, (some .int))
abbrev gn_X9_numberIn : ur_P × ur_NI := (pg_X9_numberIn, yX9_numberIn, cX9_numberIn, (some .int))
abbrev gn_X10_init : ur_P × ur_NI := (pg_X10_init, yX10_init, cX10_init, none)
abbrev gn_X10_thrown : ur_P × ur_NI := (pg_X10_thrown, yX10_thrown, cX10_thrown, (some .int))
abbrev gn_X10_within : ur_P × ur_NI := (pg_X10_within, yX10_within, cX10_within, (some .boolean))
abbrev gn_X10_between : ur_P × ur_NI := (pg_X10_between, yX10_between, cX10_between, (some .int))
abbrev gn_X10_bits : ur_P × ur_NI := (pg_X10_bits, yX10_bits, cX10_bits, (some .int))
abbrev gn_X10_feed : ur_P × ur_NI := (pg_X10_feed, yX10_feed, cX10_feed, (some .int))
abbrev gn_X10_signAt : ur_P × ur_NI := (pg_X10_signAt, yX10_signAt, cX10_signAt, (some .int))
abbrev gn_X10_nextToken : ur_P × ur_NI := (pg_X10_nextToken, yX10_nextToken, cX10_nextToken, none)
abbrev gn_X10_isWord : ur_P × ur_NI := (pg_X10_isWord, yX10_isWord, cX10_isWord, (some .boolean))
abbrev gn_X10_isSign : ur_P × ur_NI := (pg_X10_isSign, yX10_isSign, cX10_isSign, (some .boolean))
abbrev gn_X10_fails : ur_P × ur_NI := (pg_X10_fails, yX10_fails, cX10_fails, (some .boolean))
abbrev gn_X10_puts : ur_P × ur_NI := (pg_X10_puts, yX10_puts, cX10_puts, none)
abbrev gn_X10_fact : ur_P × ur_NI := (pg_X10_fact, yX10_fact, cX10_fact, (some .int))
abbrev gn_X10_reads : ur_P × ur_NI := (pg_X10_reads, yX10_reads, cX10_reads, (some .boolean))
abbrev gn_X10_opens : ur_P × ur_NI := (pg_X10_opens, yX10_opens, cX10_opens, none)
abbrev gn_X10_sums : ur_P × ur_NI := (pg_X10_sums, yX10_sums, cX10_sums, none)
abbrev gn_X10_tests : ur_P × ur_NI := (pg_X10_tests, yX10_tests, cX10_tests, none)
abbrev gn_X10_worked : ur_P × ur_NI := (pg_X10_worked, yX10_worked, cX10_worked, (some .int))
abbrev gn_X10_isKept : ur_P × ur_NI := (pg_X10_isKept, yX10_isKept, cX10_isKept, (some .boolean))
abbrev gn_X10_roomNamed : ur_P × ur_NI := (pg_X10_roomNamed, yX10_roomNamed, cX10_roomNamed, (some .int))
abbrev gn_X10_personNamed : ur_P × ur_NI := (pg_X10_personNamed, yX10_personNamed, cX10_personNamed, (some .int))
abbrev gn_X10_needsBoth : ur_P × ur_NI := (pg_X10_needsBoth, yX10_needsBoth, cX10_needsBoth, (some .boolean))
abbrev gn_X10_closes : ur_P × ur_NI := (pg_X10_closes, yX10_closes, cX10_closes, (some .boolean))
abbrev gn_X10_needsNew : ur_P × ur_NI := (pg_X10_needsNew, yX10_needsNew, cX10_needsNew, (some .boolean))
abbrev gn_X10_needsRoom : ur_P × ur_NI := (pg_X10_needsRoom, yX10_needsRoom, cX10_needsRoom, (some .boolean))
abbrev gn_X10_readsRoom : ur_P × ur_NI := (pg_X10_readsRoom, yX10_readsRoom, cX10_readsRoom, (some .boolean))
abbrev gn_X10_readsDoor : ur_P × ur_NI := (pg_X10_readsDoor, yX10_readsDoor, cX10_readsDoor, (some .boolean))
abbrev gn_X10_readsPerson : ur_P × ur_NI := (pg_X10_readsPerson, yX10_readsPerson, cX10_readsPerson, (some .boolean))
abbrev gn_X10_readsStays : ur_P × ur_NI := (pg_X10_readsStays, yX10_readsStays, cX10_readsStays, (some .boolean))
abbrev gn_X10_begins : ur_P × ur_NI := (pg_X10_begins, yX10_begins, cX10_begins, none)
abbrev gn_X10_readsAll : ur_P × ur_NI := (pg_X10_readsAll, yX10_readsAll, cX10_readsAll, (some .boolean))
abbrev gn_X10_shifts : ur_P × ur_NI := (pg_X10_shifts, yX10_shifts, cX10_shifts, none)
abbrev gn_X10_shiftsNames : ur_P × ur_NI := (pg_X10_shiftsNames, yX10_shiftsNames, cX10_shiftsNames, none)
abbrev gn_X10_lays : ur_P × ur_NI := (pg_X10_lays, yX10_lays, cX10_lays, none)
abbrev gn_X10_copies : ur_P × ur_NI := (pg_X10_copies, yX10_copies, cX10_copies, none)
abbrev gn_X10_readsLine : ur_P × ur_NI := (pg_X10_readsLine, yX10_readsLine, cX10_readsLine, (some .boolean))
abbrev gn_X10_laysLines : ur_P × ur_NI := (pg_X10_laysLines, yX10_laysLines, cX10_laysLines, none)
abbrev gn_X10_laysSeen : ur_P × ur_NI := (pg_X10_laysSeen, yX10_laysSeen, cX10_laysSeen, none)
abbrev gn_X10_fresh0 : ur_P × ur_NI := (pg_X10_fresh0, yX10_fresh0, cX10_fresh0, none)
abbrev gn_X10_marches : ur_P × ur_NI := (pg_X10_marches, yX10_marches, cX10_marches, (some .int))
abbrev gn_X10_evening : ur_P × ur_NI := (pg_X10_evening, yX10_evening, cX10_evening, (some .int))
abbrev gn_X10_isRoom : ur_P × ur_NI := (pg_X10_isRoom, yX10_isRoom, cX10_isRoom, (some .boolean))
abbrev gn_X10_isPerson : ur_P × ur_NI := (pg_X10_isPerson, yX10_isPerson, cX10_isPerson, (some .boolean))
abbrev gn_X10_isUnsaid : ur_P × ur_NI := (pg_X10_isUnsaid, yX10_isUnsaid, cX10_isUnsaid, (some .boolean))
abbrev gn_X10_unsaids : ur_P × ur_NI := (pg_X10_unsaids, yX10_unsaids, cX10_unsaids, (some .int))
abbrev gn_X10_open : ur_P × ur_NI := (pg_X10_open, yX10_open, cX10_open, (some .int))
abbrev gn_X10_isOpen : ur_P × ur_NI := (pg_X10_isOpen, yX10_isOpen, cX10_isOpen, (some .boolean))
abbrev gn_X10_isInside : ur_P × ur_NI := (pg_X10_isInside, yX10_isInside, cX10_isInside, (some .boolean))
abbrev gn_X10_hostOf : ur_P × ur_NI := (pg_X10_hostOf, yX10_hostOf, cX10_hostOf, (some .int))
abbrev gn_X10_insiders : ur_P × ur_NI := (pg_X10_insiders, yX10_insiders, cX10_insiders, (some .int))
abbrev gn_X10_whoIn : ur_P × ur_NI := (pg_X10_whoIn, yX10_whoIn, cX10_whoIn, (some .int))
abbrev gn_X10_stayOf : ur_P × ur_NI := (pg_X10_stayOf, yX10_stayOf, cX10_stayOf, (some .int))
abbrev gn_X10_isFit : ur_P × ur_NI := (pg_X10_isFit, yX10_isFit, cX10_isFit, (some .boolean))
abbrev gn_X10_canShow : ur_P × ur_NI := (pg_X10_canShow, yX10_canShow, cX10_canShow, (some .boolean))
abbrev gn_X10_shows : ur_P × ur_NI := (pg_X10_shows, yX10_shows, cX10_shows, (some .int))
abbrev gn_X10_goesOf : ur_P × ur_NI := (pg_X10_goesOf, yX10_goesOf, cX10_goesOf, (some .int))
abbrev gn_X10_canSpeak : ur_P × ur_NI := (pg_X10_canSpeak, yX10_canSpeak, cX10_canSpeak, (some .boolean))
abbrev gn_X10_speaks : ur_P × ur_NI := (pg_X10_speaks, yX10_speaks, cX10_speaks, none)
abbrev gn_X10_burntBy : ur_P × ur_NI := (pg_X10_burntBy, yX10_burntBy, cX10_burntBy, (some .int))
abbrev gn_X10_spreads : ur_P × ur_NI := (pg_X10_spreads, yX10_spreads, cX10_spreads, (some .int))
abbrev gn_X10_canBurn : ur_P × ur_NI := (pg_X10_canBurn, yX10_canBurn, cX10_canBurn, (some .boolean))
abbrev gn_X10_firstOf : ur_P × ur_NI := (pg_X10_firstOf, yX10_firstOf, cX10_firstOf, (some .int))
abbrev gn_X10_passes : ur_P × ur_NI := (pg_X10_passes, yX10_passes, cX10_passes, (some .int))
abbrev gn_X10_room : ur_P × ur_NI := (pg_X10_room, yX10_room, cX10_room, (some .int))
abbrev gn_X10_person : ur_P × ur_NI := (pg_X10_person, yX10_person, cX10_person, (some .int))
abbrev gn_X10_keeps : ur_P × ur_NI := (pg_X10_keeps, yX10_keeps, cX10_keeps, none)
abbrev gn_X10_walk : ur_P × ur_NI := (pg_X10_walk, yX10_walk, cX10_walk, (some .boolean))
abbrev gn_X10_show : ur_P × ur_NI := (pg_X10_show, yX10_show, cX10_show, (some .int))
abbrev gn_X10_speak : ur_P × ur_NI := (pg_X10_speak, yX10_speak, cX10_speak, (some .boolean))
abbrev gn_X10_burn : ur_P × ur_NI := (pg_X10_burn, yX10_burn, cX10_burn, (some .int))
abbrev gn_X10_minute : ur_P × ur_NI := (pg_X10_minute, yX10_minute, cX10_minute, (some .int))
abbrev gn_X10_undo : ur_P × ur_NI := (pg_X10_undo, yX10_undo, cX10_undo, (some .boolean))
abbrev gn_X10_allBeen : ur_P × ur_NI := (pg_X10_allBeen, yX10_allBeen, cX10_allBeen, (some .int))
abbrev gn_X10_isDone : ur_P × ur_NI := (pg_X10_isDone, yX10_isDone, cX10_isDone, (some .boolean))
abbrev gn_X10_judged : ur_P × ur_NI := (pg_X10_judged, yX10_judged, cX10_judged, (some .int))
abbrev gn_X10_host : ur_P × ur_NI := (pg_X10_host, yX10_host, cX10_host, (some .int))
abbrev gn_X10_freesOf : ur_P × ur_NI := (pg_X10_freesOf, yX10_freesOf, cX10_freesOf, (some .int))
abbrev gn_X10_frees : ur_P × ur_NI := (pg_X10_frees, yX10_frees, cX10_frees, (some .int))
abbrev gn_X10_later : ur_P × ur_NI := (pg_X10_later, yX10_later, cX10_later, (some .int))
abbrev gn_X10_out : ur_P × ur_NI := (pg_X10_out, yX10_out, cX10_out, (some .int))
abbrev gn_X10_calm : ur_P × ur_NI := (pg_X10_calm, yX10_calm, cX10_calm, (some .int))
abbrev gn_X10_mayOf : ur_P × ur_NI := (pg_X10_mayOf, yX10_mayOf, cX10_mayOf, (some .int))
abbrev gn_X10_may : ur_P × ur_NI := (pg_X10_may, yX10_may, cX10_may, (some .int))
abbrev gn_X10_goes : ur_P × ur_NI := (pg_X10_goes, yX10_goes, cX10_goes, (some .int))
abbrev gn_X10_stay : ur_P × ur_NI := (pg_X10_stay, yX10_stay, cX10_stay, (some .int))
abbrev gn_X10_widows : ur_P × ur_NI := (pg_X10_widows, yX10_widows, cX10_widows, (some .int))
abbrev gn_X10_reach : ur_P × ur_NI := (pg_X10_reach, yX10_reach, cX10_reach, (some .int))
abbrev gn_X10_far : ur_P × ur_NI := (pg_X10_far, yX10_far, cX10_far, (some .int))
abbrev gn_X10_pieces : ur_P × ur_NI := (pg_X10_pieces, yX10_pieces, cX10_pieces, (some .int))
abbrev gn_X10_halls : ur_P × ur_NI := (pg_X10_halls, yX10_halls, cX10_halls, (some .int))
abbrev gn_X10_hinges : ur_P × ur_NI := (pg_X10_hinges, yX10_hinges, cX10_hinges, (some .int))
abbrev gn_X10_unsaidBy : ur_P × ur_NI := (pg_X10_unsaidBy, yX10_unsaidBy, cX10_unsaidBy, (some .int))
abbrev gn_X10_lines : ur_P × ur_NI := (pg_X10_lines, yX10_lines, cX10_lines, (some .int))
abbrev gn_X10_fire : ur_P × ur_NI := (pg_X10_fire, yX10_fire, cX10_fire, (some .int))
abbrev gn_X10_queues : ur_P × ur_NI := (pg_X10_queues, yX10_queues, cX10_queues, none)
abbrev gn_X10_queue : ur_P × ur_NI := (pg_X10_queue, yX10_queue, cX10_queue, (some .int))
abbrev gn_X10_longest : ur_P × ur_NI := (pg_X10_longest, yX10_longest, cX10_longest, (some .int))
abbrev gn_X10_as : ur_P × ur_NI := (pg_X10_as, yX10_as, cX10_as, (some .int))
abbrev gn_X10_been : ur_P × ur_NI := (pg_X10_been, yX10_been, cX10_been, (some .int))
abbrev gn_X10_alike : ur_P × ur_NI := (pg_X10_alike, yX10_alike, cX10_alike, (some .boolean))
abbrev gn_X10_laysStays : ur_P × ur_NI := (pg_X10_laysStays, yX10_laysStays, cX10_laysStays, none)
abbrev gn_X10_see : ur_P × ur_NI := (pg_X10_see, yX10_see, cX10_see, (some .boolean))
abbrev gn_X10_isAsSeen : ur_P × ur_NI := (pg_X10_isAsSeen, yX10_isAsSeen, cX10_isAsSeen, (some .boolean))
abbrev gn_X10_which : ur_P × ur_NI := (pg_X10_which, yX10_which, cX10_which, (some .int))
abbrev gn_X10_ask : ur_P × ur_NI := (pg_X10_ask, yX10_ask, cX10_ask, (some .int))
abbrev gn_X10_chance : ur_P × ur_NI := (pg_X10_chance, yX10_chance, cX10_chance, (some .int))
abbrev gn_X10_getsBy : ur_P × ur_NI := (pg_X10_getsBy, yX10_getsBy, cX10_getsBy, (some .int))
abbrev gn_X10_rests : ur_P × ur_NI := (pg_X10_rests, yX10_rests, cX10_rests, (some .int))
abbrev gn_X10_draws : ur_P × ur_NI := (pg_X10_draws, yX10_draws, cX10_draws, (some .int))
abbrev gn_X10_livesMinute : ur_P × ur_NI := (pg_X10_livesMinute, yX10_livesMinute, cX10_livesMinute, none)
abbrev gn_X10_evenings : ur_P × ur_NI := (pg_X10_evenings, yX10_evenings, cX10_evenings, (some .int))
abbrev gn_X10_mark : ur_P × ur_NI := (pg_X10_mark, yX10_mark, cX10_mark, (some .boolean))
abbrev gn_X10_count : ur_P × ur_NI := (pg_X10_count, yX10_count, cX10_count, (some .int))
abbrev gn_J6_lowestOneBit_0f7a4 : ur_P × ur_NI := (pg_J6_lowestOneBit_0f7a4, yJ6_lowestOneBit_0f7a4, cJ6_lowestOneBit_0f7a4, (some .int))
abbrev gn_J6_numberOfTrailingZeros_0f7a4 : ur_P × ur_NI := (pg_J6_numberOfTrailingZeros_0f7a4, yJ6_numberOfTrailingZeros_0f7a4, cJ6_numberOfTrailingZeros_0f7a4, (some .int))
abbrev gn_J6_bitCount_0f7a4 : ur_P × ur_NI := (pg_J6_bitCount_0f7a4, yJ6_bitCount_0f7a4, cJ6_bitCount_0f7a4, (some .int))
abbrev gn_J0_length_8abf5 : ur_P × ur_NI := (pg_J0_length_8abf5, yJ0_length_8abf5, cJ0_length_8abf5, (some .int))
abbrev gn_J0_charAt_5068e : ur_P × ur_NI := (pg_J0_charAt_5068e, yJ0_charAt_5068e, cJ0_charAt_5068e, (some .char))
abbrev gn_J0_indexOf_0f7a4 : ur_P × ur_NI := (pg_J0_indexOf_0f7a4, yJ0_indexOf_0f7a4, cJ0_indexOf_0f7a4, (some .int))
abbrev gn_J0_indexOf_7cf53 : ur_P × ur_NI := (pg_J0_indexOf_7cf53, yJ0_indexOf_7cf53, cJ0_indexOf_7cf53, (some .int))
abbrev gn_J0_coder_7d493 : ur_P × ur_NI := (pg_J0_coder_7d493, yJ0_coder_7d493, cJ0_coder_7d493, (some .byte))
abbrev gn_J0_isLatin1_aae02 : ur_P × ur_NI := (pg_J0_isLatin1_aae02, yJ0_isLatin1_aae02, cJ0_isLatin1_aae02, (some .boolean))
abbrev gn_J0_checkIndex_df160 : ur_P × ur_NI := (pg_J0_checkIndex_df160, yJ0_checkIndex_df160, cJ0_checkIndex_df160, none)
abbrev gn_J1_charAt_3b067 : ur_P × ur_NI := (pg_J1_charAt_3b067, yJ1_charAt_3b067, cJ1_charAt_3b067, (some .char))
abbrev gn_J1_canEncode_9a6ad : ur_P × ur_NI := (pg_J1_canEncode_9a6ad, yJ1_canEncode_9a6ad, cJ1_canEncode_9a6ad, (some .boolean))
abbrev gn_J1_indexOf_4cfef : ur_P × ur_NI := (pg_J1_indexOf_4cfef, yJ1_indexOf_4cfef, cJ1_indexOf_4cfef, (some .int))
abbrev gn_J1_indexOfChar_4cfef : ur_P × ur_NI := (pg_J1_indexOfChar_4cfef, yJ1_indexOfChar_4cfef, cJ1_indexOfChar_4cfef, (some .int))
abbrev gn_J7_fill_53178 : ur_P × ur_NI := (pg_J7_fill_53178, yJ7_fill_53178, cJ7_fill_53178, none)
abbrev gn_J3_checkIndex_8e157 : ur_P × ur_NI := (pg_J3_checkIndex_8e157, yJ3_checkIndex_8e157, cJ3_checkIndex_8e157, (some .int))
def ur_GN : Nat → ur_P × ur_NI := fun k => bif Nat.blt k 267 then (bif Nat.blt k 133 then (bif Nat.blt k 66 then (bif Nat.blt k 33 then (bif Nat.blt k 16 then (bif Nat.blt k 8 then (bif Nat.blt k 4 then (bif Nat.blt k 2 then (bif Nat.blt k 1 then gn_X0_init else gn_X0_below) else (bif Nat.blt k 3 then gn_X1_init else gn_X1_hasRoom)) else (bif Nat.blt k 6 then (bif Nat.blt k 5 then gn_X1_hasPerson else gn_X1_isUnsaid) else (bif Nat.blt k 7 then gn_X1_saidRooms else gn_X1_roomsBeside))) else (bif Nat.blt k 12 then (bif Nat.blt k 10 then (bif Nat.blt k 9 then gn_X1_spread else gn_X1_roomNamed) else (bif Nat.blt k 11 then gn_X1_personNamed else gn_X1_clear)) else (bif Nat.blt k 14 then (bif Nat.blt k 13 then gn_X1_readFrom else gn_X1_readRoom) else (bif Nat.blt k 15 then gn_X1_takeNewName else gn_X1_isRoomName)))) else (bif Nat.blt k 24 then (bif Nat.blt k 20 then (bif Nat.blt k 18 then (bif Nat.blt k 17 then gn_X1_readDoor else gn_X1_canJoin) else (bif Nat.blt k 19 then gn_X1_readPerson else gn_X1_addPerson)) else (bif Nat.blt k 22 then (bif Nat.blt k 21 then gn_X1_readStays else gn_X2_init) else (bif Nat.blt k 23 then gn_X2_readLevel else gn_X2_levelOf))) else (bif Nat.blt k 28 then (bif Nat.blt k 26 then (bif Nat.blt k 25 then gn_X2_readPart else gn_X2_readInner) else (bif Nat.blt k 27 then gn_X2_put else gn_X2_valueOf)) else (bif Nat.blt k 30 then (bif Nat.blt k 29 then gn_X2_follow else gn_X2_joined) else (bif Nat.blt k 31 then gn_X2_push else (bif Nat.blt k 32 then gn_X2_pop else gn_X3_init)))))) else (bif Nat.blt k 49 then (bif Nat.blt k 41 then (bif Nat.blt k 37 then (bif Nat.blt k 35 then (bif Nat.blt k 34 then gn_X3_settle else gn_X3_tryRows) else (bif Nat.blt k 36 then gn_X3_keepIfBetter else gn_X4_init)) else (bif Nat.blt k 39 then (bif Nat.blt k 38 then gn_X4_lay else gn_X4_giveBack) else (bif Nat.blt k 40 then gn_X5_init else gn_X5_begin))) else (bif Nat.blt k 45 then (bif Nat.blt k 43 then (bif Nat.blt k 42 then gn_X5_copyFrom else gn_X5_isInside) else (bif Nat.blt k 44 then gn_X5_allInside else gn_X5_allBeen)) else (bif Nat.blt k 47 then (bif Nat.blt k 46 then gn_X5_personsIn else gn_X5_hostOf) else (bif Nat.blt k 48 then gn_X5_standsBeside else gn_X5_canWalk)))) else (bif Nat.blt k 57 then (bif Nat.blt k 53 then (bif Nat.blt k 51 then (bif Nat.blt k 50 then gn_X5_tryWalk else gn_X5_isLet) else (bif Nat.blt k 52 then gn_X5_canShow else gn_X5_tryShow)) else (bif Nat.blt k 55 then (bif Nat.blt k 54 then gn_X5_stayOf else gn_X5_canSpeak) else (bif Nat.blt k 56 then gn_X5_trySpeak else gn_X5_flamesFrom))) else (bif Nat.blt k 61 then (bif Nat.blt k 59 then (bif Nat.blt k 58 then gn_X5_tryBurn else gn_X5_passMinute) else (bif Nat.blt k 60 then gn_X5_comesOut else gn_X5_exitOf)) else (bif Nat.blt k 63 then (bif Nat.blt k 62 then gn_X5_follow else gn_X6_init) else (bif Nat.blt k 64 then gn_X6_copyFrom else (bif Nat.blt k 65 then gn_X6_readFrom else gn_X6_readLine))))))) else (bif Nat.blt k 99 then (bif Nat.blt k 82 then (bif Nat.blt k 74 then (bif Nat.blt k 70 then (bif Nat.blt k 68 then (bif Nat.blt k 67 then gn_X6_readPerson else gn_X6_readRoom) else (bif Nat.blt k 69 then gn_X7_init else gn_X7_put)) else (bif Nat.blt k 72 then (bif Nat.blt k 71 then gn_X7_copyFrom else gn_X8_init) else (bif Nat.blt k 73 then gn_X8_put else gn_X8_begin))) else (bif Nat.blt k 78 then (bif Nat.blt k 76 then (bif Nat.blt k 75 then gn_X8_advance else gn_X8_takeWord) else (bif Nat.blt k 77 then gn_X8_takeDigits else gn_X8_fail)) else (bif Nat.blt k 80 then (bif Nat.blt k 79 then gn_X8_take else gn_X8_isNumber) else (bif Nat.blt k 81 then gn_X9_init else gn_X9_feed)))) else (bif Nat.blt k 90 then (bif Nat.blt k 86 then (bif Nat.blt k 84 then (bif Nat.blt k 83 then gn_X9_feedBytes else gn_X9_marches) else (bif Nat.blt k 85 then gn_X9_beginAnew else gn_X9_evening)) else (bif Nat.blt k 88 then (bif Nat.blt k 87 then gn_X9_room else gn_X9_person) else (bif Nat.blt k 89 then gn_X9_walk else gn_X9_show))) else (bif Nat.blt k 94 then (bif Nat.blt k 92 then (bif Nat.blt k 91 then gn_X9_speak else gn_X9_burn) else (bif Nat.blt k 93 then gn_X9_minute else gn_X9_remember)) else (bif Nat.blt k 96 then (bif Nat.blt k 95 then gn_X9_undo else gn_X9_judged) else (bif Nat.blt k 97 then gn_X9_host else (bif Nat.blt k 98 then gn_X9_frees else gn_X9_minutesTillFree)))))) else (bif Nat.blt k 116 then (bif Nat.blt k 107 then (bif Nat.blt k 103 then (bif Nat.blt k 101 then (bif Nat.blt k 100 then gn_X9_later else gn_X9_out) else (bif Nat.blt k 102 then gn_X9_calm else gn_X9_may)) else (bif Nat.blt k 105 then (bif Nat.blt k 104 then gn_X9_roomsToBeShown else gn_X9_goes) else (bif Nat.blt k 106 then gn_X9_roomsToWalkTo else gn_X9_stay))) else (bif Nat.blt k 111 then (bif Nat.blt k 109 then (bif Nat.blt k 108 then gn_X9_openRooms else gn_X9_isOpen) else (bif Nat.blt k 110 then gn_X9_reach else gn_X9_far)) else (bif Nat.blt k 113 then (bif Nat.blt k 112 then gn_X9_halls else gn_X9_hinges) else (bif Nat.blt k 114 then gn_X9_cuts else (bif Nat.blt k 115 then gn_X9_lines else gn_X9_fire))))) else (bif Nat.blt k 124 then (bif Nat.blt k 120 then (bif Nat.blt k 118 then (bif Nat.blt k 117 then gn_X9_queue else gn_X9_longest) else (bif Nat.blt k 119 then gn_X9_as else gn_X9_been)) else (bif Nat.blt k 122 then (bif Nat.blt k 121 then gn_X9_alike else gn_X9_mostKeptAlike) else (bif Nat.blt k 123 then gn_X9_roomsKeeping else gn_X9_widows))) else (bif Nat.blt k 128 then (bif Nat.blt k 126 then (bif Nat.blt k 125 then gn_X9_see else gn_X9_which) else (bif Nat.blt k 127 then gn_X9_ask else gn_X9_chance)) else (bif Nat.blt k 130 then (bif Nat.blt k 129 then gn_X9_rests else gn_X9_isPrize) else (bif Nat.blt k 131 then gn_X9_isAtRest else (bif Nat.blt k 132 then gn_X9_prize else gn_X9_evenings)))))))) else (bif Nat.blt k 200 then (bif Nat.blt k 166 then (bif Nat.blt k 149 then (bif Nat.blt k 141 then (bif Nat.blt k 137 then (bif Nat.blt k 135 then (bif Nat.blt k 134 then gn_X9_followDraws else gn_X9_mark) else (bif Nat.blt k 136 then gn_X9_count else gn_X9_bit)) else (bif Nat.blt k 139 then (bif Nat.blt k 138 then gn_X9_numberIn else gn_X10_init) else (bif Nat.blt k 140 then gn_X10_thrown else gn_X10_within))) else (bif Nat.blt k 145 then (bif Nat.blt k 143 then (bif Nat.blt k 142 then gn_X10_between else gn_X10_bits) else (bif Nat.blt k 144 then gn_X10_feed else gn_X10_signAt)) else (bif Nat.blt k 147 then (bif Nat.blt k 146 then gn_X10_nextToken else gn_X10_isWord) else (bif Nat.blt k 148 then gn_X10_isSign else gn_X10_fails)))) else (bif Nat.blt k 157 then (bif Nat.blt k 153 then (bif Nat.blt k 151 then (bif Nat.blt k 150 then gn_X10_puts else gn_X10_fact) else (bif Nat.blt k 152 then gn_X10_reads else gn_X10_opens)) else (bif Nat.blt k 155 then (bif Nat.blt k 154 then gn_X10_sums else gn_X10_tests) else (bif Nat.blt k 156 then gn_X10_worked else gn_X10_isKept))) else (bif Nat.blt k 161 then (bif Nat.blt k 159 then (bif Nat.blt k 158 then gn_X10_roomNamed else gn_X10_personNamed) else (bif Nat.blt k 160 then gn_X10_needsBoth else gn_X10_closes)) else (bif Nat.blt k 163 then (bif Nat.blt k 162 then gn_X10_needsNew else gn_X10_needsRoom) else (bif Nat.blt k 164 then gn_X10_readsRoom else (bif Nat.blt k 165 then gn_X10_readsDoor else gn_X10_readsPerson)))))) else (bif Nat.blt k 183 then (bif Nat.blt k 174 then (bif Nat.blt k 170 then (bif Nat.blt k 168 then (bif Nat.blt k 167 then gn_X10_readsStays else gn_X10_begins) else (bif Nat.blt k 169 then gn_X10_readsAll else gn_X10_shifts)) else (bif Nat.blt k 172 then (bif Nat.blt k 171 then gn_X10_shiftsNames else gn_X10_lays) else (bif Nat.blt k 173 then gn_X10_copies else gn_X10_readsLine))) else (bif Nat.blt k 178 then (bif Nat.blt k 176 then (bif Nat.blt k 175 then gn_X10_laysLines else gn_X10_laysSeen) else (bif Nat.blt k 177 then gn_X10_fresh0 else gn_X10_marches)) else (bif Nat.blt k 180 then (bif Nat.blt k 179 then gn_X10_evening else gn_X10_isRoom) else (bif Nat.blt k 181 then gn_X10_isPerson else (bif Nat.blt k 182 then gn_X10_isUnsaid else gn_X10_unsaids))))) else (bif Nat.blt k 191 then (bif Nat.blt k 187 then (bif Nat.blt k 185 then (bif Nat.blt k 184 then gn_X10_open else gn_X10_isOpen) else (bif Nat.blt k 186 then gn_X10_isInside else gn_X10_hostOf)) else (bif Nat.blt k 189 then (bif Nat.blt k 188 then gn_X10_insiders else gn_X10_whoIn) else (bif Nat.blt k 190 then gn_X10_stayOf else gn_X10_isFit))) else (bif Nat.blt k 195 then (bif Nat.blt k 193 then (bif Nat.blt k 192 then gn_X10_canShow else gn_X10_shows) else (bif Nat.blt k 194 then gn_X10_goesOf else gn_X10_canSpeak)) else (bif Nat.blt k 197 then (bif Nat.blt k 196 then gn_X10_speaks else gn_X10_burntBy) else (bif Nat.blt k 198 then gn_X10_spreads else (bif Nat.blt k 199 then gn_X10_canBurn else gn_X10_firstOf))))))) else (bif Nat.blt k 233 then (bif Nat.blt k 216 then (bif Nat.blt k 208 then (bif Nat.blt k 204 then (bif Nat.blt k 202 then (bif Nat.blt k 201 then gn_X10_passes else gn_X10_room) else (bif Nat.blt k 203 then gn_X10_person else gn_X10_keeps)) else (bif Nat.blt k 206 then (bif Nat.blt k 205 then gn_X10_walk else gn_X10_show) else (bif Nat.blt k 207 then gn_X10_speak else gn_X10_burn))) else (bif Nat.blt k 212 then (bif Nat.blt k 210 then (bif Nat.blt k 209 then gn_X10_minute else gn_X10_undo) else (bif Nat.blt k 211 then gn_X10_allBeen else gn_X10_isDone)) else (bif Nat.blt k 214 then (bif Nat.blt k 213 then gn_X10_judged else gn_X10_host) else (bif Nat.blt k 215 then gn_X10_freesOf else gn_X10_frees)))) else (bif Nat.blt k 224 then (bif Nat.blt k 220 then (bif Nat.blt k 218 then (bif Nat.blt k 217 then gn_X10_later else gn_X10_out) else (bif Nat.blt k 219 then gn_X10_calm else gn_X10_mayOf)) else (bif Nat.blt k 222 then (bif Nat.blt k 221 then gn_X10_may else gn_X10_goes) else (bif Nat.blt k 223 then gn_X10_stay else gn_X10_widows))) else (bif Nat.blt k 228 then (bif Nat.blt k 226 then (bif Nat.blt k 225 then gn_X10_reach else gn_X10_far) else (bif Nat.blt k 227 then gn_X10_pieces else gn_X10_halls)) else (bif Nat.blt k 230 then (bif Nat.blt k 229 then gn_X10_hinges else gn_X10_unsaidBy) else (bif Nat.blt k 231 then gn_X10_lines else (bif Nat.blt k 232 then gn_X10_fire else gn_X10_queues)))))) else (bif Nat.blt k 250 then (bif Nat.blt k 241 then (bif Nat.blt k 237 then (bif Nat.blt k 235 then (bif Nat.blt k 234 then gn_X10_queue else gn_X10_longest) else (bif Nat.blt k 236 then gn_X10_as else gn_X10_been)) else (bif Nat.blt k 239 then (bif Nat.blt k 238 then gn_X10_alike else gn_X10_laysStays) else (bif Nat.blt k 240 then gn_X10_see else gn_X10_isAsSeen))) else (bif Nat.blt k 245 then (bif Nat.blt k 243 then (bif Nat.blt k 242 then gn_X10_which else gn_X10_ask) else (bif Nat.blt k 244 then gn_X10_chance else gn_X10_getsBy)) else (bif Nat.blt k 247 then (bif Nat.blt k 246 then gn_X10_rests else gn_X10_draws) else (bif Nat.blt k 248 then gn_X10_livesMinute else (bif Nat.blt k 249 then gn_X10_evenings else gn_X10_mark))))) else (bif Nat.blt k 258 then (bif Nat.blt k 254 then (bif Nat.blt k 252 then (bif Nat.blt k 251 then gn_X10_count else gn_J6_lowestOneBit_0f7a4) else (bif Nat.blt k 253 then gn_J6_numberOfTrailingZeros_0f7a4 else gn_J6_bitCount_0f7a4)) else (bif Nat.blt k 256 then (bif Nat.blt k 255 then gn_J0_length_8abf5 else gn_J0_charAt_5068e) else (bif Nat.blt k 257 then gn_J0_indexOf_0f7a4 else gn_J0_indexOf_7cf53))) else (bif Nat.blt k 262 then (bif Nat.blt k 260 then (bif Nat.blt k 259 then gn_J0_coder_7d493 else gn_J0_isLatin1_aae02) else (bif Nat.blt k 261 then gn_J0_checkIndex_df160 else gn_J1_charAt_3b067)) else (bif Nat.blt k 264 then (bif Nat.blt k 263 then gn_J1_canEncode_9a6ad else gn_J1_indexOf_4cfef) else (bif Nat.blt k 265 then gn_J1_indexOfChar_4cfef else (bif Nat.blt k 266 then gn_J7_fill_53178 else gn_J3_checkIndex_8e157))))))))) else (([], fun _ => ([], 0), 0, 0, 30), objectInit, ⟨#[]⟩, none)
def ur_G : Nat → ur_P := fun k => (ur_GN k).1
def ur_N : Nat → ur_NI := fun k => (ur_GN k).2
end
section
/-! THE WORLD OF A MEMORY: cell a of the pure machine lies at b0 + a; old cells lie where ad says -/
def ur_kds : List (List Nat) := [[2], [3, 3, 3, 3, 3, 3, 3, 3, 1, 0, 0, 0, 0], [3, 3, 0, 0], [3, 3, 3, 0, 0], [3, 3, 3, 1], [3, 3, 3, 3, 3, 0, 0, 0, 0], [3, 3, 3, 0], [3, 3, 0, 0], [3, 0, 0, 0, 0, 2, 0, 0], [3, 3, 3, 3, 3, 3, 3, 3, 3, 0, 0, 3, 3, 3, 3], [0, 0, 3, 0, 0, 0, 0, 2, 0, 0, 3, 3, 3, 3, 3, 3, 3, 3, 3, 3, 3, 0, 3, 3, 3, 3, 3, 3, 3, 3, 3, 3, 3, 3, 0, 2, 3, 3, 3, 3, 3, 3, 3, 3, 3, 3, 3, 3, 3, 3, 0, 3, 3, 0, 3, 3, 2]]
def ur_kd (ci k : Nat) : Nat := (ur_kds.getD ci []).getD k 0
def ur_nf (ci : Nat) : Nat := (ur_kds.getD ci []).length
def ur_cv (b0 : Nat) (ad : Nat → Value) (v : Value) : Value := match v with
  | .ref b => if b < ur_base then .ref (b0 + b) else ad (b - ur_base)
  | v => v
def ur_fv (b0 : Nat) (m : ur_M) (a k kind : Nat) : Value := match kind with
  | 2 => .long (m.2.2.1 a k)
  | 3 => va_rf ((m.2.2.2 a k).map (fun b => b0 + b))
  | _ => .int (m.2.1 a k)
def ur_fs (b0 : Nat) (m : ur_M) (a ci : Nat) : List Value := (List.range (ur_nf ci)).map (fun k => ur_fv b0 m a k (ur_kd ci k))
def ur_ar (b0 : Nat) (m : ur_M) (a t n : Nat) : vp_A := match t with
  | 1 => (n, .inr (.inl (m.2.2.1 a)))
  | 4 => (n, .inr (.inr (.inr (.inr (fun j => (m.2.2.2 a j).map (fun b => b0 + b))))))
  | 5 => (n, .inr (.inr (.inr (.inr (fun j => (m.2.2.2 a j).map (fun b => b0 + b))))))
  | _ => (n, .inl (m.2.1 a))
def ur_ce (b0 : Nat) (cas : Nat → ClassId) (m : ur_M) (a : Nat) : va_E := match m.1[a]? with
  | some (.inl ci) => .inr (ci, ur_fs b0 m a ci)
  | some (.inr (t, n)) => .inl (cas t, ur_ar b0 m a t n)
  | none => .inr (0, [])
def ur_ws (b0 : Nat) (cas : Nat → ClassId) (m : ur_M) : va_W := (List.range m.1.length).map (fun a => (b0 + a, ur_ce b0 cas m a))
def ur_tys (cas : Nat → ClassId) : List (ClassId × FieldType) := [(cas 0, .int), (cas 1, .long), (cas 2, .boolean), (cas 3, .char), (cas 4, .object "UnsaidRoom$Night"), (cas 5, .object "UnsaidRoom$Mark")]
def ur_sl : List (Nat ⊕ (Nat × Nat)) → Nat
  | [] => 0
  | .inl ci :: r => ur_nf ci + ur_sl r
  | .inr (_, n) :: r => n + ur_sl r
theorem ur_sl_app (a b : List (Nat ⊕ (Nat × Nat))) : ur_sl (a ++ b) = ur_sl a + ur_sl b := by
  induction a with
  | nil => simp [ur_sl]
  | cons x r ih => cases x with
    | inl c => simp [ur_sl, ih]; omega
    | inr q => obtain ⟨t, n⟩ := q; simp [ur_sl, ih]; omega
section URW
variable {b0 : Nat} {cas : Nat → ClassId} {m m' : ur_M} {a ci t n k : Nat}
theorem ur_lt {z : Nat ⊕ (Nat × Nat)} (h : m.1[a]? = some z) : a < m.1.length := (List.getElem?_eq_some_iff.mp h).1
theorem ur_ws_at (h : a < m.1.length) : (ur_ws b0 cas m)[a]? = some (b0 + a, ur_ce b0 cas m a) := by
  simp [ur_ws, h]
theorem ur_ws_O (h : m.1[a]? = some (.inl ci)) : (ur_ws b0 cas m)[a]? = some (b0 + a, .inr (ci, ur_fs b0 m a ci)) := by
  rw [ur_ws_at (ur_lt h)]; simp [ur_ce, h]
theorem ur_ws_A (h : m.1[a]? = some (.inr (t, n))) : (ur_ws b0 cas m)[a]? = some (b0 + a, .inl (cas t, ur_ar b0 m a t n)) := by
  rw [ur_ws_at (ur_lt h)]; simp [ur_ce, h]
theorem ur_ws_set (h1 : m'.1 = m.1) (h2 : ∀ b, b ≠ a → ur_ce b0 cas m' b = ur_ce b0 cas m b) : (ur_ws b0 cas m).set a (b0 + a, ur_ce b0 cas m' a) = ur_ws b0 cas m' := by
  apply List.ext_getElem?
  intro j
  by_cases hj : j = a
  · subst hj
    rw [List.getElem?_set]
    by_cases hl : j < m.1.length
    · rw [if_pos rfl, if_pos (by simp [ur_ws, hl]), ur_ws_at (by rw [h1]; exact hl)]
    · rw [if_pos rfl, if_neg (by simp [ur_ws, hl])]
      simp [ur_ws, h1, hl]
  · rw [List.getElem?_set_ne (fun q => hj q.symm)]
    by_cases hl : j < m.1.length
    · rw [ur_ws_at hl, ur_ws_at (by rw [h1]; exact hl), h2 j hj]
    · simp [ur_ws, h1, hl]
theorem ur_ws_push {x : Nat ⊕ (Nat × Nat)} (h1 : m'.1 = m.1 ++ [x]) (h2 : ∀ b, b < m.1.length → ur_ce b0 cas m' b = ur_ce b0 cas m b) : ur_ws b0 cas m' = ur_ws b0 cas m ++ [(b0 + m.1.length, ur_ce b0 cas m' m.1.length)] := by
  simp only [ur_ws, h1, List.length_append, List.length_singleton, List.range_succ, List.map_append, List.map_cons, List.map_nil]
  congr 1
  apply List.map_congr_left
  intro b hb
  rw [h2 b (List.mem_range.mp hb)]
theorem ur_map_set {α : Type} {f f' : Nat → α} {N : Nat} (h : ∀ j, j ≠ k → f' j = f j) : ((List.range N).map f).set k (f' k) = (List.range N).map f' := by
  apply List.ext_getElem?
  intro j
  by_cases hj : j = k
  · subst hj
    rw [List.getElem?_set]
    by_cases hl : j < N
    · simp [hl]
    · simp [hl]
  · rw [List.getElem?_set_ne (fun q => hj q.symm)]
    by_cases hl : j < N
    · simp [hl, h j hj]
    · simp [hl]
theorem ur_fs_at (h : k < ur_nf ci) : (ur_fs b0 m a ci)[k]? = some (ur_fv b0 m a k (ur_kd ci k)) := by
  simp [ur_fs, h]
theorem ur_ce_O (h : m.1[a]? = some (.inl ci)) : ur_ce b0 cas m a = .inr (ci, ur_fs b0 m a ci) := by simp [ur_ce, h]
theorem ur_ce_A (h : m.1[a]? = some (.inr (t, n))) : ur_ce b0 cas m a = .inl (cas t, ur_ar b0 m a t n) := by simp [ur_ce, h]
theorem ur_fv_congr {b : Nat} (e1 : m'.2.1 b = m.2.1 b) (e2 : m'.2.2.1 b = m.2.2.1 b) (e3 : m'.2.2.2 b = m.2.2.2 b) (k kind : Nat) : ur_fv b0 m' b k kind = ur_fv b0 m b k kind := by
  unfold ur_fv; rw [e1, e2, e3]
theorem ur_ce_congr {b : Nat} (h1 : m'.1[b]? = m.1[b]?) (e1 : m'.2.1 b = m.2.1 b) (e2 : m'.2.2.1 b = m.2.2.1 b) (e3 : m'.2.2.2 b = m.2.2.2 b) : ur_ce b0 cas m' b = ur_ce b0 cas m b := by
  unfold ur_ce
  rw [h1]
  cases m.1[b]? with
  | none => rfl
  | some x => cases x with
    | inl c => simp only [ur_fs, ur_fv_congr e1 e2 e3]
    | inr q => obtain ⟨t, n⟩ := q; simp only [ur_ar, e1, e2, e3]
theorem ur_u_ne {α : Type} {f : Nat → Nat → α} {v : α} {b : Nat} (h : b ≠ a) : ur_u f a k v b = f b := by
  funext j; simp [ur_u, h]
theorem ur_u_at {α : Type} {f : Nat → Nat → α} {v : α} : ur_u f a k v a k = v := by simp [ur_u]
theorem ur_u_ot {α : Type} {f : Nat → Nat → α} {v : α} {j : Nat} (h : j ≠ k) : ur_u f a k v a j = f a j := by simp [ur_u, h]
theorem ur_row_ne {α : Type} {f : Nat → Nat → α} {g : Nat → α} {b : Nat} (h : b ≠ a) : ur_row f a g b = f b := by simp [ur_row, h]
theorem ur_row_at {α : Type} {f : Nat → Nat → α} {g : Nat → α} : ur_row f a g a = g := by simp [ur_row]
/-- a field is written: the world -/
theorem ur_ws_put {v : Value} (ho : m.1[a]? = some (.inl ci)) (h1 : m'.1 = m.1) (e1 : ∀ b, b ≠ a → m'.2.1 b = m.2.1 b ∧ m'.2.2.1 b = m.2.2.1 b ∧ m'.2.2.2 b = m.2.2.2 b) (ek : ur_fv b0 m' a k (ur_kd ci k) = v) (ej : ∀ j, j ≠ k → ur_fv b0 m' a j (ur_kd ci j) = ur_fv b0 m a j (ur_kd ci j)) : (ur_ws b0 cas m).set a (b0 + a, .inr (ci, (ur_fs b0 m a ci).set k v)) = ur_ws b0 cas m' := by
  rw [← ur_ws_set (a := a) h1 (fun b hb => ur_ce_congr (by rw [h1]) (e1 b hb).1 (e1 b hb).2.1 (e1 b hb).2.2), ur_ce_O (by rw [h1]; exact ho)]
  congr 4
  rw [← ek]
  exact ur_map_set ej
theorem ur_D {A : Nat → Prop} (hA : ∀ b, b < m.1.length → A (b0 + b)) : va_D A (ur_ws b0 cas m) := by
  refine ⟨fun i j p q hi hj e => ?_, fun k q hk => ?_⟩
  · have li : i < m.1.length := by have := (List.getElem?_eq_some_iff.mp hi).1; simpa [ur_ws] using this
    have lj : j < m.1.length := by have := (List.getElem?_eq_some_iff.mp hj).1; simpa [ur_ws] using this
    rw [ur_ws_at li] at hi
    rw [ur_ws_at lj] at hj
    cases hi; cases hj
    simp at e; exact e
  · have lk : k < m.1.length := by have := (List.getElem?_eq_some_iff.mp hk).1; simpa [ur_ws] using this
    rw [ur_ws_at lk] at hk
    cases hk
    exact hA k lk
end URW
-- locals
def ur_asc (b0 : Nat) (ad : Nat → Value) (ls : List (Option Value)) : List (Nat × Value) := (List.range ls.length).filterMap (fun i => match ls[i]? with
  | some (some v) => some (i, ur_cv b0 ad v)
  | _ => none)
def ur_has (lsr : Array Slot) (b0 : Nat) (ad : Nat → Value) (ls : List (Option Value)) : Prop := lv_has lsr ls.length (ur_asc b0 ad ls)
def ur_ado (ad : Nat → Value) : Prop := ∀ j, ad j = .null ∨ ∃ q, ad j = .ref q
section URL
variable {b0 : Nat} {ad : Nat → Value} {ls : List (Option Value)} {lsr : Array Slot}
theorem ur_asc_mem {q : Nat × Value} : q ∈ ur_asc b0 ad ls ↔ ∃ v, ls[q.1]? = some (some v) ∧ q.2 = ur_cv b0 ad v := by
  unfold ur_asc
  rw [List.mem_filterMap]
  constructor
  · rintro ⟨i, -, h⟩
    split at h
    next v hv =>
      cases h
      exact ⟨v, hv, rfl⟩
    next => cases h
  · rintro ⟨v, h1, h2⟩
    refine ⟨q.1, List.mem_range.mpr (List.getElem?_eq_some_iff.mp h1).1, ?_⟩
    rw [h1]
    show some (q.1, ur_cv b0 ad v) = some q
    rw [← h2]
theorem ur_ld_some {j : Nat} {v : Value} (h : ur_ld ls j = some v) : ls[j]? = some (some v) := by
  unfold ur_ld at h
  split at h
  next o ho => rw [ho, h]
  next => cases h
theorem ur_has_at {j : Nat} {v : Value} (hl : ur_has lsr b0 ad ls) (h : ur_ld ls j = some v) : lsr[j]? = some (.val (ur_cv b0 ad v)) := hl.2.2 (j, ur_cv b0 ad v) (ur_asc_mem.mpr ⟨v, ur_ld_some h, rfl⟩)
theorem ur_cv_cat (had : ur_ado ad) (v : Value) : (ur_cv b0 ad v).category = v.category := by
  cases v with
  | ref b =>
    simp only [ur_cv]
    split
    · rfl
    · rcases had (b - ur_base) with h | ⟨q, h⟩ <;> rw [h] <;> rfl
  | _ => rfl
theorem ur_clr_len (j : Nat) : (ur_clr ls j).length = ls.length := by
  unfold ur_clr
  split
  · rfl
  · split
    · rename_i v _
      cases v.category == 2 <;> simp
    · rfl
theorem ur_clr_at {j i : Nat} {w : Value} (h : (ur_clr ls j)[i]? = some (some w)) : ls[i]? = some (some w) ∧ ¬ (i + 1 = j ∧ w.category = 2) := by
  cases j with
  | zero => exact ⟨h, fun q => by omega⟩
  | succ j =>
    simp only [ur_clr] at h
    split at h
    next v hv =>
      cases hc : v.category == 2 with
      | true =>
        rw [hc] at h
        simp only [cond_true] at h
        by_cases hi : i = j
        · subst hi
          rw [List.getElem?_set] at h
          split at h <;> simp_all
        · rw [List.getElem?_set_ne (fun q => hi q.symm)] at h
          exact ⟨h, fun q => by omega⟩
      | false =>
        rw [hc] at h
        simp only [cond_false] at h
        refine ⟨h, fun q => ?_⟩
        have : i = j := by omega
        subst this
        rw [hv] at h
        cases h
        simp [q.2] at hc
    next hn =>
      refine ⟨h, fun q => ?_⟩
      have : i = j := by omega
      subst this
      exact hn w h
theorem ur_has_st1 {ls' : Array Slot} {i : Nat} {v : Value} (had : ur_ado ad) (hl : lv_has ls' ls.length ((i, ur_cv b0 ad v) :: (ur_asc b0 ad ls).filter (fun q => !(q.1 == i) && !(q.1 + 1 == i && q.2.category == 2)))) : ur_has ls' b0 ad (ur_st1 ls i v) := by
  refine ⟨by rw [hl.1]; simp [ur_st1, ur_clr_len], hl.2.1, fun q hq => ?_⟩
  obtain ⟨w, h1, h2⟩ := ur_asc_mem.mp hq
  refine hl.2.2 q ?_
  by_cases hi : q.1 = i
  · unfold ur_st1 at h1
    rw [hi, List.getElem?_set] at h1
    split at h1
    · split at h1
      · cases h1
        exact List.mem_cons.mpr (Or.inl (Prod.ext hi h2))
      · cases h1
    · rename_i hne; exact absurd rfl hne
  · unfold ur_st1 at h1
    rw [List.getElem?_set_ne (fun z => hi z.symm)] at h1
    obtain ⟨h3, h4⟩ := ur_clr_at h1
    refine List.mem_cons.mpr (Or.inr (List.mem_filter.mpr ⟨ur_asc_mem.mpr ⟨w, h3, h2⟩, ?_⟩))
    rw [h2, ur_cv_cat had]
    by_cases h5 : q.1 + 1 = i
    · have : ¬ w.category = 2 := fun z => h4 ⟨h5, z⟩
      simp [hi, h5, this]
    · simp [hi, h5]
theorem ur_has_st2 {ls' : Array Slot} {i : Nat} {v : Value} (had : ur_ado ad) (hl : lv_has ls' ls.length ((i, ur_cv b0 ad v) :: (ur_asc b0 ad ls).filter (fun q => !(q.1 == i) && (!(q.1 == i + 1) && !(q.1 + 1 == i && q.2.category == 2))))) : ur_has ls' b0 ad (ur_st2 ls i v) := by
  refine ⟨by rw [hl.1]; simp [ur_st2, ur_clr_len], hl.2.1, fun q hq => ?_⟩
  obtain ⟨w, h1, h2⟩ := ur_asc_mem.mp hq
  refine hl.2.2 q ?_
  have hi1 : ¬ q.1 = i + 1 := by
    intro hi
    unfold ur_st2 at h1
    rw [hi, List.getElem?_set] at h1
    split at h1
    · split at h1 <;> cases h1
    · rename_i hne; exact absurd rfl hne
  unfold ur_st2 at h1
  rw [List.getElem?_set_ne (fun z => hi1 z.symm)] at h1
  by_cases hi : q.1 = i
  · rw [hi, List.getElem?_set] at h1
    split at h1
    · split at h1
      · cases h1
        exact List.mem_cons.mpr (Or.inl (Prod.ext hi h2))
      · cases h1
    · rename_i hne; exact absurd rfl hne
  · rw [List.getElem?_set_ne (fun z => hi z.symm)] at h1
    obtain ⟨h3, h4⟩ := ur_clr_at h1
    refine List.mem_cons.mpr (Or.inr (List.mem_filter.mpr ⟨ur_asc_mem.mpr ⟨w, h3, h2⟩, ?_⟩))
    rw [h2, ur_cv_cat had]
    by_cases h5 : q.1 + 1 = i
    · have : ¬ w.category = 2 := fun z => h4 ⟨h5, z⟩
      simp [hi, hi1, h5, this]
    · simp [hi, hi1, h5]
end URL
end
section
/-! ONE STEP OF THE PURE MACHINE IS A STEP OF THE MACHINE: instructions that touch no cell -/
def ur_T : List Cond := lw_tbl.filter goodWord
def ur_Wg (p : Program) (l : Launch) (e : Env) (R : Room) (s : State) (mid : MethodId) (args : Array Value) (below : List Frame) (meth : Method) (c : Code) (D : va_G) (cas : Nat → ClassId) (b0 : Nat) (ad : Nat → Value) (A : Nat → Prop) (nL L0 S0 : Nat) (Q : State → Prop) (x : ur_S) : Prop :=
  ∀ (lsr : Array Slot) (H : Heap) (locs : List Loc) (cells slots : Nat), ur_has lsr b0 ad x.2.1 → x.2.1.length = nL → va_P D vwCl (ur_ws b0 cas x.2.2.2) H → va_D A (ur_ws b0 cas x.2.2.2) → va_S A s.heap H locs → x.2.2.2.1.length ≤ 1000 → cells + L0 = x.2.2.2.1.length → slots + S0 = ur_sl x.2.2.2.1 → W p l e R s mid args below meth c H locs cells slots Q (F0 mid x.1 lsr (x.2.2.1.map (ur_cv b0 ad)))
section URS
variable {p : Program} {l : Launch} {e : Env} {R : Room} {s : State} {mid : MethodId} {args : Array Value} {below : List Frame} {meth : Method} {c : Code} {D : va_G} {cas : Nat → ClassId} {b0 : Nat} {ad : Nat → Value} {A : Nat → Prop} {nL L0 S0 : Nat} {Q : State → Prop}
variable {cc : ByteArray} {own : String} {pc pc' n x : Nat} {v : Int32} {ls ls' : List (Option Value)} {st st' : List Value} {m m' : ur_M} {self : ur_S → Option ur_V} {call : Nat → List Value → ur_M → Option ur_V} {res : ur_V}
theorem ur_s_nx (row : ∀ (lsr : Array Slot) (H : Heap) (locs : List Loc) (cells slots : Nat), ur_has lsr b0 ad ls → va_P D vwCl (ur_ws b0 cas m) H → va_S A s.heap H locs → W p l e R s mid args below meth c H locs cells slots Q (F0 mid pc' lsr (st'.map (ur_cv b0 ad))) → W p l e R s mid args below meth c H locs cells slots Q (F0 mid pc lsr (st.map (ur_cv b0 ad)))) (hs : ur_Wg p l e R s mid args below meth c D cas b0 ad A nL L0 S0 Q ((pc', ls, st', m))) : ur_Wg p l e R s mid args below meth c D cas b0 ad A nL L0 S0 Q ((pc, ls, st, m)) :=
  fun lsr H locs cells slots hl h0 hP hD hS h1 h2 h3 => row lsr H locs cells slots hl hP hS (hs lsr H locs cells slots hl h0 hP hD hS h1 h2 h3)
theorem ur_s_st (hlen : ls'.length = ls.length) (row : ∀ (lsr : Array Slot) (H : Heap) (locs : List Loc) (cells slots : Nat), ur_has lsr b0 ad ls → (∀ lsr' : Array Slot, ur_has lsr' b0 ad ls' → W p l e R s mid args below meth c H locs cells slots Q (F0 mid pc' lsr' (st'.map (ur_cv b0 ad)))) → W p l e R s mid args below meth c H locs cells slots Q (F0 mid pc lsr (st.map (ur_cv b0 ad)))) (hs : ur_Wg p l e R s mid args below meth c D cas b0 ad A nL L0 S0 Q ((pc', ls', st', m))) : ur_Wg p l e R s mid args below meth c D cas b0 ad A nL L0 S0 Q ((pc, ls, st, m)) :=
  fun lsr H locs cells slots hl h0 hP hD hS h1 h2 h3 => row lsr H locs cells slots hl (fun lsr' hl' => hs lsr' H locs cells slots hl' (hlen.trans h0) hP hD hS h1 h2 h3)
theorem ur_s_wr (hsh : m'.1 = m.1) (row : ∀ (lsr : Array Slot) (H : Heap) (locs : List Loc) (cells slots : Nat), ur_has lsr b0 ad ls → va_P D vwCl (ur_ws b0 cas m) H → va_D A (ur_ws b0 cas m) → va_S A s.heap H locs → m.1.length ≤ 1000 → (∀ (H1 : Heap) (locs1 : List Loc), va_P D vwCl (ur_ws b0 cas m') H1 → va_D A (ur_ws b0 cas m') → va_S A s.heap H1 locs1 → W p l e R s mid args below meth c H1 locs1 cells slots Q (F0 mid pc' lsr (st'.map (ur_cv b0 ad)))) → W p l e R s mid args below meth c H locs cells slots Q (F0 mid pc lsr (st.map (ur_cv b0 ad)))) (hs : ur_Wg p l e R s mid args below meth c D cas b0 ad A nL L0 S0 Q ((pc', ls, st', m'))) : ur_Wg p l e R s mid args below meth c D cas b0 ad A nL L0 S0 Q ((pc, ls, st, m)) :=
  fun lsr H locs cells slots hl h0 hP hD hS h1 h2 h3 => row lsr H locs cells slots hl hP hD hS h1 (fun H1 locs1 hP1 hD1 hS1 => hs lsr H1 locs1 cells slots hl h0 hP1 hD1 hS1 (by show m'.1.length ≤ 1000; rw [hsh]; exact h1) (by show _ = m'.1.length; rw [hsh]; exact h2) (by show _ = ur_sl m'.1; rw [hsh]; exact h3))
-- constants
theorem ur_i_iconst (hx : p.tables.exec = Jvm.exec) (hb : c.code = cc) {k : Int} (hdg : decode cc pc = .ok (.iconst k, 1)) (hv : Int32.ofInt k = v) (hs : ur_Wg p l e R s mid args below meth c D cas b0 ad A nL L0 S0 Q ((pc + 1, ls, .int v :: st, m))) : ur_Wg p l e R s mid args below meth c D cas b0 ad A nL L0 S0 Q ((pc, ls, st, m)) :=
  ur_s_nx (fun lsr H locs cells slots _ _ _ k => lv_iconst hx hb hdg hv k) hs
theorem ur_i_bipush (hx : p.tables.exec = Jvm.exec) (hb : c.code = cc) {k : Int} (hdg : decode cc pc = .ok (.bipush k, 2)) (hv : (Int8.ofInt k).toInt32 = v) (hs : ur_Wg p l e R s mid args below meth c D cas b0 ad A nL L0 S0 Q ((pc + 2, ls, .int v :: st, m))) : ur_Wg p l e R s mid args below meth c D cas b0 ad A nL L0 S0 Q ((pc, ls, st, m)) :=
  ur_s_nx (fun lsr H locs cells slots _ _ _ k => lv_bipush hx hb hdg hv k) hs
theorem ur_i_sipush (hx : p.tables.exec = Jvm.exec) (hb : c.code = cc) {k : Int} (hdg : decode cc pc = .ok (.sipush k, 3)) (hv : (Int16.ofInt k).toInt32 = v) (hs : ur_Wg p l e R s mid args below meth c D cas b0 ad A nL L0 S0 Q ((pc + 3, ls, .int v :: st, m))) : ur_Wg p l e R s mid args below meth c D cas b0 ad A nL L0 S0 Q ((pc, ls, st, m)) :=
  ur_s_nx (fun lsr H locs cells slots _ _ _ k => lv_sipush hx hb hdg hv k) hs
theorem ur_i_lconst (hx : p.tables.exec = Jvm.exec) (hb : c.code = cc) {k : Fin 2} {v : Int64} (hdg : decode cc pc = .ok (.lconst k, 1)) (hv : Int64.ofNat (k : Nat) = v) (hs : ur_Wg p l e R s mid args below meth c D cas b0 ad A nL L0 S0 Q ((pc + 1, ls, .long v :: st, m))) : ur_Wg p l e R s mid args below meth c D cas b0 ad A nL L0 S0 Q ((pc, ls, st, m)) :=
  ur_s_nx (fun lsr H locs cells slots _ _ _ k => lv_lconst hx hb hdg hv k) hs
theorem ur_i_ldc (hx : p.tables.exec = Jvm.exec) (hb : c.code = cc) {k : Nat} (hown : s.vm.findClass own = some mid.cls) (hc : (Jvm.Cond.constant own k v).before args s = true) (hdg : decode cc pc = .ok (.ldc k, 2)) (hs : ur_Wg p l e R s mid args below meth c D cas b0 ad A nL L0 S0 Q ((pc + 2, ls, .int v :: st, m))) : ur_Wg p l e R s mid args below meth c D cas b0 ad A nL L0 S0 Q ((pc, ls, st, m)) :=
  ur_s_nx (fun lsr H locs cells slots _ _ _ k => lv_ldc hx hb hown hc hdg k) hs
theorem ur_i_ldc_w (hx : p.tables.exec = Jvm.exec) (hb : c.code = cc) {k : Nat} (hown : s.vm.findClass own = some mid.cls) (hc : (Jvm.Cond.constant own k v).before args s = true) (hdg : decode cc pc = .ok (.ldc_w k, 3)) (hs : ur_Wg p l e R s mid args below meth c D cas b0 ad A nL L0 S0 Q ((pc + 3, ls, .int v :: st, m))) : ur_Wg p l e R s mid args below meth c D cas b0 ad A nL L0 S0 Q ((pc, ls, st, m)) :=
  ur_s_nx (fun lsr H locs cells slots _ _ _ k => lv_ldcw hx hb hown hc hdg k) hs
theorem ur_i_ldc2 (hx : p.tables.exec = Jvm.exec) (hb : c.code = cc) {k : Nat} {v : Int64} (hown : s.vm.findClass own = some mid.cls) (hc : (Jvm.Cond.constantLong own k v).before args s = true) (hdg : decode cc pc = .ok (.ldc2_w k, 3)) (hs : ur_Wg p l e R s mid args below meth c D cas b0 ad A nL L0 S0 Q ((pc + 3, ls, .long v :: st, m))) : ur_Wg p l e R s mid args below meth c D cas b0 ad A nL L0 S0 Q ((pc, ls, st, m)) :=
  ur_s_nx (fun lsr H locs cells slots _ _ _ k => lv_ldc2 hx hb hown hc hdg k) hs
-- locals
theorem ur_i_iload_n (hx : p.tables.exec = Jvm.exec) (hb : c.code = cc) {k : Fin 4} {w : Int32} (hdg : decode cc pc = .ok (.iload_n k, 1)) (hw : ur_ld ls k = some (.int w)) (hs : ur_Wg p l e R s mid args below meth c D cas b0 ad A nL L0 S0 Q ((pc + 1, ls, .int w :: st, m))) : ur_Wg p l e R s mid args below meth c D cas b0 ad A nL L0 S0 Q ((pc, ls, st, m)) :=
  ur_s_nx (fun lsr H locs cells slots hl _ _ k => lv_iload_n hx hb hdg rfl (ur_has_at hl hw) k) hs
theorem ur_i_iload (hx : p.tables.exec = Jvm.exec) (hb : c.code = cc) {k : Nat} {w : Int32} (hdg : decode cc pc = .ok (.iload k, 2)) (hw : ur_ld ls k = some (.int w)) (hs : ur_Wg p l e R s mid args below meth c D cas b0 ad A nL L0 S0 Q ((pc + 2, ls, .int w :: st, m))) : ur_Wg p l e R s mid args below meth c D cas b0 ad A nL L0 S0 Q ((pc, ls, st, m)) :=
  ur_s_nx (fun lsr H locs cells slots hl _ _ k => lv_iload hx hb hdg (ur_has_at hl hw) k) hs
theorem ur_i_lload_n (hx : p.tables.exec = Jvm.exec) (hb : c.code = cc) {k : Fin 4} {w : Int64} (hdg : decode cc pc = .ok (.lload_n k, 1)) (hw : ur_ld ls k = some (.long w)) (hs : ur_Wg p l e R s mid args below meth c D cas b0 ad A nL L0 S0 Q ((pc + 1, ls, .long w :: st, m))) : ur_Wg p l e R s mid args below meth c D cas b0 ad A nL L0 S0 Q ((pc, ls, st, m)) :=
  ur_s_nx (fun lsr H locs cells slots hl _ _ k => lv_lload_n hx hb hdg rfl (ur_has_at hl hw) k) hs
theorem ur_i_lload (hx : p.tables.exec = Jvm.exec) (hb : c.code = cc) {k : Nat} {w : Int64} (hdg : decode cc pc = .ok (.lload k, 2)) (hw : ur_ld ls k = some (.long w)) (hs : ur_Wg p l e R s mid args below meth c D cas b0 ad A nL L0 S0 Q ((pc + 2, ls, .long w :: st, m))) : ur_Wg p l e R s mid args below meth c D cas b0 ad A nL L0 S0 Q ((pc, ls, st, m)) :=
  ur_s_nx (fun lsr H locs cells slots hl _ _ k => lv_lload hx hb hdg (ur_has_at hl hw) k) hs
theorem ur_cv_ref (had : ur_ado ad) (w : Nat) : ur_cv b0 ad (.ref w) = .null ∨ ∃ q, ur_cv b0 ad (.ref w) = .ref q := by
  simp only [ur_cv]
  split
  · exact Or.inr ⟨_, rfl⟩
  · exact had _
theorem ur_i_aload_n (hx : p.tables.exec = Jvm.exec) (hb : c.code = cc) (had : ur_ado ad) {k : Fin 4} {w : Nat} (hdg : decode cc pc = .ok (.aload_n k, 1)) (hw : ur_ld ls k = some (.ref w)) (hs : ur_Wg p l e R s mid args below meth c D cas b0 ad A nL L0 S0 Q ((pc + 1, ls, .ref w :: st, m))) : ur_Wg p l e R s mid args below meth c D cas b0 ad A nL L0 S0 Q ((pc, ls, st, m)) :=
  ur_s_nx (fun lsr H locs cells slots hl _ _ k => by
    have h1 := ur_has_at hl hw
    rw [List.map_cons] at k
    rcases ur_cv_ref (b0 := b0) had w with h | ⟨q, h⟩ <;> rw [h] at h1 k
    · exact lv_aload_nN hx hb hdg rfl h1 k
    · exact lv_aload_n hx hb hdg rfl h1 k) hs
theorem ur_i_aload (hx : p.tables.exec = Jvm.exec) (hb : c.code = cc) (had : ur_ado ad) {k : Nat} {w : Nat} (hdg : decode cc pc = .ok (.aload k, 2)) (hw : ur_ld ls k = some (.ref w)) (hs : ur_Wg p l e R s mid args below meth c D cas b0 ad A nL L0 S0 Q ((pc + 2, ls, .ref w :: st, m))) : ur_Wg p l e R s mid args below meth c D cas b0 ad A nL L0 S0 Q ((pc, ls, st, m)) :=
  ur_s_nx (fun lsr H locs cells slots hl _ _ k => by
    have h1 := ur_has_at hl hw
    rw [List.map_cons] at k
    rcases ur_cv_ref (b0 := b0) had w with h | ⟨q, h⟩ <;> rw [h] at h1 k
    · exact lv_aloadN hx hb hdg h1 k
    · exact lv_aload hx hb hdg h1 k) hs
theorem ur_st1_len (j : Nat) (w : Value) : (ur_st1 ls j w).length = ls.length := by simp [ur_st1, ur_clr_len]
theorem ur_st2_len (j : Nat) (w : Value) : (ur_st2 ls j w).length = ls.length := by simp [ur_st2, ur_clr_len]
theorem ur_i_istore_n (hx : p.tables.exec = Jvm.exec) (hb : c.code = cc) (had : ur_ado ad) {k : Fin 4} {w : Int32} (hdg : decode cc pc = .ok (.istore_n k, 1)) (hk : (k : Nat) < ls.length) (hs : ur_Wg p l e R s mid args below meth c D cas b0 ad A nL L0 S0 Q ((pc + 1, ur_st1 ls k (.int w), st, m))) : ur_Wg p l e R s mid args below meth c D cas b0 ad A nL L0 S0 Q ((pc, ls, .int w :: st, m)) :=
  ur_s_st (ur_st1_len _ _) (fun lsr H locs cells slots hl kk => lv_istore_n hx hb hdg rfl hl hk rfl (fun ls' h => kk ls' (ur_has_st1 had h))) hs
theorem ur_i_istore (hx : p.tables.exec = Jvm.exec) (hb : c.code = cc) (had : ur_ado ad) {k : Nat} {w : Int32} (hdg : decode cc pc = .ok (.istore k, 2)) (hk : k < ls.length) (hs : ur_Wg p l e R s mid args below meth c D cas b0 ad A nL L0 S0 Q ((pc + 2, ur_st1 ls k (.int w), st, m))) : ur_Wg p l e R s mid args below meth c D cas b0 ad A nL L0 S0 Q ((pc, ls, .int w :: st, m)) :=
  ur_s_st (ur_st1_len _ _) (fun lsr H locs cells slots hl kk => lv_istore hx hb hdg hl hk rfl (fun ls' h => kk ls' (ur_has_st1 had h))) hs
theorem ur_i_lstore_n (hx : p.tables.exec = Jvm.exec) (hb : c.code = cc) (had : ur_ado ad) {k : Fin 4} {w : Int64} (hdg : decode cc pc = .ok (.lstore_n k, 1)) (hk : (k : Nat) + 1 < ls.length) (hs : ur_Wg p l e R s mid args below meth c D cas b0 ad A nL L0 S0 Q ((pc + 1, ur_st2 ls k (.long w), st, m))) : ur_Wg p l e R s mid args below meth c D cas b0 ad A nL L0 S0 Q ((pc, ls, .long w :: st, m)) :=
  ur_s_st (ur_st2_len _ _) (fun lsr H locs cells slots hl kk => lv_lstore_n hx hb hdg rfl hl hk rfl (fun ls' h => kk ls' (ur_has_st2 had h))) hs
theorem ur_i_lstore (hx : p.tables.exec = Jvm.exec) (hb : c.code = cc) (had : ur_ado ad) {k : Nat} {w : Int64} (hdg : decode cc pc = .ok (.lstore k, 2)) (hk : k + 1 < ls.length) (hs : ur_Wg p l e R s mid args below meth c D cas b0 ad A nL L0 S0 Q ((pc + 2, ur_st2 ls k (.long w), st, m))) : ur_Wg p l e R s mid args below meth c D cas b0 ad A nL L0 S0 Q ((pc, ls, .long w :: st, m)) :=
  ur_s_st (ur_st2_len _ _) (fun lsr H locs cells slots hl kk => lv_lstore hx hb hdg hl hk rfl (fun ls' h => kk ls' (ur_has_st2 had h))) hs
theorem ur_i_astore_n (hx : p.tables.exec = Jvm.exec) (hb : c.code = cc) (had : ur_ado ad) {k : Fin 4} {w : Nat} (hdg : decode cc pc = .ok (.astore_n k, 1)) (hk : (k : Nat) < ls.length) (hs : ur_Wg p l e R s mid args below meth c D cas b0 ad A nL L0 S0 Q ((pc + 1, ur_st1 ls k (.ref w), st, m))) : ur_Wg p l e R s mid args below meth c D cas b0 ad A nL L0 S0 Q ((pc, ls, .ref w :: st, m)) :=
  ur_s_st (ur_st1_len _ _) (fun lsr H locs cells slots hl kk => by
    rw [List.map_cons]
    have e1 : ∀ ls', lv_has ls' ls.length ((k, ur_cv b0 ad (.ref w)) :: (ur_asc b0 ad ls).filter (fun q => !(q.1 == (k : Nat)) && !(q.1 + 1 == (k : Nat) && q.2.category == 2))) → _ := fun ls' h => kk ls' (ur_has_st1 had h)
    rcases ur_cv_ref (b0 := b0) had w with h | ⟨q, h⟩ <;> rw [h] at e1 ⊢
    · exact lv_astore_nN hx hb hdg rfl hl hk rfl e1
    · exact lv_astore_n hx hb hdg rfl hl hk rfl e1) hs
theorem ur_i_astore (hx : p.tables.exec = Jvm.exec) (hb : c.code = cc) (had : ur_ado ad) {k : Nat} {w : Nat} (hdg : decode cc pc = .ok (.astore k, 2)) (hk : k < ls.length) (hs : ur_Wg p l e R s mid args below meth c D cas b0 ad A nL L0 S0 Q ((pc + 2, ur_st1 ls k (.ref w), st, m))) : ur_Wg p l e R s mid args below meth c D cas b0 ad A nL L0 S0 Q ((pc, ls, .ref w :: st, m)) :=
  ur_s_st (ur_st1_len _ _) (fun lsr H locs cells slots hl kk => by
    rw [List.map_cons]
    have e1 : ∀ ls', lv_has ls' ls.length ((k, ur_cv b0 ad (.ref w)) :: (ur_asc b0 ad ls).filter (fun q => !(q.1 == k) && !(q.1 + 1 == k && q.2.category == 2))) → _ := fun ls' h => kk ls' (ur_has_st1 had h)
    rcases ur_cv_ref (b0 := b0) had w with h | ⟨q, h⟩ <;> rw [h] at e1 ⊢
    · exact lv_astoreN hx hb hdg hl hk rfl e1
    · exact lv_astore hx hb hdg hl hk rfl e1) hs
theorem ur_i_iinc (hx : p.tables.exec = Jvm.exec) (hb : c.code = cc) (had : ur_ado ad) {j : Nat} {k : Int} {w : Int32} (hdg : decode cc pc = .ok (.iinc j k, 3)) (hw : ur_ld ls j = some (.int w)) (hv : Int32.ofInt k = v) (hk : j < ls.length) (hs : ur_Wg p l e R s mid args below meth c D cas b0 ad A nL L0 S0 Q ((pc + 3, ur_st1 ls j (.int (w + v)), st, m))) : ur_Wg p l e R s mid args below meth c D cas b0 ad A nL L0 S0 Q ((pc, ls, st, m)) :=
  ur_s_st (ur_st1_len _ _) (fun lsr H locs cells slots hl kk => by
    obtain ⟨q, hq⟩ := List.getElem?_of_mem (ur_asc_mem (b0 := b0) (ad := ad) (q := (j, .int w)) |>.mpr ⟨.int w, ur_ld_some hw, rfl⟩)
    exact lv_iinc (v := w + v) hx hb hdg hl hq (by rw [hv]) hk rfl (fun ls' h => kk ls' (ur_has_st1 (v := .int (w + v)) had h))) hs
-- arithmetic
theorem ur_i_iadd (hx : p.tables.exec = Jvm.exec) (hb : c.code = cc) (hdg : decode cc pc = .ok (.iadd, 1)) (hs : ∀ s', self s' = some res → ur_Wg p l e R s mid args below meth c D cas b0 ad A nL L0 S0 Q (s')) (h : ur_do self call (ur_bi (fun a b => a + b) pc ls st m) = some res) : ur_Wg p l e R s mid args below meth c D cas b0 ad A nL L0 S0 Q ((pc, ls, st, m)) := by
  unfold ur_bi at h
  split at h
  · exact ur_s_nx (fun lsr H locs cells slots _ _ _ k => lv_iadd hx hb hdg  k) (hs _ h)
  · cases h
theorem ur_i_isub (hx : p.tables.exec = Jvm.exec) (hb : c.code = cc) (hdg : decode cc pc = .ok (.isub, 1)) (hs : ∀ s', self s' = some res → ur_Wg p l e R s mid args below meth c D cas b0 ad A nL L0 S0 Q (s')) (h : ur_do self call (ur_bi (fun a b => a - b) pc ls st m) = some res) : ur_Wg p l e R s mid args below meth c D cas b0 ad A nL L0 S0 Q ((pc, ls, st, m)) := by
  unfold ur_bi at h
  split at h
  · exact ur_s_nx (fun lsr H locs cells slots _ _ _ k => lv_isub hx hb hdg  k) (hs _ h)
  · cases h
theorem ur_i_imul (hx : p.tables.exec = Jvm.exec) (hb : c.code = cc) (hdg : decode cc pc = .ok (.imul, 1)) (hs : ∀ s', self s' = some res → ur_Wg p l e R s mid args below meth c D cas b0 ad A nL L0 S0 Q (s')) (h : ur_do self call (ur_bi (fun a b => a * b) pc ls st m) = some res) : ur_Wg p l e R s mid args below meth c D cas b0 ad A nL L0 S0 Q ((pc, ls, st, m)) := by
  unfold ur_bi at h
  split at h
  · exact ur_s_nx (fun lsr H locs cells slots _ _ _ k => lv_imul hx hb hdg  k) (hs _ h)
  · cases h
theorem ur_i_iand (hx : p.tables.exec = Jvm.exec) (hb : c.code = cc) (hdg : decode cc pc = .ok (.iand, 1)) (hs : ∀ s', self s' = some res → ur_Wg p l e R s mid args below meth c D cas b0 ad A nL L0 S0 Q (s')) (h : ur_do self call (ur_bi (fun a b => a &&& b) pc ls st m) = some res) : ur_Wg p l e R s mid args below meth c D cas b0 ad A nL L0 S0 Q ((pc, ls, st, m)) := by
  unfold ur_bi at h
  split at h
  · exact ur_s_nx (fun lsr H locs cells slots _ _ _ k => lv_iand hx hb hdg  k) (hs _ h)
  · cases h
theorem ur_i_ior (hx : p.tables.exec = Jvm.exec) (hb : c.code = cc) (hdg : decode cc pc = .ok (.ior, 1)) (hs : ∀ s', self s' = some res → ur_Wg p l e R s mid args below meth c D cas b0 ad A nL L0 S0 Q (s')) (h : ur_do self call (ur_bi (fun a b => a ||| b) pc ls st m) = some res) : ur_Wg p l e R s mid args below meth c D cas b0 ad A nL L0 S0 Q ((pc, ls, st, m)) := by
  unfold ur_bi at h
  split at h
  · exact ur_s_nx (fun lsr H locs cells slots _ _ _ k => lv_ior hx hb hdg  k) (hs _ h)
  · cases h
theorem ur_i_ixor (hx : p.tables.exec = Jvm.exec) (hb : c.code = cc) (hdg : decode cc pc = .ok (.ixor, 1)) (hs : ∀ s', self s' = some res → ur_Wg p l e R s mid args below meth c D cas b0 ad A nL L0 S0 Q (s')) (h : ur_do self call (ur_bi (fun a b => a ^^^ b) pc ls st m) = some res) : ur_Wg p l e R s mid args below meth c D cas b0 ad A nL L0 S0 Q ((pc, ls, st, m)) := by
  unfold ur_bi at h
  split at h
  · exact ur_s_nx (fun lsr H locs cells slots _ _ _ k => lv_ixor hx hb hdg  k) (hs _ h)
  · cases h
theorem ur_i_ishl (hx : p.tables.exec = Jvm.exec) (hb : c.code = cc) (hdg : decode cc pc = .ok (.ishl, 1)) (hs : ∀ s', self s' = some res → ur_Wg p l e R s mid args below meth c D cas b0 ad A nL L0 S0 Q (s')) (h : ur_do self call (ur_bi (fun a b => a <<< (b &&& 31)) pc ls st m) = some res) : ur_Wg p l e R s mid args below meth c D cas b0 ad A nL L0 S0 Q ((pc, ls, st, m)) := by
  unfold ur_bi at h
  split at h
  · exact ur_s_nx (fun lsr H locs cells slots _ _ _ k => lv_ishl hx hb hdg  k) (hs _ h)
  · cases h
theorem ur_i_ishr (hx : p.tables.exec = Jvm.exec) (hb : c.code = cc) (hdg : decode cc pc = .ok (.ishr, 1)) (hs : ∀ s', self s' = some res → ur_Wg p l e R s mid args below meth c D cas b0 ad A nL L0 S0 Q (s')) (h : ur_do self call (ur_bi (fun a b => a >>> (b &&& 31)) pc ls st m) = some res) : ur_Wg p l e R s mid args below meth c D cas b0 ad A nL L0 S0 Q ((pc, ls, st, m)) := by
  unfold ur_bi at h
  split at h
  · exact ur_s_nx (fun lsr H locs cells slots _ _ _ k => lv_ishr hx hb hdg  k) (hs _ h)
  · cases h
theorem ur_i_iushr (hx : p.tables.exec = Jvm.exec) (hb : c.code = cc) (hdg : decode cc pc = .ok (.iushr, 1)) (hs : ∀ s', self s' = some res → ur_Wg p l e R s mid args below meth c D cas b0 ad A nL L0 S0 Q (s')) (h : ur_do self call (ur_bi (fun a b => (a.toUInt32 >>> (b.toUInt32 &&& Int32.toUInt32 31)).toInt32) pc ls st m) = some res) : ur_Wg p l e R s mid args below meth c D cas b0 ad A nL L0 S0 Q ((pc, ls, st, m)) := by
  unfold ur_bi at h
  split at h
  · exact ur_s_nx (fun lsr H locs cells slots _ _ _ k => lv_iushr hx hb hdg rfl k) (hs _ h)
  · cases h
theorem ur_i_ladd (hx : p.tables.exec = Jvm.exec) (hb : c.code = cc) (hdg : decode cc pc = .ok (.ladd, 1)) (hs : ∀ s', self s' = some res → ur_Wg p l e R s mid args below meth c D cas b0 ad A nL L0 S0 Q (s')) (h : ur_do self call (ur_bl (fun a b => a + b) pc ls st m) = some res) : ur_Wg p l e R s mid args below meth c D cas b0 ad A nL L0 S0 Q ((pc, ls, st, m)) := by
  unfold ur_bl at h
  split at h
  · exact ur_s_nx (fun lsr H locs cells slots _ _ _ k => lv_ladd hx hb hdg k) (hs _ h)
  · cases h
theorem ur_i_lsub (hx : p.tables.exec = Jvm.exec) (hb : c.code = cc) (hdg : decode cc pc = .ok (.lsub, 1)) (hs : ∀ s', self s' = some res → ur_Wg p l e R s mid args below meth c D cas b0 ad A nL L0 S0 Q (s')) (h : ur_do self call (ur_bl (fun a b => a - b) pc ls st m) = some res) : ur_Wg p l e R s mid args below meth c D cas b0 ad A nL L0 S0 Q ((pc, ls, st, m)) := by
  unfold ur_bl at h
  split at h
  · exact ur_s_nx (fun lsr H locs cells slots _ _ _ k => lv_lsub hx hb hdg k) (hs _ h)
  · cases h
theorem ur_i_lmul (hx : p.tables.exec = Jvm.exec) (hb : c.code = cc) (hdg : decode cc pc = .ok (.lmul, 1)) (hs : ∀ s', self s' = some res → ur_Wg p l e R s mid args below meth c D cas b0 ad A nL L0 S0 Q (s')) (h : ur_do self call (ur_bl (fun a b => a * b) pc ls st m) = some res) : ur_Wg p l e R s mid args below meth c D cas b0 ad A nL L0 S0 Q ((pc, ls, st, m)) := by
  unfold ur_bl at h
  split at h
  · exact ur_s_nx (fun lsr H locs cells slots _ _ _ k => lv_lmul hx hb hdg k) (hs _ h)
  · cases h
theorem ur_i_land (hx : p.tables.exec = Jvm.exec) (hb : c.code = cc) (hdg : decode cc pc = .ok (.land, 1)) (hs : ∀ s', self s' = some res → ur_Wg p l e R s mid args below meth c D cas b0 ad A nL L0 S0 Q (s')) (h : ur_do self call (ur_bl (fun a b => a &&& b) pc ls st m) = some res) : ur_Wg p l e R s mid args below meth c D cas b0 ad A nL L0 S0 Q ((pc, ls, st, m)) := by
  unfold ur_bl at h
  split at h
  · exact ur_s_nx (fun lsr H locs cells slots _ _ _ k => lv_land hx hb hdg k) (hs _ h)
  · cases h
theorem ur_i_lor (hx : p.tables.exec = Jvm.exec) (hb : c.code = cc) (hdg : decode cc pc = .ok (.lor, 1)) (hs : ∀ s', self s' = some res → ur_Wg p l e R s mid args below meth c D cas b0 ad A nL L0 S0 Q (s')) (h : ur_do self call (ur_bl (fun a b => a ||| b) pc ls st m) = some res) : ur_Wg p l e R s mid args below meth c D cas b0 ad A nL L0 S0 Q ((pc, ls, st, m)) := by
  unfold ur_bl at h
  split at h
  · exact ur_s_nx (fun lsr H locs cells slots _ _ _ k => lv_lor hx hb hdg k) (hs _ h)
  · cases h
theorem ur_i_ineg (hx : p.tables.exec = Jvm.exec) (hb : c.code = cc) (hdg : decode cc pc = .ok (.ineg, 1)) (hs : ∀ s', self s' = some res → ur_Wg p l e R s mid args below meth c D cas b0 ad A nL L0 S0 Q (s')) (h : ur_do self call (ur_i1 (fun a => .int (-a)) pc ls st m) = some res) : ur_Wg p l e R s mid args below meth c D cas b0 ad A nL L0 S0 Q ((pc, ls, st, m)) := by
  unfold ur_i1 at h
  split at h
  · exact ur_s_nx (fun lsr H locs cells slots _ _ _ k => lv_ineg hx hb hdg  k) (hs _ h)
  · cases h
theorem ur_i_i2l (hx : p.tables.exec = Jvm.exec) (hb : c.code = cc) (hdg : decode cc pc = .ok (.i2l, 1)) (hs : ∀ s', self s' = some res → ur_Wg p l e R s mid args below meth c D cas b0 ad A nL L0 S0 Q (s')) (h : ur_do self call (ur_i1 (fun a => .long a.toInt64) pc ls st m) = some res) : ur_Wg p l e R s mid args below meth c D cas b0 ad A nL L0 S0 Q ((pc, ls, st, m)) := by
  unfold ur_i1 at h
  split at h
  · exact ur_s_nx (fun lsr H locs cells slots _ _ _ k => lv_i2l hx hb hdg rfl k) (hs _ h)
  · cases h
theorem ur_i_i2c (hx : p.tables.exec = Jvm.exec) (hb : c.code = cc) (hdg : decode cc pc = .ok (.i2c, 1)) (hs : ∀ s', self s' = some res → ur_Wg p l e R s mid args below meth c D cas b0 ad A nL L0 S0 Q (s')) (h : ur_do self call (ur_i1 (fun a => .int (a.toUInt32 % 65536).toInt32) pc ls st m) = some res) : ur_Wg p l e R s mid args below meth c D cas b0 ad A nL L0 S0 Q ((pc, ls, st, m)) := by
  unfold ur_i1 at h
  split at h
  · exact ur_s_nx (fun lsr H locs cells slots _ _ _ k => lv_i2c hx hb hdg rfl k) (hs _ h)
  · cases h
theorem ur_i_i2b (hx : p.tables.exec = Jvm.exec) (hb : c.code = cc) (hdg : decode cc pc = .ok (.i2b, 1)) (hs : ∀ s', self s' = some res → ur_Wg p l e R s mid args below meth c D cas b0 ad A nL L0 S0 Q (s')) (h : ur_do self call (ur_i1 (fun a => .int a.toInt8.toInt32) pc ls st m) = some res) : ur_Wg p l e R s mid args below meth c D cas b0 ad A nL L0 S0 Q ((pc, ls, st, m)) := by
  unfold ur_i1 at h
  split at h
  · exact ur_s_nx (fun lsr H locs cells slots _ _ _ k => lv_i2b hx hb hdg rfl k) (hs _ h)
  · cases h
theorem ur_i_if1 (hx : p.tables.exec = Jvm.exec) (hb : c.code = cc) {k : ClassFile.Cond} {o : Int} (hdg : decode cc pc = .ok (.ifCond k o, 3)) (ht : (pc : Int) + o = (x : Int)) (hs : ∀ s', self s' = some res → ur_Wg p l e R s mid args below meth c D cas b0 ad A nL L0 S0 Q (s')) (h : ur_do self call (ur_if1 k x pc ls st m) = some res) : ur_Wg p l e R s mid args below meth c D cas b0 ad A nL L0 S0 Q ((pc, ls, st, m)) := by
  unfold ur_if1 at h
  split at h
  next a r =>
    have h : (bif ur_cnd k a 0 then self (x, ls, r, m) else self (pc + 3, ls, r, m)) = some res := h
    intro lsr H locs cells slots hl h0 hP hD hS h1 h2 h3
    have gt : ur_cnd k a 0 = true → W p l e R s mid args below meth c H locs cells slots Q (F0 mid x lsr (r.map (ur_cv b0 ad))) := fun q => by
      rw [q] at h
      exact hs _ h lsr H locs cells slots hl h0 hP hD hS h1 h2 h3
    have gf : ur_cnd k a 0 = false → W p l e R s mid args below meth c H locs cells slots Q (F0 mid (pc + 3) lsr (r.map (ur_cv b0 ad))) := fun q => by
      rw [q] at h
      exact hs _ h lsr H locs cells slots hl h0 hP hD hS h1 h2 h3
    cases k with
    | eq => exact lv_if_eq hx hb hdg ht (fun q => gt (by simp [ur_cnd, q])) (fun q => gf (by simp [ur_cnd, q]))
    | ne => exact lv_if_ne hx hb hdg ht (fun q => gt (by simp [ur_cnd]; exact q)) (fun q => gf (by simp [ur_cnd]; exact q))
    | lt => exact lv_if_lt hx hb hdg ht (fun q => gt (by simp only [ur_cnd]; exact decide_eq_true q)) (fun q => gf (by simp only [ur_cnd]; exact decide_eq_false q))
    | ge => exact lv_if_ge hx hb hdg ht (fun q => gt (by simp only [ur_cnd]; exact decide_eq_true q)) (fun q => gf (by simp only [ur_cnd]; exact decide_eq_false q))
    | gt => exact lv_if_gt hx hb hdg ht (fun q => gt (by simp only [ur_cnd]; exact decide_eq_true q)) (fun q => gf (by simp only [ur_cnd]; exact decide_eq_false q))
    | le => exact lv_if_le hx hb hdg ht (fun q => gt (by simp only [ur_cnd]; exact decide_eq_true q)) (fun q => gf (by simp only [ur_cnd]; exact decide_eq_false q))
  next => cases h
theorem ur_i_if2 (hx : p.tables.exec = Jvm.exec) (hb : c.code = cc) {k : ClassFile.Cond} {o : Int} (hdg : decode cc pc = .ok (.if_icmp k o, 3)) (ht : (pc : Int) + o = (x : Int)) (hs : ∀ s', self s' = some res → ur_Wg p l e R s mid args below meth c D cas b0 ad A nL L0 S0 Q (s')) (h : ur_do self call (ur_if2 k x pc ls st m) = some res) : ur_Wg p l e R s mid args below meth c D cas b0 ad A nL L0 S0 Q ((pc, ls, st, m)) := by
  unfold ur_if2 at h
  split at h
  next b a r =>
    have h : (bif ur_cnd k a b then self (x, ls, r, m) else self (pc + 3, ls, r, m)) = some res := h
    intro lsr H locs cells slots hl h0 hP hD hS h1 h2 h3
    have gt : ur_cnd k a b = true → W p l e R s mid args below meth c H locs cells slots Q (F0 mid x lsr (r.map (ur_cv b0 ad))) := fun q => by
      rw [q] at h
      exact hs _ h lsr H locs cells slots hl h0 hP hD hS h1 h2 h3
    have gf : ur_cnd k a b = false → W p l e R s mid args below meth c H locs cells slots Q (F0 mid (pc + 3) lsr (r.map (ur_cv b0 ad))) := fun q => by
      rw [q] at h
      exact hs _ h lsr H locs cells slots hl h0 hP hD hS h1 h2 h3
    cases k with
    | eq => exact lv_icmp_eq hx hb hdg ht (fun q => gt (by simp [ur_cnd, q])) (fun q => gf (by simp [ur_cnd, q]))
    | ne => exact lv_icmp_ne hx hb hdg ht (fun q => gt (by simp [ur_cnd]; exact q)) (fun q => gf (by simp [ur_cnd]; exact q))
    | lt => exact lv_icmp_lt hx hb hdg ht (fun q => gt (by simp only [ur_cnd]; exact decide_eq_true q)) (fun q => gf (by simp only [ur_cnd]; exact decide_eq_false q))
    | ge => exact lv_icmp_ge hx hb hdg ht (fun q => gt (by simp only [ur_cnd]; exact decide_eq_true q)) (fun q => gf (by simp only [ur_cnd]; exact decide_eq_false q))
    | gt => exact lv_icmp_gt hx hb hdg ht (fun q => gt (by simp only [ur_cnd]; exact decide_eq_true q)) (fun q => gf (by simp only [ur_cnd]; exact decide_eq_false q))
    | le => exact lv_icmp_le hx hb hdg ht (fun q => gt (by simp only [ur_cnd]; exact decide_eq_true q)) (fun q => gf (by simp only [ur_cnd]; exact decide_eq_false q))
  next => cases h
theorem ur_i_goto (hx : p.tables.exec = Jvm.exec) (hb : c.code = cc) {o : Int} (hdg : decode cc pc = .ok (.goto o, 3)) (ht : (pc : Int) + o = (x : Int)) (hs : ur_Wg p l e R s mid args below meth c D cas b0 ad A nL L0 S0 Q ((x, ls, st, m))) : ur_Wg p l e R s mid args below meth c D cas b0 ad A nL L0 S0 Q ((pc, ls, st, m)) :=
  ur_s_nx (fun lsr H locs cells slots _ _ _ k => lv_goto hx hb hdg ht k) hs
end URS
end
section
/-! ONE STEP: cells, switches, the rest of the arithmetic -/
section URC
variable {p : Program} {l : Launch} {e : Env} {R : Room} {s : State} {mid : MethodId} {args : Array Value} {below : List Frame} {meth : Method} {c : Code} {D : va_G} {cas : Nat → ClassId} {b0 : Nat} {ad : Nat → Value} {A : Nat → Prop} {nL L0 S0 : Nat} {Q : State → Prop}
variable {cc : ByteArray} {own : String} {pc pc' n x a ci k t : Nat} {i v : Int32} {ls ls' : List (Option Value)} {st st' : List Value} {m m' : ur_M} {self : ur_S → Option ur_V} {call : Nat → List Value → ur_M → Option ur_V} {res : ur_V}
theorem ur_isO_t (h : ur_isO m a ci = true) : m.1[a]? = some (.inl ci) := by
  unfold ur_isO at h
  split at h
  next c hc => rw [hc]; simp at h; rw [h]
  next => cases h
theorem ur_isA_t (h : ur_isA m a t = some n) : m.1[a]? = some (.inr (t, n)) := by
  unfold ur_isA at h
  split at h
  next t' n' hc =>
    rw [hc]
    cases hq : t' == t <;> simp [hq] at h
    simp at hq
    rw [hq, h]
  next => cases h
theorem ur_inb_t (h : ur_inb i n = true) : vp_in i n := by
  unfold ur_inb at h
  unfold vp_in
  simp only [Bool.not_eq_true', Bool.or_eq_false_iff, decide_eq_false_iff_not] at h
  rintro (q | q)
  · exact h.1 q
  · exact h.2 q
theorem ur_cv_in (h : a < ur_base) : ur_cv b0 ad (.ref a) = .ref (b0 + a) := by simp [ur_cv, h]
theorem ur_lo_t {o : Option Nat} {b : Nat} (h : ur_lo o = some b) : o = some b ∧ b < ur_base := by
  unfold ur_lo at h
  split at h
  next b' =>
    cases hq : decide (b' < ur_base) <;> simp [hq] at h
    subst h
    exact ⟨rfl, of_decide_eq_true hq⟩
  next => cases h
theorem ur_small {z : Nat ⊕ (Nat × Nat)} (h : m.1[a]? = some z) (hn : m.1.length ≤ 1000) : a < ur_base := by
  have := (List.getElem?_eq_some_iff.mp h).1
  unfold ur_base
  omega
theorem ur_cond_t {b : Bool} {α : Type} {o : Option α} {w : α} (h : (bif b then o else none) = some w) : b = true ∧ o = some w := by
  cases b with
  | true => exact ⟨rfl, h⟩
  | false => cases h
/-- a field is read -/
theorem ur_i_get (hx : p.tables.exec = Jvm.exec) (hb : c.code = cc) (hts : ∀ w ∈ ur_T, w.before args s = true) (hown : s.vm.findClass own = some mid.cls) (hK : va_K D vwCl (ur_tys cas) s) {idx N : Nat} {C : String} {T : u_T} (hc : vwCl[ci]? = some (C, T, N)) (hin : ∀ w ∈ u_ws C T N, w ∈ ur_T) (hk : k < N) (hN : N = ur_nf ci) (hlink : Cond.fieldLink own idx (T k).1 (T k).2.1 (T k).2.2.1 ∈ ur_T) (hdg : decode cc pc = .ok (.getfield idx, 3)) (ho : m.1[a]? = some (.inl ci)) {w : Value} (hw : ur_cv b0 ad w = ur_fv b0 m a k (ur_kd ci k)) (hs : ur_Wg p l e R s mid args below meth c D cas b0 ad A nL L0 S0 Q ((pc + 3, ls, w :: st, m))) : ur_Wg p l e R s mid args below meth c D cas b0 ad A nL L0 S0 Q ((pc, ls, .ref a :: st, m)) := by
  intro lsr H locs cells slots hl h0 hP hD hS h1 h2 h3
  have hg := hs lsr H locs cells slots hl h0 hP hD hS h1 h2 h3
  simp only [List.map_cons, hw] at hg
  simp only [List.map_cons, ur_cv_in (ur_small ho h1)]
  exact va_get hx hb hts hin hown hK hP a (ur_ws_O ho) hc k hk (hts _ hlink) (fun _ h => h) (ur_fs_at (by rw [← hN]; exact hk)) hdg hg
theorem ur_fits_ref (had : ur_ado ad) {ty : FieldType} (hty : (∃ C, ty = .object C) ∨ ∃ t, ty = .array t) (v : Value) (hv : v = .null ∨ ∃ q, v = .ref q) : narrow ty v = v ∧ fits ty v = true := by
  rcases hty with ⟨C, rfl⟩ | ⟨t, rfl⟩ <;> rcases hv with rfl | ⟨q, rfl⟩ <;> exact ⟨rfl, rfl⟩
/-- a field is written -/
theorem ur_i_put (hx : p.tables.exec = Jvm.exec) (hb : c.code = cc) (hts : ∀ w ∈ ur_T, w.before args s = true) (hown : s.vm.findClass own = some mid.cls) (hK : va_K D vwCl (ur_tys cas) s) {idx N : Nat} {C : String} {T : u_T} (hc : vwCl[ci]? = some (C, T, N)) (hin : ∀ w ∈ u_ws C T N, w ∈ ur_T) (hk : k < N) (hN : N = ur_nf ci) (hlink : Cond.fieldLink own idx (T k).1 (T k).2.1 (T k).2.2.1 ∈ ur_T) (ty : Nat → FieldType) (hty : ∀ k, k < N → parseFieldDescriptor (T k).2.2.1 = some (ty k)) (hnm : ∀ a, a < N → ∀ b, b < N → a ≠ b → (T a).2.1 ≠ (T b).2.1) (hfin : (T k).2.2.2 = true → meth.name = "<init>" ∧ (T k).1 = own) (hdg : decode cc pc = .ok (.putfield idx, 3)) (ho : m.1[a]? = some (.inl ci)) {w : Value} (hn : narrow (ty k) (ur_cv b0 ad w) = ur_cv b0 ad w) (hfit : fits (ty k) (ur_cv b0 ad w) = true) (hsh : m'.1 = m.1) (e1 : ∀ b, b ≠ a → m'.2.1 b = m.2.1 b ∧ m'.2.2.1 b = m.2.2.1 b ∧ m'.2.2.2 b = m.2.2.2 b) (ek : ur_fv b0 m' a k (ur_kd ci k) = ur_cv b0 ad w) (ej : ∀ j, j ≠ k → ur_fv b0 m' a j (ur_kd ci j) = ur_fv b0 m a j (ur_kd ci j)) (hs : ur_Wg p l e R s mid args below meth c D cas b0 ad A nL L0 S0 Q ((pc + 3, ls, st, m'))) : ur_Wg p l e R s mid args below meth c D cas b0 ad A nL L0 S0 Q ((pc, ls, w :: .ref a :: st, m)) := by
  intro lsr H locs cells slots hl h0 hP hD hS h1 h2 h3
  simp only [List.map_cons, ur_cv_in (ur_small ho h1)]
  have hl' : k < (ur_fs b0 m a ci).length := by simp [ur_fs]; rw [← hN]; exact hk
  have kk : ∀ (H1 : Heap) (locs1 : List Loc), va_P D vwCl ((ur_ws b0 cas m).set a (b0 + a, .inr (ci, (ur_fs b0 m a ci).set k (ur_cv b0 ad w)))) H1 → va_D A ((ur_ws b0 cas m).set a (b0 + a, .inr (ci, (ur_fs b0 m a ci).set k (ur_cv b0 ad w)))) → va_S A s.heap H1 locs1 → W p l e R s mid args below meth c H1 locs1 cells slots Q (F0 mid (pc + 3) lsr (st.map (ur_cv b0 ad))) := by
    intro H1 locs1 q1 q2 q3
    rw [ur_ws_put ho hsh e1 ek ej] at q1 q2
    exact hs lsr H1 locs1 cells slots hl h0 q1 q2 q3 (by show m'.1.length ≤ 1000; rw [hsh]; exact h1) (by show _ = m'.1.length; rw [hsh]; exact h2) (by show _ = ur_sl m'.1; rw [hsh]; exact h3)
  cases hf : (T k).2.2.2 with
  | false => exact va_put hx hb hts hin ty hty hnm hown hK hP hD hS a (ur_ws_O ho) hc k hk (hts _ hlink) (fun _ h => h) hf (hty k hk) hn hfit hl' hdg kk
  | true => exact va_putF hx hb hts hin ty hty hnm hown hK hP hD hS a (ur_ws_O ho) hc k hk (hts _ hlink) (fun _ h => h) hf (hfin hf).1 (hfin hf).2 (hty k hk) hn hfit hl' hdg kk
-- arrays are read
theorem ur_i_iaload (hx : p.tables.exec = Jvm.exec) (hb : c.code = cc) (hK : va_K D vwCl (ur_tys cas) s) (hdg : decode cc pc = .ok (.iaload, 1)) (hs : ∀ s', self s' = some res → ur_Wg p l e R s mid args below meth c D cas b0 ad A nL L0 S0 Q (s')) (h : ur_do self call (ur_ald (fun m a i => ur_aI m a 0 i) pc ls st m) = some res) : ur_Wg p l e R s mid args below meth c D cas b0 ad A nL L0 S0 Q ((pc, ls, st, m)) := by
  unfold ur_ald at h
  split at h
  next i a r =>
    obtain ⟨v, h1, h2⟩ := Option.bind_eq_some_iff.mp h
    simp only [ur_aI] at h1
    split at h1
    next n hn =>
      obtain ⟨g1, g2⟩ := ur_cond_t h1
      cases g2
      intro lsr H locs cells slots hl h0 hP hD hS q1 q2 q3
      have ho := ur_isA_t hn
      simp only [List.map_cons, ur_cv_in (ur_small ho q1)]
      exact va_iald hx hb hK hP a 0 (ur_ws_A ho) rfl (ur_inb_t g1) hdg (hs _ h2 lsr H locs cells slots hl h0 hP hD hS q1 q2 q3)
    next => cases h1
  next => cases h
theorem ur_i_caload (hx : p.tables.exec = Jvm.exec) (hb : c.code = cc) (hK : va_K D vwCl (ur_tys cas) s) (hdg : decode cc pc = .ok (.caload, 1)) (hs : ∀ s', self s' = some res → ur_Wg p l e R s mid args below meth c D cas b0 ad A nL L0 S0 Q (s')) (h : ur_do self call (ur_ald (fun m a i => ur_aI m a 3 i) pc ls st m) = some res) : ur_Wg p l e R s mid args below meth c D cas b0 ad A nL L0 S0 Q ((pc, ls, st, m)) := by
  unfold ur_ald at h
  split at h
  next i a r =>
    obtain ⟨v, h1, h2⟩ := Option.bind_eq_some_iff.mp h
    simp only [ur_aI] at h1
    split at h1
    next n hn =>
      obtain ⟨g1, g2⟩ := ur_cond_t h1
      cases g2
      intro lsr H locs cells slots hl h0 hP hD hS q1 q2 q3
      have ho := ur_isA_t hn
      simp only [List.map_cons, ur_cv_in (ur_small ho q1)]
      exact va_cald hx hb hK hP a 3 (ur_ws_A ho) rfl (ur_inb_t g1) hdg (hs _ h2 lsr H locs cells slots hl h0 hP hD hS q1 q2 q3)
    next => cases h1
  next => cases h
theorem ur_i_laload (hx : p.tables.exec = Jvm.exec) (hb : c.code = cc) (hK : va_K D vwCl (ur_tys cas) s) (hdg : decode cc pc = .ok (.laload, 1)) {r : List Value} (hs : ∀ s', self s' = some res → ur_Wg p l e R s mid args below meth c D cas b0 ad A nL L0 S0 Q (s')) (h : ur_do self call (ur_rL (ur_aL m a i) (fun v => (pc + 1, ls, .long v :: r, m))) = some res) : ur_Wg p l e R s mid args below meth c D cas b0 ad A nL L0 S0 Q ((pc, ls, .int i :: .ref a :: r, m)) := by
  obtain ⟨v, h1, h2⟩ := Option.bind_eq_some_iff.mp h
  unfold ur_aL at h1
  split at h1
  next n hn =>
    obtain ⟨g1, g2⟩ := ur_cond_t h1
    cases g2
    intro lsr H locs cells slots hl h0 hP hD hS q1 q2 q3
    have ho := ur_isA_t hn
    simp only [List.map_cons, ur_cv_in (ur_small ho q1)]
    exact va_lald hx hb hK hP a 1 (ur_ws_A ho) rfl (ur_inb_t g1) hdg (hs _ h2 lsr H locs cells slots hl h0 hP hD hS q1 q2 q3)
  next => cases h1
theorem ur_i_aaload (hx : p.tables.exec = Jvm.exec) (hb : c.code = cc) (hK : va_K D vwCl (ur_tys cas) s) (hdg : decode cc pc = .ok (.aaload, 1)) {r : List Value} (hs : ∀ s', self s' = some res → ur_Wg p l e R s mid args below meth c D cas b0 ad A nL L0 S0 Q (s')) (h : ur_do self call (ur_rR (ur_aR m a i) (fun v => (pc + 1, ls, .ref v :: r, m))) = some res) : ur_Wg p l e R s mid args below meth c D cas b0 ad A nL L0 S0 Q ((pc, ls, .int i :: .ref a :: r, m)) := by
  obtain ⟨v, h1, h2⟩ := Option.bind_eq_some_iff.mp h
  unfold ur_aR at h1
  split at h1
  next t n ho =>
    obtain ⟨g1, g2⟩ := ur_cond_t h1
    simp only [Bool.and_eq_true, Bool.or_eq_true, beq_iff_eq] at g1
    obtain ⟨g3, g4⟩ := ur_lo_t g2
    intro lsr H locs cells slots hl h0 hP hD hS q1 q2 q3
    have hg := hs _ h2 lsr H locs cells slots hl h0 hP hD hS q1 q2 q3
    simp only [List.map_cons, ur_cv_in g4] at hg
    simp only [List.map_cons, ur_cv_in (ur_small ho q1)]
    have e : va_rf ((m.2.2.2 a i.toNatClampNeg).map (fun b => b0 + b)) = .ref (b0 + v) := by rw [g3]; rfl
    rw [← e] at hg
    rcases g1.1 with rfl | rfl
    · exact va_aldq hx hb hK hP a 4 (ur_ws_A ho) rfl (ur_inb_t g1.2) hdg hg
    · exact va_aldq hx hb hK hP a 5 (ur_ws_A ho) rfl (ur_inb_t g1.2) hdg hg
  next => cases h1
-- arrays are written
theorem ur_ws_arr {y : vp_A} (ho : m.1[a]? = some (.inr (t, n))) (h1 : m'.1 = m.1) (e1 : ∀ b, b ≠ a → m'.2.1 b = m.2.1 b ∧ m'.2.2.1 b = m.2.2.1 b ∧ m'.2.2.2 b = m.2.2.2 b) (ek : ur_ar b0 m' a t n = y) : (ur_ws b0 cas m).set a (b0 + a, .inl (cas t, y)) = ur_ws b0 cas m' := by
  rw [← ur_ws_set (a := a) h1 (fun b hb => ur_ce_congr (by rw [h1]) (e1 b hb).1 (e1 b hb).2.1 (e1 b hb).2.2), ur_ce_A (by rw [h1]; exact ho), ek]
theorem ur_u_upd {f : Nat → Nat → Int32} {w : Int32} : ur_u f a k w a = upd (f a) k w := by funext j; simp [ur_u, upd]
theorem ur_u_updL {f : Nat → Nat → Int64} {w : Int64} : ur_u f a k w a = vp_updL (f a) k w := by funext j; simp [ur_u, vp_updL]
theorem ur_i_iastore (hx : p.tables.exec = Jvm.exec) (hb : c.code = cc) (hK : va_K D vwCl (ur_tys cas) s) (hdg : decode cc pc = .ok (.iastore, 1)) (hs : ∀ s', self s' = some res → ur_Wg p l e R s mid args below meth c D cas b0 ad A nL L0 S0 Q (s')) (h : ur_do self call (ur_ast (fun m a i v => ur_wI m a 0 i v) pc ls st m) = some res) : ur_Wg p l e R s mid args below meth c D cas b0 ad A nL L0 S0 Q ((pc, ls, st, m)) := by
  unfold ur_ast at h
  split at h
  next v i a r =>
    obtain ⟨m', h1, h2⟩ := Option.bind_eq_some_iff.mp h
    simp only [ur_wI] at h1
    split at h1
    next n hn =>
      obtain ⟨g1, g2⟩ := ur_cond_t h1
      have ho := ur_isA_t hn
      refine ur_s_wr (m' := m') (by rw [← Option.some.inj g2]) (fun lsr H locs cells slots hl hP hD hS q1 kk => ?_) (hs _ h2)
      simp only [List.map_cons, ur_cv_in (ur_small ho q1)]
      refine va_iast hx hb hK hP hD hS a 0 (ur_ws_A ho) rfl (ur_inb_t g1) hdg (fun H1 locs1 p1 p2 p3 => ?_)
      rw [ur_ws_arr (m' := m') ho (by rw [← Option.some.inj g2]) (fun b hb => by rw [← Option.some.inj g2]; exact ⟨ur_u_ne hb, rfl, rfl⟩) (by rw [← Option.some.inj g2]; simp only [ur_ar, ur_u_upd])] at p1 p2
      exact kk H1 locs1 p1 p2 p3
    next => cases h1
  next => cases h
theorem ur_i_bastore (hx : p.tables.exec = Jvm.exec) (hb : c.code = cc) (hK : va_K D vwCl (ur_tys cas) s) (hdg : decode cc pc = .ok (.bastore, 1)) (hs : ∀ s', self s' = some res → ur_Wg p l e R s mid args below meth c D cas b0 ad A nL L0 S0 Q (s')) (h : ur_do self call (ur_ast (fun m a i v => ur_wI m a 2 i (vp_nar .boolean v)) pc ls st m) = some res) : ur_Wg p l e R s mid args below meth c D cas b0 ad A nL L0 S0 Q ((pc, ls, st, m)) := by
  unfold ur_ast at h
  split at h
  next v i a r =>
    obtain ⟨m', h1, h2⟩ := Option.bind_eq_some_iff.mp h
    simp only [ur_wI] at h1
    split at h1
    next n hn =>
      obtain ⟨g1, g2⟩ := ur_cond_t h1
      have ho := ur_isA_t hn
      refine ur_s_wr (m' := m') (by rw [← Option.some.inj g2]) (fun lsr H locs cells slots hl hP hD hS q1 kk => ?_) (hs _ h2)
      simp only [List.map_cons, ur_cv_in (ur_small ho q1)]
      refine va_zast hx hb hK hP hD hS a 2 (ur_ws_A ho) rfl (ur_inb_t g1) hdg (fun H1 locs1 p1 p2 p3 => ?_)
      rw [ur_ws_arr (m' := m') ho (by rw [← Option.some.inj g2]) (fun b hb => by rw [← Option.some.inj g2]; exact ⟨ur_u_ne hb, rfl, rfl⟩) (by rw [← Option.some.inj g2]; simp only [ur_ar, ur_u_upd])] at p1 p2
      exact kk H1 locs1 p1 p2 p3
    next => cases h1
  next => cases h
theorem ur_i_castore (hx : p.tables.exec = Jvm.exec) (hb : c.code = cc) (hK : va_K D vwCl (ur_tys cas) s) (hdg : decode cc pc = .ok (.castore, 1)) (hs : ∀ s', self s' = some res → ur_Wg p l e R s mid args below meth c D cas b0 ad A nL L0 S0 Q (s')) (h : ur_do self call (ur_ast (fun m a i v => ur_wI m a 3 i (vp_nar .char v)) pc ls st m) = some res) : ur_Wg p l e R s mid args below meth c D cas b0 ad A nL L0 S0 Q ((pc, ls, st, m)) := by
  unfold ur_ast at h
  split at h
  next v i a r =>
    obtain ⟨m', h1, h2⟩ := Option.bind_eq_some_iff.mp h
    simp only [ur_wI] at h1
    split at h1
    next n hn =>
      obtain ⟨g1, g2⟩ := ur_cond_t h1
      have ho := ur_isA_t hn
      refine ur_s_wr (m' := m') (by rw [← Option.some.inj g2]) (fun lsr H locs cells slots hl hP hD hS q1 kk => ?_) (hs _ h2)
      simp only [List.map_cons, ur_cv_in (ur_small ho q1)]
      refine va_cast hx hb hK hP hD hS a 3 (ur_ws_A ho) rfl (ur_inb_t g1) hdg (fun H1 locs1 p1 p2 p3 => ?_)
      rw [ur_ws_arr (m' := m') ho (by rw [← Option.some.inj g2]) (fun b hb => by rw [← Option.some.inj g2]; exact ⟨ur_u_ne hb, rfl, rfl⟩) (by rw [← Option.some.inj g2]; simp only [ur_ar, ur_u_upd])] at p1 p2
      exact kk H1 locs1 p1 p2 p3
    next => cases h1
  next => cases h
theorem ur_i_lastore (hx : p.tables.exec = Jvm.exec) (hb : c.code = cc) (hK : va_K D vwCl (ur_tys cas) s) (hdg : decode cc pc = .ok (.lastore, 1)) {r : List Value} {v : Int64} (hs : ∀ s', self s' = some res → ur_Wg p l e R s mid args below meth c D cas b0 ad A nL L0 S0 Q (s')) (h : ur_do self call (ur_rM (ur_wL m a i v) (fun m => (pc + 1, ls, r, m))) = some res) : ur_Wg p l e R s mid args below meth c D cas b0 ad A nL L0 S0 Q ((pc, ls, .long v :: .int i :: .ref a :: r, m)) := by
  obtain ⟨m', h1, h2⟩ := Option.bind_eq_some_iff.mp h
  simp only [ur_wL] at h1
  split at h1
  next n hn =>
    obtain ⟨g1, g2⟩ := ur_cond_t h1
    have ho := ur_isA_t hn
    refine ur_s_wr (m' := m') (by rw [← Option.some.inj g2]) (fun lsr H locs cells slots hl hP hD hS q1 kk => ?_) (hs _ h2)
    simp only [List.map_cons, ur_cv_in (ur_small ho q1)]
    refine va_last hx hb hK hP hD hS a 1 (ur_ws_A ho) rfl (ur_inb_t g1) hdg (fun H1 locs1 p1 p2 p3 => ?_)
    rw [ur_ws_arr (m' := m') ho (by rw [← Option.some.inj g2]) (fun b hb => by rw [← Option.some.inj g2]; exact ⟨rfl, ur_u_ne hb, rfl⟩) (by rw [← Option.some.inj g2]; simp only [ur_ar, ur_u_updL])] at p1 p2
    exact kk H1 locs1 p1 p2 p3
  next => cases h1
theorem ur_i_aastore (hx : p.tables.exec = Jvm.exec) (hb : c.code = cc) (hK : va_K D vwCl (ur_tys cas) s) (hdg : decode cc pc = .ok (.aastore, 1)) {r : List Value} {v : Nat} (hs : ∀ s', self s' = some res → ur_Wg p l e R s mid args below meth c D cas b0 ad A nL L0 S0 Q (s')) (h : ur_do self call (ur_rM (ur_wR m a i v) (fun m => (pc + 1, ls, r, m))) = some res) : ur_Wg p l e R s mid args below meth c D cas b0 ad A nL L0 S0 Q ((pc, ls, .ref v :: .int i :: .ref a :: r, m)) := by
  obtain ⟨m', h1, h2⟩ := Option.bind_eq_some_iff.mp h
  simp only [ur_wR] at h1
  split at h1
  next t n ho =>
    obtain ⟨g1, g2⟩ := ur_cond_t h1
    simp only [Bool.and_eq_true, Bool.or_eq_true, beq_iff_eq] at g1
    obtain ⟨g1, g3⟩ := g1
    refine ur_s_wr (m' := m') (by rw [← Option.some.inj g2]) (fun lsr H locs cells slots hl hP hD hS q1 kk => ?_) (hs _ h2)
    have e3 : ∀ b, b ≠ a → m'.2.1 b = m.2.1 b ∧ m'.2.2.1 b = m.2.2.1 b ∧ m'.2.2.2 b = m.2.2.2 b := fun b hb => by rw [← Option.some.inj g2]; exact ⟨rfl, rfl, ur_u_ne hb⟩
    have e4 : (fun j => (m'.2.2.2 a j).map (fun b => b0 + b)) = va_up (fun j => (m.2.2.2 a j).map (fun b => b0 + b)) i.toNatClampNeg (some (b0 + v)) := by
      rw [← Option.some.inj g2]
      funext j
      by_cases hj : j = i.toNatClampNeg
      · simp [ur_u, va_up, hj]
      · simp [ur_u, va_up, hj]
    rcases g1 with ⟨rfl, gv⟩ | ⟨rfl, gv⟩
    · have hv := ur_isO_t gv
      simp only [List.map_cons, ur_cv_in (ur_small ho q1), ur_cv_in (ur_small hv q1)]
      refine va_astq (r := (RX5, TX5, 9)) hx hb hK hP hD hS a 4 v 5 (ur_ws_A ho) rfl (ur_ws_O hv) rfl (ur_inb_t g3) hdg (fun H1 locs1 p1 p2 p3 => ?_)
      rw [ur_ws_arr (m' := m') ho (by rw [← Option.some.inj g2]) e3 (by simp only [ur_ar, e4])] at p1 p2
      exact kk H1 locs1 p1 p2 p3
    · have hv := ur_isO_t gv
      simp only [List.map_cons, ur_cv_in (ur_small ho q1), ur_cv_in (ur_small hv q1)]
      refine va_astq (r := (RX4, TX4, 4)) hx hb hK hP hD hS a 5 v 4 (ur_ws_A ho) rfl (ur_ws_O hv) rfl (ur_inb_t g3) hdg (fun H1 locs1 p1 p2 p3 => ?_)
      rw [ur_ws_arr (m' := m') ho (by rw [← Option.some.inj g2]) e3 (by simp only [ur_ar, e4])] at p1 p2
      exact kk H1 locs1 p1 p2 p3
  next => cases h1
-- the rest of the arithmetic
theorem ur_i_idiv (hx : p.tables.exec = Jvm.exec) (hb : c.code = cc) (hdg : decode cc pc = .ok (.idiv, 1)) {r : List Value} {a b : Int32} (hs : ∀ s', self s' = some res → ur_Wg p l e R s mid args below meth c D cas b0 ad A nL L0 S0 Q (s')) (h : ur_do self call (ur_rI (bif b == 0 then none else some (a / b)) (fun v => (pc + 1, ls, .int v :: r, m))) = some res) : ur_Wg p l e R s mid args below meth c D cas b0 ad A nL L0 S0 Q ((pc, ls, .int b :: .int a :: r, m)) := by
  obtain ⟨v, h1, h2⟩ := Option.bind_eq_some_iff.mp h
  cases hz : b == 0 with
  | true => rw [hz] at h1; cases h1
  | false =>
    rw [hz] at h1
    cases h1
    exact ur_s_nx (fun lsr H locs cells slots _ _ _ k => lv_idiv hx hb hdg (fun q => by simp [q] at hz) k) (hs _ h2)
theorem ur_i_irem (hx : p.tables.exec = Jvm.exec) (hb : c.code = cc) (hdg : decode cc pc = .ok (.irem, 1)) {r : List Value} {a b : Int32} (hs : ∀ s', self s' = some res → ur_Wg p l e R s mid args below meth c D cas b0 ad A nL L0 S0 Q (s')) (h : ur_do self call (ur_rI (bif b == 0 then none else some (a - a / b * b)) (fun v => (pc + 1, ls, .int v :: r, m))) = some res) : ur_Wg p l e R s mid args below meth c D cas b0 ad A nL L0 S0 Q ((pc, ls, .int b :: .int a :: r, m)) := by
  obtain ⟨v, h1, h2⟩ := Option.bind_eq_some_iff.mp h
  cases hz : b == 0 with
  | true => rw [hz] at h1; cases h1
  | false =>
    rw [hz] at h1
    cases h1
    exact ur_s_nx (fun lsr H locs cells slots _ _ _ k => lv_irem hx hb hdg (fun q => by simp [q] at hz) k) (hs _ h2)
theorem ur_i_ldiv (hx : p.tables.exec = Jvm.exec) (hb : c.code = cc) (hdg : decode cc pc = .ok (.ldiv, 1)) {r : List Value} {a b : Int64} (hs : ∀ s', self s' = some res → ur_Wg p l e R s mid args below meth c D cas b0 ad A nL L0 S0 Q (s')) (h : ur_do self call (ur_rL (bif b == 0 then none else some (a / b)) (fun v => (pc + 1, ls, .long v :: r, m))) = some res) : ur_Wg p l e R s mid args below meth c D cas b0 ad A nL L0 S0 Q ((pc, ls, .long b :: .long a :: r, m)) := by
  obtain ⟨v, h1, h2⟩ := Option.bind_eq_some_iff.mp h
  cases hz : b == 0 with
  | true => rw [hz] at h1; cases h1
  | false =>
    rw [hz] at h1
    cases h1
    exact ur_s_nx (fun lsr H locs cells slots _ _ _ k => lv_ldiv hx hb hdg (fun q => by simp [q] at hz) k) (hs _ h2)
theorem ur_i_lrem (hx : p.tables.exec = Jvm.exec) (hb : c.code = cc) (hdg : decode cc pc = .ok (.lrem, 1)) {r : List Value} {a b : Int64} (hs : ∀ s', self s' = some res → ur_Wg p l e R s mid args below meth c D cas b0 ad A nL L0 S0 Q (s')) (h : ur_do self call (ur_rL (bif b == 0 then none else some (a - a / b * b)) (fun v => (pc + 1, ls, .long v :: r, m))) = some res) : ur_Wg p l e R s mid args below meth c D cas b0 ad A nL L0 S0 Q ((pc, ls, .long b :: .long a :: r, m)) := by
  obtain ⟨v, h1, h2⟩ := Option.bind_eq_some_iff.mp h
  cases hz : b == 0 with
  | true => rw [hz] at h1; cases h1
  | false =>
    rw [hz] at h1
    cases h1
    exact ur_s_nx (fun lsr H locs cells slots _ _ _ k => lv_lrem hx hb hdg (fun q => by simp [q] at hz) k) (hs _ h2)
theorem ur_i_l2i (hx : p.tables.exec = Jvm.exec) (hb : c.code = cc) (hdg : decode cc pc = .ok (.l2i, 1)) {r : List Value} {a : Int64} (hs : ur_Wg p l e R s mid args below meth c D cas b0 ad A nL L0 S0 Q ((pc + 1, ls, .int a.toInt32 :: r, m))) : ur_Wg p l e R s mid args below meth c D cas b0 ad A nL L0 S0 Q ((pc, ls, .long a :: r, m)) :=
  ur_s_nx (fun lsr H locs cells slots _ _ _ k => lv_l2i hx hb hdg rfl k) hs
theorem ur_i_lushr (hx : p.tables.exec = Jvm.exec) (hb : c.code = cc) (hdg : decode cc pc = .ok (.lushr, 1)) {r : List Value} {a : Int64} {b : Int32} (hs : ur_Wg p l e R s mid args below meth c D cas b0 ad A nL L0 S0 Q ((pc + 1, ls, .long (a.toUInt64 >>> (b.toInt64.toUInt64 &&& Int64.toUInt64 63)).toInt64 :: r, m))) : ur_Wg p l e R s mid args below meth c D cas b0 ad A nL L0 S0 Q ((pc, ls, .int b :: .long a :: r, m)) :=
  ur_s_nx (fun lsr H locs cells slots _ _ _ k => lv_lushr hx hb hdg rfl k) hs
theorem ur_i_lcmp (hx : p.tables.exec = Jvm.exec) (hb : c.code = cc) (hdg : decode cc pc = .ok (.lcmp, 1)) {r : List Value} {a b : Int64} (hs : ur_Wg p l e R s mid args below meth c D cas b0 ad A nL L0 S0 Q ((pc + 1, ls, .int (lg_cmp a b) :: r, m))) : ur_Wg p l e R s mid args below meth c D cas b0 ad A nL L0 S0 Q ((pc, ls, .long b :: .long a :: r, m)) :=
  ur_s_nx (fun lsr H locs cells slots _ _ _ k => W.lcmp hx hb hdg k) hs
theorem ur_i_dup (hx : p.tables.exec = Jvm.exec) (hb : c.code = cc) (had : ur_ado ad) (hdg : decode cc pc = .ok (.dup, 1)) {r : List Value} {w : Value} (hw : w.category = 1) (hs : ur_Wg p l e R s mid args below meth c D cas b0 ad A nL L0 S0 Q ((pc + 1, ls, w :: w :: r, m))) : ur_Wg p l e R s mid args below meth c D cas b0 ad A nL L0 S0 Q ((pc, ls, w :: r, m)) :=
  ur_s_nx (fun lsr H locs cells slots _ _ _ k => lv_dup hx hb hdg ((ur_cv_cat had w).trans hw) k) hs
theorem ur_i_pop (hx : p.tables.exec = Jvm.exec) (hb : c.code = cc) (had : ur_ado ad) (hdg : decode cc pc = .ok (.pop, 1)) {r : List Value} {w : Value} (hw : w.category = 1) (hs : ur_Wg p l e R s mid args below meth c D cas b0 ad A nL L0 S0 Q ((pc + 1, ls, r, m))) : ur_Wg p l e R s mid args below meth c D cas b0 ad A nL L0 S0 Q ((pc, ls, w :: r, m)) :=
  ur_s_nx (fun lsr H locs cells slots _ _ _ k => lv_pop hx hb hdg ((ur_cv_cat had w).trans hw) k) hs
theorem ur_i_dup2 (hx : p.tables.exec = Jvm.exec) (hb : c.code = cc) (had : ur_ado ad) (hdg : decode cc pc = .ok (.dup2, 1)) {r : List Value} {w u : Value} (hw : w.category = 1) (hu : u.category = 1) (hs : ur_Wg p l e R s mid args below meth c D cas b0 ad A nL L0 S0 Q ((pc + 1, ls, w :: u :: w :: u :: r, m))) : ur_Wg p l e R s mid args below meth c D cas b0 ad A nL L0 S0 Q ((pc, ls, w :: u :: r, m)) :=
  ur_s_nx (fun lsr H locs cells slots _ _ _ k => lv_dup2_11 hx hb hdg ((ur_cv_cat had w).trans hw) ((ur_cv_cat had u).trans hu) k) hs
end URC
end
section
/-! ONE STEP: old cells, switches, new cells, copies, returns -/
def ur_byt : List (List Int32) := ur_txt.map (fun t => t.map nI)
def ur_lns : List Nat := ur_txt.map List.length
def ur_nest : List Cond := lw_tbl.filter (fun w => match w with
  | .methodLinkNest _ _ _ _ => true
  | _ => false)
/-- what the tables and the start say of old cells, of nest mates, of arrays of objects -/
def ur_Old (ad : Nat → Value) (A : Nat → Prop) (s : State) : Prop := ∃ adK adV : Nat → Nat, (∀ j, j < 3 → ad j = .ref (adK j) ∧ ad (10 + j) = .ref (adV j)) ∧ vk_S 3 ur_lns ur_byt adK adV A s s.heap ∧
  (vk_R "UnsaidRoom$Tape" 54 "room unsaid holds door person age in stays walk show speak burn minute guest wife child taxman not and or " (adK 0) s ∧ vk_R "UnsaidRoom$Tape" 40 "()<=+-*;" (adK 1) s ∧ vk_R "UnsaidRoom$Law" 46 "much times years nods " (adK 2) s) ∧
  va_Z "java/lang/String" "COMPACT_STRINGS" "Z" (.int 1) A s s.heap ∧ va_Z "jdk/internal/util/Preconditions" "SIOOBE_FORMATTER" "Ljava/util/function/BiFunction;" (ad 20) A s s.heap ∧ (∀ w ∈ ur_nest, va_Nw w s) ∧ va_AO "UnsaidRoom$Night" s ∧ va_AO "UnsaidRoom$Mark" s
theorem ur_Old.go {ad : Nat → Value} {A B : Nat → Prop} {s U : State} (h : ur_Old ad A s) (hW : s.WarmedH U.vm) (hq : ∀ a : Nat, a < s.heap.size → ¬ A a → U.heap[a]? = s.heap[a]?) (hAB : ∀ q, B q → A q) : ur_Old ad B U := by
  obtain ⟨adK, adV, h1, h2, ⟨r0, r1, r2⟩, h4, h5, h6, h7, h8⟩ := h
  have hv := hW.alike
  refine ⟨adK, adV, h1, ((h2.moved hv).kept hq).narrow hAB, ⟨r0.warm hW, r1.warm hW, r2.warm hW⟩, ((h4.moved hv).kept hq).narrow hAB, ((h5.moved hv).kept hq).narrow hAB, fun w hw => ?_, h7.moved hv, h8.moved hv⟩
  have h9 := h6 w hw
  have h10 := (List.mem_filter.mp hw).2
  cases w <;> simp at h10
  exact va_Nw.warmM hW h9
section URO
variable {p : Program} {l : Launch} {e : Env} {R : Room} {s : State} {mid : MethodId} {args : Array Value} {below : List Frame} {meth : Method} {c : Code} {D : va_G} {cas : Nat → ClassId} {b0 : Nat} {ad : Nat → Value} {A : Nat → Prop} {nL L0 S0 : Nat} {Q : State → Prop}
variable {cc : ByteArray} {own : String} {pc pc' n x a ci k t : Nat} {i v : Int32} {ls ls' : List (Option Value)} {st st' : List Value} {m m' : ur_M} {self : ur_S → Option ur_V} {call : Nat → List Value → ur_M → Option ur_V} {res : ur_V}
theorem ur_cv_old {j : Nat} : ur_cv b0 ad (.ref (ur_base + j)) = ad j := by
  simp only [ur_cv]
  rw [if_neg (show ¬ ur_base + j < ur_base by omega), show ur_base + j - ur_base = j by omega]
theorem ur_i_ldcS (hx : p.tables.exec = Jvm.exec) (hb : c.code = cc) (hown : s.vm.findClass own = some mid.cls) {tx : String} {q j : Nat} (hr : vk_R own k tx q s) (hj : ad j = .ref q) (hdg : decode cc pc = .ok (.ldc k, 2)) (hs : ur_Wg p l e R s mid args below meth c D cas b0 ad A nL L0 S0 Q ((pc + 2, ls, .ref (ur_base + j) :: st, m))) : ur_Wg p l e R s mid args below meth c D cas b0 ad A nL L0 S0 Q ((pc, ls, st, m)) :=
  ur_s_nx (fun lsr H locs cells slots _ _ _ k => va_ldcS hx hb hown hr hdg (by rw [List.map_cons, ur_cv_old, hj] at k; exact k)) hs
theorem ur_i_getsI (hx : p.tables.exec = Jvm.exec) (hb : c.code = cc) (hown : s.vm.findClass own = some mid.cls) (hO : ur_Old ad A s) (hlink : (Cond.fieldLink own k "java/lang/String" "COMPACT_STRINGS" "Z").before args s = true) (hdg : decode cc pc = .ok (.getstatic k, 3)) (hs : ur_Wg p l e R s mid args below meth c D cas b0 ad A nL L0 S0 Q ((pc + 3, ls, .int 1 :: st, m))) : ur_Wg p l e R s mid args below meth c D cas b0 ad A nL L0 S0 Q ((pc, ls, st, m)) := by
  obtain ⟨adK, adV, h1, h2, h3, h4, h5, h6⟩ := hO
  exact ur_s_nx (fun lsr H locs cells slots _ _ hS k => va_gets hx hb h4 hS hown hlink (fun _ h => h) hdg k) hs
theorem ur_i_getsR (hx : p.tables.exec = Jvm.exec) (hb : c.code = cc) (hown : s.vm.findClass own = some mid.cls) (hO : ur_Old ad A s) (hlink : (Cond.fieldLink own k "jdk/internal/util/Preconditions" "SIOOBE_FORMATTER" "Ljava/util/function/BiFunction;").before args s = true) (hdg : decode cc pc = .ok (.getstatic k, 3)) (hs : ur_Wg p l e R s mid args below meth c D cas b0 ad A nL L0 S0 Q ((pc + 3, ls, .ref (ur_base + 20) :: st, m))) : ur_Wg p l e R s mid args below meth c D cas b0 ad A nL L0 S0 Q ((pc, ls, st, m)) := by
  obtain ⟨adK, adV, h1, h2, h3, h4, h5, h6⟩ := hO
  exact ur_s_nx (fun lsr H locs cells slots _ _ hS k => va_gets hx hb h5 hS hown hlink (fun _ h => h) hdg (by rw [List.map_cons, ur_cv_old] at k; exact k)) hs
theorem ur_old3 {a : Nat} (h : decide (ur_base ≤ a ∧ a < ur_base + 3) = true) : ∃ j, j < 3 ∧ a = ur_base + j := by
  have := of_decide_eq_true h
  exact ⟨a - ur_base, by omega, by omega⟩
theorem ur_i_getCo (hx : p.tables.exec = Jvm.exec) (hb : c.code = cc) (hown : s.vm.findClass own = some mid.cls) (hO : ur_Old ad A s) (hlink : (Cond.fieldLink own k "java/lang/String" "coder" "B").before args s = true) (hdg : decode cc pc = .ok (.getfield k, 3)) (ha : decide (ur_base ≤ a ∧ a < ur_base + 3) = true) (hs : ur_Wg p l e R s mid args below meth c D cas b0 ad A nL L0 S0 Q ((pc + 3, ls, .int 0 :: st, m))) : ur_Wg p l e R s mid args below meth c D cas b0 ad A nL L0 S0 Q ((pc, ls, .ref a :: st, m)) := by
  obtain ⟨adK, adV, h1, h2, -⟩ := hO
  obtain ⟨j, hj, rfl⟩ := ur_old3 ha
  exact ur_s_nx (fun lsr H locs cells slots _ _ hS k => by
    rw [List.map_cons, ur_cv_old, (h1 j hj).1]
    exact vk_getf hx hb (h2.1 j hj).2.1 hS hown hlink (fun _ h => h) hdg k) hs
theorem ur_i_getVa (hx : p.tables.exec = Jvm.exec) (hb : c.code = cc) (hown : s.vm.findClass own = some mid.cls) (hO : ur_Old ad A s) (hlink : (Cond.fieldLink own k "java/lang/String" "value" "[B").before args s = true) (hdg : decode cc pc = .ok (.getfield k, 3)) (ha : decide (ur_base ≤ a ∧ a < ur_base + 3) = true) (hs : ur_Wg p l e R s mid args below meth c D cas b0 ad A nL L0 S0 Q ((pc + 3, ls, .ref (a + 10) :: st, m))) : ur_Wg p l e R s mid args below meth c D cas b0 ad A nL L0 S0 Q ((pc, ls, .ref a :: st, m)) := by
  obtain ⟨adK, adV, h1, h2, -⟩ := hO
  obtain ⟨j, hj, rfl⟩ := ur_old3 ha
  exact ur_s_nx (fun lsr H locs cells slots _ _ hS k => by
    rw [List.map_cons, show ur_base + j + 10 = ur_base + (10 + j) by omega, ur_cv_old, (h1 j hj).2] at k
    rw [List.map_cons, ur_cv_old, (h1 j hj).1]
    exact vk_getf hx hb (h2.1 j hj).2.2.1 hS hown hlink (fun _ h => h) hdg k) hs
theorem ur_txt_at {j : Nat} {t : List Nat} (h : ur_txt[j]? = some t) : j < 3 ∧ ur_lns.getD j 0 = t.length ∧ ur_byt.getD j [] = t.map nI := by
  have hj : j < 3 := (List.getElem?_eq_some_iff.mp h).1
  refine ⟨hj, ?_, ?_⟩
  · simp [ur_lns, List.getD_eq_getElem?_getD, h]
  · simp [ur_byt, List.getD_eq_getElem?_getD, h]
theorem ur_arith {a : Nat} (h : ur_base + 10 ≤ a) : a = ur_base + (10 + (a - (ur_base + 10))) := by omega
theorem ur_i_len (hx : p.tables.exec = Jvm.exec) (hb : c.code = cc) (hK : va_K D vwCl (ur_tys cas) s) (hO : ur_Old ad A s) (hdg : decode cc pc = .ok (.arraylength, 1)) {r : List Value} (hs : ∀ s', self s' = some res → ur_Wg p l e R s mid args below meth c D cas b0 ad A nL L0 S0 Q (s')) (h : ur_do self call (ur_rI (ur_len m a) (fun v => (pc + 1, ls, .int v :: r, m))) = some res) : ur_Wg p l e R s mid args below meth c D cas b0 ad A nL L0 S0 Q ((pc, ls, .ref a :: r, m)) := by
  obtain ⟨v, h1, h2⟩ := Option.bind_eq_some_iff.mp h
  simp only [ur_len] at h1
  split at h1
  next t n ho =>
    obtain ⟨hlow, h1⟩ := ur_cond_t h1
    cases h1
    have ht : t < 6 := Nat.le_of_ble_eq_true hlow
    intro lsr H locs cells slots hl h0 hP hD hS q1 q2 q3
    simp only [List.map_cons, ur_cv_in (ur_small ho q1)]
    have hn : (ur_ar b0 m a t n).1 = n := by unfold ur_ar; split <;> rfl
    have hty : ∃ ty, (ur_tys cas)[t]? = some (cas t, ty) := by
      rcases (show t = 0 ∨ t = 1 ∨ t = 2 ∨ t = 3 ∨ t = 4 ∨ t = 5 by omega) with rfl | rfl | rfl | rfl | rfl | rfl <;> exact ⟨_, rfl⟩
    obtain ⟨ty, hty⟩ := hty
    exact va_alen hx hb hK hP a t (ur_ws_A ho) hty (by rw [hn]) hdg (hs _ h2 lsr H locs cells slots hl h0 hP hD hS q1 q2 q3)
  next => cases h1
  next =>
    split at h1
    next t ht =>
      obtain ⟨g1, g2⟩ := ur_cond_t h1
      cases g2
      obtain ⟨hj, g3, g4⟩ := ur_txt_at ht
      have ha : a = ur_base + (10 + (a - (ur_base + 10))) := by have := of_decide_eq_true g1; omega
      generalize a - (ur_base + 10) = j at ha ht hj g3 g4
      subst ha
      obtain ⟨adK, adV, o1, o2, -⟩ := hO
      exact ur_s_nx (fun lsr H locs cells slots _ _ hS k => by
        rw [List.map_cons, ur_cv_old, (o1 j hj).2]
        exact va_tlen hx hb (o2.1 j hj).2.2.2 hS (by rw [g3]) hdg k) (hs _ h2)
    next => cases h1
theorem ur_i_baload (hx : p.tables.exec = Jvm.exec) (hb : c.code = cc) (hK : va_K D vwCl (ur_tys cas) s) (hO : ur_Old ad A s) (hdg : decode cc pc = .ok (.baload, 1)) (hs : ∀ s', self s' = some res → ur_Wg p l e R s mid args below meth c D cas b0 ad A nL L0 S0 Q (s')) (h : ur_do self call (ur_ald ur_aB pc ls st m) = some res) : ur_Wg p l e R s mid args below meth c D cas b0 ad A nL L0 S0 Q ((pc, ls, st, m)) := by
  unfold ur_ald at h
  split at h
  next i a r =>
    obtain ⟨v, h1, h2⟩ := Option.bind_eq_some_iff.mp h
    simp only [ur_aB] at h1
    cases hlo : decide (a < ur_base) with
    | true =>
      rw [hlo] at h1
      simp only [cond_true, ur_aI] at h1
      split at h1
      next n hn =>
        obtain ⟨g1, g2⟩ := ur_cond_t h1
        cases g2
        intro lsr H locs cells slots hl h0 hP hD hS q1 q2 q3
        have ho := ur_isA_t hn
        simp only [List.map_cons, ur_cv_in (ur_small ho q1)]
        exact va_zald hx hb hK hP a 2 (ur_ws_A ho) rfl (ur_inb_t g1) hdg (hs _ h2 lsr H locs cells slots hl h0 hP hD hS q1 q2 q3)
      next => cases h1
    | false =>
      rw [hlo] at h1
      simp only [cond_false] at h1
      split at h1
      next t ht =>
        obtain ⟨g1, g2⟩ := ur_cond_t h1
        cases g2
        simp only [Bool.and_eq_true, decide_eq_true_eq] at g1
        obtain ⟨hj, g3, g4⟩ := ur_txt_at ht
        have ha : a = ur_base + (10 + (a - (ur_base + 10))) := ur_arith g1.1
        generalize a - (ur_base + 10) = j at ha ht hj g3 g4
        subst ha
        obtain ⟨adK, adV, o1, o2, -⟩ := hO
        have hin := ur_inb_t g1.2
        have hlt : i.toNatClampNeg < t.length := Nat.not_le.mp fun q => hin (Or.inr q)
        exact ur_s_nx (fun lsr H locs cells slots _ _ hS k => by
          rw [List.map_cons, List.map_cons, ur_cv_old, (o1 j hj).2]
          refine va_tb hx hb (o2.1 j hj).2.2.2 hS (by rw [g3]; exact hin) ?_ hdg k
          show Value.int _ = Value.int _
          rw [g4]
          congr 1
          simp [List.getD_eq_getElem?_getD, List.getElem?_map, List.getElem?_eq_getElem hlt]) (hs _ h2)
      next => cases h1
  next => cases h
-- switches
def ur_sel (l : List (Int32 × Nat)) (d : Nat) (a : Int32) : Nat := match l with
  | [] => d
  | q :: r => bif decide (a = q.1) then q.2 else ur_sel r d a
theorem ur_sel_do {sw : List (Int32 × Nat)} {d : Nat} {a : Int32} {r : List Value} (h : ur_do self call (some (.inl (sw.map (fun q => (decide (a = q.1), (q.2, ls, r, m))), (d, ls, r, m)))) = some res) : self (ur_sel sw d a, ls, r, m) = some res := by
  induction sw with
  | nil => exact h
  | cons q w ih =>
    have h : (bif decide (a = q.1) then self (q.2, ls, r, m) else ur_do self call (some (.inl (w.map (fun q => (decide (a = q.1), (q.2, ls, r, m))), (d, ls, r, m))))) = some res := h
    show self (ur_sel (q :: w) d a, ls, r, m) = some res
    unfold ur_sel
    cases hq : decide (a = q.1) with
    | true => rw [hq] at h; exact h
    | false => rw [hq] at h; exact ih h
theorem ur_sel_off {pc : Nat} (dflt : Int) : ∀ (sw : List (Int32 × Nat)) (ps : List (Int × Int)) (d : Nat) (a : Int32), sw.map (fun q => (q.1.toInt, (q.2 : Int))) = ps.map (fun q => (q.1, (pc : Int) + q.2)) → (d : Int) = (pc : Int) + dflt → (pc : Int) + Op.lookupswitch.offset ps dflt a.toInt = (ur_sel sw d a : Int)
  | [], [], d, a, _, h => h.symm
  | [], _ :: _, _, _, h, _ => by cases h
  | _ :: _, [], _, _, h, _ => by cases h
  | q :: w, z :: ps, d, a, h, hd => by
    simp only [List.map_cons, List.cons.injEq, Prod.mk.injEq] at h
    obtain ⟨⟨e1, e2⟩, h⟩ := h
    obtain ⟨z1, z2⟩ := z
    rw [Op.lookupswitch.offset_cons]
    unfold ur_sel
    by_cases ha : a = q.1
    · rw [if_pos (by rw [ha]; exact e1.symm), decide_eq_true ha]
      exact e2.symm
    · rw [if_neg (fun q' => ha (Int32.toInt_inj.mp (q'.symm.trans e1.symm))), decide_eq_false ha]
      exact ur_sel_off dflt w ps d a h hd
theorem ur_i_lookup (hx : p.tables.exec = Jvm.exec) (hb : c.code = cc) {sw : List (Int32 × Nat)} {d : Nat} {dflt : Int} {ps : Array (Int × Int)} (hdg : decode cc pc = .ok (.lookupswitch dflt ps, n)) (hp : (ps.toList.zip (ps.toList.drop 1)).all (fun (a, next) => a.1 < next.1) = true) (h1 : sw.map (fun q => (q.1.toInt, (q.2 : Int))) = ps.toList.map (fun q => (q.1, (pc : Int) + q.2))) (h2 : (d : Int) = (pc : Int) + dflt) {w : Int32} {r : List Value} (hs : ur_Wg p l e R s mid args below meth c D cas b0 ad A nL L0 S0 Q ((ur_sel sw d w, ls, r, m))) : ur_Wg p l e R s mid args below meth c D cas b0 ad A nL L0 S0 Q ((pc, ls, .int w :: r, m)) :=
  ur_s_nx (fun lsr H locs cells slots _ _ _ k => lv_lookup hx hb hdg hp rfl (ur_sel_off dflt sw ps.toList d w h1 h2) k) hs
theorem ur_sel_tab {pc : Nat} (dflt : Int) : ∀ (sw : List (Int32 × Nat)) (offs : List Int) (lo : Int) (d : Nat) (a : Int32), sw.map (fun q => (q.1.toInt, (q.2 : Int))) = (List.range offs.length).map (fun (j : Nat) => (lo + (j : Int), (pc : Int) + offs.getD j 0)) → ((a.toInt < lo ∨ lo + offs.length ≤ a.toInt) → ur_sel sw d a = d) ∧ (lo ≤ a.toInt → a.toInt < lo + offs.length → (pc : Int) + offs.getD (a.toInt - lo).toNat 0 = (ur_sel sw d a : Int))
  | [], [], lo, d, a, _ => ⟨fun _ => rfl, fun h1 h2 => by simp at h2; omega⟩
  | [], _ :: _, _, _, _, h => by simp [List.range_succ_eq_map] at h
  | _ :: _, [], _, _, _, h => by simp at h
  | q :: w, o :: offs, lo, d, a, h => by
    simp only [List.length_cons, List.range_succ_eq_map, List.map_cons, List.map_map, List.cons.injEq, Prod.mk.injEq] at h
    obtain ⟨⟨e1, e2⟩, h⟩ := h
    have ih := ur_sel_tab (pc := pc) dflt w offs (lo + 1) d a (by
      rw [h]
      apply List.map_congr_left
      intro j _
      simp only [Function.comp_apply, Nat.succ_eq_add_one, List.getD_cons_succ, Prod.mk.injEq, and_true]
      omega)
    have e1' : q.1.toInt = lo := by simpa using e1
    have e2' : (q.2 : Int) = (pc : Int) + o := by simpa using e2
    unfold ur_sel
    by_cases ha : a = q.1
    · have hlo : a.toInt = lo := by rw [ha]; exact e1'
      rw [decide_eq_true ha]
      refine ⟨fun z => ?_, fun _ _ => ?_⟩
      · simp only [List.length_cons] at z; omega
      · rw [hlo]; simp [e2']
    · have hne : a.toInt ≠ lo := fun z => ha (Int32.toInt_inj.mp (by rw [z]; exact e1'.symm))
      rw [decide_eq_false ha]
      simp only [cond_false]
      refine ⟨fun z => ih.1 ?_, fun z1 z2 => ?_⟩
      · simp only [List.length_cons] at z; omega
      · simp only [List.length_cons] at z2
        have h3 := ih.2 (by omega) (by omega)
        rw [← h3, show (a.toInt - lo).toNat = (a.toInt - (lo + 1)).toNat + 1 by omega, List.getD_cons_succ]
theorem ur_i_table (hx : p.tables.exec = Jvm.exec) (hb : c.code = cc) {sw : List (Int32 × Nat)} {d : Nat} {dflt lo hi : Int} {offs : Array Int} (hdg : decode cc pc = .ok (.tableswitch dflt lo hi offs, n)) (h1 : sw.map (fun q => (q.1.toInt, (q.2 : Int))) = (List.range offs.toList.length).map (fun (j : Nat) => (lo + (j : Int), (pc : Int) + offs.toList.getD j 0))) (h2 : (pc : Int) + dflt = (d : Int)) (h3 : hi + 1 = lo + offs.toList.length) {w : Int32} {r : List Value} (hs : ur_Wg p l e R s mid args below meth c D cas b0 ad A nL L0 S0 Q ((ur_sel sw d w, ls, r, m))) : ur_Wg p l e R s mid args below meth c D cas b0 ad A nL L0 S0 Q ((pc, ls, .int w :: r, m)) := by
  have hsel := ur_sel_tab (pc := pc) dflt sw offs.toList lo d w h1
  by_cases hin : w.toInt < lo ∨ hi < w.toInt
  · rw [hsel.1 (by omega)] at hs
    exact ur_s_nx (fun lsr H locs cells slots _ _ _ k => lv_tableOut hx hb hdg hin h2 k) hs
  · have hlt : (w.toInt - lo).toNat < offs.toList.length := by omega
    refine ur_s_nx (fun lsr H locs cells slots _ _ _ k => lv_tableIn (off := offs.toList.getD (w.toInt - lo).toNat 0) hx hb hdg (fun q => hin (Or.inl q)) (fun q => hin (Or.inr q)) ?_ (hsel.2 (by omega) (by omega)) k) hs
    rw [← Array.getElem?_toList, List.getD_eq_getElem?_getD, List.getElem?_eq_getElem hlt]
    rfl
end URO
end
section
/-! ONE STEP: new cells, copies, Object.<init>, returns -/
section URN
variable {p : Program} {l : Launch} {e : Env} {R : Room} {s : State} {mid : MethodId} {args : Array Value} {below : List Frame} {meth : Method} {c : Code} {D : va_G} {cas : Nat → ClassId} {b0 : Nat} {ad : Nat → Value} {A : Nat → Prop} {nL L0 S0 : Nat} {Q : State → Prop}
variable {cc : ByteArray} {own : String} {pc pc' n x a ci k t : Nat} {i v : Int32} {ls ls' : List (Option Value)} {st st' : List Value} {m m' : ur_M} {self : ur_S → Option ur_V} {call : Nat → List Value → ur_M → Option ur_V} {res : ur_V}
/-- where a new cell comes to lie -/
theorem ur_addr {H1 : Heap} {q cells : Nat} {w : va_E} {locs : List Loc} {slots : Nat} {T : State} (X : Stand p l e R s mid args below meth c T locs (cells + 1) slots) (hT : T.heap = H1) (hb : s.heap.size = b0 + L0) (hc : cells + L0 = m.1.length) (hAb : ∀ z, A z → b0 ≤ z) (hP : va_P D vwCl (ur_ws b0 cas m ++ [(q, w)]) H1) (hD : va_D A (ur_ws b0 cas m ++ [(q, w)])) : q = b0 + m.1.length := by
  have hl : (ur_ws b0 cas m).length = m.1.length := by simp [ur_ws]
  have hq : (ur_ws b0 cas m ++ [(q, w)])[m.1.length]? = some (q, w) := by
    rw [List.getElem?_append_right (by omega), hl]; simp
  have h1 : q < H1.size := (hP _ _ hq).lt
  have h2 : b0 ≤ q := hAb q (hD.2 _ _ hq)
  have h3 : H1.size ≤ s.heap.size + (cells + 1) := by
    have := X.same.2.2.1
    have e1 : (T.setVm s.vm).heap = T.heap := rfl
    rw [e1, hT] at this
    exact this
  rcases Nat.lt_or_ge (q - b0) m.1.length with h | h
  · exfalso
    have h4 : (ur_ws b0 cas m ++ [(q, w)])[q - b0]? = some (b0 + (q - b0), ur_ce b0 cas m (q - b0)) := by
      rw [List.getElem?_append_left (by omega), ur_ws_at h]
    have h5 := hD.1 _ _ _ _ h4 hq (by show b0 + (q - b0) = q; omega)
    omega
  · omega
theorem ur_kof {cA : ClassId} {ty : FieldType} (hK : va_K D vwCl (ur_tys cas) s) (hK1 : va_K D vwCl (ur_tys cas ++ [(cA, ty)]) s) (ht : (ur_tys cas)[t]? = some (cas t, ty)) : cA = cas t := by
  have h1 := (hK.2 t _ ht).2
  have h2 := (hK1.2 (ur_tys cas).length (cA, ty) (by simp)).2
  cases ty with
  | object C =>
    obtain ⟨_, _, _, _, _, e1⟩ := h1
    obtain ⟨_, _, _, _, _, e2⟩ := h2
    exact Option.some.inj (e2.symm.trans e1)
  | _ => exact Option.some.inj (h2.symm.trans h1)
theorem ur_new_ce {z : Nat ⊕ (Nat × Nat)} (hm : m' = (m.1 ++ [z], ur_row m.2.1 m.1.length (fun _ => 0), ur_row m.2.2.1 m.1.length (fun _ => 0), ur_row m.2.2.2 m.1.length (fun _ => none))) : ∀ b, b < m.1.length → ur_ce b0 cas m' b = ur_ce b0 cas m b := by
  intro b hb
  subst hm
  exact ur_ce_congr (List.getElem?_append_left hb) (ur_row_ne (by omega)) (ur_row_ne (by omega)) (ur_row_ne (by omega))
/-- a new array of numbers -/
theorem ur_i_newa (hx : p.tables.exec = Jvm.exec) (hb : c.code = cc) (hK : va_K D vwCl (ur_tys cas) s) (hA : ∀ q, s.heap.size ≤ q → A q) (hAb : ∀ z, A z → b0 ≤ z) (hZ : s.heap.size = b0 + L0 ∨ res.2.1.length = L0) {at' : ArrayType} (hat : ur_atc at' = some t) (harr : (Cond.arrayClass (newarray.typeOf at')).before args s = true) (hdg : decode cc pc = .ok (.newarray at', 2)) {r : List Value} (hgrow : ∀ s', self s' = some res → s'.2.2.2.1.length ≤ res.2.1.length ∧ ur_sl s'.2.2.2.1 ≤ ur_sl res.2.1) (hR : res.2.1.length ≤ R.cells + L0 ∧ ur_sl res.2.1 ≤ R.slots + S0) (hs : ∀ s', self s' = some res → ur_Wg p l e R s mid args below meth c D cas b0 ad A nL L0 S0 Q (s')) (h : ur_do self call (ur_rM (ur_nA m t i) (fun m' => (pc + 2, ls, .ref m.1.length :: r, m'))) = some res) : ur_Wg p l e R s mid args below meth c D cas b0 ad A nL L0 S0 Q ((pc, ls, .int i :: r, m)) := by
  obtain ⟨m', h1, h2⟩ := Option.bind_eq_some_iff.mp h
  obtain ⟨g1, g2⟩ := ur_cond_t h1
  simp only [Bool.and_eq_true, decide_eq_true_eq] at g1
  obtain ⟨g0, g3, g4⟩ := g1
  have g0 : m.1.length < 1000 := Nat.le_of_ble_eq_true g0
  have hm := (Option.some.inj g2).symm
  have hsh : m'.1 = m.1 ++ [.inr (t, i.toNatClampNeg)] := by rw [hm]
  have hgr := hgrow _ h2
  have hl1 : m'.1.length = m.1.length + 1 := by rw [hsh]; simp
  have hs1 : ur_sl m'.1 = ur_sl m.1 + i.toNatClampNeg := by rw [hsh, ur_sl_app]; simp [ur_sl]
  have hgr1 : m'.1.length ≤ res.2.1.length := hgr.1
  have hgr2 : ur_sl m'.1 ≤ ur_sl res.2.1 := hgr.2
  have hbound : i.toNatClampNeg ≤ 65536 := by
    have := Int32.le_iff_toInt_le.mp g4
    have e1 : (65536 : Int32).toInt = 65536 := by decide
    rw [e1] at this
    show i.toInt.toNat ≤ 65536
    omega
  intro lsr H locs cells slots hl h0 hP hD hS q1 q2 q3
  have q2 : cells + L0 = m.1.length := q2
  have hP : va_P D vwCl (ur_ws b0 cas m) H := hP
  have hD : va_D A (ur_ws b0 cas m) := hD
  have q3 : slots + S0 = ur_sl m.1 := q3
  have hbase : s.heap.size = b0 + L0 := by
    rcases hZ with z | z
    · exact z
    · omega
  have hty : (ur_tys cas)[t]? = some (cas t, newarray.typeOf at') ∧ (∀ cA : ClassId, vp_cell cA (ur_ar b0 m' m.1.length t i.toNatClampNeg) = arrV cA i.toNatClampNeg (fun _ => defaultValue (newarray.typeOf at'))) ∧ componentBytes (newarray.typeOf at') ≤ 8 := by
    subst hm
    cases at' <;> simp [ur_atc] at hat <;> subst hat <;> refine ⟨rfl, fun cA => ?_, by decide⟩ <;> simp only [ur_ar, ur_row_at] <;> rfl
  refine va_newa (a0 := ur_ar b0 m' m.1.length t i.toNatClampNeg) hx hb harr rfl hK hP hD hS hA hty.2.1 (Int32.not_lt.mpr g3) rfl (by have := hty.2.2; calc i.toNatClampNeg * componentBytes (newarray.typeOf at') ≤ 65536 * 8 := Nat.mul_le_mul hbound this
          _ ≤ 536870912 := by decide) (by omega) (by omega) hdg (fun q cA H1 hK1 hP1 hD1 hS1 => ?_)
  intro T hT X
  have hq := ur_addr X hT hbase q2 hAb hP1 hD1
  have hcA := ur_kof hK hK1 hty.1
  subst hq; subst hcA
  have hw : ur_ws b0 cas m ++ [(b0 + m.1.length, .inl (cas t, ur_ar b0 m' m.1.length t i.toNatClampNeg))] = ur_ws b0 cas m' := by
    rw [ur_ws_push hsh (ur_new_ce hm), ur_ce_A (show m'.1[m.1.length]? = some (.inr (t, i.toNatClampNeg)) by rw [hsh]; simp)]
  rw [hw] at hP1 hD1
  have hg := hs _ h2 lsr H1 locs (cells + 1) (slots + i.toNatClampNeg) hl h0 hP1 hD1 hS1 (by show m'.1.length ≤ 1000; omega) (by show _ = m'.1.length; omega) (by show _ = ur_sl m'.1; omega)
  rw [List.map_cons, ur_cv_in (show m.1.length < ur_base by unfold ur_base; omega)] at hg
  exact hg T hT X
/-- a new array of objects -/
theorem ur_i_newq (hx : p.tables.exec = Jvm.exec) (hb : c.code = cc) (hK : va_K D vwCl (ur_tys cas) s) (hA : ∀ q, s.heap.size ≤ q → A q) (hAb : ∀ z, A z → b0 ≤ z) (hZ : s.heap.size = b0 + L0 ∨ res.2.1.length = L0) (hown : s.vm.findClass own = some mid.cls) {C : String} {idx : Nat} (hclink : (Cond.classLink own idx C).before args s = true) (hover : va_AO C s) (ht : t = 4 ∨ t = 5) (hty : (ur_tys cas)[t]? = some (cas t, .object C)) (hdg : decode cc pc = .ok (.anewarray idx, 3)) {r : List Value} (hgrow : ∀ s', self s' = some res → s'.2.2.2.1.length ≤ res.2.1.length ∧ ur_sl s'.2.2.2.1 ≤ ur_sl res.2.1) (hR : res.2.1.length ≤ R.cells + L0 ∧ ur_sl res.2.1 ≤ R.slots + S0) (hs : ∀ s', self s' = some res → ur_Wg p l e R s mid args below meth c D cas b0 ad A nL L0 S0 Q (s')) (h : ur_do self call (ur_rM (ur_nA m t i) (fun m' => (pc + 3, ls, .ref m.1.length :: r, m'))) = some res) : ur_Wg p l e R s mid args below meth c D cas b0 ad A nL L0 S0 Q ((pc, ls, .int i :: r, m)) := by
  obtain ⟨m', h1, h2⟩ := Option.bind_eq_some_iff.mp h
  obtain ⟨g1, g2⟩ := ur_cond_t h1
  simp only [Bool.and_eq_true, decide_eq_true_eq] at g1
  obtain ⟨g0, g3, g4⟩ := g1
  have g0 : m.1.length < 1000 := Nat.le_of_ble_eq_true g0
  have hm := (Option.some.inj g2).symm
  have hsh : m'.1 = m.1 ++ [.inr (t, i.toNatClampNeg)] := by rw [hm]
  have hgr := hgrow _ h2
  have hl1 : m'.1.length = m.1.length + 1 := by rw [hsh]; simp
  have hs1 : ur_sl m'.1 = ur_sl m.1 + i.toNatClampNeg := by rw [hsh, ur_sl_app]; simp [ur_sl]
  have hgr1 : m'.1.length ≤ res.2.1.length := hgr.1
  have hgr2 : ur_sl m'.1 ≤ ur_sl res.2.1 := hgr.2
  have hbound : i.toNatClampNeg ≤ 65536 := by
    have := Int32.le_iff_toInt_le.mp g4
    have e1 : (65536 : Int32).toInt = 65536 := by decide
    rw [e1] at this
    show i.toInt.toNat ≤ 65536
    omega
  intro lsr H locs cells slots hl h0 hP hD hS q1 q2 q3
  have q2 : cells + L0 = m.1.length := q2
  have hP : va_P D vwCl (ur_ws b0 cas m) H := hP
  have hD : va_D A (ur_ws b0 cas m) := hD
  have q3 : slots + S0 = ur_sl m.1 := q3
  have hbase : s.heap.size = b0 + L0 := by
    rcases hZ with z | z
    · exact z
    · omega
  have har : ur_ar b0 m' m.1.length t i.toNatClampNeg = (i.toNatClampNeg, .inr (.inr (.inr (.inr (fun _ => none))))) := by
    subst hm
    rcases ht with rfl | rfl <;> simp only [ur_ar, ur_row_at] <;> rfl
  refine va_newq hx hb hown hclink hover hK hP hD hS hA (Int32.not_lt.mpr g3) rfl (by omega) (by omega) (by omega) hdg (fun q cA H1 hK1 hP1 hD1 hS1 => ?_)
  intro T hT X
  have hq := ur_addr X hT hbase q2 hAb hP1 hD1
  have hcA := ur_kof hK hK1 hty
  subst hq; subst hcA
  have hw : ur_ws b0 cas m ++ [(b0 + m.1.length, .inl (cas t, i.toNatClampNeg, .inr (.inr (.inr (.inr (fun _ => none))))))] = ur_ws b0 cas m' := by
    rw [ur_ws_push hsh (ur_new_ce hm), ur_ce_A (show m'.1[m.1.length]? = some (.inr (t, i.toNatClampNeg)) by rw [hsh]; simp), har]
  rw [hw] at hP1 hD1
  have hg := hs _ h2 lsr H1 locs (cells + 1) (slots + i.toNatClampNeg) hl h0 hP1 hD1 hS1 (by show m'.1.length ≤ 1000; omega) (by show _ = m'.1.length; omega) (by show _ = ur_sl m'.1; omega)
  rw [List.map_cons, ur_cv_in (show m.1.length < ur_base by unfold ur_base; omega)] at hg
  exact hg T hT X
/-- a new object -/
theorem ur_i_new (hx : p.tables.exec = Jvm.exec) (hb : c.code = cc) (hts : ∀ w ∈ ur_T, w.before args s = true) (hK : va_K D vwCl (ur_tys cas) s) (hA : ∀ q, s.heap.size ≤ q → A q) (hAb : ∀ z, A z → b0 ≤ z) (hZ : s.heap.size = b0 + L0 ∨ res.2.1.length = L0) (hown : s.vm.findClass own = some mid.cls) {C : String} {T : u_T} {idx N : Nat} (hc : vwCl[ci]? = some (C, T, N)) (hin : ∀ w ∈ u_ws C T N, w ∈ ur_T) (hN : N = ur_nf ci) (ty : Nat → FieldType) (hty : ∀ k, k < N → parseFieldDescriptor (T k).2.2.1 = some (ty k)) (hkd : ∀ k, k < N → defaultValue (ty k) = (match ur_kd ci k with | 2 => .long 0 | 3 => .null | _ => .int 0)) (hclink : (Cond.classLink own idx C).before args s = true) (hinst : (Cond.instantiable C N).before args s = true) (hini : (Cond.initialized C).before args s = true) (hdg : decode cc pc = .ok (.new idx, 3)) (hgrow : ∀ s', self s' = some res → s'.2.2.2.1.length ≤ res.2.1.length ∧ ur_sl s'.2.2.2.1 ≤ ur_sl res.2.1) (hR : res.2.1.length ≤ R.cells + L0 ∧ ur_sl res.2.1 ≤ R.slots + S0) (hs : ∀ s', self s' = some res → ur_Wg p l e R s mid args below meth c D cas b0 ad A nL L0 S0 Q (s')) (h : ur_do self call (ur_rM (ur_nO m ci) (fun m' => (pc + 3, ls, .ref m.1.length :: st, m'))) = some res) : ur_Wg p l e R s mid args below meth c D cas b0 ad A nL L0 S0 Q ((pc, ls, st, m)) := by
  obtain ⟨m', h1, h2⟩ := Option.bind_eq_some_iff.mp h
  obtain ⟨g0, g2⟩ := ur_cond_t h1
  have g0 : m.1.length < 1000 := Nat.le_of_ble_eq_true g0
  have hm := (Option.some.inj g2).symm
  have hsh : m'.1 = m.1 ++ [.inl ci] := by rw [hm]
  have hgr := hgrow _ h2
  have hl1 : m'.1.length = m.1.length + 1 := by rw [hsh]; simp
  have hs1 : ur_sl m'.1 = ur_sl m.1 + N := by rw [hsh, ur_sl_app]; simp [ur_sl, hN]
  have hgr1 : m'.1.length ≤ res.2.1.length := hgr.1
  have hgr2 : ur_sl m'.1 ≤ ur_sl res.2.1 := hgr.2
  intro lsr H locs cells slots hl h0 hP hD hS q1 q2 q3
  have q2 : cells + L0 = m.1.length := q2
  have hP : va_P D vwCl (ur_ws b0 cas m) H := hP
  have hD : va_D A (ur_ws b0 cas m) := hD
  have q3 : slots + S0 = ur_sl m.1 := q3
  have hbase : s.heap.size = b0 + L0 := by
    rcases hZ with z | z
    · exact z
    · omega
  have hfs : ∀ j, j < N → defaultValue (ty j) = vp_V (ur_fs b0 m' m.1.length ci) j := by
    intro j hj
    rw [hkd j hj]
    unfold vp_V
    rw [List.getD_eq_getElem?_getD, ur_fs_at (by rw [← hN]; exact hj)]
    subst hm
    simp only [Option.getD_some, ur_fv, ur_row_at]
    generalize ur_kd ci j = kd
    match kd with
    | 0 => rfl
    | 1 => rfl
    | 2 => rfl
    | 3 => rfl
    | _ + 4 => rfl
  refine va_new (fs := ur_fs b0 m' m.1.length ci) hx hb hts hin ty hty hown hclink hinst hini hK hP hD hS hA hc hfs (by omega) (by omega) hdg (fun q H1 hP1 hD1 hS1 => ?_)
  intro T hT X
  have hq := ur_addr X hT hbase q2 hAb hP1 hD1
  subst hq
  have hw : ur_ws b0 cas m ++ [(b0 + m.1.length, .inr (ci, ur_fs b0 m' m.1.length ci))] = ur_ws b0 cas m' := by
    rw [ur_ws_push hsh (ur_new_ce hm), ur_ce_O (show m'.1[m.1.length]? = some (.inl ci) by rw [hsh]; simp)]
  rw [hw] at hP1 hD1
  have hg := hs _ h2 lsr H1 locs (cells + 1) (slots + N) hl h0 hP1 hD1 hS1 (by show m'.1.length ≤ 1000; omega) (by show _ = m'.1.length; omega) (by show _ = ur_sl m'.1; omega)
  rw [List.map_cons, ur_cv_in (show m.1.length < ur_base by unfold ur_base; omega)] at hg
  exact hg T hT X
/-- System.arraycopy -/
theorem ur_i_copy (hx : p.tables.exec = Jvm.exec) (hb : c.code = cc) (hml : c.maxLocals = nL) (hK : va_K D vwCl (ur_tys cas) s) (hown : s.vm.findClass own = some mid.cls) {idx : Nat} (hlink : (Cond.methodLink own idx arraycopyName).before args s = true) (hnat : (Cond.native arraycopyName).before args s = true) (hstat : (Cond.static arraycopyName).before args s = true) (hini : (Cond.initialized "java/lang/System").before args s = true) (hR : 1 ≤ R.frames ∧ 64 ≤ R.locals) {b : Nat} {j w : Int32} {r : List Value} (hr : ((r.map (ur_cv b0 ad)).map fun v => v.category).sum ≤ 8) (hdg : decode cc pc = .ok (.invokestatic idx, 3)) (hs : ∀ s', self s' = some res → ur_Wg p l e R s mid args below meth c D cas b0 ad A nL L0 S0 Q (s')) (h : ur_do self call (ur_rM (ur_cpy m a i b j w) (fun m => (pc + 3, ls, r, m))) = some res) : ur_Wg p l e R s mid args below meth c D cas b0 ad A nL L0 S0 Q ((pc, ls, .int w :: .int j :: .ref b :: .int i :: .ref a :: r, m)) := by
  obtain ⟨m', h1, h2⟩ := Option.bind_eq_some_iff.mp h
  simp only [ur_cpy] at h1
  split at h1
  next p q hp hq =>
    obtain ⟨g1, g2⟩ := ur_cond_t h1
    simp only [Bool.and_eq_true, decide_eq_true_eq] at g1
    obtain ⟨⟨z1, z2⟩, z3, z4, z5⟩ := g1
    have ha := ur_isA_t hp
    have hb' := ur_isA_t hq
    intro lsr H locs cells slots hl h0 hP hD hS q1 q2 q3
    simp only [List.map_cons, ur_cv_in (ur_small ha q1), ur_cv_in (ur_small hb' q1)]
    have hnw : nativeFrameWords "java/lang/System" "arraycopy" 5 = 7 := by decide
    refine va_copyi hx hb (by rw [hml, hl.1]; exact h0.symm) hown hlink hnat hstat hini hK hP hD hS a b 0 0 (ur_ws_A ha) (ur_ws_A hb') rfl rfl rfl (Int32.not_lt.mpr z1) (Int32.not_lt.mpr z2) (Int32.not_lt.mpr z3) z4 z5 (fun _ _ => rfl) hR.1 (by rw [hnw]; exact Nat.le_trans (Nat.add_le_add_right hr 18) (Nat.le_trans (by decide) hR.2)) hdg (fun H1 locs1 p1 p2 p3 => ?_)
    have hsh : m'.1 = m.1 := by rw [← Option.some.inj g2]
    rw [ur_ws_arr (m' := m') hb' hsh (fun z hz => by rw [← Option.some.inj g2]; exact ⟨ur_row_ne hz, rfl, rfl⟩) (by rw [← Option.some.inj g2]; simp only [ur_ar, ur_row_at])] at p1 p2
    exact hs _ h2 lsr H1 locs1 cells slots hl h0 p1 p2 p3 (by show m'.1.length ≤ 1000; rw [hsh]; exact q1) (by show _ = m'.1.length; rw [hsh]; exact q2) (by show _ = ur_sl m'.1; rw [hsh]; exact q3)
  next => cases h1
/-- Object.<init> -/
theorem ur_i_oin (hx : p.tables.exec = Jvm.exec) (hb : c.code = cc) (hml : c.maxLocals = nL) (hown : s.vm.findClass own = some mid.cls) {idx : Nat} (hlink : (Cond.methodLink own idx Lib.objectInit).before args s = true) (hinst : (Cond.instanceMethod Lib.objectInit).before args s = true) (hcode : (Cond.code Lib.objectInit ⟨#[0xb1]⟩ 1 none).before args s = true) (hR : 1 ≤ R.frames ∧ 64 ≤ R.locals) {r : List Value} (hr : ((r.map (ur_cv b0 ad)).map fun v => v.category).sum ≤ 8) (ha : a < ur_base) (hdg : decode cc pc = .ok (.invokespecial idx, 3)) (hs : ur_Wg p l e R s mid args below meth c D cas b0 ad A nL L0 S0 Q ((pc + 3, ls, r, m))) : ur_Wg p l e R s mid args below meth c D cas b0 ad A nL L0 S0 Q ((pc, ls, .ref a :: r, m)) := by
  intro lsr H locs cells slots hl h0 hP hD hS q1 q2 q3
  simp only [List.map_cons, ur_cv_in ha]
  exact W.objInit hx hb hown hlink hinst hcode rfl (by rw [hml]; exact hl.1.trans h0) rfl hdg hR.1 (by show 2 * 0 + _ + 12 ≤ _; omega) (hs lsr H locs cells slots hl h0 hP hD hS q1 q2 q3)
/-- Math.max, Math.min -/
theorem ur_i_max (hx : p.tables.exec = Jvm.exec) (hb : c.code = cc) (hml : c.maxLocals = nL) (hown : s.vm.findClass own = some mid.cls) {idx : Nat} (hlink : (Cond.methodLink own idx Lib.Math.max.name).before args s = true) (hstat : (Cond.static Lib.Math.max.name).before args s = true) (hini : (Cond.initialized "java/lang/Math").before args s = true) (hcode : (Cond.code Lib.Math.max.name Lib.Math.max.code 2 (some .int)).before args s = true) (hR : 1 ≤ R.frames ∧ 64 ≤ R.locals) (hR2 : m.1.length ≤ R.cells + L0 ∧ ur_sl m.1 ≤ R.slots + S0) {r : List Value} {a b : Int32} (hr : ((r.map (ur_cv b0 ad)).map fun v => v.category).sum ≤ 8) (hdg : decode cc pc = .ok (.invokestatic idx, 3)) (hs : ur_Wg p l e R s mid args below meth c D cas b0 ad A nL L0 S0 Q ((pc + 3, ls, .int (ur_mx a b) :: r, m))) : ur_Wg p l e R s mid args below meth c D cas b0 ad A nL L0 S0 Q ((pc, ls, .int b :: .int a :: r, m)) := by
  intro lsr H locs cells slots hl h0 hP hD hS q1 q2 q3
  have q2 : cells + L0 = m.1.length := q2
  have q3 : slots + S0 = ur_sl m.1 := q3
  exact va_mmax hx hb (by rw [hml, hl.1]; exact h0.symm) hown hlink hstat hini hcode hR.1 (by omega) (by omega) (by omega) hdg (hs lsr H locs cells slots hl h0 hP hD hS q1 q2 q3)
theorem ur_i_min (hx : p.tables.exec = Jvm.exec) (hb : c.code = cc) (hml : c.maxLocals = nL) (hown : s.vm.findClass own = some mid.cls) {idx : Nat} (hlink : (Cond.methodLink own idx Lib.Math.min.name).before args s = true) (hstat : (Cond.static Lib.Math.min.name).before args s = true) (hini : (Cond.initialized "java/lang/Math").before args s = true) (hcode : (Cond.code Lib.Math.min.name Lib.Math.min.code 2 (some .int)).before args s = true) (hR : 1 ≤ R.frames ∧ 64 ≤ R.locals) (hR2 : m.1.length ≤ R.cells + L0 ∧ ur_sl m.1 ≤ R.slots + S0) {r : List Value} {a b : Int32} (hr : ((r.map (ur_cv b0 ad)).map fun v => v.category).sum ≤ 8) (hdg : decode cc pc = .ok (.invokestatic idx, 3)) (hs : ur_Wg p l e R s mid args below meth c D cas b0 ad A nL L0 S0 Q ((pc + 3, ls, .int (ur_mn a b) :: r, m))) : ur_Wg p l e R s mid args below meth c D cas b0 ad A nL L0 S0 Q ((pc, ls, .int b :: .int a :: r, m)) := by
  intro lsr H locs cells slots hl h0 hP hD hS q1 q2 q3
  have q2 : cells + L0 = m.1.length := q2
  have q3 : slots + S0 = ur_sl m.1 := q3
  exact va_mmin hx hb (by rw [hml, hl.1]; exact h0.symm) hown hlink hstat hini hcode hR.1 (by omega) (by omega) (by omega) hdg (hs lsr H locs cells slots hl h0 hP hD hS q1 q2 q3)
end URN
end
section
/-! MEMORY ONLY GROWS -/
def ur_le (m m' : ur_M) : Prop := m.1.length ≤ m'.1.length ∧ ur_sl m.1 ≤ ur_sl m'.1
def ur_gA (m : ur_M) (o : Option ur_A) : Prop := match o with
  | none => True
  | some (.inl (bs, s)) => (∀ q ∈ bs, q.2.2.2.2 = m) ∧ s.2.2.2 = m
  | some (.inr (.inl r)) => ∀ v, r = some v → v.2 = m
  | some (.inr (.inr (.inl (_, _, m', f)))) => m' = m ∧ ∀ v m2, (f v m2).2.2.2 = m2
  | some (.inr (.inr (.inr (.inl (_, f))))) => ∀ v, (f v).2.2.2 = m
  | some (.inr (.inr (.inr (.inr (.inl (_, f)))))) => ∀ v, (f v).2.2.2 = m
  | some (.inr (.inr (.inr (.inr (.inr (.inl (_, f))))))) => ∀ v, (f v).2.2.2 = m
  | some (.inr (.inr (.inr (.inr (.inr (.inr (o, f))))))) => (∀ m', o = some m' → ur_le m m') ∧ ∀ m', (f m').2.2.2 = m'
section URG
variable {m m' : ur_M} {a ci k t n x pc : Nat} {i v : Int32} {ls : List (Option Value)} {st : List Value}
theorem ur_le_same (h : m'.1 = m.1) : ur_le m m' := by unfold ur_le; rw [h]; exact ⟨Nat.le_refl _, Nat.le_refl _⟩
theorem ur_le_push {z : Nat ⊕ (Nat × Nat)} (h : m'.1 = m.1 ++ [z]) : ur_le m m' := by
  unfold ur_le; rw [h, ur_sl_app, List.length_append]; exact ⟨Nat.le_add_right _ _, Nat.le_add_right _ _⟩
theorem ur_g_nx : ur_gA m (ur_nx pc ls st m) := ⟨fun _ h => (by cases h), rfl⟩
theorem ur_g_pI (h : ur_pI m a ci k v = some m') : ur_le m m' := by
  obtain ⟨-, h⟩ := ur_cond_t h; cases h; exact ur_le_same rfl
theorem ur_g_pZ (h : ur_pZ m a ci k v = some m') : ur_le m m' := by
  obtain ⟨-, h⟩ := ur_cond_t h; exact ur_g_pI h
theorem ur_g_pL {v : Int64} (h : ur_pL m a ci k v = some m') : ur_le m m' := by
  obtain ⟨-, h⟩ := ur_cond_t h; cases h; exact ur_le_same rfl
theorem ur_g_pR {v : Nat} (h : ur_pR m a ci k v = some m') : ur_le m m' := by
  obtain ⟨-, h⟩ := ur_cond_t h; cases h; exact ur_le_same rfl
theorem ur_g_wI (h : ur_wI m a t i v = some m') : ur_le m m' := by
  unfold ur_wI at h; split at h
  · obtain ⟨-, h⟩ := ur_cond_t h; cases h; exact ur_le_same rfl
  · cases h
theorem ur_g_wL {v : Int64} (h : ur_wL m a i v = some m') : ur_le m m' := by
  unfold ur_wL at h; split at h
  · obtain ⟨-, h⟩ := ur_cond_t h; cases h; exact ur_le_same rfl
  · cases h
theorem ur_g_wR {v : Nat} (h : ur_wR m a i v = some m') : ur_le m m' := by
  unfold ur_wR at h; split at h
  · obtain ⟨-, h⟩ := ur_cond_t h; cases h; exact ur_le_same rfl
  · cases h
theorem ur_g_cpy {b : Nat} {j w : Int32} (h : ur_cpy m a i b j w = some m') : ur_le m m' := by
  unfold ur_cpy at h; split at h
  · obtain ⟨-, h⟩ := ur_cond_t h; cases h; exact ur_le_same rfl
  · cases h
theorem ur_g_nA (h : ur_nA m t i = some m') : ur_le m m' := by
  obtain ⟨-, h⟩ := ur_cond_t h; cases h; exact ur_le_push rfl
theorem ur_g_nO (h : ur_nO m ci = some m') : ur_le m m' := by
  obtain ⟨-, h⟩ := ur_cond_t h; cases h; exact ur_le_push rfl
theorem ur_g_lib0 : ur_gA m (ur_lib0 pc ls st m) := by
  unfold ur_lib0
  split
  · rename_i r
    cases Nat.ble (ur_cs r) 8 with
    | true => exact ⟨fun _ h => ur_g_cpy h, fun _ => rfl⟩
    | false => trivial
  · trivial
theorem ur_g_lib1 : ur_gA m (ur_lib1 pc ls st m) := by
  unfold ur_lib1
  split
  · rename_i a r
    cases (Nat.ble (ur_cs r) 8 && decide (a < ur_base)) with
    | true => exact ur_g_nx
    | false => trivial
  · trivial
theorem ur_g_lib2 {f : Int32 → Int32 → Int32} : ur_gA m (ur_lib2 f pc ls st m) := by
  unfold ur_lib2
  split
  · rename_i r
    cases Nat.ble (ur_cs r) 8 with
    | true => exact ur_g_nx
    | false => trivial
  · trivial
theorem ur_gcd {b : Bool} {x y : Option ur_A} (hx : ur_gA m x) (hy : ur_gA m y) : ur_gA m (bif b then x else y) := by cases b <;> assumption
theorem ur_g_lib : ur_gA m (ur_lib x pc ls st m) := by
  unfold ur_lib
  exact ur_gcd ur_g_lib0 (ur_gcd ur_g_lib1 (ur_gcd ur_g_lib2 (ur_gcd ur_g_lib2 trivial)))
theorem ur_g_inv : ur_gA m (ur_inv x pc ls st m) := by
  unfold ur_inv
  exact ur_gcd (ur_gcd ⟨rfl, fun _ _ => rfl⟩ trivial) ur_g_lib
theorem ur_g_sti : ur_gA m (ur_sti k n pc ls st m) := by
  unfold ur_sti
  split
  · cases Nat.blt k ls.length with
    | true => exact ur_g_nx
    | false => trivial
  · trivial
theorem ur_g_sta : ur_gA m (ur_sta k n pc ls st m) := by
  unfold ur_sta
  split
  · cases Nat.blt k ls.length with
    | true => exact ur_g_nx
    | false => trivial
  · trivial
theorem ur_g_stl : ur_gA m (ur_stl k n pc ls st m) := by
  unfold ur_stl
  split
  · cases Nat.blt (k + 1) ls.length with
    | true => exact ur_g_nx
    | false => trivial
  · trivial
theorem ur_g_if1 {c : ClassFile.Cond} : ur_gA m (ur_if1 c x pc ls st m) := by
  unfold ur_if1
  split
  · exact ⟨fun q h => (by rw [List.mem_singleton.mp h]), rfl⟩
  · trivial
theorem ur_g_if2 {c : ClassFile.Cond} : ur_gA m (ur_if2 c x pc ls st m) := by
  unfold ur_if2
  split
  · exact ⟨fun q h => (by rw [List.mem_singleton.mp h]), rfl⟩
  · trivial
theorem ur_g_ald {f : ur_M → Nat → Int32 → Option Int32} : ur_gA m (ur_ald f pc ls st m) := by
  unfold ur_ald
  split
  · exact fun _ => rfl
  · trivial
theorem ur_g_ast {f : ur_M → Nat → Int32 → Int32 → Option ur_M} (hf : ∀ a i v m', f m a i v = some m' → ur_le m m') : ur_gA m (ur_ast f pc ls st m) := by
  unfold ur_ast
  split
  · exact ⟨fun _ h => hf _ _ _ _ h, fun _ => rfl⟩
  · trivial
theorem ur_g_getf : ur_gA m (ur_getf x pc ls st m) := by
  unfold ur_getf
  split
  · split <;> exact fun _ => rfl
  · trivial
theorem ur_g_putf : ur_gA m (ur_putf x pc ls st m) := by
  unfold ur_putf
  split
  · split
    · exact ⟨fun _ h => ur_g_pI h, fun _ => rfl⟩
    · trivial
  · split
    · exact ⟨fun _ h => ur_g_pZ h, fun _ => rfl⟩
    · trivial
  · split
    · exact ⟨fun _ h => ur_g_pL h, fun _ => rfl⟩
    · trivial
  · split
    · exact ⟨fun _ h => ur_g_pR h, fun _ => rfl⟩
    · trivial
theorem ur_g_sw {sw : List (Int32 × Nat) × Nat} : ur_gA m (match st with
    | .int a :: r => some (.inl (sw.1.map (fun q => (decide (a = q.1), (q.2, ls, r, m))), (sw.2, ls, r, m)))
    | _ => none) := by
  split
  · refine ⟨fun q h => ?_, rfl⟩
    obtain ⟨_, _, e⟩ := List.mem_map.mp h
    rw [← e]
  · trivial
theorem ur_g_ldi : ur_gA m (ur_ldi k n pc ls st m) := by
  unfold ur_ldi
  split
  · exact ur_g_nx
  · trivial
theorem ur_g_ldl : ur_gA m (ur_ldl k n pc ls st m) := by
  unfold ur_ldl
  split
  · exact ur_g_nx
  · trivial
theorem ur_g_lda : ur_gA m (ur_lda k n pc ls st m) := by
  unfold ur_lda
  split
  · exact ur_g_nx
  · trivial
theorem ur_g_bi {f : Int32 → Int32 → Int32} : ur_gA m (ur_bi f pc ls st m) := by
  unfold ur_bi
  split
  · exact ur_g_nx
  · trivial
theorem ur_g_bl {f : Int64 → Int64 → Int64} : ur_gA m (ur_bl f pc ls st m) := by
  unfold ur_bl
  split
  · exact ur_g_nx
  · trivial
theorem ur_g_i1 {f : Int32 → Value} : ur_gA m (ur_i1 f pc ls st m) := by
  unfold ur_i1
  split
  · exact ur_g_nx
  · trivial
theorem ur_g_iinc {c : Int32} : ur_gA m (match ur_ld ls k with
    | some (.int a) => bif Nat.blt k ls.length then ur_nx (pc + n) (ur_st1 ls k (.int (a + c))) st m else none
    | _ => none) := by
  split
  · cases Nat.blt k ls.length with
    | true => exact ur_g_nx
    | false => trivial
  · trivial
theorem ur_g_ret {z : Nat} : ur_gA m (match st with
    | [.int a] => some (.inr (.inl (bif ur_fit z a then some (a, m) else none)))
    | _ => none) := by
  split
  · intro q h
    obtain ⟨-, h⟩ := ur_cond_t h
    cases h
    rfl
  · trivial
theorem ur_g_rv : ur_gA m (match st with
    | [] => some (.inr (.inl (some (0, m))))
    | _ => none) := by
  split
  · intro q h
    cases h
    rfl
  · trivial
set_option maxHeartbeats 4000000 in
theorem ur_one_g (z : Nat) (sw : List (Int32 × Nat) × Nat) (i : Instr) (n x : Nat) (v : Int32) (pc : Nat) (ls : List (Option Value)) (st : List Value) (m : ur_M) : ur_gA m (ur_one z sw i n x v pc ls st m) := by
  cases i <;> simp only [ur_one] <;> first | trivial | exact ur_g_nx | exact ur_g_inv | exact ur_g_ldi | exact ur_g_ldl | exact ur_g_lda | exact ur_g_sti | exact ur_g_stl | exact ur_g_sta | exact ur_g_bi | exact ur_g_bl | exact ur_g_i1 | exact ur_g_if1 | exact ur_g_if2 | exact ur_g_getf | exact ur_g_putf | exact ur_g_sw | exact ur_g_iinc | exact ur_g_ret | exact ur_g_rv | exact ur_g_ast (fun _ _ _ _ h => ur_g_wI h) | exact ur_g_ald | exact ⟨fun _ h => ur_g_nO h, fun _ => rfl⟩ | (cases x == 0 <;> exact ur_g_nx) | (split <;> first | exact ur_g_nx | trivial | exact fun _ => rfl | exact ⟨fun _ h => ur_g_wL h, fun _ => rfl⟩ | exact ⟨fun _ h => ur_g_wR h, fun _ => rfl⟩ | exact ⟨fun _ h => ur_g_nA h, fun _ => rfl⟩)
end URG
theorem ur_do_g {self : ur_S → Option ur_V} {call : Nat → List Value → ur_M → Option ur_V} {m : ur_M} {r : ur_V} (o : Option ur_A) (ho : ur_gA m o) (hs : ∀ s r, self s = some r → ur_le s.2.2.2 r.2) (hc : ∀ y as m r, call y as m = some r → ur_le m r.2) (h : ur_do self call o = some r) : ur_le m r.2 := by
  match o, ho, h with
  | some (.inl (bs, s)), ho, h =>
    revert h
    show bs.foldr (fun q r => bif q.1 then self q.2 else r) (self s) = some r → _
    obtain ⟨h1, h2⟩ := ho
    induction bs with
    | nil => intro h; have := hs _ _ h; rw [h2] at this; exact this
    | cons q bs ih =>
      simp only [List.foldr_cons]
      cases q.1 with
      | true => intro h; have := hs _ _ h; rw [h1 q List.mem_cons_self] at this; exact this
      | false => exact ih (fun z hz => h1 z (List.mem_cons_of_mem _ hz))
  | some (.inr (.inl x)), ho, h => rw [ho r h]; exact ur_le_same rfl
  | some (.inr (.inr (.inl (y, as, m', f)))), ho, h =>
    obtain ⟨v, h1, h2⟩ := Option.bind_eq_some_iff.mp h
    obtain ⟨e1, e2⟩ := ho
    subst e1
    have a1 := hc _ _ _ _ h1
    have a2 := hs _ _ h2
    rw [e2] at a2
    exact ⟨Nat.le_trans a1.1 a2.1, Nat.le_trans a1.2 a2.2⟩
  | some (.inr (.inr (.inr (.inl (o, f))))), ho, h =>
    obtain ⟨v, h1, h2⟩ := Option.bind_eq_some_iff.mp h
    have := hs _ _ h2; rw [ho v] at this; exact this
  | some (.inr (.inr (.inr (.inr (.inl (o, f)))))), ho, h =>
    obtain ⟨v, h1, h2⟩ := Option.bind_eq_some_iff.mp h
    have := hs _ _ h2; rw [ho v] at this; exact this
  | some (.inr (.inr (.inr (.inr (.inr (.inl (o, f))))))), ho, h =>
    obtain ⟨v, h1, h2⟩ := Option.bind_eq_some_iff.mp h
    have := hs _ _ h2; rw [ho v] at this; exact this
  | some (.inr (.inr (.inr (.inr (.inr (.inr (o, f))))))), ho, h =>
    obtain ⟨v, h1, h2⟩ := Option.bind_eq_some_iff.mp h
    have a1 := ho.1 v h1
    have a2 := hs _ _ h2
    rw [ho.2 v] at a2
    exact ⟨Nat.le_trans a1.1 a2.1, Nat.le_trans a1.2 a2.2⟩
theorem ur_exc_g {G : Nat → ur_P} {n d y : Nat} {as : List Value} {m : ur_M} {r : ur_V} (hs : ∀ d k s r, ur_ex G n d k s = some r → ur_le s.2.2.2 r.2) (h : ur_exc G n d y as m = some r) : ur_le m r.2 := by
  cases d with
  | zero => cases h
  | succ d =>
    obtain ⟨-, h⟩ := ur_cond_t h
    exact hs d y _ r h
theorem ur_grow (G : Nat → ur_P) : ∀ n d k s r, ur_ex G n d k s = some r → ur_le s.2.2.2 r.2
  | 0, _, _, _, _, h => by simp [ur_ex] at h
  | n + 1, d, k, s, r, h => by
    rw [ur_ex_s] at h
    refine ur_do_g (m := s.2.2.2) _ ?_ (fun s r => ur_grow G n d k s r) (fun y as m r h => ur_exc_g (fun d k s r => ur_grow G n d k s r) h) h
    unfold ur_stp
    split
    · exact ur_one_g _ _ _ _ _ _ _ _ _ _
    · trivial
end
section
/-! CALLS: what the pure machine's run of a method says of the machine's -/
/-- what the tables say of method y -/
def ur_okM (G : Nat → ur_P) (N : Nat → ur_NI) (y : Nat) : Prop := Cond.code (N y).1 (N y).2.1 (G y).2.2.1 (N y).2.2 ∈ ur_T ∧ Jvm.plainName (N y).1.cls = true ∧ ((N y).1.cls ≠ "java/lang/invoke/MethodHandle" ∧ (N y).1.cls ≠ "java/lang/invoke/VarHandle") ∧ (G y).2.2.1 ≤ 40 ∧ Cond.initialized (N y).1.cls ∈ ur_T ∧ ∀ ty, (N y).2.2 = some ty → ∀ a, ur_fit (G y).2.2.2.1 a = true → narrow ty (.int a) = .int a
def ur_B (D : va_G) (cas : Nat → ClassId) (b0 : Nat) (A : Nat → Prop) (m : ur_M) (t : State) : Prop := va_P D vwCl (ur_ws b0 cas m) t.heap ∧ va_D A (ur_ws b0 cas m) ∧ m.1.length ≤ 1000
def ur_Qc (D : va_G) (cas : Nat → ClassId) (b0 : Nat) (A : Nat → Prop) (ret : Option FieldType) (res : ur_V) : Array Value → State → Outcome → State → Prop := match ret with
  | none => va_Qv (fun _ : Unit => True) (fun _ t => ur_B D cas b0 A res.2 t) A
  | some _ => va_Qi (fun (r : Int32) (_ : Unit) => r = res.1) (fun _ t => ur_B D cas b0 A res.2 t) A
def ur_Cx (G : Nat → ur_P) (N : Nat → ur_NI) (D : va_G) (cas : Nat → ClassId) (b0 : Nat) (ad : Nat → Value) (p : Program) (R : Room) (s : State) (mid : MethodId) (args : Array Value) (meth : Method) (c : Code) (A : Nat → Prop) (d k : Nat) : Prop := p.tables.exec = Jvm.exec ∧ c.code = (N k).2.1 ∧ c.maxLocals = (G k).2.2.1 ∧ s.vm.findClass (N k).1.cls = some mid.cls ∧ (∀ w ∈ ur_T, w.before args s = true) ∧ meth.sig.returnType = (N k).2.2 ∧ meth.locks = false ∧ meth.name = (N k).1.name ∧ va_K D vwCl (ur_tys cas) s ∧ ur_Old ad A s ∧ (∀ q, s.heap.size ≤ q → A q) ∧ (∀ z, A z → b0 ≤ z) ∧ b0 ≤ s.heap.size ∧ d + 1 ≤ R.frames ∧ 64 * (d + 1) ≤ R.locals
def ur_IH (l : Launch) (G : Nat → ur_P) (N : Nat → ur_NI) (D : va_G) (cas : Nat → ClassId) (b0 : Nat) (ad : Nat → Value) (n : Nat) : Prop := ∀ (d k : Nat) (S : ur_S) (res : ur_V), ur_ex G n d k S = some res → ur_okM G N k → ∀ (p : Program) (e : Env) (R : Room) (s : State) (mid : MethodId) (args : Array Value) (below : List Frame) (meth : Method) (c : Code) (A : Nat → Prop) (L0 S0 : Nat), ur_Cx G N D cas b0 ad p R s mid args meth c A d k → (s.heap.size = b0 + L0 ∨ res.2.1.length = L0) → (res.2.1.length ≤ R.cells + L0 ∧ ur_sl res.2.1 ≤ R.slots + S0) → ur_Wg p l e R s mid args below meth c D cas b0 ad A (G k).2.2.1 L0 S0 (MQ below (ur_Qc D cas b0 A (N k).2.2 res) args s (res.2.1.length - L0) (ur_sl res.2.1 - S0) A) S
theorem ur_Old.same {ad : Nat → Value} {A : Nat → Prop} {s U : State} (h : ur_Old ad A s) (hv : U.vm = s.vm) (hh : U.heap = s.heap) : ur_Old ad A U := by
  obtain ⟨adK, adV, h1, h2, ⟨r0, r1, r2⟩, h4, h5, h6, h7, h8⟩ := h
  have ha : s.vm.Alike U.vm := by rw [hv]; exact Vm.Alike.refl s.vm
  refine ⟨adK, adV, h1, by rw [hh]; exact h2.moved ha, ⟨vk_R.same hv r0, vk_R.same hv r1, vk_R.same hv r2⟩, by rw [hh]; exact h4.moved ha, by rw [hh]; exact h5.moved ha, fun w hw => ?_, h7.moved ha, h8.moved ha⟩
  have h9 := h6 w hw
  have h10 := (List.mem_filter.mp hw).2
  cases w <;> simp at h10
  exact va_Nw.same rfl hv.symm h9
theorem ur_T_good {w : Cond} (h : w ∈ ur_T) : (w.onTables && w.keeps) = true ∨ ∃ ty, w = .arrayClass ty := good_of_word (List.mem_filter.mp h).2
-- the locals at an entry
theorem ur_slots_in (b0 : Nat) (ad : Nat → Value) (had : ur_ado ad) : ∀ (as : List Value) (o i : Nat) (v : Value), (ur_slots as)[i]? = some (some v) → (o + i, ur_cv b0 ad v) ∈ lv_args o (as.map (ur_cv b0 ad))
  | [], _, _, _, h => by simp [ur_slots] at h
  | w :: as, o, i, v, h => by
    simp only [List.map_cons, lv_args, ur_cv_cat had]
    simp only [ur_slots] at h
    by_cases hc : w.category = 2
    · rw [if_pos hc]
      simp only [hc, beq_self_eq_true, cond_true] at h
      match i, h with
      | 0, h => simp at h; rw [h]; exact List.mem_cons_self
      | 1, h => simp at h
      | i + 2, h =>
        have := ur_slots_in b0 ad had as (o + 2) i v (by simpa using h)
        rw [show o + (i + 2) = o + 2 + i by omega]
        exact List.mem_cons_of_mem _ this
    · rw [if_neg hc]
      simp only [beq_eq_false_iff_ne.mpr hc, cond_false] at h
      match i, h with
      | 0, h => simp at h; rw [h]; exact List.mem_cons_self
      | i + 1, h =>
        have := ur_slots_in b0 ad had as (o + 1) i v (by simpa using h)
        rw [show o + (i + 1) = o + 1 + i by omega]
        exact List.mem_cons_of_mem _ this
theorem ur_slots_len (b0 : Nat) (ad : Nat → Value) (had : ur_ado ad) : ∀ as : List Value, (lg_sl (as.map (ur_cv b0 ad))).length = (ur_slots as).length
  | [] => rfl
  | w :: as => by
    have ih := ur_slots_len b0 ad had as
    simp only [lg_sl] at ih
    simp only [lg_sl, List.map_cons, List.flatMap_cons, List.length_append, ur_cv_cat had, ur_slots, ih]
    by_cases hc : w.category = 2
    · simp [hc]; omega
    · rw [if_neg hc, beq_eq_false_iff_ne.mpr hc]
      simp
      omega
theorem ur_pad_at {n : Nat} {l : List (Option Value)} {i : Nat} {v : Value} (h : (ur_pad n l)[i]? = some (some v)) : l[i]? = some (some v) := by
  unfold ur_pad at h
  by_cases hi : i < l.length
  · rwa [List.getElem?_append_left hi] at h
  · rw [List.getElem?_append_right (by omega)] at h
    have := List.eq_of_mem_replicate (List.mem_of_getElem? h)
    cases this
/-- a method's contract, out of its run -/
theorem ur_met {l : Launch} {G : Nat → ur_P} {N : Nat → ur_NI} {D : va_G} {cas : Nat → ClassId} {b0 : Nat} {ad : Nat → Value} {n d y sz : Nat} {as : List Value} {m : ur_M} {res : ur_V} (had : ur_ado ad) (IH : ur_IH l G N D cas b0 ad n) (hM : ur_okM G N y) (hex : ur_ex G n d y (ur_ent (G y) as m) = some res) (hlen : (ur_slots as).length ≤ (G y).2.2.1) (hb0 : b0 ≤ sz) (hm : m.1.length ≤ 1000) (hZ : sz = b0 + m.1.length ∨ res.2.1.length = m.1.length) : Met l (N y).1 (Cond.code (N y).1 (N y).2.1 (G y).2.2.1 (N y).2.2 :: ur_T) ({ frames := d + 1, cells := res.2.1.length - m.1.length, slots := ur_sl res.2.1 - ur_sl m.1, locals := 64 * (d + 1) }) (va_Pc (as.map (ur_cv b0 ad)) (fun U => U.heap.size = sz ∧ va_P D vwCl (ur_ws b0 cas m) U.heap ∧ va_K D vwCl (ur_tys cas) U ∧ ur_Old ad (va_A (ur_ws b0 cas m) sz) U)) (ur_Qc D cas b0 (va_A (ur_ws b0 cas m) sz) (N y).2.2 res) (res.2.1.length - m.1.length) (ur_sl res.2.1 - ur_sl m.1) (va_A (ur_ws b0 cas m) sz) := by
  have hgr := ur_grow G n d y _ res hex
  refine Met.ofW (cc := (N y).2.1) (maxL := (G y).2.2.1) (ret := (N y).2.2) hM.2.1 rfl ?_
  intro p e s mid args below meth c s₁ B hml hv
  obtain ⟨rfl, hsz, hP, hK, hO⟩ := hv
  have hts := atoms_spec (ws := Cond.code (N y).1 (N y).2.1 (G y).2.2.1 (N y).2.2 :: ur_T) B.pre
  have hown : s.vm.findClass (N y).1.cls = some mid.cls := findClass_of_methodNamed B.named
  have hin : meth.name = (N y).1.name := (name_of_methodNamed B.named B.method).1
  have hl := lv_entry (as.map (ur_cv b0 ad)) (n := (G y).2.2.1) (by rw [ur_slots_len b0 ad had]; exact hlen)
  rw [lg_entry_eq]
  generalize (lg_sl (as.map (ur_cv b0 ad)) ++ List.replicate ((G y).2.2.1 - (lg_sl (as.map (ur_cv b0 ad))).length) Slot.unset).toArray = ls at hl ⊢
  have hpl : (ur_pad (G y).2.2.1 (ur_slots as)).length = (G y).2.2.1 := by simp [ur_pad]; omega
  have hl' : ur_has ls b0 ad (ur_pad (G y).2.2.1 (ur_slots as)) := by
    refine ⟨by rw [hpl]; exact hl.1, hl.2.1, fun q hq => hl.2.2 q ?_⟩
    obtain ⟨v, h1, h2⟩ := ur_asc_mem.mp hq
    have := ur_slots_in b0 ad had as 0 q.1 v (ur_pad_at h1)
    rw [Nat.zero_add, ← h2] at this
    exact this
  have hg1 : m.1.length ≤ res.2.1.length := hgr.1
  have hg2 : ur_sl m.1 ≤ ur_sl res.2.1 := hgr.2
  have key := IH d y _ res hex hM p e (headSpec (Cond.code (N y).1 (N y).2.1 (G y).2.2.1 (N y).2.2 :: ur_T) ({ frames := d + 1, cells := res.2.1.length - m.1.length, slots := ur_sl res.2.1 - ur_sl m.1, locals := 64 * (d + 1) })).room s mid ((as.map (ur_cv b0 ad)).toArray) below meth c (va_A (ur_ws b0 cas m) sz) m.1.length (ur_sl m.1)
    ⟨B.exec, B.bytes, hml, hown, fun w hw => hts w (List.mem_cons_of_mem _ hw), B.returns, B.notSynchronized, hin, hK, hO, fun q hq => Or.inr (by rw [← hsz]; exact hq), fun z hz => by
      rcases hz with ⟨k, w, hk⟩ | hz
      · have lk : k < m.1.length := by have := (List.getElem?_eq_some_iff.mp hk).1; simpa [ur_ws] using this
        rw [ur_ws_at lk] at hk
        cases hk
        exact Nat.le_add_right _ _
      · exact Nat.le_trans hb0 hz, by rw [hsz]; exact hb0, Nat.le_refl _, Nat.le_refl _⟩ (by rw [hsz]; exact hZ) ⟨by show _ ≤ (res.2.1.length - m.1.length) + _; omega, by show _ ≤ (ur_sl res.2.1 - ur_sl m.1) + _; omega⟩
  exact key ls s.heap [] 0 0 hl' hpl hP (ur_D (fun b hb => va_A.in (ur_ws_at hb))) va_S.rf hm (Nat.zero_add _) (Nat.zero_add _)
end
section
/-! ONE STEP: a call -/
/-- what the tables say of a call: x names the method, its arguments and whether it answers -/
def ur_okC (G : Nat → ur_P) (N : Nat → ur_NI) (x np : Nat) : Prop := Nat.blt x 9000 = true ∧ True ∧ ur_okM G N (x / 32) ∧ (parseMethodDescriptor (N (x / 32)).1.desc).map (fun d => d.parameters.length) = some np ∧ (((x % 2 == 0) = true ∧ (N (x / 32)).2.2 = none) ∨ ((x % 2 == 0) = false ∧ ∃ ty, (N (x / 32)).2.2 = some ty))
section URI
variable {l : Launch} {G : Nat → ur_P} {N : Nat → ur_NI} {p : Program} {e : Env} {R : Room} {s : State} {mid : MethodId} {args : Array Value} {below : List Frame} {meth : Method} {c : Code} {D : va_G} {cas : Nat → ClassId} {b0 : Nat} {ad : Nat → Value} {A : Nat → Prop} {L0 S0 : Nat} {Q : State → Prop}
variable {pc n d k x idx np : Nat} {ls : List (Option Value)} {st : List Value} {m : ur_M} {res : ur_V}
theorem ur_cs_map (had : ur_ado ad) : ∀ r : List Value, ((r.map (ur_cv b0 ad)).map fun v => v.category).sum = ur_cs r
  | [] => rfl
  | v :: r => by simp only [List.map_cons, List.sum_cons, ur_cv_cat had, ur_cs, ur_cs_map had r]
/-- what a call step comes to -/
theorem ur_inv_some {self : ur_S → Option ur_V} (hC : ur_okC G N x np) (h : ur_do self (ur_exc G n d) (ur_inv x pc ls st m) = some res) : ∃ (d' : Nat) (v : ur_V), d = d' + 1 ∧ x / 2 % 16 ≤ st.length ∧ ur_cs (st.drop (x / 2 % 16)) ≤ 8 ∧ ur_rcv (G (x / 32)) (st.take (x / 2 % 16)).reverse m = true ∧ (ur_slots (st.take (x / 2 % 16)).reverse).length ≤ (G (x / 32)).2.2.1 ∧ ur_ex G n d' (x / 32) (ur_ent (G (x / 32)) (st.take (x / 2 % 16)).reverse m) = some v ∧ self (pc + 3, ls, bif x % 2 == 0 then st.drop (x / 2 % 16) else .int v.1 :: st.drop (x / 2 % 16), v.2) = some res := by
  unfold ur_inv at h
  rw [hC.1] at h
  simp only [cond_true] at h
  cases hg : (Nat.ble (x / 2 % 16) st.length && Nat.ble (ur_cs (st.drop (x / 2 % 16))) 8) with
  | false => rw [hg] at h; cases h
  | true =>
    rw [hg] at h
    simp only [Bool.and_eq_true] at hg
    obtain ⟨v, h1, h2⟩ := Option.bind_eq_some_iff.mp h
    cases d with
    | zero => cases h1
    | succ d' =>
      obtain ⟨g1, g2⟩ := ur_cond_t h1
      simp only [Bool.and_eq_true] at g1
      exact ⟨d', v, rfl, Nat.le_of_ble_eq_true hg.1, Nat.le_of_ble_eq_true hg.2, g1.1, Nat.le_of_ble_eq_true g1.2, g2, h2⟩
/-- the size of the heap, where cells may yet be made -/
theorem ur_size {H : Heap} {locs : List Loc} {cells slots : Nat} {T : State} {v : ur_M} (X : Stand p l e R s mid args below meth c T locs cells slots) (hT : T.heap = H) (hP : va_P D vwCl (ur_ws b0 cas m) H) (hS : va_S A s.heap H locs) (hb0 : b0 ≤ s.heap.size) (hc : cells + L0 = m.1.length) (hZ : s.heap.size = b0 + L0 ∨ res.2.1.length = L0) (h1 : m.1.length ≤ v.1.length) (h2 : v.1.length ≤ res.2.1.length) : H.size = b0 + m.1.length ∨ v.1.length = m.1.length := by
  rcases hZ with z | z
  · left
    have h3 : H.size ≤ s.heap.size + cells := by
      have := X.same.2.2.1
      have e1 : (T.setVm s.vm).heap = T.heap := rfl
      rw [e1, hT] at this
      exact this
    have h4 : s.heap.size ≤ H.size := hS.1
    rcases Nat.eq_zero_or_pos m.1.length with h5 | h5
    · omega
    · have h6 := (hP _ _ (ur_ws_at (b0 := b0) (cas := cas) (m := m) (a := m.1.length - 1) (by omega))).lt
      have h6 : b0 + (m.1.length - 1) < H.size := h6
      omega
  · right; omega
theorem ur_rev_map (f : Value → Value) (l : List Value) : (l.reverse.map f).reverse = l.map f := by simp
/-- behind a call -/
theorem ur_back {lsr : Array Slot} {H : Heap} {locs : List Loc} {cells slots : Nat} {v : ur_V} {a : Array Value} {sz : Nat} (hC : ur_okC G N x np) (hl : ur_has lsr b0 ad ls) (h0 : ls.length = (G k).2.2.1) (hD : va_D A (ur_ws b0 cas m)) (hS : va_S A s.heap H locs) (hA : ∀ q, s.heap.size ≤ q → A q) (hsz : H.size = sz) (q2 : cells + L0 = m.1.length) (q3 : slots + S0 = ur_sl m.1) (hle : ur_le m v.2) {rest : List Value} {st0 : List Value}
    (hr : va_Run p l e R s mid args below meth c H locs cells slots (v.2.1.length - m.1.length) (ur_sl v.2.1 - ur_sl m.1) (F0 mid pc lsr st0) (rest.map (ur_cv b0 ad)) (ur_Qc D cas b0 (va_A (ur_ws b0 cas m) sz) (N (x / 32)).2.2 v a) (va_A (ur_ws b0 cas m) sz))
    (hs : ur_Wg p l e R s mid args below meth c D cas b0 ad A (G k).2.2.1 L0 S0 Q (pc + 3, ls, bif x % 2 == 0 then rest else .int v.1 :: rest, v.2)) : W p l e R s mid args below meth c H locs cells slots Q (F0 mid pc lsr st0) := by
  have hFc : ∀ q, va_A (ur_ws b0 cas m) sz q → A q := by
    rintro q (⟨j, w, hj⟩ | hq)
    · exact hD.2 j _ hj
    · exact hA q (Nat.le_trans hS.1 (by rw [hsz]; exact hq))
  have hl1 := hle.1
  have hl2 := hle.2
  rcases hC.2.2.2.2 with ⟨hx2, hret⟩ | ⟨hx2, ty, hret⟩
  · rw [hx2] at hs
    rw [hret] at hr
    refine va_callv (a := a) hr hS (fun q _ h => hFc q h) hFc (fun u t H1 locs1 ht hvm hw hB hz1 hk1 hS1 => ?_)
    obtain ⟨b1, b2, b3⟩ := hB
    rw [ht] at b1
    exact hs lsr H1 locs1 _ _ hl h0 b1 (b2.weaken fun _ _ _ h => hFc _ h) hS1 b3 (by show _ = v.2.1.length; omega) (by show _ = ur_sl v.2.1; omega)
  · rw [hx2] at hs
    rw [hret] at hr
    refine va_calli (a := a) hr hS (fun q _ h => hFc q h) hFc (fun r u t H1 locs1 ht hvm hw hB hz1 hk1 hS1 => ?_)
    obtain ⟨b1, b2, b3⟩ := hB
    rw [ht] at b1
    rw [hw]
    exact hs lsr H1 locs1 _ _ hl h0 b1 (b2.weaken fun _ _ _ h => hFc _ h) hS1 b3 (by show _ = v.2.1.length; omega) (by show _ = ur_sl v.2.1; omega)
/-- what holds where a callee begins -/
theorem ur_pre {H : Heap} {locs : List Loc} {a : List Value} (hO : ur_Old ad A s) (hK : va_K D vwCl (ur_tys cas) s) (hP : va_P D vwCl (ur_ws b0 cas m) H) (hD : va_D A (ur_ws b0 cas m)) (hS : va_S A s.heap H locs) (hA : ∀ q, s.heap.size ≤ q → A q) : FrameBlind (va_Pc a (fun U => U.heap.size = H.size ∧ va_P D vwCl (ur_ws b0 cas m) U.heap ∧ va_K D vwCl (ur_tys cas) U ∧ ur_Old ad (va_A (ur_ws b0 cas m) H.size) U)) ∧ ∀ U : State, U.heap = H → s.WarmedH U.vm → va_Pc a (fun U => U.heap.size = H.size ∧ va_P D vwCl (ur_ws b0 cas m) U.heap ∧ va_K D vwCl (ur_tys cas) U ∧ ur_Old ad (va_A (ur_ws b0 cas m) H.size) U) a.toArray U := by
  refine ⟨fun a U g mk q => ?_, fun U hU hW => ⟨rfl, by rw [hU], by rw [hU]; exact hP, va_K.moved hW.alike hK, hO.go hW (fun z h1 h2 => by rw [hU]; exact hS.2.1 z h1 h2) ?_⟩⟩
  · obtain ⟨q0, q1, qP, qK, qO⟩ := q
    exact ⟨q0, q1, qP, va_K.moved (u := U) (U := U.calling g mk a) (Vm.Alike.refl U.vm) qK, qO.same rfl rfl⟩
  · rintro q (⟨j, w, hj⟩ | hq)
    · exact hD.2 j _ hj
    · exact hA q (Nat.le_trans hS.1 hq)
theorem ur_take_rev {z : Nat} {w : Value} {As : List Value} (h : (st.take z).reverse = w :: As) : st = As.reverse ++ w :: st.drop z := by
  have h1 : st.take z = (w :: As).reverse := by rw [← h, List.reverse_reverse]
  calc st = st.take z ++ st.drop z := (List.take_append_drop z st).symm
    _ = As.reverse ++ w :: st.drop z := by rw [h1]; simp
/-- invokevirtual -/
theorem ur_i_virt (had : ur_ado ad) (IH : ur_IH l G N D cas b0 ad n) (hcx : ur_Cx G N D cas b0 ad p R s mid args meth c A d k) (hZ : s.heap.size = b0 + L0 ∨ res.2.1.length = L0) (hR : res.2.1.length ≤ R.cells + L0 ∧ ur_sl res.2.1 ≤ R.slots + S0) (hC : ur_okC G N x np) (hna : x / 2 % 16 = np + 1) (hlink : Cond.methodLink (N k).1.cls idx (N (x / 32)).1 ∈ ur_T) (hinst : Cond.instanceMethod (N (x / 32)).1 ∈ ur_T) (hsel : Cond.selects (N (x / 32)).1.cls (N (x / 32)).1 (N (x / 32)).1 ∈ ur_T) (hcls : ((G (x / 32)).2.2.2.2 = 20 ∧ (N (x / 32)).1.cls = "java/lang/String") ∨ ((G (x / 32)).2.2.2.2 < 11 ∧ ∃ q, vwCl[(G (x / 32)).2.2.2.2]? = some q ∧ q.1 = (N (x / 32)).1.cls)) (hdg : decode (N k).2.1 pc = .ok (.invokevirtual idx, 3)) (hs : ∀ s', ur_ex G n d k s' = some res → ur_Wg p l e R s mid args below meth c D cas b0 ad A (G k).2.2.1 L0 S0 Q s') (h : ur_do (ur_ex G n d k) (ur_exc G n d) (ur_inv x pc ls st m) = some res) : ur_Wg p l e R s mid args below meth c D cas b0 ad A (G k).2.2.1 L0 S0 Q (pc, ls, st, m) := by
  obtain ⟨d', v, rfl, e1, e2, e3, e4, e5, e6⟩ := ur_inv_some hC h
  obtain ⟨hx, hb, hml, hown, hts, -, -, -, hK, hO, hA, hAb, hb0, hR1, hR2⟩ := hcx
  have g1 := ur_grow G n d' _ _ v e5
  have g2 := ur_grow G n (d' + 1) k _ res e6
  have hM := hC.2.2.1
  obtain ⟨hcode, hplain, hmh, hmax, hini, -⟩ := id hM
  generalize hasl : (st.take (x / 2 % 16)).reverse = as at e3 e4 e5
  obtain ⟨a, As, rfl⟩ : ∃ a As, as = .ref a :: As := by
    unfold ur_rcv at e3
    have h30 : ((G (x / 32)).2.2.2.2 == 30) = false := by rcases hcls with z | z <;> simp <;> omega
    rw [h30] at e3
    simp only [cond_false] at e3
    split at e3
    · exact ⟨_, _, rfl⟩
    · cases e3
  have hst := ur_take_rev hasl
  have hAs : As.length = np := by
    have := congrArg List.length hasl
    simp at this
    omega
  intro lsr H locs cells slots hl h0 hP hD hS q1 q2 q3
  intro T hT X
  have q2 : cells + L0 = m.1.length := q2
  have q3 : slots + S0 = ur_sl m.1 := q3
  have hP : va_P D vwCl (ur_ws b0 cas m) H := hP
  have hD : va_D A (ur_ws b0 cas m) := hD
  have q1 : m.1.length ≤ 1000 := q1
  have hle : ur_le m v.2 := g1
  have g2 : v.2.1.length ≤ res.2.1.length ∧ ur_sl v.2.1 ≤ ur_sl res.2.1 := g2
  have hz := ur_size X hT hP hS hb0 q2 hZ hle.1 g2.1
  have hmet := ur_met (sz := H.size) (cas := cas) had IH hM e5 e4 (Nat.le_trans hb0 hS.1) q1 hz
  have hpre := ur_pre (a := (Value.ref a :: As).map (ur_cv b0 ad)) hO hK hP hD hS hA
  have hrecv : ∃ b, ur_cv b0 ad (.ref a) = .ref b ∧ ∃ cellB : Cell, H[b]? = some cellB ∧ cellB.vm.isStatics = false ∧ s.vm.findClass (N (x / 32)).1.cls = some cellB.cls := by
    unfold ur_rcv at e3
    rcases hcls with ⟨z1, z2⟩ | ⟨z1, q, z2, z3⟩
    · simp only [z1] at e3
      obtain ⟨adK, adV, o1, o2, -⟩ := hO
      obtain ⟨j, hj, rfl⟩ := ur_old3 e3
      exact ⟨adK j, by rw [ur_cv_old, (o1 j hj).1], by rw [z2]; exact vk_recv o2 hj hS⟩
    · have h30 : ((G (x / 32)).2.2.2.2 == 30) = false := by simp; omega
      have h20 : ((G (x / 32)).2.2.2.2 == 20) = false := by simp; omega
      rw [h30, h20] at e3
      simp only [cond_false] at e3
      have ho := ur_isO_t e3
      refine ⟨b0 + a, ur_cv_in (ur_small ho q1), ?_⟩
      rw [← z3]
      exact va_recv hK hP z2 (ur_ws_O ho)
  obtain ⟨b, hb1, hrecv⟩ := hrecv
  have hg1 := hle.1
  have hg2 := hle.2
  have hstk : st.map (ur_cv b0 ad) = (As.map (ur_cv b0 ad)).reverse ++ .ref b :: (st.drop (x / 2 % 16)).map (ur_cv b0 ad) := by
    rw [← List.map_reverse, ← hb1, ← List.map_cons, ← List.map_append, ← hst]
  rw [List.map_cons, hb1] at hmet hpre
  have hG : GoodIn ur_T (wsV (N k).1.cls idx (N (x / 32)).1.cls (N (x / 32)).1 (Cond.code (N (x / 32)).1 (N (x / 32)).2.1 (G (x / 32)).2.2.1 (N (x / 32)).2.2 :: ur_T)) := by
    intro w hw
    have : w ∈ ur_T := by
      unfold wsV at hw
      simp only [List.cons_append, List.nil_append, List.mem_cons] at hw
      rcases hw with rfl | rfl | rfl | rfl | rfl | hw
      · exact hlink
      · exact hinst
      · exact hsel
      · exact hini
      · exact hcode
      · exact hw
    exact ⟨this, ur_T_good this⟩
  have hrun := va_runV (e := e) (below := below) (meth := meth) (As := As.map (ur_cv b0 ad)) (rest := (st.drop (x / 2 % 16)).map (ur_cv b0 ad)) (H := H) (locs := locs) (cells := cells) (slots := slots) (g := F0 mid pc lsr (st.map (ur_cv b0 ad))) ⟨hx, hb, hml, hown, hts⟩ hmet (cwV (R := R) np hts hG rfl rfl rfl ⟨rfl, hmh.1, hmh.2, hC.2.2.2.1⟩ ⟨by show d' + 1 + 1 ≤ _; omega, by show 8 + (_ + 11) + 64 * (d' + 1) ≤ _; omega⟩) ⟨hpre.1, hrecv, hpre.2⟩ rfl (by simp [hAs]) (hl.1.trans h0) hstk (lv_room (by rw [ur_cs_map had]; exact e2)) hdg ⟨by omega, by omega⟩
  exact ur_back hC hl h0 hD hS hA rfl q2 q3 hle hrun (hs _ e6) T hT X
/-- a callee's words are good ones -/
theorem ur_goodM {y : Nat} (hM : ur_okM G N y) : GoodIn ur_T (Cond.code (N y).1 (N y).2.1 (G y).2.2.1 (N y).2.2 :: ur_T) := by
  intro w hw
  have : w ∈ ur_T := by
    rcases List.mem_cons.mp hw with rfl | hw
    · exact hM.1
    · exact hw
  exact ⟨this, ur_T_good this⟩
/-- invokestatic -/
theorem ur_i_stat (had : ur_ado ad) (IH : ur_IH l G N D cas b0 ad n) (hcx : ur_Cx G N D cas b0 ad p R s mid args meth c A d k) (hZ : s.heap.size = b0 + L0 ∨ res.2.1.length = L0) (hR : res.2.1.length ≤ R.cells + L0 ∧ ur_sl res.2.1 ≤ R.slots + S0) (hC : ur_okC G N x np) (hna : x / 2 % 16 = np) (hlink : Cond.methodLink (N k).1.cls idx (N (x / 32)).1 ∈ ur_T ∨ ∃ host, Cond.methodLinkNest (N k).1.cls idx (N (x / 32)).1 host ∈ ur_nest) (hstat : Cond.static (N (x / 32)).1 ∈ ur_T) (hdg : decode (N k).2.1 pc = .ok (.invokestatic idx, 3)) (hs : ∀ s', ur_ex G n d k s' = some res → ur_Wg p l e R s mid args below meth c D cas b0 ad A (G k).2.2.1 L0 S0 Q s') (h : ur_do (ur_ex G n d k) (ur_exc G n d) (ur_inv x pc ls st m) = some res) : ur_Wg p l e R s mid args below meth c D cas b0 ad A (G k).2.2.1 L0 S0 Q (pc, ls, st, m) := by
  obtain ⟨d', v, rfl, e1, e2, e3, e4, e5, e6⟩ := ur_inv_some hC h
  obtain ⟨hx, hb, hml, hown, hts, -, -, -, hK, hO, hA, hAb, hb0, hR1, hR2⟩ := hcx
  have g1 := ur_grow G n d' _ _ v e5
  have g2 := ur_grow G n (d' + 1) k _ res e6
  have hM := hC.2.2.1
  obtain ⟨hcode, hplain, hmh, hmax, hini, -⟩ := id hM
  have hAs : (st.take (x / 2 % 16)).reverse.length = np := by simp; omega
  have hstk : st.map (ur_cv b0 ad) = (((st.take (x / 2 % 16)).reverse).map (ur_cv b0 ad)).reverse ++ (st.drop (x / 2 % 16)).map (ur_cv b0 ad) := by
    rw [ur_rev_map, ← List.map_append, List.take_append_drop]
  generalize (st.take (x / 2 % 16)).reverse = as at e3 e4 e5 hAs hstk
  intro lsr H locs cells slots hl h0 hP hD hS q1 q2 q3
  intro T hT X
  have q2 : cells + L0 = m.1.length := q2
  have q3 : slots + S0 = ur_sl m.1 := q3
  have hP : va_P D vwCl (ur_ws b0 cas m) H := hP
  have hD : va_D A (ur_ws b0 cas m) := hD
  have q1 : m.1.length ≤ 1000 := q1
  have hle : ur_le m v.2 := g1
  have g2 : v.2.1.length ≤ res.2.1.length ∧ ur_sl v.2.1 ≤ ur_sl res.2.1 := g2
  have hz := ur_size X hT hP hS hb0 q2 hZ hle.1 g2.1
  have hmet := ur_met (sz := H.size) (cas := cas) had IH hM e5 e4 (Nat.le_trans hb0 hS.1) q1 hz
  have hpre := ur_pre (a := as.map (ur_cv b0 ad)) hO hK hP hD hS hA
  have hg1 := hle.1
  have hg2 := hle.2
  have hroom : d' + 1 + 1 ≤ R.frames ∧ 8 + ((G (x / 32)).2.2.1 + 11) + 64 * (d' + 1) ≤ R.locals := ⟨by omega, by omega⟩
  have hfit : cells + (v.2.1.length - m.1.length) ≤ R.cells ∧ slots + (ur_sl v.2.1 - ur_sl m.1) ≤ R.slots := ⟨by omega, by omega⟩
  rcases hlink with hlink | ⟨host, hlink⟩
  · have hrun := va_runS (e := e) (below := below) (meth := meth) (As := as.map (ur_cv b0 ad)) (rest := (st.drop (x / 2 % 16)).map (ur_cv b0 ad)) (H := H) (locs := locs) (cells := cells) (slots := slots) (g := F0 mid pc lsr (st.map (ur_cv b0 ad))) ⟨hx, hb, hml, hown, hts⟩ hmet ⟨callB_of (R := R) np hts (ur_goodM hM) rfl rfl rfl (hts _ hini) (hts _ hlink) ⟨hmh.1, hmh.2, hC.2.2.2.1⟩ hroom, hts _ hstat⟩ hpre rfl (by simp [hAs]) (hl.1.trans h0) hstk (lv_room (by rw [ur_cs_map had]; exact e2)) hdg hfit
    exact ur_back hC hl h0 hD hS hA rfl q2 q3 hle hrun (hs _ e6) T hT X
  · obtain ⟨adK, adV, o1, o2, o3, o4, o5, o6, o7, o8⟩ := id hO
    have hrun := va_runSN (e := e) (below := below) (meth := meth) (As := as.map (ur_cv b0 ad)) (rest := (st.drop (x / 2 % 16)).map (ur_cv b0 ad)) (H := H) (locs := locs) (cells := cells) (slots := slots) (g := F0 mid pc lsr (st.map (ur_cv b0 ad))) ⟨hx, hb, hml, hown, hts⟩ hmet ⟨va_cnB (R := R) np hts (ur_goodM hM) rfl rfl rfl (o6 _ hlink) (hts _ hini) ⟨hmh.1, hmh.2, hC.2.2.2.1⟩ hroom, hts _ hstat, trivial⟩ hpre rfl (by simp [hAs]) (hl.1.trans h0) hstk (lv_room (by rw [ur_cs_map had]; exact e2)) hdg hfit
    exact ur_back hC hl h0 hD hS hA rfl q2 q3 hle hrun (hs _ e6) T hT X
/-- invokespecial of a constructor -/
theorem ur_i_spec (had : ur_ado ad) (IH : ur_IH l G N D cas b0 ad n) (hcx : ur_Cx G N D cas b0 ad p R s mid args meth c A d k) (hZ : s.heap.size = b0 + L0 ∨ res.2.1.length = L0) (hR : res.2.1.length ≤ R.cells + L0 ∧ ur_sl res.2.1 ≤ R.slots + S0) (hC : ur_okC G N x np) (hna : x / 2 % 16 = np + 1) (hlink : Cond.methodLink (N k).1.cls idx (N (x / 32)).1 ∈ ur_T ∨ ∃ host, Cond.methodLinkNest (N k).1.cls idx (N (x / 32)).1 host ∈ ur_nest) (hinst : Cond.instanceMethod (N (x / 32)).1 ∈ ur_T) (hname : (N (x / 32)).1.name = "<init>") (hret : (N (x / 32)).2.2 = none) (hcls : (G (x / 32)).2.2.2.2 < 11) (hdg : decode (N k).2.1 pc = .ok (.invokespecial idx, 3)) (hs : ∀ s', ur_ex G n d k s' = some res → ur_Wg p l e R s mid args below meth c D cas b0 ad A (G k).2.2.1 L0 S0 Q s') (h : ur_do (ur_ex G n d k) (ur_exc G n d) (ur_inv x pc ls st m) = some res) : ur_Wg p l e R s mid args below meth c D cas b0 ad A (G k).2.2.1 L0 S0 Q (pc, ls, st, m) := by
  obtain ⟨d', v, rfl, e1, e2, e3, e4, e5, e6⟩ := ur_inv_some hC h
  obtain ⟨hx, hb, hml, hown, hts, -, -, -, hK, hO, hA, hAb, hb0, hR1, hR2⟩ := hcx
  have g1 := ur_grow G n d' _ _ v e5
  have g2 := ur_grow G n (d' + 1) k _ res e6
  have hM := hC.2.2.1
  obtain ⟨hcode, hplain, hmh, hmax, hini, -⟩ := id hM
  generalize hasl : (st.take (x / 2 % 16)).reverse = as at e3 e4 e5
  have h30 : ((G (x / 32)).2.2.2.2 == 30) = false := by simp; omega
  have h20 : ((G (x / 32)).2.2.2.2 == 20) = false := by simp; omega
  obtain ⟨a, As, rfl⟩ : ∃ a As, as = .ref a :: As := by
    unfold ur_rcv at e3
    rw [h30] at e3
    simp only [cond_false] at e3
    split at e3
    · exact ⟨_, _, rfl⟩
    · cases e3
  have hst := ur_take_rev hasl
  have hAs : As.length = np := by
    have := congrArg List.length hasl
    simp at this
    omega
  intro lsr H locs cells slots hl h0 hP hD hS q1 q2 q3
  intro T hT X
  have q2 : cells + L0 = m.1.length := q2
  have q3 : slots + S0 = ur_sl m.1 := q3
  have hP : va_P D vwCl (ur_ws b0 cas m) H := hP
  have hD : va_D A (ur_ws b0 cas m) := hD
  have q1 : m.1.length ≤ 1000 := q1
  have hle : ur_le m v.2 := g1
  have g2 : v.2.1.length ≤ res.2.1.length ∧ ur_sl v.2.1 ≤ ur_sl res.2.1 := g2
  have hz := ur_size X hT hP hS hb0 q2 hZ hle.1 g2.1
  have hmet := ur_met (sz := H.size) (cas := cas) had IH hM e5 e4 (Nat.le_trans hb0 hS.1) q1 hz
  have hpre := ur_pre (a := (Value.ref a :: As).map (ur_cv b0 ad)) hO hK hP hD hS hA
  have hb1 : ur_cv b0 ad (.ref a) = .ref (b0 + a) := by
    unfold ur_rcv at e3
    rw [h30, h20] at e3
    simp only [cond_false] at e3
    exact ur_cv_in (ur_small (ur_isO_t e3) q1)
  have hg1 := hle.1
  have hg2 := hle.2
  have hstk : st.map (ur_cv b0 ad) = (As.map (ur_cv b0 ad)).reverse ++ .ref (b0 + a) :: (st.drop (x / 2 % 16)).map (ur_cv b0 ad) := by
    rw [← List.map_reverse, ← hb1, ← List.map_cons, ← List.map_append, ← hst]
  rw [List.map_cons, hb1] at hmet hpre
  have hroom : d' + 1 + 1 ≤ R.frames ∧ 8 + ((G (x / 32)).2.2.1 + 11) + 64 * (d' + 1) ≤ R.locals := ⟨by omega, by omega⟩
  have hfit : cells + (v.2.1.length - m.1.length) ≤ R.cells ∧ slots + (ur_sl v.2.1 - ur_sl m.1) ≤ R.slots := ⟨by omega, by omega⟩
  have hgood := ur_goodM hM
  rw [hret] at hgood
  have hmet2 := hmet
  rw [hret] at hmet2
  rcases hlink with hlink | ⟨host, hlink⟩
  · have hrun := va_runI (e := e) (below := below) (meth := meth) (As := As.map (ur_cv b0 ad)) (rest := (st.drop (x / 2 % 16)).map (ur_cv b0 ad)) (H := H) (locs := locs) (cells := cells) (slots := slots) (g := F0 mid pc lsr (st.map (ur_cv b0 ad))) ⟨hx, hb, hml, hown, hts⟩ hmet2 ⟨callB_of (R := R) np hts hgood rfl rfl rfl (hts _ hini) (hts _ hlink) ⟨hmh.1, hmh.2, hC.2.2.2.1⟩ hroom, hname, hts _ hinst⟩ hpre rfl (by simp [hAs]) (hl.1.trans h0) hstk (lv_room (by rw [ur_cs_map had]; exact e2)) hdg hfit
    rw [← hret] at hrun
    exact ur_back hC hl h0 hD hS hA rfl q2 q3 hle hrun (hs _ e6) T hT X
  · obtain ⟨adK, adV, o1, o2, o3, o4, o5, o6, o7, o8⟩ := id hO
    have hrun := va_runIN (e := e) (below := below) (meth := meth) (As := As.map (ur_cv b0 ad)) (rest := (st.drop (x / 2 % 16)).map (ur_cv b0 ad)) (H := H) (locs := locs) (cells := cells) (slots := slots) (g := F0 mid pc lsr (st.map (ur_cv b0 ad))) ⟨hx, hb, hml, hown, hts⟩ hmet2 ⟨va_cnB (R := R) np hts hgood rfl rfl rfl (o6 _ hlink) (hts _ hini) ⟨hmh.1, hmh.2, hC.2.2.2.1⟩ hroom, hname, hts _ hinst⟩ hpre rfl (by simp [hAs]) (hl.1.trans h0) hstk (lv_room (by rw [ur_cs_map had]; exact e2)) hdg hfit
    rw [← hret] at hrun
    exact ur_back hC hl h0 hD hS hA rfl q2 q3 hle hrun (hs _ e6) T hT X
end URI
end
section
/-! EVERY RUN OF THE PURE MACHINE IS A RUN OF THE MACHINE -/
def ur_ktf (kd : Nat) (ty : FieldType) : Prop := (kd = 0 ∧ ty = .int) ∨ (kd = 1 ∧ ty = .boolean) ∨ (kd = 2 ∧ ty = .long) ∨ (kd = 3 ∧ ((∃ C, ty = .object C) ∨ ∃ t, ty = .array t))
/-- what the tables say of the classes -/
def ur_clsOk : Prop := ∀ (ci : Nat) (C : String) (T : u_T) (N : Nat), vwCl[ci]? = some (C, T, N) → (∀ w ∈ u_ws C T N, w ∈ ur_T) ∧ N = ur_nf ci ∧ (∀ a, a < N → ∀ b, b < N → a ≠ b → (T a).2.1 ≠ (T b).2.1) ∧ (∃ ty : Nat → FieldType, (∀ k, k < N → parseFieldDescriptor (T k).2.2.1 = some (ty k)) ∧ ∀ k, k < N → ur_ktf (ur_kd ci k) (ty k)) ∧ Cond.instantiable C N ∈ ur_T ∧ Cond.initialized C ∈ ur_T
def ur_okF (own : String) (idx x : Nat) : Prop := x / 256 < 11 ∧ ∃ (C : String) (T : u_T) (N : Nat), vwCl[x / 256]? = some (C, T, N) ∧ x / 4 % 64 < N ∧ Cond.fieldLink own idx (T (x / 4 % 64)).1 (T (x / 4 % 64)).2.1 (T (x / 4 % 64)).2.2.1 ∈ ur_T ∧ ur_kd (x / 256) (x / 4 % 64) = x % 4
def ur_strs : List (String × Nat × Nat) := [("UnsaidRoom$Tape", 54, 0), ("UnsaidRoom$Tape", 40, 1), ("UnsaidRoom$Law", 46, 2)]
/-- what the tables say of an instruction -/
def ur_okE (G : Nat → ur_P) (N : Nat → ur_NI) (own : String) (ini : Bool) (ret : Option FieldType) (sw : List (Int32 × Nat) × Nat) (pc : Nat) (i : Instr) (n x : Nat) (v : Int32) : Prop := match i with
  | .iconst k => n = 1 ∧ Int32.ofInt k = v
  | .bipush k => n = 2 ∧ (Int8.ofInt k).toInt32 = v
  | .sipush k => n = 3 ∧ (Int16.ofInt k).toInt32 = v
  | .ldc k => n = 2 ∧ ((x = 0 ∧ Cond.constant own k v ∈ ur_T) ∨ (∃ j, x = ur_base + j ∧ (own, k, j) ∈ ur_strs))
  | .ldc_w k => n = 3 ∧ Cond.constant own k v ∈ ur_T
  | .ldc2_w k => n = 3 ∧ Cond.constantLong own k (Int64.ofNat x) ∈ ur_T
  | .lconst k => n = 1 ∧ (k : Nat) = x
  | .getstatic k => n = 3 ∧ ((x = 0 ∧ v = 1 ∧ Cond.fieldLink own k "java/lang/String" "COMPACT_STRINGS" "Z" ∈ ur_T) ∨ (x = ur_base + 20 ∧ Cond.fieldLink own k "jdk/internal/util/Preconditions" "SIOOBE_FORMATTER" "Ljava/util/function/BiFunction;" ∈ ur_T))
  | .iload_n _ => n = 1
  | .lload_n _ => n = 1
  | .aload_n _ => n = 1
  | .istore_n _ => n = 1
  | .lstore_n _ => n = 1
  | .astore_n _ => n = 1
  | .iload _ => n = 2
  | .lload _ => n = 2
  | .aload _ => n = 2
  | .istore _ => n = 2
  | .lstore _ => n = 2
  | .astore _ => n = 2
  | .iinc _ k => n = 3 ∧ Int32.ofInt k = v
  | .goto o => n = 3 ∧ (pc : Int) + o = (x : Int)
  | .ifCond _ o => n = 3 ∧ (pc : Int) + o = (x : Int)
  | .if_icmp _ o => n = 3 ∧ (pc : Int) + o = (x : Int)
  | .tableswitch dflt lo hi offs => sw.1.map (fun q => (q.1.toInt, (q.2 : Int))) = (List.range offs.toList.length).map (fun (j : Nat) => (lo + (j : Int), (pc : Int) + offs.toList.getD j 0)) ∧ (pc : Int) + dflt = (sw.2 : Int) ∧ hi + 1 = lo + offs.toList.length
  | .lookupswitch dflt ps => (ps.toList.zip (ps.toList.drop 1)).all (fun (a, next) => a.1 < next.1) = true ∧ sw.1.map (fun q => (q.1.toInt, (q.2 : Int))) = ps.toList.map (fun q => (q.1, (pc : Int) + q.2)) ∧ (sw.2 : Int) = (pc : Int) + dflt
  | .getfield k => n = 3 ∧ ((x = 5123 ∧ Cond.fieldLink own k "java/lang/String" "value" "[B" ∈ ur_T) ∨ (x = 5120 ∧ Cond.fieldLink own k "java/lang/String" "coder" "B" ∈ ur_T) ∨ ur_okF own k x)
  | .putfield k => n = 3 ∧ ur_okF own k x ∧ ∀ (C : String) (T : u_T) (N : Nat), vwCl[x / 256]? = some (C, T, N) → (T (x / 4 % 64)).2.2.2 = true → ini = true ∧ (T (x / 4 % 64)).1 = own
  | .new k => n = 3 ∧ ∃ (C : String) (T : u_T) (N : Nat), vwCl[x]? = some (C, T, N) ∧ Cond.classLink own k C ∈ ur_T
  | .newarray t => n = 2 ∧ Cond.arrayClass (newarray.typeOf t) ∈ ur_T
  | .anewarray k => n = 3 ∧ ((x = 4 ∧ Cond.classLink own k "UnsaidRoom$Night" ∈ ur_T) ∨ (x = 5 ∧ Cond.classLink own k "UnsaidRoom$Mark" ∈ ur_T))
  | .invokevirtual k => n = 3 ∧ ∃ np, ur_okC G N x np ∧ x / 2 % 16 = np + 1 ∧ Cond.methodLink own k (N (x / 32)).1 ∈ ur_T ∧ Cond.instanceMethod (N (x / 32)).1 ∈ ur_T ∧ Cond.selects (N (x / 32)).1.cls (N (x / 32)).1 (N (x / 32)).1 ∈ ur_T ∧ (((G (x / 32)).2.2.2.2 = 20 ∧ (N (x / 32)).1.cls = "java/lang/String") ∨ ((G (x / 32)).2.2.2.2 < 11 ∧ ∃ q, vwCl[(G (x / 32)).2.2.2.2]? = some q ∧ q.1 = (N (x / 32)).1.cls))
  | .invokestatic k => n = 3 ∧ ((x = 9000 ∧ Cond.methodLink own k arraycopyName ∈ ur_T ∧ Cond.native arraycopyName ∈ ur_T ∧ Cond.static arraycopyName ∈ ur_T ∧ Cond.initialized "java/lang/System" ∈ ur_T) ∨ (x = 9002 ∧ Cond.methodLink own k Lib.Math.max.name ∈ ur_T ∧ Cond.static Lib.Math.max.name ∈ ur_T ∧ Cond.initialized "java/lang/Math" ∈ ur_T ∧ Cond.code Lib.Math.max.name Lib.Math.max.code 2 (some .int) ∈ ur_T) ∨ (x = 9003 ∧ Cond.methodLink own k Lib.Math.min.name ∈ ur_T ∧ Cond.static Lib.Math.min.name ∈ ur_T ∧ Cond.initialized "java/lang/Math" ∈ ur_T ∧ Cond.code Lib.Math.min.name Lib.Math.min.code 2 (some .int) ∈ ur_T) ∨ ∃ np, ur_okC G N x np ∧ x / 2 % 16 = np ∧ (Cond.methodLink own k (N (x / 32)).1 ∈ ur_T ∨ ∃ host, Cond.methodLinkNest own k (N (x / 32)).1 host ∈ ur_nest) ∧ Cond.static (N (x / 32)).1 ∈ ur_T)
  | .invokespecial k => n = 3 ∧ ((x = 9001 ∧ Cond.methodLink own k Lib.objectInit ∈ ur_T ∧ Cond.instanceMethod Lib.objectInit ∈ ur_T ∧ Cond.code Lib.objectInit ⟨#[0xb1]⟩ 1 none ∈ ur_T) ∨ ∃ np, ur_okC G N x np ∧ x / 2 % 16 = np + 1 ∧ (Cond.methodLink own k (N (x / 32)).1 ∈ ur_T ∨ ∃ host, Cond.methodLinkNest own k (N (x / 32)).1 host ∈ ur_nest) ∧ Cond.instanceMethod (N (x / 32)).1 ∈ ur_T ∧ (N (x / 32)).1.name = "<init>" ∧ (N (x / 32)).2.2 = none ∧ (G (x / 32)).2.2.2.2 < 11)
  | .ireturn => n = 1 ∧ ∃ ty, ret = some ty
  | .return_ => n = 1 ∧ ret = none
  | _ => n = 1
end
section
section URZ
variable {l : Launch} {G : Nat → ur_P} {N : Nat → ur_NI} {p : Program} {e : Env} {R : Room} {s : State} {mid : MethodId} {args : Array Value} {below : List Frame} {meth : Method} {c : Code} {D : va_G} {cas : Nat → ClassId} {b0 : Nat} {ad : Nat → Value} {A : Nat → Prop} {nL L0 S0 : Nat} {Q : State → Prop}
variable {cc : ByteArray} {own : String} {pc n x idx k d : Nat} {v : Int32} {ls : List (Option Value)} {st : List Value} {m : ur_M} {self : ur_S → Option ur_V} {call : Nat → List Value → ur_M → Option ur_V} {res : ur_V}
/-- getfield -/
theorem ur_j_getf (hx : p.tables.exec = Jvm.exec) (hb : c.code = cc) (hts : ∀ w ∈ ur_T, w.before args s = true) (hown : s.vm.findClass own = some mid.cls) (hK : va_K D vwCl (ur_tys cas) s) (hO : ur_Old ad A s) (hcl : ur_clsOk) (hok : (x = 5123 ∧ Cond.fieldLink own idx "java/lang/String" "value" "[B" ∈ ur_T) ∨ (x = 5120 ∧ Cond.fieldLink own idx "java/lang/String" "coder" "B" ∈ ur_T) ∨ ur_okF own idx x) (hdg : decode cc pc = .ok (.getfield idx, 3)) (hs : ∀ s', self s' = some res → ur_Wg p l e R s mid args below meth c D cas b0 ad A nL L0 S0 Q (s')) (h : ur_do self call (ur_getf x pc ls st m) = some res) : ur_Wg p l e R s mid args below meth c D cas b0 ad A nL L0 S0 Q ((pc, ls, st, m)) := by
  unfold ur_getf at h
  split at h
  next a r =>
    rcases hok with ⟨rfl, hl⟩ | ⟨rfl, hl⟩ | ⟨h11, C, T, N', hc, hk, hl, hkd⟩
    · obtain ⟨b, h1, h2⟩ := Option.bind_eq_some_iff.mp h
      have h1 : (bif decide (ur_base ≤ a ∧ a < ur_base + 3) then some (a + 10) else none) = some b := h1
      obtain ⟨g1, g2⟩ := ur_cond_t h1
      cases g2
      exact ur_i_getVa hx hb hown hO (hts _ hl) hdg g1 (hs _ h2)
    · obtain ⟨b, h1, h2⟩ := Option.bind_eq_some_iff.mp h
      have h1 : (bif decide (ur_base ≤ a ∧ a < ur_base + 3) then some (0 : Int32) else none) = some b := h1
      obtain ⟨g1, g2⟩ := ur_cond_t h1
      cases g2
      exact ur_i_getCo hx hb hown hO (hts _ hl) hdg g1 (hs _ h2)
    · obtain ⟨c1, c2, c3, ⟨ty, c4, c5⟩, c6, c7⟩ := hcl _ _ _ _ hc
      have h20 : (x / 256 == 20) = false := by simp; omega
      split at h
      next hk4 =>
        obtain ⟨b, h1, h2⟩ := Option.bind_eq_some_iff.mp h
        obtain ⟨g1, g2⟩ := ur_cond_t h1
        cases g2
        exact ur_i_get hx hb hts hown hK hc c1 hk c2 hl hdg (ur_isO_t g1) (by rw [hkd, hk4]; rfl) (hs _ h2)
      next hk4 =>
        obtain ⟨b, h1, h2⟩ := Option.bind_eq_some_iff.mp h
        unfold ur_fR at h1
        rw [h20] at h1
        simp only [cond_false] at h1
        obtain ⟨g1, g2⟩ := ur_cond_t h1
        obtain ⟨g3, g4⟩ := ur_lo_t g2
        exact ur_i_get hx hb hts hown hK hc c1 hk c2 hl hdg (ur_isO_t g1) (by rw [hkd, hk4, ur_cv_in g4]; simp only [ur_fv, g3]; rfl) (hs _ h2)
      next hk2 hk3 =>
        obtain ⟨b, h1, h2⟩ := Option.bind_eq_some_iff.mp h
        unfold ur_fI at h1
        rw [h20] at h1
        simp only [cond_false] at h1
        obtain ⟨g1, g2⟩ := ur_cond_t h1
        cases g2
        have a2 : ¬ x % 4 = 2 := hk2
        have a3 : ¬ x % 4 = 3 := hk3
        exact ur_i_get hx hb hts hown hK hc c1 hk c2 hl hdg (ur_isO_t g1) (by
          rw [hkd]
          rcases (show x % 4 = 0 ∨ x % 4 = 1 by omega) with z | z <;> rw [z] <;> rfl) (hs _ h2)
  next => cases h
/-- putfield -/
theorem ur_j_putf (hx : p.tables.exec = Jvm.exec) (hb : c.code = cc) (had : ur_ado ad) (hts : ∀ w ∈ ur_T, w.before args s = true) (hown : s.vm.findClass own = some mid.cls) (hK : va_K D vwCl (ur_tys cas) s) (hcl : ur_clsOk) (hok : ur_okF own idx x) {ini : Bool} (hini : ini = true → meth.name = "<init>") (hfin : ∀ (C : String) (T : u_T) (N : Nat), vwCl[x / 256]? = some (C, T, N) → (T (x / 4 % 64)).2.2.2 = true → ini = true ∧ (T (x / 4 % 64)).1 = own) (hdg : decode cc pc = .ok (.putfield idx, 3)) (hs : ∀ s', self s' = some res → ur_Wg p l e R s mid args below meth c D cas b0 ad A nL L0 S0 Q (s')) (h : ur_do self call (ur_putf x pc ls st m) = some res) : ur_Wg p l e R s mid args below meth c D cas b0 ad A nL L0 S0 Q ((pc, ls, st, m)) := by
  obtain ⟨h11, C, T, N', hc, hk, hl, hkd⟩ := hok
  obtain ⟨c1, c2, c3, ⟨ty, c4, c5⟩, c6, c7⟩ := hcl _ _ _ _ hc
  have hf : (T (x / 4 % 64)).2.2.2 = true → meth.name = "<init>" ∧ (T (x / 4 % 64)).1 = own := fun q => ⟨hini (hfin C T N' hc q).1, (hfin C T N' hc q).2⟩
  have hkt := c5 _ hk
  rw [hkd] at hkt
  unfold ur_putf at h
  split at h
  next z0 =>
    rw [z0] at hkt hkd
    have hty : ty (x / 4 % 64) = .int := by rcases hkt with z | z | z | z <;> first | exact z.2 | (have := z.1; omega)
    split at h
    next w a r =>
      obtain ⟨m', h1, h2⟩ := Option.bind_eq_some_iff.mp h
      obtain ⟨g1, g2⟩ := ur_cond_t h1
      cases g2
      exact ur_i_put (w := .int w) (m' := (m.1, ur_u m.2.1 a (x / 4 % 64) w, m.2.2)) hx hb hts hown hK hc c1 hk c2 hl ty c4 c3 hf hdg (ur_isO_t g1) (by rw [hty]; rfl) (by rw [hty]; rfl) rfl (fun b hb => ⟨ur_u_ne hb, rfl, rfl⟩) (by rw [hkd]; simp only [ur_fv, ur_u_at]; rfl) (fun j hj => by unfold ur_fv; simp only [ur_u_ot hj]) (hs _ h2)
    next => cases h
  next z0 =>
    rw [z0] at hkt hkd
    have hty : ty (x / 4 % 64) = .boolean := by rcases hkt with z | z | z | z <;> first | exact z.2 | (have := z.1; omega)
    split at h
    next w a r =>
      obtain ⟨m', h1, h2⟩ := Option.bind_eq_some_iff.mp h
      obtain ⟨g0, h1⟩ := ur_cond_t h1
      obtain ⟨g1, g2⟩ := ur_cond_t h1
      cases g2
      simp only [Bool.or_eq_true, beq_iff_eq] at g0
      exact ur_i_put (w := .int w) (m' := (m.1, ur_u m.2.1 a (x / 4 % 64) w, m.2.2)) hx hb hts hown hK hc c1 hk c2 hl ty c4 c3 hf hdg (ur_isO_t g1) (by rw [hty]; rcases g0 with rfl | rfl <;> rfl) (by rw [hty]; rcases g0 with rfl | rfl <;> rfl) rfl (fun b hb => ⟨ur_u_ne hb, rfl, rfl⟩) (by rw [hkd]; simp only [ur_fv, ur_u_at]; rfl) (fun j hj => by unfold ur_fv; simp only [ur_u_ot hj]) (hs _ h2)
    next => cases h
  next z0 =>
    rw [z0] at hkt hkd
    have hty : ty (x / 4 % 64) = .long := by rcases hkt with z | z | z | z <;> first | exact z.2 | (have := z.1; omega)
    split at h
    next w a r =>
      obtain ⟨m', h1, h2⟩ := Option.bind_eq_some_iff.mp h
      obtain ⟨g1, g2⟩ := ur_cond_t h1
      cases g2
      exact ur_i_put (w := .long w) (m' := (m.1, m.2.1, ur_u m.2.2.1 a (x / 4 % 64) w, m.2.2.2)) hx hb hts hown hK hc c1 hk c2 hl ty c4 c3 hf hdg (ur_isO_t g1) (by rw [hty]; rfl) (by rw [hty]; rfl) rfl (fun b hb => ⟨rfl, ur_u_ne hb, rfl⟩) (by rw [hkd]; simp only [ur_fv, ur_u_at]; rfl) (fun j hj => by unfold ur_fv; simp only [ur_u_ot hj]) (hs _ h2)
    next => cases h
  next n0 n1 n2 =>
    have a0 : ¬ x % 4 = 0 := n0
    have a1 : ¬ x % 4 = 1 := n1
    have a2 : ¬ x % 4 = 2 := n2
    have z0 : x % 4 = 3 := by omega
    rw [z0] at hkt hkd
    have hty : (∃ C, ty (x / 4 % 64) = .object C) ∨ ∃ t, ty (x / 4 % 64) = .array t := by rcases hkt with z | z | z | z <;> first | exact z.2 | (have := z.1; omega)
    split at h
    next w a r =>
      obtain ⟨m', h1, h2⟩ := Option.bind_eq_some_iff.mp h
      obtain ⟨g1, g2⟩ := ur_cond_t h1
      cases g2
      simp only [Bool.and_eq_true, decide_eq_true_eq] at g1
      have hfit := ur_fits_ref had hty (ur_cv b0 ad (.ref w)) (ur_cv_ref had w)
      exact ur_i_put (w := .ref w) (m' := (m.1, m.2.1, m.2.2.1, ur_u m.2.2.2 a (x / 4 % 64) (some w))) hx hb hts hown hK hc c1 hk c2 hl ty c4 c3 hf hdg (ur_isO_t g1.1) hfit.1 hfit.2 rfl (fun b hb => ⟨rfl, rfl, ur_u_ne hb⟩) (by rw [hkd, ur_cv_in g1.2]; simp only [ur_fv, ur_u_at]; rfl) (fun j hj => by unfold ur_fv; simp only [ur_u_ot hj]) (hs _ h2)
    next => cases h
theorem ur_ktf_def {ci k : Nat} {ty : FieldType} (h : ur_ktf (ur_kd ci k) ty) : defaultValue ty = (match ur_kd ci k with | 2 => .long 0 | 3 => .null | _ => .int 0) := by
  rcases h with ⟨z, rfl⟩ | ⟨z, rfl⟩ | ⟨z, rfl⟩ | ⟨z, ⟨C, rfl⟩ | ⟨t, rfl⟩⟩ <;> rw [z] <;> rfl
/-- a return with an int -/
theorem ur_j_ret (hx : p.tables.exec = Jvm.exec) (hb : c.code = cc) {ty : FieldType} (hr : meth.sig.returnType = some ty) (hlocks : meth.locks = false) {a : Int32} (hn : narrow ty (.int a) = .int a) (hdg : decode cc pc = .ok (.ireturn, 1)) : ur_Wg p l e R s mid args below meth c D cas b0 ad A nL L0 S0 (MQ below (ur_Qc D cas b0 A (some ty) (a, m)) args s (m.1.length - L0) (ur_sl m.1 - S0) A) (pc, ls, [.int a], m) := by
  intro lsr H locs cells slots hl h0 hP hD hS q1 q2 q3
  have q2 : cells + L0 = m.1.length := q2
  have q3 : slots + S0 = ur_sl m.1 := q3
  have e1 : m.1.length - L0 = cells := by omega
  have e2 : ur_sl m.1 - S0 = slots := by omega
  rw [e1, e2]
  exact W.zret hx hb hr hn (fun t ht hW => ⟨⟨a, (), rfl, rfl, by rw [ht]; exact hP, hD, q1⟩, hS.F ht⟩) hS.2.2 hdg hlocks
theorem ur_j_retv (hx : p.tables.exec = Jvm.exec) (hb : c.code = cc) (hr : meth.sig.returnType = none) (hlocks : meth.locks = false) (hdg : decode cc pc = .ok (.return_, 1)) : ur_Wg p l e R s mid args below meth c D cas b0 ad A nL L0 S0 (MQ below (ur_Qc D cas b0 A none (0, m)) args s (m.1.length - L0) (ur_sl m.1 - S0) A) (pc, ls, [], m) := by
  intro lsr H locs cells slots hl h0 hP hD hS q1 q2 q3
  have q2 : cells + L0 = m.1.length := q2
  have q3 : slots + S0 = ur_sl m.1 := q3
  have e1 : m.1.length - L0 = cells := by omega
  have e2 : ur_sl m.1 - S0 = slots := by omega
  rw [e1, e2]
  exact W.vret hx hb hr (fun t ht hW => ⟨⟨(), rfl, trivial, by rw [ht]; exact hP, hD, q1⟩, hS.F ht⟩) hS.2.2 hdg hlocks
end URZ
end
section
/-! THE WHOLE: by fuel -/
set_option maxHeartbeats 4000000 in
theorem ur_sound {l : Launch} {G : Nat → ur_P} {N : Nat → ur_NI} {D : va_G} {cas : Nat → ClassId} {b0 : Nat} {ad : Nat → Value} (had : ur_ado ad) (hcl : ur_clsOk) (hE : ∀ (k pc : Nat) (i : Instr) (n x : Nat) (v : Int32), ur_lk (G k).1 pc = some (i, n, x, v) → decode (N k).2.1 pc = .ok (i, n) ∧ ur_okE G N (N k).1.cls (decide ((N k).1.name = "<init>")) (N k).2.2 ((G k).2.1 pc) pc i n x v) : ∀ n, ur_IH l G N D cas b0 ad n := by
  intro n
  induction n with
  | zero => intro d k S res h; simp [ur_ex] at h
  | succ n ih =>
    intro d k S res hex hM p e R s mid args below meth c A L0 S0 hcx hZ hR
    have hs : ∀ s', ur_ex G n d k s' = some res → ur_Wg p l e R s mid args below meth c D cas b0 ad A (G k).2.2.1 L0 S0 (MQ below (ur_Qc D cas b0 A (N k).2.2 res) args s (res.2.1.length - L0) (ur_sl res.2.1 - S0) A) s' := fun s' h => ih d k s' res h hM p e R s mid args below meth c A L0 S0 hcx hZ hR
    have hgrow : ∀ s', ur_ex G n d k s' = some res → s'.2.2.2.1.length ≤ res.2.1.length ∧ ur_sl s'.2.2.2.1 ≤ ur_sl res.2.1 := fun s' h => ur_grow G n d k s' res h
    obtain ⟨hx, hb, hml, hown, hts, hret, hlocks, hname, hK, hO, hA, hAb, hb0, hR1, hR2⟩ := id hcx
    have hRl : 1 ≤ R.frames ∧ 64 ≤ R.locals := ⟨by omega, by omega⟩
    rw [ur_ex_s] at hex
    obtain ⟨pc, ls, st, m⟩ := S
    unfold ur_stp at hex
    split at hex
    next i n' x v hlk =>
      obtain ⟨hdg, hok⟩ := hE k pc i n' x v hlk
      dsimp only at hex
      cases i with
      | iconst z => obtain ⟨rfl, h1⟩ := hok; exact ur_i_iconst hx hb hdg h1 (hs _ hex)
      | bipush z => obtain ⟨rfl, h1⟩ := hok; exact ur_i_bipush hx hb hdg h1 (hs _ hex)
      | sipush z => obtain ⟨rfl, h1⟩ := hok; exact ur_i_sipush hx hb hdg h1 (hs _ hex)
      | ldc z =>
        obtain ⟨rfl, ⟨rfl, h1⟩ | ⟨j, rfl, h1⟩⟩ := hok
        · exact ur_i_ldc hx hb hown (hts _ h1) hdg (hs _ hex)
        · have hex : ur_do (ur_ex G n d k) (ur_exc G n d) (bif ur_base + j == 0 then ur_nx (pc + 2) ls (.int v :: st) m else ur_nx (pc + 2) ls (.ref (ur_base + j) :: st) m) = some res := hex
          rw [show (ur_base + j == 0) = false by simp [ur_base]] at hex
          obtain ⟨adK, adV, o1, o2, ⟨r0, r1, r2⟩, o4⟩ := id hO
          simp only [ur_strs, List.mem_cons, Prod.mk.injEq, List.not_mem_nil, or_false] at h1
          rcases h1 with ⟨e1, rfl, rfl⟩ | ⟨e1, rfl, rfl⟩ | ⟨e1, rfl, rfl⟩ <;> rw [e1] at hown
          · exact ur_i_ldcS hx hb hown r0 (o1 0 (by decide)).1 hdg (hs _ hex)
          · exact ur_i_ldcS hx hb hown r1 (o1 1 (by decide)).1 hdg (hs _ hex)
          · exact ur_i_ldcS hx hb hown r2 (o1 2 (by decide)).1 hdg (hs _ hex)
      | ldc_w z => obtain ⟨rfl, h1⟩ := hok; exact ur_i_ldc_w hx hb hown (hts _ h1) hdg (hs _ hex)
      | ldc2_w z => obtain ⟨rfl, h1⟩ := hok; exact ur_i_ldc2 hx hb hown (hts _ h1) hdg (hs _ hex)
      | lconst z => obtain ⟨rfl, rfl⟩ := hok; exact ur_i_lconst hx hb hdg rfl (hs _ hex)
      | getstatic z =>
        obtain ⟨rfl, ⟨rfl, rfl, h1⟩ | ⟨rfl, h1⟩⟩ := hok
        · exact ur_i_getsI hx hb hown hO (hts _ h1) hdg (hs _ hex)
        · exact ur_i_getsR hx hb hown hO (hts _ h1) hdg (hs _ hex)
      | iload_n z =>
        obtain rfl := hok
        simp only [ur_one, ur_ldi] at hex
        split at hex
        next h => exact ur_i_iload_n hx hb hdg h (hs _ hex)
        next => cases hex
      | iload z =>
        obtain rfl := hok
        simp only [ur_one, ur_ldi] at hex
        split at hex
        next h => exact ur_i_iload hx hb hdg h (hs _ hex)
        next => cases hex
      | lload_n z =>
        obtain rfl := hok
        simp only [ur_one, ur_ldl] at hex
        split at hex
        next h => exact ur_i_lload_n hx hb hdg h (hs _ hex)
        next => cases hex
      | lload z =>
        obtain rfl := hok
        simp only [ur_one, ur_ldl] at hex
        split at hex
        next h => exact ur_i_lload hx hb hdg h (hs _ hex)
        next => cases hex
      | aload_n z =>
        obtain rfl := hok
        simp only [ur_one, ur_lda] at hex
        split at hex
        next h => exact ur_i_aload_n hx hb had hdg h (hs _ hex)
        next => cases hex
      | aload z =>
        obtain rfl := hok
        simp only [ur_one, ur_lda] at hex
        split at hex
        next h => exact ur_i_aload hx hb had hdg h (hs _ hex)
        next => cases hex
      | istore_n z =>
        obtain rfl := hok
        simp only [ur_one, ur_sti] at hex
        split at hex
        next w r =>
          cases hq : Nat.blt z ls.length with
          | true => rw [hq] at hex; exact ur_i_istore_n hx hb had hdg (Nat.le_of_ble_eq_true hq) (hs _ hex)
          | false => rw [hq] at hex; cases hex
        next => cases hex
      | istore z =>
        obtain rfl := hok
        simp only [ur_one, ur_sti] at hex
        split at hex
        next w r =>
          cases hq : Nat.blt z ls.length with
          | true => rw [hq] at hex; exact ur_i_istore hx hb had hdg (Nat.le_of_ble_eq_true hq) (hs _ hex)
          | false => rw [hq] at hex; cases hex
        next => cases hex
      | lstore_n z =>
        obtain rfl := hok
        simp only [ur_one, ur_stl] at hex
        split at hex
        next w r =>
          cases hq : Nat.blt (z + 1) ls.length with
          | true => rw [hq] at hex; exact ur_i_lstore_n hx hb had hdg (Nat.le_of_ble_eq_true hq) (hs _ hex)
          | false => rw [hq] at hex; cases hex
        next => cases hex
      | lstore z =>
        obtain rfl := hok
        simp only [ur_one, ur_stl] at hex
        split at hex
        next w r =>
          cases hq : Nat.blt (z + 1) ls.length with
          | true => rw [hq] at hex; exact ur_i_lstore hx hb had hdg (Nat.le_of_ble_eq_true hq) (hs _ hex)
          | false => rw [hq] at hex; cases hex
        next => cases hex
      | astore_n z =>
        obtain rfl := hok
        simp only [ur_one, ur_sta] at hex
        split at hex
        next w r =>
          cases hq : Nat.blt z ls.length with
          | true => rw [hq] at hex; exact ur_i_astore_n hx hb had hdg (Nat.le_of_ble_eq_true hq) (hs _ hex)
          | false => rw [hq] at hex; cases hex
        next => cases hex
      | astore z =>
        obtain rfl := hok
        simp only [ur_one, ur_sta] at hex
        split at hex
        next w r =>
          cases hq : Nat.blt z ls.length with
          | true => rw [hq] at hex; exact ur_i_astore hx hb had hdg (Nat.le_of_ble_eq_true hq) (hs _ hex)
          | false => rw [hq] at hex; cases hex
        next => cases hex
      | iinc j z =>
        obtain ⟨rfl, h1⟩ := hok
        simp only [ur_one] at hex
        split at hex
        next w hw =>
          cases hq : Nat.blt j ls.length with
          | true => rw [hq] at hex; exact ur_i_iinc hx hb had hdg hw h1 (Nat.le_of_ble_eq_true hq) (hs _ hex)
          | false => rw [hq] at hex; cases hex
        next => cases hex
      | iadd => obtain rfl := hok; exact ur_i_iadd hx hb hdg hs hex
      | isub => obtain rfl := hok; exact ur_i_isub hx hb hdg hs hex
      | imul => obtain rfl := hok; exact ur_i_imul hx hb hdg hs hex
      | iand => obtain rfl := hok; exact ur_i_iand hx hb hdg hs hex
      | ior => obtain rfl := hok; exact ur_i_ior hx hb hdg hs hex
      | ixor => obtain rfl := hok; exact ur_i_ixor hx hb hdg hs hex
      | ishl => obtain rfl := hok; exact ur_i_ishl hx hb hdg hs hex
      | ishr => obtain rfl := hok; exact ur_i_ishr hx hb hdg hs hex
      | iushr => obtain rfl := hok; exact ur_i_iushr hx hb hdg hs hex
      | ladd => obtain rfl := hok; exact ur_i_ladd hx hb hdg hs hex
      | lsub => obtain rfl := hok; exact ur_i_lsub hx hb hdg hs hex
      | lmul => obtain rfl := hok; exact ur_i_lmul hx hb hdg hs hex
      | land => obtain rfl := hok; exact ur_i_land hx hb hdg hs hex
      | lor => obtain rfl := hok; exact ur_i_lor hx hb hdg hs hex
      | ineg => obtain rfl := hok; exact ur_i_ineg hx hb hdg hs hex
      | i2l => obtain rfl := hok; exact ur_i_i2l hx hb hdg hs hex
      | i2c => obtain rfl := hok; exact ur_i_i2c hx hb hdg hs hex
      | i2b => obtain rfl := hok; exact ur_i_i2b hx hb hdg hs hex
      | iaload => obtain rfl := hok; exact ur_i_iaload hx hb hK hdg hs hex
      | caload => obtain rfl := hok; exact ur_i_caload hx hb hK hdg hs hex
      | iastore => obtain rfl := hok; exact ur_i_iastore hx hb hK hdg hs hex
      | bastore => obtain rfl := hok; exact ur_i_bastore hx hb hK hdg hs hex
      | castore => obtain rfl := hok; exact ur_i_castore hx hb hK hdg hs hex
      | baload => obtain rfl := hok; exact ur_i_baload hx hb hK hO hdg hs hex
      | idiv =>
        obtain rfl := hok
        simp only [ur_one] at hex
        split at hex
        · exact ur_i_idiv hx hb hdg hs hex
        · cases hex
      | irem =>
        obtain rfl := hok
        simp only [ur_one] at hex
        split at hex
        · exact ur_i_irem hx hb hdg hs hex
        · cases hex
      | ldiv =>
        obtain rfl := hok
        simp only [ur_one] at hex
        split at hex
        · exact ur_i_ldiv hx hb hdg hs hex
        · cases hex
      | lrem =>
        obtain rfl := hok
        simp only [ur_one] at hex
        split at hex
        · exact ur_i_lrem hx hb hdg hs hex
        · cases hex
      | laload =>
        obtain rfl := hok
        simp only [ur_one] at hex
        split at hex
        · exact ur_i_laload hx hb hK hdg hs hex
        · cases hex
      | aaload =>
        obtain rfl := hok
        simp only [ur_one] at hex
        split at hex
        · exact ur_i_aaload hx hb hK hdg hs hex
        · cases hex
      | lastore =>
        obtain rfl := hok
        simp only [ur_one] at hex
        split at hex
        · exact ur_i_lastore hx hb hK hdg hs hex
        · cases hex
      | aastore =>
        obtain rfl := hok
        simp only [ur_one] at hex
        split at hex
        · exact ur_i_aastore hx hb hK hdg hs hex
        · cases hex
      | l2i =>
        obtain rfl := hok
        simp only [ur_one] at hex
        split at hex
        · exact ur_i_l2i hx hb hdg (hs _ hex)
        · cases hex
      | lushr =>
        obtain rfl := hok
        simp only [ur_one] at hex
        split at hex
        · exact ur_i_lushr hx hb hdg (hs _ hex)
        · cases hex
      | lcmp =>
        obtain rfl := hok
        simp only [ur_one] at hex
        split at hex
        · exact ur_i_lcmp hx hb hdg (hs _ hex)
        · cases hex
      | dup =>
        obtain rfl := hok
        simp only [ur_one] at hex
        split at hex
        · exact ur_i_dup hx hb had hdg rfl (hs _ hex)
        · exact ur_i_dup hx hb had hdg rfl (hs _ hex)
        · cases hex
      | pop =>
        obtain rfl := hok
        simp only [ur_one] at hex
        split at hex
        · exact ur_i_pop hx hb had hdg rfl (hs _ hex)
        · exact ur_i_pop hx hb had hdg rfl (hs _ hex)
        · cases hex
      | dup2 =>
        obtain rfl := hok
        simp only [ur_one] at hex
        split at hex
        · exact ur_i_dup2 hx hb had hdg rfl rfl (hs _ hex)
        · cases hex
      | goto o => obtain ⟨rfl, h1⟩ := hok; exact ur_i_goto hx hb hdg h1 (hs _ hex)
      | ifCond cn o => obtain ⟨rfl, h1⟩ := hok; exact ur_i_if1 hx hb hdg h1 hs hex
      | if_icmp cn o => obtain ⟨rfl, h1⟩ := hok; exact ur_i_if2 hx hb hdg h1 hs hex
      | tableswitch df lo hi offs =>
        obtain ⟨h1, h2, h3⟩ := hok
        simp only [ur_one] at hex
        split at hex
        · exact ur_i_table hx hb hdg h1 h2 h3 (hs _ (ur_sel_do hex))
        · cases hex
      | lookupswitch df ps =>
        obtain ⟨h1, h2, h3⟩ := hok
        simp only [ur_one] at hex
        split at hex
        · exact ur_i_lookup hx hb hdg h1 h2 h3 (hs _ (ur_sel_do hex))
        · cases hex
      | getfield z => obtain ⟨rfl, h1⟩ := hok; exact ur_j_getf hx hb hts hown hK hO hcl h1 hdg hs hex
      | putfield z => obtain ⟨rfl, h1, h2⟩ := hok; exact ur_j_putf hx hb had hts hown hK hcl h1 (fun q => hname.trans (of_decide_eq_true q)) h2 hdg hs hex
      | arraylength =>
        obtain rfl := hok
        simp only [ur_one] at hex
        split at hex
        · exact ur_i_len hx hb hK hO hdg hs hex
        · cases hex
      | newarray t =>
        obtain ⟨rfl, h1⟩ := hok
        simp only [ur_one] at hex
        split at hex
        next t' w r ht => exact ur_i_newa hx hb hK hA hAb hZ ht (hts _ h1) hdg hgrow hR hs hex
        next => cases hex
      | anewarray z =>
        obtain ⟨rfl, h1⟩ := hok
        simp only [ur_one] at hex
        obtain ⟨adK, adV, o1, o2, o3, o4, o5, o6, o7, o8⟩ := id hO
        split at hex
        · rcases h1 with ⟨rfl, h1⟩ | ⟨rfl, h1⟩
          · exact ur_i_newq hx hb hK hA hAb hZ hown (hts _ h1) o7 (Or.inl rfl) rfl hdg hgrow hR hs hex
          · exact ur_i_newq hx hb hK hA hAb hZ hown (hts _ h1) o8 (Or.inr rfl) rfl hdg hgrow hR hs hex
        · cases hex
      | new z =>
        obtain ⟨rfl, C, T, N', hc, h1⟩ := hok
        obtain ⟨c1, c2, c3, ⟨ty, c4, c5⟩, c6, c7⟩ := hcl _ _ _ _ hc
        exact ur_i_new hx hb hts hK hA hAb hZ hown hc c1 c2 ty c4 (fun j hj => ur_ktf_def (c5 j hj)) (hts _ h1) (hts _ c6) (hts _ c7) hdg hgrow hR hs hex
      | invokevirtual z =>
        obtain ⟨rfl, np, h1, h2, h3, h4, h5, h6⟩ := hok
        exact ur_i_virt had ih hcx hZ hR h1 h2 h3 h4 h5 h6 hdg hs hex
      | invokestatic z =>
        obtain ⟨rfl, ⟨rfl, h1, h2, h3, h4⟩ | ⟨rfl, h1, h2, h3, h4⟩ | ⟨rfl, h1, h2, h3, h4⟩ | ⟨np, h1, h2, h3, h4⟩⟩ := hok
        · replace hex : ur_do (ur_ex G n d k) (ur_exc G n d) (ur_lib0 pc ls st m) = some res := hex
          simp only [ur_lib0] at hex
          split at hex
          next w j b i a r =>
            cases hq : Nat.ble (ur_cs r) 8 with
            | true => rw [hq] at hex; exact ur_i_copy hx hb hml hK hown (hts _ h1) (hts _ h2) (hts _ h3) (hts _ h4) hRl (by rw [ur_cs_map had]; exact Nat.le_of_ble_eq_true hq) hdg hs hex
            | false => rw [hq] at hex; cases hex
          next => cases hex
        · replace hex : ur_do (ur_ex G n d k) (ur_exc G n d) (ur_lib2 ur_mx pc ls st m) = some res := hex
          simp only [ur_lib2] at hex
          split at hex
          next b a r =>
            cases hq : Nat.ble (ur_cs r) 8 with
            | true => rw [hq] at hex; exact ur_i_max hx hb hml hown (hts _ h1) (hts _ h2) (hts _ h3) (hts _ h4) hRl ⟨Nat.le_trans (hgrow _ hex).1 hR.1, Nat.le_trans (hgrow _ hex).2 hR.2⟩ (by rw [ur_cs_map had]; exact Nat.le_of_ble_eq_true hq) hdg (hs _ hex)
            | false => rw [hq] at hex; cases hex
          next => cases hex
        · replace hex : ur_do (ur_ex G n d k) (ur_exc G n d) (ur_lib2 ur_mn pc ls st m) = some res := hex
          simp only [ur_lib2] at hex
          split at hex
          next b a r =>
            cases hq : Nat.ble (ur_cs r) 8 with
            | true => rw [hq] at hex; exact ur_i_min hx hb hml hown (hts _ h1) (hts _ h2) (hts _ h3) (hts _ h4) hRl ⟨Nat.le_trans (hgrow _ hex).1 hR.1, Nat.le_trans (hgrow _ hex).2 hR.2⟩ (by rw [ur_cs_map had]; exact Nat.le_of_ble_eq_true hq) hdg (hs _ hex)
            | false => rw [hq] at hex; cases hex
          next => cases hex
        · exact ur_i_stat had ih hcx hZ hR h1 h2 h3 h4 hdg hs hex
      | invokespecial z =>
        obtain ⟨rfl, ⟨rfl, h1, h2, h3⟩ | ⟨np, h1, h2, h3, h4, h5, h6, h7⟩⟩ := hok
        · replace hex : ur_do (ur_ex G n d k) (ur_exc G n d) (ur_lib1 pc ls st m) = some res := hex
          simp only [ur_lib1] at hex
          split at hex
          next a r =>
            cases hq : (Nat.ble (ur_cs r) 8 && decide (a < ur_base)) with
            | true =>
              rw [hq] at hex
              simp only [Bool.and_eq_true, decide_eq_true_eq] at hq
              exact ur_i_oin hx hb hml hown (hts _ h1) (hts _ h2) (hts _ h3) hRl (by rw [ur_cs_map had]; exact Nat.le_of_ble_eq_true hq.1) hq.2 hdg (hs _ hex)
            | false => rw [hq] at hex; cases hex
          next => cases hex
        · exact ur_i_spec had ih hcx hZ hR h1 h2 h3 h4 h5 h6 h7 hdg hs hex
      | ireturn =>
        obtain ⟨rfl, ty, hty⟩ := hok
        simp only [ur_one] at hex
        split at hex
        next a =>
          have hex : (bif ur_fit (G k).2.2.2.1 a then some (a, m) else none) = some res := hex
          obtain ⟨g1, g2⟩ := ur_cond_t hex
          cases g2
          rw [hty]
          exact ur_j_ret hx hb (hret.trans hty) hlocks (hM.2.2.2.2.2 ty hty a g1) hdg
        next => cases hex
      | return_ =>
        obtain ⟨rfl, hty⟩ := hok
        simp only [ur_one] at hex
        split at hex
        · have hex : some ((0 : Int32), m) = some res := hex
          cases hex
          rw [hty]
          exact ur_j_retv hx hb (hret.trans hty) hlocks hdg
        · cases hex
      | _ => cases hex
    next => cases hex
end
section
/-! CHECKS of the tables' facts, by program -/
def ur_wp (pos : Nat) (w : Cond) : Bool := match lw_tbl[pos]? with
  | some w' => decide (w' = w) && goodWord w'
  | none => false
def ur_np (pos : Nat) (w : Cond) : Bool := match lw_tbl[pos]? with
  | some w' => decide (w' = w)
  | none => false
theorem ur_wp_t {pos : Nat} {w : Cond} (h : ur_wp pos w = true) : w ∈ ur_T := by
  unfold ur_wp at h
  split at h
  next w' hw =>
    simp only [Bool.and_eq_true, decide_eq_true_eq] at h
    obtain ⟨rfl, h⟩ := h
    exact List.mem_filter.mpr ⟨List.mem_of_getElem? hw, h⟩
  next => cases h
theorem ur_np_t {pos : Nat} {a : String} {i : Nat} {y : MethodName} {b : String} (h : ur_np pos (.methodLinkNest a i y b) = true) : Cond.methodLinkNest a i y b ∈ ur_nest := by
  unfold ur_np at h
  split at h
  next w' hw =>
    have h := of_decide_eq_true h
    subst h
    exact List.mem_filter.mpr ⟨List.mem_of_getElem? hw, rfl⟩
  next => cases h
abbrev ur_Q2 : Type := ur_P × ur_NI
def ur_okQ (q : ur_Q2) : Prop := Cond.code q.2.1 q.2.2.1 q.1.2.2.1 q.2.2.2 ∈ ur_T ∧ Jvm.plainName q.2.1.cls = true ∧ (q.2.1.cls ≠ "java/lang/invoke/MethodHandle" ∧ q.2.1.cls ≠ "java/lang/invoke/VarHandle") ∧ q.1.2.2.1 ≤ 40 ∧ Cond.initialized q.2.1.cls ∈ ur_T ∧ ∀ ty, q.2.2.2 = some ty → ∀ a, ur_fit q.1.2.2.2.1 a = true → narrow ty (.int a) = .int a
def ur_PM (q : ur_Q2) : Prop := ur_okQ q ∧ (q.1.2.2.2.2 = 30 → Cond.static q.2.1 ∈ ur_T) ∧ (q.1.2.2.2.2 ≠ 30 → Cond.instanceMethod q.2.1 ∈ ur_T ∧ (q.2.1.name ≠ "<init>" → Cond.selects q.2.1.cls q.2.1 q.2.1 ∈ ur_T)) ∧ (q.1.2.2.2.2 ≠ 30 → (q.1.2.2.2.2 = 20 ∧ q.2.1.cls = "java/lang/String") ∨ (q.1.2.2.2.2 < 11 ∧ ∃ z, vwCl[q.1.2.2.2.2]? = some z ∧ z.1 = q.2.1.cls))
def ur_zok (ret : Option FieldType) (z : Nat) : Bool := match ret with
  | none => true
  | some .int => Nat.beq z 0
  | some .boolean => Nat.beq z 1
  | some .char => Nat.beq z 2
  | some .byte => Nat.beq z 3
  | _ => false
theorem ur_zok_t {ret : Option FieldType} {z : Nat} (h : ur_zok ret z = true) : ∀ ty, ret = some ty → ∀ a, ur_fit z a = true → narrow ty (.int a) = .int a := by
  intro ty hty a ha
  subst hty
  cases ty <;> simp only [ur_zok] at h <;> first | cases h | skip
  all_goals (have hz := Nat.eq_of_beq_eq_true h; subst hz)
  · have ha := of_decide_eq_true (show decide (vp_nar .byte a = a) = true from ha)
    have e : narrow .byte (.int a) = .int (vp_nar .byte a) := rfl
    rw [e, ha]
  · have ha := of_decide_eq_true (show decide (vp_nar .char a = a) = true from ha)
    have e : narrow .char (.int a) = .int (vp_nar .char a) := rfl
    rw [e, ha]
  · rfl
  · have ha : (a == 0 || a == 1) = true := ha
    simp only [Bool.or_eq_true, beq_iff_eq] at ha
    rcases ha with rfl | rfl <;> rfl
def ur_ckM (q : ur_Q2) (p1 p2 p3 p4 : Nat) : Bool := ur_wp p1 (.code q.2.1 q.2.2.1 q.1.2.2.1 q.2.2.2) && Jvm.plainName q.2.1.cls && (decide (q.2.1.cls ≠ "java/lang/invoke/MethodHandle") && decide (q.2.1.cls ≠ "java/lang/invoke/VarHandle")) && Nat.ble q.1.2.2.1 40 && ur_wp p2 (.initialized q.2.1.cls) && ur_zok q.2.2.2 q.1.2.2.2.1 && (bif Nat.beq q.1.2.2.2.2 30 then ur_wp p3 (.static q.2.1) else ur_wp p3 (.instanceMethod q.2.1) && (decide (q.2.1.name = "<init>") || ur_wp p4 (.selects q.2.1.cls q.2.1 q.2.1)) && ((Nat.beq q.1.2.2.2.2 20 && decide (q.2.1.cls = "java/lang/String")) || (Nat.blt q.1.2.2.2.2 11 && (match vwCl[q.1.2.2.2.2]? with
    | some z => decide (z.1 = q.2.1.cls)
    | none => false))))
theorem ur_ckM_t {q : ur_Q2} {p1 p2 p3 p4 : Nat} (h : ur_ckM q p1 p2 p3 p4 = true) : ur_PM q := by
  unfold ur_ckM at h
  simp only [Bool.and_eq_true, decide_eq_true_eq] at h
  obtain ⟨⟨⟨⟨⟨⟨h1, h2⟩, h3⟩, h4⟩, h5⟩, h6⟩, h7⟩ := h
  refine ⟨⟨ur_wp_t h1, h2, h3, Nat.le_of_ble_eq_true h4, ur_wp_t h5, ur_zok_t h6⟩, fun hc => ?_, fun hc => ?_, fun hc => ?_⟩
  · have : Nat.beq q.1.2.2.2.2 30 = true := by rw [hc]; rfl
    rw [this] at h7
    exact ur_wp_t h7
  · have : Nat.beq q.1.2.2.2.2 30 = false := by
      cases hq : Nat.beq q.1.2.2.2.2 30 with
      | true => exact absurd (Nat.eq_of_beq_eq_true hq) hc
      | false => rfl
    rw [this] at h7
    simp only [cond_false, Bool.and_eq_true, Bool.or_eq_true, decide_eq_true_eq] at h7
    refine ⟨ur_wp_t h7.1.1, fun hn => ?_⟩
    rcases h7.1.2 with z | z
    · exact absurd z hn
    · exact ur_wp_t z
  · have : Nat.beq q.1.2.2.2.2 30 = false := by
      cases hq : Nat.beq q.1.2.2.2.2 30 with
      | true => exact absurd (Nat.eq_of_beq_eq_true hq) hc
      | false => rfl
    rw [this] at h7
    simp only [cond_false, Bool.and_eq_true, Bool.or_eq_true, decide_eq_true_eq] at h7
    rcases h7.2 with ⟨z1, z2⟩ | ⟨z1, z2⟩
    · exact Or.inl ⟨Nat.eq_of_beq_eq_true z1, z2⟩
    · split at z2
      next z hz => exact Or.inr ⟨Nat.le_of_ble_eq_true z1, z, hz, of_decide_eq_true z2⟩
      next => cases z2
theorem ur_cd {α : Type} {P : α → Prop} {b : Bool} {x y : α} (hx : P x) (hy : P y) : P (bif b then x else y) := by cases b <;> assumption
-- links: (index, tag, argument, constant)
abbrev ur_L4 : Type := Nat × Nat × Nat × Int32
def ur_PC (GN : Nat → ur_Q2) (x np : Nat) : Prop := ur_okC (fun y => (GN y).1) (fun y => (GN y).2) x np ∧ ur_PM (GN (x / 32))
/-- what a link's row says -/
def ur_PL (GN : Nat → ur_Q2) (own : String) (q : ur_L4) : Prop := match q.2.1 with
  | 0 => ∃ np, ur_PC GN q.2.2.1 np ∧ q.2.2.1 / 2 % 16 = np + 1 ∧ Cond.methodLink own q.1 (GN (q.2.2.1 / 32)).2.1 ∈ ur_T ∧ (GN (q.2.2.1 / 32)).1.2.2.2.2 ≠ 30 ∧ (GN (q.2.2.1 / 32)).2.1.name ≠ "<init>"
  | 1 => ∃ np, ur_PC GN q.2.2.1 np ∧ q.2.2.1 / 2 % 16 = np ∧ (Cond.methodLink own q.1 (GN (q.2.2.1 / 32)).2.1 ∈ ur_T ∨ ∃ host, Cond.methodLinkNest own q.1 (GN (q.2.2.1 / 32)).2.1 host ∈ ur_nest) ∧ (GN (q.2.2.1 / 32)).1.2.2.2.2 = 30
  | 3 => ∃ np, ur_PC GN q.2.2.1 np ∧ q.2.2.1 / 2 % 16 = np + 1 ∧ (Cond.methodLink own q.1 (GN (q.2.2.1 / 32)).2.1 ∈ ur_T ∨ ∃ host, Cond.methodLinkNest own q.1 (GN (q.2.2.1 / 32)).2.1 host ∈ ur_nest) ∧ (GN (q.2.2.1 / 32)).2.1.name = "<init>" ∧ (GN (q.2.2.1 / 32)).2.2.2 = none ∧ (GN (q.2.2.1 / 32)).1.2.2.2.2 < 11
  | 5 => Cond.methodLink own q.1 arraycopyName ∈ ur_T
  | 6 => Cond.methodLink own q.1 Lib.objectInit ∈ ur_T
  | 7 => Cond.methodLink own q.1 Lib.Math.max.name ∈ ur_T
  | 8 => Cond.methodLink own q.1 Lib.Math.min.name ∈ ur_T
  | 10 => q.2.2.1 / 64 < 11 ∧ ∃ (C : String) (T : u_T) (N : Nat), vwCl[q.2.2.1 / 64]? = some (C, T, N) ∧ q.2.2.1 % 64 < N ∧ Cond.fieldLink own q.1 (T (q.2.2.1 % 64)).1 (T (q.2.2.1 % 64)).2.1 (T (q.2.2.1 % 64)).2.2.1 ∈ ur_T
  | 11 => Cond.constant own q.1 q.2.2.2 ∈ ur_T
  | 12 => Cond.constantLong own q.1 (Int64.ofNat q.2.2.1) ∈ ur_T
  | 13 => ∃ (C : String) (T : u_T) (N : Nat), vwCl[q.2.2.1]? = some (C, T, N) ∧ Cond.classLink own q.1 C ∈ ur_T
  | 14 => (q.2.2.1 = 4 ∧ Cond.classLink own q.1 "UnsaidRoom$Night" ∈ ur_T) ∨ (q.2.2.1 = 5 ∧ Cond.classLink own q.1 "UnsaidRoom$Mark" ∈ ur_T)
  | 15 => Cond.fieldLink own q.1 "java/lang/String" "value" "[B" ∈ ur_T
  | 16 => Cond.fieldLink own q.1 "java/lang/String" "coder" "B" ∈ ur_T
  | 17 => Cond.fieldLink own q.1 "java/lang/String" "COMPACT_STRINGS" "Z" ∈ ur_T
  | 18 => Cond.fieldLink own q.1 "jdk/internal/util/Preconditions" "SIOOBE_FORMATTER" "Ljava/util/function/BiFunction;" ∈ ur_T
  | 19 => (own, q.1, q.2.2.1) ∈ ur_strs
  | _ => True
def ur_ckC (GN : Nat → ur_Q2) (NM x np : Nat) : Bool := Nat.blt x 9000 && Nat.blt (x / 32) NM && decide ((parseMethodDescriptor (GN (x / 32)).2.1.desc).map (fun d => d.parameters.length) = some np) && (bif x % 2 == 0 then (GN (x / 32)).2.2.2.isNone else (GN (x / 32)).2.2.2.isSome)
theorem ur_ckC_t {GN : Nat → ur_Q2} {NM x np : Nat} (hM : ∀ y, y < NM → ur_PM (GN y)) (h : ur_ckC GN NM x np = true) : ur_PC GN x np := by
  unfold ur_ckC at h
  simp only [Bool.and_eq_true, decide_eq_true_eq] at h
  obtain ⟨⟨⟨h1, h3⟩, h4⟩, h5⟩ := h
  refine ⟨⟨h1, trivial, (hM _ (Nat.le_of_ble_eq_true h3)).1, h4, ?_⟩, hM _ (Nat.le_of_ble_eq_true h3)⟩
  cases hx : x % 2 == 0 with
  | true =>
    rw [hx] at h5
    exact Or.inl ⟨rfl, Option.isNone_iff_eq_none.mp h5⟩
  | false =>
    rw [hx] at h5
    exact Or.inr ⟨rfl, Option.isSome_iff_exists.mp h5⟩
def ur_ckL (GN : Nat → ur_Q2) (NM : Nat) (own : String) (pos : Nat) (q : ur_L4) : Bool := match q.2.1 with
  | 0 => Nat.ble 1 (q.2.2.1 / 2 % 16) && ur_ckC GN NM q.2.2.1 (q.2.2.1 / 2 % 16 - 1) && ur_wp pos (.methodLink own q.1 (GN (q.2.2.1 / 32)).2.1) && !(Nat.beq (GN (q.2.2.1 / 32)).1.2.2.2.2 30) && decide ((GN (q.2.2.1 / 32)).2.1.name ≠ "<init>")
  | 1 => ur_ckC GN NM q.2.2.1 (q.2.2.1 / 2 % 16) && (ur_wp pos (.methodLink own q.1 (GN (q.2.2.1 / 32)).2.1) || ur_np pos (.methodLinkNest own q.1 (GN (q.2.2.1 / 32)).2.1 "UnsaidRoom")) && Nat.beq (GN (q.2.2.1 / 32)).1.2.2.2.2 30
  | 3 => Nat.ble 1 (q.2.2.1 / 2 % 16) && ur_ckC GN NM q.2.2.1 (q.2.2.1 / 2 % 16 - 1) && (ur_wp pos (.methodLink own q.1 (GN (q.2.2.1 / 32)).2.1) || ur_np pos (.methodLinkNest own q.1 (GN (q.2.2.1 / 32)).2.1 "UnsaidRoom")) && decide ((GN (q.2.2.1 / 32)).2.1.name = "<init>") && (GN (q.2.2.1 / 32)).2.2.2.isNone && Nat.blt (GN (q.2.2.1 / 32)).1.2.2.2.2 11
  | 5 => ur_wp pos (.methodLink own q.1 arraycopyName)
  | 6 => ur_wp pos (.methodLink own q.1 Lib.objectInit)
  | 7 => ur_wp pos (.methodLink own q.1 Lib.Math.max.name)
  | 8 => ur_wp pos (.methodLink own q.1 Lib.Math.min.name)
  | 10 => Nat.blt (q.2.2.1 / 64) 11 && (match vwCl[q.2.2.1 / 64]? with
    | some (_, T, N) => Nat.blt (q.2.2.1 % 64) N && ur_wp pos (.fieldLink own q.1 (T (q.2.2.1 % 64)).1 (T (q.2.2.1 % 64)).2.1 (T (q.2.2.1 % 64)).2.2.1)
    | none => false)
  | 11 => ur_wp pos (.constant own q.1 q.2.2.2)
  | 12 => ur_wp pos (.constantLong own q.1 (Int64.ofNat q.2.2.1))
  | 13 => (match vwCl[q.2.2.1]? with
    | some (C, _, _) => ur_wp pos (.classLink own q.1 C)
    | none => false)
  | 14 => (Nat.beq q.2.2.1 4 && ur_wp pos (.classLink own q.1 "UnsaidRoom$Night")) || (Nat.beq q.2.2.1 5 && ur_wp pos (.classLink own q.1 "UnsaidRoom$Mark"))
  | 15 => ur_wp pos (.fieldLink own q.1 "java/lang/String" "value" "[B")
  | 16 => ur_wp pos (.fieldLink own q.1 "java/lang/String" "coder" "B")
  | 17 => ur_wp pos (.fieldLink own q.1 "java/lang/String" "COMPACT_STRINGS" "Z")
  | 18 => ur_wp pos (.fieldLink own q.1 "jdk/internal/util/Preconditions" "SIOOBE_FORMATTER" "Ljava/util/function/BiFunction;")
  | 19 => decide ((own, q.1, q.2.2.1) ∈ ur_strs)
  | _ => true
theorem ur_ckL_t {GN : Nat → ur_Q2} {NM : Nat} (hM : ∀ y, y < NM → ur_PM (GN y)) {own : String} {pos : Nat} {q : ur_L4} (h : ur_ckL GN NM own pos q = true) : ur_PL GN own q := by
  obtain ⟨idx, tag, x, v⟩ := q
  unfold ur_ckL at h
  unfold ur_PL
  dsimp only at h ⊢
  split at h
  · simp only [Bool.and_eq_true, Bool.not_eq_true', decide_eq_true_eq] at h
    obtain ⟨⟨⟨⟨h0, h1⟩, h2⟩, h3⟩, h4⟩ := h
    have h0 := Nat.le_of_ble_eq_true h0
    exact ⟨_, ur_ckC_t hM h1, by omega, ur_wp_t h2, (fun z => by rw [z] at h3; cases h3), h4⟩
  · simp only [Bool.and_eq_true, Bool.or_eq_true] at h
    obtain ⟨⟨h1, h2⟩, h3⟩ := h
    exact ⟨_, ur_ckC_t hM h1, rfl, h2.imp ur_wp_t (fun z => ⟨_, ur_np_t z⟩), Nat.eq_of_beq_eq_true h3⟩
  · simp only [Bool.and_eq_true, Bool.or_eq_true, decide_eq_true_eq] at h
    obtain ⟨⟨⟨⟨⟨h0, h1⟩, h2⟩, h3⟩, h4⟩, h5⟩ := h
    have h0 := Nat.le_of_ble_eq_true h0
    exact ⟨_, ur_ckC_t hM h1, by omega, h2.imp ur_wp_t (fun z => ⟨_, ur_np_t z⟩), h3, Option.isNone_iff_eq_none.mp h4, Nat.le_of_ble_eq_true h5⟩
  · exact ur_wp_t h
  · exact ur_wp_t h
  · exact ur_wp_t h
  · exact ur_wp_t h
  · simp only [Bool.and_eq_true] at h
    obtain ⟨h1, h2⟩ := h
    split at h2
    next C T N hc =>
      simp only [Bool.and_eq_true] at h2
      exact ⟨Nat.le_of_ble_eq_true h1, C, T, N, hc, Nat.le_of_ble_eq_true h2.1, ur_wp_t h2.2⟩
    next => cases h2
  · exact ur_wp_t h
  · exact ur_wp_t h
  · split at h
    next C T N hc => exact ⟨C, T, N, hc, ur_wp_t h⟩
    next => cases h
  · simp only [Bool.or_eq_true, Bool.and_eq_true] at h
    exact h.imp (fun z => ⟨Nat.eq_of_beq_eq_true z.1, ur_wp_t z.2⟩) (fun z => ⟨Nat.eq_of_beq_eq_true z.1, ur_wp_t z.2⟩)
  · exact ur_wp_t h
  · exact ur_wp_t h
  · exact ur_wp_t h
  · exact ur_wp_t h
  · exact of_decide_eq_true h
  · trivial

def ur_inL (L : List ur_L4) (idx tag x : Nat) (v : Int32) : Bool := L.any (fun q => Nat.beq q.1 idx && (Nat.beq q.2.1 tag && (Nat.beq q.2.2.1 x && decide (q.2.2.2 = v))))
theorem ur_inL_t {L : List ur_L4} {idx tag x : Nat} {v : Int32} (h : ur_inL L idx tag x v = true) : (idx, tag, x, v) ∈ L := by
  obtain ⟨⟨a, b, c, d⟩, h1, h2⟩ := List.any_eq_true.mp h
  simp only [Bool.and_eq_true, decide_eq_true_eq] at h2
  obtain ⟨e1, e2, e3, e4⟩ := h2
  rw [← Nat.eq_of_beq_eq_true e1, ← Nat.eq_of_beq_eq_true e2, ← Nat.eq_of_beq_eq_true e3, ← e4]
  exact h1
/-- the check of an instruction -/
def ur_ckI (L : List ur_L4) (own : String) (ini : Bool) (ret : Option FieldType) (sw : List (Int32 × Nat) × Nat) (pc : Nat) (i : Instr) (n x : Nat) (v : Int32) : Bool := match i with
  | .iconst k => Nat.beq n 1 && decide (Int32.ofInt k = v)
  | .bipush k => Nat.beq n 2 && decide ((Int8.ofInt k).toInt32 = v)
  | .sipush k => Nat.beq n 3 && decide ((Int16.ofInt k).toInt32 = v)
  | .ldc k => Nat.beq n 2 && ((Nat.beq x 0 && ur_inL L k 11 0 v) || (Nat.ble ur_base x && ur_inL L k 19 (x - ur_base) 0))
  | .ldc_w k => Nat.beq n 3 && ur_inL L k 11 0 v
  | .ldc2_w k => Nat.beq n 3 && ur_inL L k 12 x 0
  | .lconst k => Nat.beq n 1 && Nat.beq k x
  | .getstatic k => Nat.beq n 3 && ((Nat.beq x 0 && (decide (v = 1) && ur_inL L k 17 0 0)) || (Nat.beq x (ur_base + 20) && ur_inL L k 18 0 0))
  | .iload_n _ => Nat.beq n 1
  | .lload_n _ => Nat.beq n 1
  | .aload_n _ => Nat.beq n 1
  | .istore_n _ => Nat.beq n 1
  | .lstore_n _ => Nat.beq n 1
  | .astore_n _ => Nat.beq n 1
  | .iload _ => Nat.beq n 2
  | .lload _ => Nat.beq n 2
  | .aload _ => Nat.beq n 2
  | .istore _ => Nat.beq n 2
  | .lstore _ => Nat.beq n 2
  | .astore _ => Nat.beq n 2
  | .iinc _ k => Nat.beq n 3 && decide (Int32.ofInt k = v)
  | .goto o => Nat.beq n 3 && decide ((pc : Int) + o = (x : Int))
  | .ifCond _ o => Nat.beq n 3 && decide ((pc : Int) + o = (x : Int))
  | .if_icmp _ o => Nat.beq n 3 && decide ((pc : Int) + o = (x : Int))
  | .tableswitch dflt lo hi offs => decide (sw.1.map (fun q => (q.1.toInt, (q.2 : Int))) = (List.range offs.toList.length).map (fun (j : Nat) => (lo + (j : Int), (pc : Int) + offs.toList.getD j 0))) && decide ((pc : Int) + dflt = (sw.2 : Int)) && decide (hi + 1 = lo + offs.toList.length)
  | .lookupswitch dflt ps => (ps.toList.zip (ps.toList.drop 1)).all (fun (a, next) => a.1 < next.1) && decide (sw.1.map (fun q => (q.1.toInt, (q.2 : Int))) = ps.toList.map (fun q => (q.1, (pc : Int) + q.2))) && decide ((sw.2 : Int) = (pc : Int) + dflt)
  | .getfield k => Nat.beq n 3 && ((Nat.beq x 5123 && ur_inL L k 15 0 0) || (Nat.beq x 5120 && ur_inL L k 16 0 0) || (ur_inL L k 10 (x / 4) 0 && Nat.beq (ur_kd (x / 256) (x / 4 % 64)) (x % 4)))
  | .putfield k => Nat.beq n 3 && (ur_inL L k 10 (x / 4) 0 && Nat.beq (ur_kd (x / 256) (x / 4 % 64)) (x % 4)) && (match vwCl[x / 256]? with
    | some (_, T, _) => !(T (x / 4 % 64)).2.2.2 || (ini && decide ((T (x / 4 % 64)).1 = own))
    | none => true)
  | .new k => Nat.beq n 3 && ur_inL L k 13 x 0
  | .newarray t => Nat.beq n 2 && (match t with
    | .int => true
    | .long => true
    | .boolean => true
    | .char => true
    | _ => false)
  | .anewarray k => Nat.beq n 3 && ur_inL L k 14 x 0
  | .invokevirtual k => Nat.beq n 3 && ur_inL L k 0 x 0
  | .invokestatic k => Nat.beq n 3 && ((Nat.beq x 9000 && ur_inL L k 5 0 0) || (Nat.beq x 9002 && ur_inL L k 7 0 0) || (Nat.beq x 9003 && ur_inL L k 8 0 0) || ur_inL L k 1 x 0)
  | .invokespecial k => Nat.beq n 3 && ((Nat.beq x 9001 && ur_inL L k 6 0 0) || ur_inL L k 3 x 0)
  | .ireturn => Nat.beq n 1 && ret.isSome
  | .return_ => Nat.beq n 1 && ret.isNone
  | _ => Nat.beq n 1
/-- words of no link -/
def ur_W0 : Prop := (Cond.native arraycopyName ∈ ur_T ∧ Cond.static arraycopyName ∈ ur_T ∧ Cond.initialized "java/lang/System" ∈ ur_T) ∧ (Cond.instanceMethod Lib.objectInit ∈ ur_T ∧ Cond.code Lib.objectInit ⟨#[0xb1]⟩ 1 none ∈ ur_T) ∧ Cond.arrayClass .int ∈ ur_T ∧ Cond.arrayClass .long ∈ ur_T ∧ Cond.arrayClass .boolean ∈ ur_T ∧ Cond.arrayClass .char ∈ ur_T ∧ Cond.static Lib.Math.max.name ∈ ur_T ∧ Cond.initialized "java/lang/Math" ∈ ur_T ∧ Cond.code Lib.Math.max.name Lib.Math.max.code 2 (some .int) ∈ ur_T ∧ Cond.static Lib.Math.min.name ∈ ur_T ∧ Cond.code Lib.Math.min.name Lib.Math.min.code 2 (some .int) ∈ ur_T
theorem ur_nb {a b : Nat} (h : Nat.beq a b = true) : a = b := Nat.eq_of_beq_eq_true h
theorem ur_okF_t {GN : Nat → ur_Q2} {own : String} {k x : Nat} {v : Int32} (h1 : ur_PL GN own (k, 10, x / 4, v)) (h2 : Nat.beq (ur_kd (x / 256) (x / 4 % 64)) (x % 4) = true) : ur_okF own k x := by
  obtain ⟨g1, C, T, N, g2, g3, g4⟩ := h1
  have e : x / 4 / 64 = x / 256 := by rw [Nat.div_div_eq_div_mul]
  dsimp only at g1 g2 g3 g4
  rw [e] at g1 g2
  exact ⟨g1, C, T, N, g2, g3, g4, ur_nb h2⟩
set_option maxHeartbeats 1000000 in
theorem ur_ckI_t {GN : Nat → ur_Q2} (hW0 : ur_W0) {L : List ur_L4} {own : String} (hL : ∀ q ∈ L, ur_PL GN own q) {ini : Bool} {ret : Option FieldType} {sw : List (Int32 × Nat) × Nat} {pc : Nat} {i : Instr} {n x : Nat} {v : Int32} (h : ur_ckI L own ini ret sw pc i n x v = true) : ur_okE (fun y => (GN y).1) (fun y => (GN y).2) own ini ret sw pc i n x v := by
  have hl : ∀ {idx tag x : Nat} {v : Int32}, ur_inL L idx tag x v = true → ur_PL GN own (idx, tag, x, v) := fun h => hL _ (ur_inL_t h)
  cases i <;> simp only [ur_ckI, Bool.and_eq_true, Bool.or_eq_true, decide_eq_true_eq] at h <;> simp only [ur_okE]
  all_goals try exact ur_nb h
  all_goals try exact ⟨ur_nb h.1, h.2⟩
  case ldc k =>
    refine ⟨ur_nb h.1, ?_⟩
    rcases h.2 with z | z
    · exact Or.inl ⟨ur_nb z.1, hl z.2⟩
    · have z1 := Nat.le_of_ble_eq_true z.1
      exact Or.inr ⟨x - ur_base, by omega, hl z.2⟩
  case ldc_w k => exact ⟨ur_nb h.1, hl h.2⟩
  case ldc2_w k => exact ⟨ur_nb h.1, hl h.2⟩
  case lconst k => exact ⟨ur_nb h.1, ur_nb h.2⟩
  case getstatic k =>
    refine ⟨ur_nb h.1, ?_⟩
    rcases h.2 with z | z
    · exact Or.inl ⟨ur_nb z.1, z.2.1, hl z.2.2⟩
    · exact Or.inr ⟨ur_nb z.1, hl z.2⟩
  case tableswitch => exact ⟨h.1.1, h.1.2, h.2⟩
  case lookupswitch => exact ⟨h.1.1, h.1.2, h.2⟩
  case getfield k =>
    refine ⟨ur_nb h.1, ?_⟩
    rcases h.2 with (z | z) | z
    · exact Or.inl ⟨ur_nb z.1, hl z.2⟩
    · exact Or.inr (Or.inl ⟨ur_nb z.1, hl z.2⟩)
    · exact Or.inr (Or.inr (ur_okF_t (hl z.1) z.2))
  case putfield k =>
    refine ⟨ur_nb h.1.1, ur_okF_t (hl h.1.2.1) h.1.2.2, fun C T N hc hf => ?_⟩
    have h2 := h.2
    rw [hc] at h2
    simp only [hf, Bool.not_true, Bool.false_or, Bool.and_eq_true, decide_eq_true_eq] at h2
    exact h2
  case new k => exact ⟨ur_nb h.1, hl h.2⟩
  case newarray t =>
    refine ⟨ur_nb h.1, ?_⟩
    have h2 := h.2
    cases t <;> simp at h2
    · exact hW0.2.2.2.2.1
    · exact hW0.2.2.2.2.2.1
    · exact hW0.2.2.1
    · exact hW0.2.2.2.1
  case anewarray k => exact ⟨ur_nb h.1, hl h.2⟩
  case invokevirtual k =>
    obtain ⟨np, g1, g2, g3, g4, g5⟩ := hl h.2
    have gm := g1.2
    exact ⟨ur_nb h.1, np, g1.1, g2, g3, (gm.2.2.1 g4).1, (gm.2.2.1 g4).2 g5, gm.2.2.2 g4⟩
  case invokestatic k =>
    refine ⟨ur_nb h.1, ?_⟩
    rcases h.2 with ((z | z) | z) | z
    · exact Or.inl ⟨ur_nb z.1, hl z.2, hW0.1.1, hW0.1.2.1, hW0.1.2.2⟩
    · exact Or.inr (Or.inl ⟨ur_nb z.1, hl z.2, hW0.2.2.2.2.2.2.1, hW0.2.2.2.2.2.2.2.1, hW0.2.2.2.2.2.2.2.2.1⟩)
    · exact Or.inr (Or.inr (Or.inl ⟨ur_nb z.1, hl z.2, hW0.2.2.2.2.2.2.2.2.2.1, hW0.2.2.2.2.2.2.2.1, hW0.2.2.2.2.2.2.2.2.2.2⟩))
    · obtain ⟨np, g1, g2, g3, g4⟩ := hl z
      exact Or.inr <| Or.inr <| Or.inr ⟨np, g1.1, g2, g3, g1.2.2.1 g4⟩
  case invokespecial k =>
    refine ⟨ur_nb h.1, ?_⟩
    rcases h.2 with z | z
    · exact Or.inl ⟨ur_nb z.1, hl z.2, hW0.2.1.1, hW0.2.1.2⟩
    · obtain ⟨np, g1, g2, g3, g4, g5, g6⟩ := hl z
      exact Or.inr ⟨np, g1.1, g2, g3, (g1.2.2.2.1 (fun q => absurd g6 (by rw [q]; decide))).1, g4, g5, g6⟩
  case ireturn => exact ⟨ur_nb h.1, Option.isSome_iff_exists.mp h.2⟩
  case return_ => exact ⟨ur_nb h.1, Option.isNone_iff_eq_none.mp h.2⟩
/-- the check of a method's rows -/
def ur_ckR (L : List ur_L4) (q : ur_Q2) (rows : List ur_E) : Bool := rows.all (fun e => (match decode q.2.2.1 e.1 with
    | .ok (i, n) => decide (i = e.2.1) && Nat.beq n e.2.2.1
    | .error _ => false) && ur_ckI L q.2.1.cls (decide (q.2.1.name = "<init>")) q.2.2.2 (q.1.2.1 e.1) e.1 e.2.1 e.2.2.1 e.2.2.2.1 e.2.2.2.2)
def ur_PE (GN : Nat → ur_Q2) (q : ur_Q2) : Prop := ∀ (pc : Nat) (i : Instr) (n x : Nat) (v : Int32), ur_lk q.1.1 pc = some (i, n, x, v) → decode q.2.2.1 pc = .ok (i, n) ∧ ur_okE (fun y => (GN y).1) (fun y => (GN y).2) q.2.1.cls (decide (q.2.1.name = "<init>")) q.2.2.2 (q.1.2.1 pc) pc i n x v
theorem ur_lk_mem : ∀ {L : List ur_E} {pc : Nat} {z : Instr × Nat × Nat × Int32}, ur_lk L pc = some z → (pc, z) ∈ L
  | [], _, _, h => by cases h
  | e :: r, pc, z, h => by
    simp only [ur_lk] at h
    cases hq : Nat.beq e.1 pc with
    | true =>
      rw [hq] at h
      cases h
      rw [← ur_nb hq]
      exact List.mem_cons_self
    | false =>
      rw [hq] at h
      exact List.mem_cons_of_mem _ (ur_lk_mem h)
theorem ur_ckR_t {GN : Nat → ur_Q2} (hW0 : ur_W0) {L : List ur_L4} {q : ur_Q2} (hL : ∀ z ∈ L, ur_PL GN q.2.1.cls z) (h : ur_ckR L q q.1.1 = true) : ur_PE GN q := by
  intro pc i n x v hlk
  have h1 := List.all_eq_true.mp h _ (ur_lk_mem hlk)
  simp only [Bool.and_eq_true] at h1
  obtain ⟨h1, h2⟩ := h1
  refine ⟨?_, ur_ckI_t hW0 hL h2⟩
  split at h1
  next i' n' hd =>
    simp only [Bool.and_eq_true, decide_eq_true_eq] at h1
    rw [hd, h1.1, ur_nb h1.2]
  next => cases h1
theorem ur_ckR_app {L : List ur_L4} {q : ur_Q2} {a b : List ur_E} (ha : ur_ckR L q a = true) (hb : ur_ckR L q b = true) : ur_ckR L q (a ++ b) = true := by
  unfold ur_ckR at *
  rw [List.all_append, ha, hb]
  rfl
end
section
/-! WHAT THE TABLES SAY of this program: printed by wip/whole/gen.py -/
theorem cm_X0_init : ur_PM gn_X0_init := ur_ckM_t (p1 := 381) (p2 := 109) (p3 := 380) (p4 := 0) (by decide +kernel)
theorem cm_X0_below : ur_PM gn_X0_below := ur_ckM_t (p1 := 1112) (p2 := 109) (p3 := 1110) (p4 := 1111) (by decide +kernel)
theorem cm_X1_init : ur_PM gn_X1_init := ur_ckM_t (p1 := 180) (p2 := 103) (p3 := 179) (p4 := 0) (by decide +kernel)
theorem cm_X1_hasRoom : ur_PM gn_X1_hasRoom := ur_ckM_t (p1 := 665) (p2 := 103) (p3 := 663) (p4 := 664) (by decide +kernel)
theorem cm_X1_hasPerson : ur_PM gn_X1_hasPerson := ur_ckM_t (p1 := 762) (p2 := 103) (p3 := 760) (p4 := 761) (by decide +kernel)
theorem cm_X1_isUnsaid : ur_PM gn_X1_isUnsaid := ur_ckM_t (p1 := 661) (p2 := 103) (p3 := 659) (p4 := 660) (by decide +kernel)
theorem cm_X1_saidRooms : ur_PM gn_X1_saidRooms := ur_ckM_t (p1 := 872) (p2 := 103) (p3 := 870) (p4 := 871) (by decide +kernel)
theorem cm_X1_roomsBeside : ur_PM gn_X1_roomsBeside := ur_ckM_t (p1 := 880) (p2 := 103) (p3 := 878) (p4 := 879) (by decide +kernel)
theorem cm_X1_spread : ur_PM gn_X1_spread := ur_ckM_t (p1 := 876) (p2 := 103) (p3 := 874) (p4 := 875) (by decide +kernel)
theorem cm_X1_roomNamed : ur_PM gn_X1_roomNamed := ur_ckM_t (p1 := 632) (p2 := 103) (p3 := 630) (p4 := 631) (by decide +kernel)
theorem cm_X1_personNamed : ur_PM gn_X1_personNamed := ur_ckM_t (p1 := 636) (p2 := 103) (p3 := 634) (p4 := 635) (by decide +kernel)
theorem cm_X1_clear : ur_PM gn_X1_clear := ur_ckM_t (p1 := 482) (p2 := 103) (p3 := 481) (p4 := 1) (by decide +kernel)
theorem cm_X1_readFrom : ur_PM gn_X1_readFrom := ur_ckM_t (p1 := 478) (p2 := 103) (p3 := 476) (p4 := 477) (by decide +kernel)
theorem cm_X1_readRoom : ur_PM gn_X1_readRoom := ur_ckM_t (p1 := 619) (p2 := 103) (p3 := 618) (p4 := 4) (by decide +kernel)
theorem cm_X1_takeNewName : ur_PM gn_X1_takeNewName := ur_ckM_t (p1 := 628) (p2 := 103) (p3 := 627) (p4 := 5) (by decide +kernel)
theorem cm_X1_isRoomName : ur_PM gn_X1_isRoomName := ur_ckM_t (p1 := 653) (p2 := 103) (p3 := 651) (p4 := 652) (by decide +kernel)
theorem cm_X1_readDoor : ur_PM gn_X1_readDoor := ur_ckM_t (p1 := 649) (p2 := 103) (p3 := 648) (p4 := 6) (by decide +kernel)
theorem cm_X1_canJoin : ur_PM gn_X1_canJoin := ur_ckM_t (p1 := 657) (p2 := 103) (p3 := 656) (p4 := 7) (by decide +kernel)
theorem cm_X1_readPerson : ur_PM gn_X1_readPerson := ur_ckM_t (p1 := 672) (p2 := 103) (p3 := 671) (p4 := 8) (by decide +kernel)
theorem cm_X1_addPerson : ur_PM gn_X1_addPerson := ur_ckM_t (p1 := 676) (p2 := 103) (p3 := 675) (p4 := 9) (by decide +kernel)
theorem cm_X1_readStays : ur_PM gn_X1_readStays := ur_ckM_t (p1 := 680) (p2 := 103) (p3 := 679) (p4 := 10) (by decide +kernel)
theorem cm_X2_init : ur_PM gn_X2_init := ur_ckM_t (p1 := 186) (p2 := 104) (p3 := 185) (p4 := 0) (by decide +kernel)
theorem cm_X2_readLevel : ur_PM gn_X2_readLevel := ur_ckM_t (p1 := 684) (p2 := 104) (p3 := 682) (p4 := 683) (by decide +kernel)
theorem cm_X2_levelOf : ur_PM gn_X2_levelOf := ur_ckM_t (p1 := 704) (p2 := 104) (p3 := 703) (p4 := 0) (by decide +kernel)
theorem cm_X2_readPart : ur_PM gn_X2_readPart := ur_ckM_t (p1 := 688) (p2 := 104) (p3 := 687) (p4 := 11) (by decide +kernel)
theorem cm_X2_readInner : ur_PM gn_X2_readInner := ur_ckM_t (p1 := 696) (p2 := 104) (p3 := 695) (p4 := 12) (by decide +kernel)
theorem cm_X2_put : ur_PM gn_X2_put := ur_ckM_t (p1 := 701) (p2 := 104) (p3 := 700) (p4 := 13) (by decide +kernel)
theorem cm_X2_valueOf : ur_PM gn_X2_valueOf := ur_ckM_t (p1 := 830) (p2 := 104) (p3 := 828) (p4 := 829) (by decide +kernel)
theorem cm_X2_follow : ur_PM gn_X2_follow := ur_ckM_t (p1 := 842) (p2 := 104) (p3 := 841) (p4 := 22) (by decide +kernel)
theorem cm_X2_joined : ur_PM gn_X2_joined := ur_ckM_t (p1 := 845) (p2 := 104) (p3 := 844) (p4 := 0) (by decide +kernel)
theorem cm_X2_push : ur_PM gn_X2_push := ur_ckM_t (p1 := 834) (p2 := 104) (p3 := 833) (p4 := 20) (by decide +kernel)
theorem cm_X2_pop : ur_PM gn_X2_pop := ur_ckM_t (p1 := 838) (p2 := 104) (p3 := 837) (p4 := 21) (by decide +kernel)
theorem cm_X3_init : ur_PM gn_X3_init := ur_ckM_t (p1 := 356) (p2 := 108) (p3 := 355) (p4 := 0) (by decide +kernel)
theorem cm_X3_settle : ur_PM gn_X3_settle := ur_ckM_t (p1 := 1032) (p2 := 108) (p3 := 1030) (p4 := 1031) (by decide +kernel)
theorem cm_X3_tryRows : ur_PM gn_X3_tryRows := ur_ckM_t (p1 := 1042) (p2 := 108) (p3 := 1041) (p4 := 31) (by decide +kernel)
theorem cm_X3_keepIfBetter : ur_PM gn_X3_keepIfBetter := ur_ckM_t (p1 := 1046) (p2 := 108) (p3 := 1045) (p4 := 32) (by decide +kernel)
theorem cm_X4_init : ur_PM gn_X4_init := ur_ckM_t (p1 := 391) (p2 := 110) (p3 := 390) (p4 := 0) (by decide +kernel)
theorem cm_X4_lay : ur_PM gn_X4_lay := ur_ckM_t (p1 := 1124) (p2 := 110) (p3 := 1122) (p4 := 1123) (by decide +kernel)
theorem cm_X4_giveBack : ur_PM gn_X4_giveBack := ur_ckM_t (p1 := 1139) (p2 := 110) (p3 := 1137) (p4 := 1138) (by decide +kernel)
theorem cm_X5_init : ur_PM gn_X5_init := ur_ckM_t (p1 := 287) (p2 := 106) (p3 := 286) (p4 := 0) (by decide +kernel)
theorem cm_X5_begin : ur_PM gn_X5_begin := ur_ckM_t (p1 := 712) (p2 := 106) (p3 := 710) (p4 := 711) (by decide +kernel)
theorem cm_X5_copyFrom : ur_PM gn_X5_copyFrom := ur_ckM_t (p1 := 790) (p2 := 106) (p3 := 788) (p4 := 789) (by decide +kernel)
theorem cm_X5_isInside : ur_PM gn_X5_isInside := ur_ckM_t (p1 := 780) (p2 := 106) (p3 := 778) (p4 := 779) (by decide +kernel)
theorem cm_X5_allInside : ur_PM gn_X5_allInside := ur_ckM_t (p1 := 959) (p2 := 106) (p3 := 957) (p4 := 958) (by decide +kernel)
theorem cm_X5_allBeen : ur_PM gn_X5_allBeen := ur_ckM_t (p1 := 928) (p2 := 106) (p3 := 926) (p4 := 927) (by decide +kernel)
theorem cm_X5_personsIn : ur_PM gn_X5_personsIn := ur_ckM_t (p1 := 754) (p2 := 106) (p3 := 752) (p4 := 753) (by decide +kernel)
theorem cm_X5_hostOf : ur_PM gn_X5_hostOf := ur_ckM_t (p1 := 812) (p2 := 106) (p3 := 810) (p4 := 811) (by decide +kernel)
theorem cm_X5_standsBeside : ur_PM gn_X5_standsBeside := ur_ckM_t (p1 := 774) (p2 := 106) (p3 := 773) (p4 := 18) (by decide +kernel)
theorem cm_X5_canWalk : ur_PM gn_X5_canWalk := ur_ckM_t (p1 := 770) (p2 := 106) (p3 := 768) (p4 := 769) (by decide +kernel)
theorem cm_X5_tryWalk : ur_PM gn_X5_tryWalk := ur_ckM_t (p1 := 795) (p2 := 106) (p3 := 793) (p4 := 794) (by decide +kernel)
theorem cm_X5_isLet : ur_PM gn_X5_isLet := ur_ckM_t (p1 := 808) (p2 := 106) (p3 := 806) (p4 := 807) (by decide +kernel)
theorem cm_X5_canShow : ur_PM gn_X5_canShow := ur_ckM_t (p1 := 804) (p2 := 106) (p3 := 802) (p4 := 803) (by decide +kernel)
theorem cm_X5_tryShow : ur_PM gn_X5_tryShow := ur_ckM_t (p1 := 821) (p2 := 106) (p3 := 819) (p4 := 820) (by decide +kernel)
theorem cm_X5_stayOf : ur_PM gn_X5_stayOf := ur_ckM_t (p1 := 826) (p2 := 106) (p3 := 824) (p4 := 825) (by decide +kernel)
theorem cm_X5_canSpeak : ur_PM gn_X5_canSpeak := ur_ckM_t (p1 := 855) (p2 := 106) (p3 := 853) (p4 := 854) (by decide +kernel)
theorem cm_X5_trySpeak : ur_PM gn_X5_trySpeak := ur_ckM_t (p1 := 859) (p2 := 106) (p3 := 857) (p4 := 858) (by decide +kernel)
theorem cm_X5_flamesFrom : ur_PM gn_X5_flamesFrom := ur_ckM_t (p1 := 868) (p2 := 106) (p3 := 866) (p4 := 867) (by decide +kernel)
theorem cm_X5_tryBurn : ur_PM gn_X5_tryBurn := ur_ckM_t (p1 := 884) (p2 := 106) (p3 := 882) (p4 := 883) (by decide +kernel)
theorem cm_X5_passMinute : ur_PM gn_X5_passMinute := ur_ckM_t (p1 := 899) (p2 := 106) (p3 := 897) (p4 := 898) (by decide +kernel)
theorem cm_X5_comesOut : ur_PM gn_X5_comesOut := ur_ckM_t (p1 := 903) (p2 := 106) (p3 := 902) (p4 := 23) (by decide +kernel)
theorem cm_X5_exitOf : ur_PM gn_X5_exitOf := ur_ckM_t (p1 := 907) (p2 := 106) (p3 := 906) (p4 := 24) (by decide +kernel)
theorem cm_X5_follow : ur_PM gn_X5_follow := ur_ckM_t (p1 := 919) (p2 := 106) (p3 := 917) (p4 := 918) (by decide +kernel)
theorem cm_X6_init : ur_PM gn_X6_init := ur_ckM_t (p1 := 264) (p2 := 105) (p3 := 263) (p4 := 0) (by decide +kernel)
theorem cm_X6_copyFrom : ur_PM gn_X6_copyFrom := ur_ckM_t (p1 := 1129) (p2 := 105) (p3 := 1127) (p4 := 1128) (by decide +kernel)
theorem cm_X6_readFrom : ur_PM gn_X6_readFrom := ur_ckM_t (p1 := 725) (p2 := 105) (p3 := 723) (p4 := 724) (by decide +kernel)
theorem cm_X6_readLine : ur_PM gn_X6_readLine := ur_ckM_t (p1 := 730) (p2 := 105) (p3 := 729) (p4 := 15) (by decide +kernel)
theorem cm_X6_readPerson : ur_PM gn_X6_readPerson := ur_ckM_t (p1 := 736) (p2 := 105) (p3 := 735) (p4 := 16) (by decide +kernel)
theorem cm_X6_readRoom : ur_PM gn_X6_readRoom := ur_ckM_t (p1 := 741) (p2 := 105) (p3 := 740) (p4 := 17) (by decide +kernel)
theorem cm_X7_init : ur_PM gn_X7_init := ur_ckM_t (p1 := 330) (p2 := 107) (p3 := 329) (p4 := 0) (by decide +kernel)
theorem cm_X7_put : ur_PM gn_X7_put := ur_ckM_t (p1 := 1082) (p2 := 107) (p3 := 1080) (p4 := 1081) (by decide +kernel)
theorem cm_X7_copyFrom : ur_PM gn_X7_copyFrom := ur_ckM_t (p1 := 1134) (p2 := 107) (p3 := 1132) (p4 := 1133) (by decide +kernel)
theorem cm_X8_init : ur_PM gn_X8_init := ur_ckM_t (p1 := 137) (p2 := 102) (p3 := 136) (p4 := 0) (by decide +kernel)
theorem cm_X8_put : ur_PM gn_X8_put := ur_ckM_t (p1 := 470) (p2 := 102) (p3 := 468) (p4 := 469) (by decide +kernel)
theorem cm_X8_begin : ur_PM gn_X8_begin := ur_ckM_t (p1 := 489) (p2 := 102) (p3 := 487) (p4 := 488) (by decide +kernel)
theorem cm_X8_advance : ur_PM gn_X8_advance := ur_ckM_t (p1 := 493) (p2 := 102) (p3 := 491) (p4 := 492) (by decide +kernel)
theorem cm_X8_takeWord : ur_PM gn_X8_takeWord := ur_ckM_t (p1 := 497) (p2 := 102) (p3 := 496) (p4 := 2) (by decide +kernel)
theorem cm_X8_takeDigits : ur_PM gn_X8_takeDigits := ur_ckM_t (p1 := 555) (p2 := 102) (p3 := 554) (p4 := 3) (by decide +kernel)
theorem cm_X8_fail : ur_PM gn_X8_fail := ur_ckM_t (p1 := 623) (p2 := 102) (p3 := 621) (p4 := 622) (by decide +kernel)
theorem cm_X8_take : ur_PM gn_X8_take := ur_ckM_t (p1 := 640) (p2 := 102) (p3 := 638) (p4 := 639) (by decide +kernel)
theorem cm_X8_isNumber : ur_PM gn_X8_isNumber := ur_ckM_t (p1 := 645) (p2 := 102) (p3 := 643) (p4 := 644) (by decide +kernel)
theorem cm_X9_init : ur_PM gn_X9_init := ur_ckM_t (p1 := 129) (p2 := 101) (p3 := 128) (p4 := 0) (by decide +kernel)
theorem cm_X9_feed : ur_PM gn_X9_feed := ur_ckM_t (p1 := 462) (p2 := 101) (p3 := 460) (p4 := 461) (by decide +kernel)
theorem cm_X9_feedBytes : ur_PM gn_X9_feedBytes := ur_ckM_t (p1 := 466) (p2 := 101) (p3 := 465) (p4 := 0) (by decide +kernel)
theorem cm_X9_marches : ur_PM gn_X9_marches := ur_ckM_t (p1 := 474) (p2 := 101) (p3 := 472) (p4 := 473) (by decide +kernel)
theorem cm_X9_beginAnew : ur_PM gn_X9_beginAnew := ur_ckM_t (p1 := 708) (p2 := 101) (p3 := 707) (p4 := 14) (by decide +kernel)
theorem cm_X9_evening : ur_PM gn_X9_evening := ur_ckM_t (p1 := 721) (p2 := 101) (p3 := 719) (p4 := 720) (by decide +kernel)
theorem cm_X9_room : ur_PM gn_X9_room := ur_ckM_t (p1 := 748) (p2 := 101) (p3 := 746) (p4 := 747) (by decide +kernel)
theorem cm_X9_person : ur_PM gn_X9_person := ur_ckM_t (p1 := 758) (p2 := 101) (p3 := 756) (p4 := 757) (by decide +kernel)
theorem cm_X9_walk : ur_PM gn_X9_walk := ur_ckM_t (p1 := 766) (p2 := 101) (p3 := 764) (p4 := 765) (by decide +kernel)
theorem cm_X9_show : ur_PM gn_X9_show := ur_ckM_t (p1 := 800) (p2 := 101) (p3 := 798) (p4 := 799) (by decide +kernel)
theorem cm_X9_speak : ur_PM gn_X9_speak := ur_ckM_t (p1 := 851) (p2 := 101) (p3 := 849) (p4 := 850) (by decide +kernel)
theorem cm_X9_burn : ur_PM gn_X9_burn := ur_ckM_t (p1 := 864) (p2 := 101) (p3 := 862) (p4 := 863) (by decide +kernel)
theorem cm_X9_minute : ur_PM gn_X9_minute := ur_ckM_t (p1 := 895) (p2 := 101) (p3 := 893) (p4 := 894) (by decide +kernel)
theorem cm_X9_remember : ur_PM gn_X9_remember := ur_ckM_t (p1 := 786) (p2 := 101) (p3 := 785) (p4 := 19) (by decide +kernel)
theorem cm_X9_undo : ur_PM gn_X9_undo := ur_ckM_t (p1 := 911) (p2 := 101) (p3 := 909) (p4 := 910) (by decide +kernel)
theorem cm_X9_judged : ur_PM gn_X9_judged := ur_ckM_t (p1 := 915) (p2 := 101) (p3 := 913) (p4 := 914) (by decide +kernel)
theorem cm_X9_host : ur_PM gn_X9_host := ur_ckM_t (p1 := 932) (p2 := 101) (p3 := 930) (p4 := 931) (by decide +kernel)
theorem cm_X9_frees : ur_PM gn_X9_frees := ur_ckM_t (p1 := 938) (p2 := 101) (p3 := 936) (p4 := 937) (by decide +kernel)
theorem cm_X9_minutesTillFree : ur_PM gn_X9_minutesTillFree := ur_ckM_t (p1 := 942) (p2 := 101) (p3 := 941) (p4 := 25) (by decide +kernel)
theorem cm_X9_later : ur_PM gn_X9_later := ur_ckM_t (p1 := 946) (p2 := 101) (p3 := 944) (p4 := 945) (by decide +kernel)
theorem cm_X9_out : ur_PM gn_X9_out := ur_ckM_t (p1 := 950) (p2 := 101) (p3 := 948) (p4 := 949) (by decide +kernel)
theorem cm_X9_calm : ur_PM gn_X9_calm := ur_ckM_t (p1 := 955) (p2 := 101) (p3 := 953) (p4 := 954) (by decide +kernel)
theorem cm_X9_may : ur_PM gn_X9_may := ur_ckM_t (p1 := 963) (p2 := 101) (p3 := 961) (p4 := 962) (by decide +kernel)
theorem cm_X9_roomsToBeShown : ur_PM gn_X9_roomsToBeShown := ur_ckM_t (p1 := 967) (p2 := 101) (p3 := 966) (p4 := 26) (by decide +kernel)
theorem cm_X9_goes : ur_PM gn_X9_goes := ur_ckM_t (p1 := 971) (p2 := 101) (p3 := 969) (p4 := 970) (by decide +kernel)
theorem cm_X9_roomsToWalkTo : ur_PM gn_X9_roomsToWalkTo := ur_ckM_t (p1 := 975) (p2 := 101) (p3 := 974) (p4 := 27) (by decide +kernel)
theorem cm_X9_stay : ur_PM gn_X9_stay := ur_ckM_t (p1 := 979) (p2 := 101) (p3 := 977) (p4 := 978) (by decide +kernel)
theorem cm_X9_openRooms : ur_PM gn_X9_openRooms := ur_ckM_t (p1 := 992) (p2 := 101) (p3 := 991) (p4 := 29) (by decide +kernel)
theorem cm_X9_isOpen : ur_PM gn_X9_isOpen := ur_ckM_t (p1 := 988) (p2 := 101) (p3 := 987) (p4 := 28) (by decide +kernel)
theorem cm_X9_reach : ur_PM gn_X9_reach := ur_ckM_t (p1 := 984) (p2 := 101) (p3 := 982) (p4 := 983) (by decide +kernel)
theorem cm_X9_far : ur_PM gn_X9_far := ur_ckM_t (p1 := 998) (p2 := 101) (p3 := 996) (p4 := 997) (by decide +kernel)
theorem cm_X9_halls : ur_PM gn_X9_halls := ur_ckM_t (p1 := 1003) (p2 := 101) (p3 := 1001) (p4 := 1002) (by decide +kernel)
theorem cm_X9_hinges : ur_PM gn_X9_hinges := ur_ckM_t (p1 := 1007) (p2 := 101) (p3 := 1005) (p4 := 1006) (by decide +kernel)
theorem cm_X9_cuts : ur_PM gn_X9_cuts := ur_ckM_t (p1 := 1011) (p2 := 101) (p3 := 1010) (p4 := 30) (by decide +kernel)
theorem cm_X9_lines : ur_PM gn_X9_lines := ur_ckM_t (p1 := 1018) (p2 := 101) (p3 := 1016) (p4 := 1017) (by decide +kernel)
theorem cm_X9_fire : ur_PM gn_X9_fire := ur_ckM_t (p1 := 1023) (p2 := 101) (p3 := 1021) (p4 := 1022) (by decide +kernel)
theorem cm_X9_queue : ur_PM gn_X9_queue := ur_ckM_t (p1 := 1027) (p2 := 101) (p3 := 1025) (p4 := 1026) (by decide +kernel)
theorem cm_X9_longest : ur_PM gn_X9_longest := ur_ckM_t (p1 := 1052) (p2 := 101) (p3 := 1050) (p4 := 1051) (by decide +kernel)
theorem cm_X9_as : ur_PM gn_X9_as := ur_ckM_t (p1 := 1056) (p2 := 101) (p3 := 1054) (p4 := 1055) (by decide +kernel)
theorem cm_X9_been : ur_PM gn_X9_been := ur_ckM_t (p1 := 1060) (p2 := 101) (p3 := 1058) (p4 := 1059) (by decide +kernel)
theorem cm_X9_alike : ur_PM gn_X9_alike := ur_ckM_t (p1 := 1064) (p2 := 101) (p3 := 1062) (p4 := 1063) (by decide +kernel)
theorem cm_X9_mostKeptAlike : ur_PM gn_X9_mostKeptAlike := ur_ckM_t (p1 := 1068) (p2 := 101) (p3 := 1067) (p4 := 33) (by decide +kernel)
theorem cm_X9_roomsKeeping : ur_PM gn_X9_roomsKeeping := ur_ckM_t (p1 := 1090) (p2 := 101) (p3 := 1089) (p4 := 34) (by decide +kernel)
theorem cm_X9_widows : ur_PM gn_X9_widows := ur_ckM_t (p1 := 1074) (p2 := 101) (p3 := 1072) (p4 := 1073) (by decide +kernel)
theorem cm_X9_see : ur_PM gn_X9_see := ur_ckM_t (p1 := 1078) (p2 := 101) (p3 := 1076) (p4 := 1077) (by decide +kernel)
theorem cm_X9_which : ur_PM gn_X9_which := ur_ckM_t (p1 := 1086) (p2 := 101) (p3 := 1084) (p4 := 1085) (by decide +kernel)
theorem cm_X9_ask : ur_PM gn_X9_ask := ur_ckM_t (p1 := 1094) (p2 := 101) (p3 := 1092) (p4 := 1093) (by decide +kernel)
theorem cm_X9_chance : ur_PM gn_X9_chance := ur_ckM_t (p1 := 1099) (p2 := 101) (p3 := 1097) (p4 := 1098) (by decide +kernel)
theorem cm_X9_rests : ur_PM gn_X9_rests := ur_ckM_t (p1 := 1151) (p2 := 101) (p3 := 1149) (p4 := 1150) (by decide +kernel)
theorem cm_X9_isPrize : ur_PM gn_X9_isPrize := ur_ckM_t (p1 := 1154) (p2 := 101) (p3 := 1153) (p4 := 0) (by decide +kernel)
theorem cm_X9_isAtRest : ur_PM gn_X9_isAtRest := ur_ckM_t (p1 := 1218) (p2 := 101) (p3 := 1217) (p4 := 0) (by decide +kernel)
theorem cm_X9_prize : ur_PM gn_X9_prize := ur_ckM_t (p1 := 1221) (p2 := 101) (p3 := 1220) (p4 := 0) (by decide +kernel)
theorem cm_X9_evenings : ur_PM gn_X9_evenings := ur_ckM_t (p1 := 1104) (p2 := 101) (p3 := 1102) (p4 := 1103) (by decide +kernel)
theorem cm_X9_followDraws : ur_PM gn_X9_followDraws := ur_ckM_t (p1 := 1108) (p2 := 101) (p3 := 1107) (p4 := 35) (by decide +kernel)
theorem cm_X9_mark : ur_PM gn_X9_mark := ur_ckM_t (p1 := 1120) (p2 := 101) (p3 := 1118) (p4 := 1119) (by decide +kernel)
theorem cm_X9_count : ur_PM gn_X9_count := ur_ckM_t (p1 := 1143) (p2 := 101) (p3 := 1141) (p4 := 1142) (by decide +kernel)
theorem cm_X9_bit : ur_PM gn_X9_bit := ur_ckM_t (p1 := 668) (p2 := 101) (p3 := 667) (p4 := 0) (by decide +kernel)
theorem cm_X9_numberIn : ur_PM gn_X9_numberIn := ur_ckM_t (p1 := 502) (p2 := 101) (p3 := 501) (p4 := 0) (by decide +kernel)
theorem cm_X10_init : ur_PM gn_X10_init := ur_ckM_t (p1 := 1226) (p2 := 111) (p3 := 1225) (p4 := 0) (by decide +kernel)
theorem cm_X10_thrown : ur_PM gn_X10_thrown := ur_ckM_t (p1 := 1408) (p2 := 111) (p3 := 1406) (p4 := 1407) (by decide +kernel)
theorem cm_X10_within : ur_PM gn_X10_within := ur_ckM_t (p1 := 1490) (p2 := 111) (p3 := 1489) (p4 := 0) (by decide +kernel)
theorem cm_X10_between : ur_PM gn_X10_between := ur_ckM_t (p1 := 1642) (p2 := 111) (p3 := 1641) (p4 := 0) (by decide +kernel)
theorem cm_X10_bits : ur_PM gn_X10_bits := ur_ckM_t (p1 := 1677) (p2 := 111) (p3 := 1676) (p4 := 0) (by decide +kernel)
theorem cm_X10_feed : ur_PM gn_X10_feed := ur_ckM_t (p1 := 1412) (p2 := 111) (p3 := 1410) (p4 := 1411) (by decide +kernel)
theorem cm_X10_signAt : ur_PM gn_X10_signAt := ur_ckM_t (p1 := 1433) (p2 := 111) (p3 := 1432) (p4 := 41) (by decide +kernel)
theorem cm_X10_nextToken : ur_PM gn_X10_nextToken := ur_ckM_t (p1 := 1429) (p2 := 111) (p3 := 1428) (p4 := 40) (by decide +kernel)
theorem cm_X10_isWord : ur_PM gn_X10_isWord := ur_ckM_t (p1 := 1440) (p2 := 111) (p3 := 1439) (p4 := 42) (by decide +kernel)
theorem cm_X10_isSign : ur_PM gn_X10_isSign := ur_ckM_t (p1 := 1498) (p2 := 111) (p3 := 1497) (p4 := 51) (by decide +kernel)
theorem cm_X10_fails : ur_PM gn_X10_fails := ur_ckM_t (p1 := 1448) (p2 := 111) (p3 := 1447) (p4 := 44) (by decide +kernel)
theorem cm_X10_puts : ur_PM gn_X10_puts := ur_ckM_t (p1 := 1530) (p2 := 111) (p3 := 1529) (p4 := 58) (by decide +kernel)
theorem cm_X10_fact : ur_PM gn_X10_fact := ur_ckM_t (p1 := 1522) (p2 := 111) (p3 := 1521) (p4 := 57) (by decide +kernel)
theorem cm_X10_reads : ur_PM gn_X10_reads := ur_ckM_t (p1 := 1518) (p2 := 111) (p3 := 1517) (p4 := 56) (by decide +kernel)
theorem cm_X10_opens : ur_PM gn_X10_opens := ur_ckM_t (p1 := 1631) (p2 := 111) (p3 := 1630) (p4 := 76) (by decide +kernel)
theorem cm_X10_sums : ur_PM gn_X10_sums := ur_ckM_t (p1 := 1635) (p2 := 111) (p3 := 1634) (p4 := 77) (by decide +kernel)
theorem cm_X10_tests : ur_PM gn_X10_tests := ur_ckM_t (p1 := 1639) (p2 := 111) (p3 := 1638) (p4 := 78) (by decide +kernel)
theorem cm_X10_worked : ur_PM gn_X10_worked := ur_ckM_t (p1 := 1627) (p2 := 111) (p3 := 1626) (p4 := 75) (by decide +kernel)
theorem cm_X10_isKept : ur_PM gn_X10_isKept := ur_ckM_t (p1 := 1456) (p2 := 111) (p3 := 1455) (p4 := 46) (by decide +kernel)
theorem cm_X10_roomNamed : ur_PM gn_X10_roomNamed := ur_ckM_t (p1 := 1479) (p2 := 111) (p3 := 1478) (p4 := 47) (by decide +kernel)
theorem cm_X10_personNamed : ur_PM gn_X10_personNamed := ur_ckM_t (p1 := 1483) (p2 := 111) (p3 := 1482) (p4 := 48) (by decide +kernel)
theorem cm_X10_needsBoth : ur_PM gn_X10_needsBoth := ur_ckM_t (p1 := 1487) (p2 := 111) (p3 := 1486) (p4 := 49) (by decide +kernel)
theorem cm_X10_closes : ur_PM gn_X10_closes := ur_ckM_t (p1 := 1494) (p2 := 111) (p3 := 1493) (p4 := 50) (by decide +kernel)
theorem cm_X10_needsNew : ur_PM gn_X10_needsNew := ur_ckM_t (p1 := 1452) (p2 := 111) (p3 := 1451) (p4 := 45) (by decide +kernel)
theorem cm_X10_needsRoom : ur_PM gn_X10_needsRoom := ur_ckM_t (p1 := 1506) (p2 := 111) (p3 := 1505) (p4 := 53) (by decide +kernel)
theorem cm_X10_readsRoom : ur_PM gn_X10_readsRoom := ur_ckM_t (p1 := 1444) (p2 := 111) (p3 := 1443) (p4 := 43) (by decide +kernel)
theorem cm_X10_readsDoor : ur_PM gn_X10_readsDoor := ur_ckM_t (p1 := 1502) (p2 := 111) (p3 := 1501) (p4 := 52) (by decide +kernel)
theorem cm_X10_readsPerson : ur_PM gn_X10_readsPerson := ur_ckM_t (p1 := 1510) (p2 := 111) (p3 := 1509) (p4 := 54) (by decide +kernel)
theorem cm_X10_readsStays : ur_PM gn_X10_readsStays := ur_ckM_t (p1 := 1514) (p2 := 111) (p3 := 1513) (p4 := 55) (by decide +kernel)
theorem cm_X10_begins : ur_PM gn_X10_begins := ur_ckM_t (p1 := 1425) (p2 := 111) (p3 := 1424) (p4 := 39) (by decide +kernel)
theorem cm_X10_readsAll : ur_PM gn_X10_readsAll := ur_ckM_t (p1 := 1421) (p2 := 111) (p3 := 1420) (p4 := 38) (by decide +kernel)
theorem cm_X10_shifts : ur_PM gn_X10_shifts := ur_ckM_t (p1 := 1537) (p2 := 111) (p3 := 1536) (p4 := 0) (by decide +kernel)
theorem cm_X10_shiftsNames : ur_PM gn_X10_shiftsNames := ur_ckM_t (p1 := 1540) (p2 := 111) (p3 := 1539) (p4 := 0) (by decide +kernel)
theorem cm_X10_lays : ur_PM gn_X10_lays := ur_ckM_t (p1 := 1534) (p2 := 111) (p3 := 1533) (p4 := 59) (by decide +kernel)
theorem cm_X10_copies : ur_PM gn_X10_copies := ur_ckM_t (p1 := 1599) (p2 := 111) (p3 := 1598) (p4 := 0) (by decide +kernel)
theorem cm_X10_readsLine : ur_PM gn_X10_readsLine := ur_ckM_t (p1 := 1548) (p2 := 111) (p3 := 1547) (p4 := 60) (by decide +kernel)
theorem cm_X10_laysLines : ur_PM gn_X10_laysLines := ur_ckM_t (p1 := 1552) (p2 := 111) (p3 := 1551) (p4 := 61) (by decide +kernel)
theorem cm_X10_laysSeen : ur_PM gn_X10_laysSeen := ur_ckM_t (p1 := 1871) (p2 := 111) (p3 := 1870) (p4 := 99) (by decide +kernel)
theorem cm_X10_fresh0 : ur_PM gn_X10_fresh0 := ur_ckM_t (p1 := 1231) (p2 := 111) (p3 := 1230) (p4 := 37) (by decide +kernel)
theorem cm_X10_marches : ur_PM gn_X10_marches := ur_ckM_t (p1 := 1417) (p2 := 111) (p3 := 1415) (p4 := 1416) (by decide +kernel)
theorem cm_X10_evening : ur_PM gn_X10_evening := ur_ckM_t (p1 := 1544) (p2 := 111) (p3 := 1542) (p4 := 1543) (by decide +kernel)
theorem cm_X10_isRoom : ur_PM gn_X10_isRoom := ur_ckM_t (p1 := 1560) (p2 := 111) (p3 := 1559) (p4 := 62) (by decide +kernel)
theorem cm_X10_isPerson : ur_PM gn_X10_isPerson := ur_ckM_t (p1 := 1572) (p2 := 111) (p3 := 1571) (p4 := 64) (by decide +kernel)
theorem cm_X10_isUnsaid : ur_PM gn_X10_isUnsaid := ur_ckM_t (p1 := 1712) (p2 := 111) (p3 := 1711) (p4 := 88) (by decide +kernel)
theorem cm_X10_unsaids : ur_PM gn_X10_unsaids := ur_ckM_t (p1 := 1592) (p2 := 111) (p3 := 1591) (p4 := 68) (by decide +kernel)
theorem cm_X10_open : ur_PM gn_X10_open := ur_ckM_t (p1 := 1588) (p2 := 111) (p3 := 1587) (p4 := 67) (by decide +kernel)
theorem cm_X10_isOpen : ur_PM gn_X10_isOpen := ur_ckM_t (p1 := 1666) (p2 := 111) (p3 := 1665) (p4 := 82) (by decide +kernel)
theorem cm_X10_isInside : ur_PM gn_X10_isInside := ur_ckM_t (p1 := 1584) (p2 := 111) (p3 := 1583) (p4 := 66) (by decide +kernel)
theorem cm_X10_hostOf : ur_PM gn_X10_hostOf := ur_ckM_t (p1 := 1615) (p2 := 111) (p3 := 1614) (p4 := 72) (by decide +kernel)
theorem cm_X10_insiders : ur_PM gn_X10_insiders := ur_ckM_t (p1 := 1736) (p2 := 111) (p3 := 1735) (p4 := 90) (by decide +kernel)
theorem cm_X10_whoIn : ur_PM gn_X10_whoIn := ur_ckM_t (p1 := 1564) (p2 := 111) (p3 := 1563) (p4 := 63) (by decide +kernel)
theorem cm_X10_stayOf : ur_PM gn_X10_stayOf := ur_ckM_t (p1 := 1623) (p2 := 111) (p3 := 1622) (p4 := 74) (by decide +kernel)
theorem cm_X10_isFit : ur_PM gn_X10_isFit := ur_ckM_t (p1 := 1611) (p2 := 111) (p3 := 1610) (p4 := 71) (by decide +kernel)
theorem cm_X10_canShow : ur_PM gn_X10_canShow := ur_ckM_t (p1 := 1607) (p2 := 111) (p3 := 1606) (p4 := 70) (by decide +kernel)
theorem cm_X10_shows : ur_PM gn_X10_shows := ur_ckM_t (p1 := 1619) (p2 := 111) (p3 := 1618) (p4 := 73) (by decide +kernel)
theorem cm_X10_goesOf : ur_PM gn_X10_goesOf := ur_ckM_t (p1 := 1580) (p2 := 111) (p3 := 1579) (p4 := 65) (by decide +kernel)
theorem cm_X10_canSpeak : ur_PM gn_X10_canSpeak := ur_ckM_t (p1 := 1650) (p2 := 111) (p3 := 1649) (p4 := 79) (by decide +kernel)
theorem cm_X10_speaks : ur_PM gn_X10_speaks := ur_ckM_t (p1 := 1654) (p2 := 111) (p3 := 1653) (p4 := 80) (by decide +kernel)
theorem cm_X10_burntBy : ur_PM gn_X10_burntBy := ur_ckM_t (p1 := 1670) (p2 := 111) (p3 := 1669) (p4 := 83) (by decide +kernel)
theorem cm_X10_spreads : ur_PM gn_X10_spreads := ur_ckM_t (p1 := 1674) (p2 := 111) (p3 := 1673) (p4 := 84) (by decide +kernel)
theorem cm_X10_canBurn : ur_PM gn_X10_canBurn := ur_ckM_t (p1 := 1662) (p2 := 111) (p3 := 1661) (p4 := 81) (by decide +kernel)
theorem cm_X10_firstOf : ur_PM gn_X10_firstOf := ur_ckM_t (p1 := 1688) (p2 := 111) (p3 := 1687) (p4 := 0) (by decide +kernel)
theorem cm_X10_passes : ur_PM gn_X10_passes := ur_ckM_t (p1 := 1685) (p2 := 111) (p3 := 1684) (p4 := 85) (by decide +kernel)
theorem cm_X10_room : ur_PM gn_X10_room := ur_ckM_t (p1 := 1556) (p2 := 111) (p3 := 1554) (p4 := 1555) (by decide +kernel)
theorem cm_X10_person : ur_PM gn_X10_person := ur_ckM_t (p1 := 1568) (p2 := 111) (p3 := 1566) (p4 := 1567) (by decide +kernel)
theorem cm_X10_keeps : ur_PM gn_X10_keeps := ur_ckM_t (p1 := 1596) (p2 := 111) (p3 := 1595) (p4 := 69) (by decide +kernel)
theorem cm_X10_walk : ur_PM gn_X10_walk := ur_ckM_t (p1 := 1576) (p2 := 111) (p3 := 1574) (p4 := 1575) (by decide +kernel)
theorem cm_X10_show : ur_PM gn_X10_show := ur_ckM_t (p1 := 1603) (p2 := 111) (p3 := 1601) (p4 := 1602) (by decide +kernel)
theorem cm_X10_speak : ur_PM gn_X10_speak := ur_ckM_t (p1 := 1646) (p2 := 111) (p3 := 1644) (p4 := 1645) (by decide +kernel)
theorem cm_X10_burn : ur_PM gn_X10_burn := ur_ckM_t (p1 := 1658) (p2 := 111) (p3 := 1656) (p4 := 1657) (by decide +kernel)
theorem cm_X10_minute : ur_PM gn_X10_minute := ur_ckM_t (p1 := 1681) (p2 := 111) (p3 := 1679) (p4 := 1680) (by decide +kernel)
theorem cm_X10_undo : ur_PM gn_X10_undo := ur_ckM_t (p1 := 1692) (p2 := 111) (p3 := 1690) (p4 := 1691) (by decide +kernel)
theorem cm_X10_allBeen : ur_PM gn_X10_allBeen := ur_ckM_t (p1 := 1704) (p2 := 111) (p3 := 1703) (p4 := 87) (by decide +kernel)
theorem cm_X10_isDone : ur_PM gn_X10_isDone := ur_ckM_t (p1 := 1700) (p2 := 111) (p3 := 1699) (p4 := 86) (by decide +kernel)
theorem cm_X10_judged : ur_PM gn_X10_judged := ur_ckM_t (p1 := 1696) (p2 := 111) (p3 := 1694) (p4 := 1695) (by decide +kernel)
theorem cm_X10_host : ur_PM gn_X10_host := ur_ckM_t (p1 := 1708) (p2 := 111) (p3 := 1706) (p4 := 1707) (by decide +kernel)
theorem cm_X10_freesOf : ur_PM gn_X10_freesOf := ur_ckM_t (p1 := 1720) (p2 := 111) (p3 := 1719) (p4 := 89) (by decide +kernel)
theorem cm_X10_frees : ur_PM gn_X10_frees := ur_ckM_t (p1 := 1716) (p2 := 111) (p3 := 1714) (p4 := 1715) (by decide +kernel)
theorem cm_X10_later : ur_PM gn_X10_later := ur_ckM_t (p1 := 1724) (p2 := 111) (p3 := 1722) (p4 := 1723) (by decide +kernel)
theorem cm_X10_out : ur_PM gn_X10_out := ur_ckM_t (p1 := 1728) (p2 := 111) (p3 := 1726) (p4 := 1727) (by decide +kernel)
theorem cm_X10_calm : ur_PM gn_X10_calm := ur_ckM_t (p1 := 1732) (p2 := 111) (p3 := 1730) (p4 := 1731) (by decide +kernel)
theorem cm_X10_mayOf : ur_PM gn_X10_mayOf := ur_ckM_t (p1 := 1744) (p2 := 111) (p3 := 1743) (p4 := 91) (by decide +kernel)
theorem cm_X10_may : ur_PM gn_X10_may := ur_ckM_t (p1 := 1740) (p2 := 111) (p3 := 1738) (p4 := 1739) (by decide +kernel)
theorem cm_X10_goes : ur_PM gn_X10_goes := ur_ckM_t (p1 := 1748) (p2 := 111) (p3 := 1746) (p4 := 1747) (by decide +kernel)
theorem cm_X10_stay : ur_PM gn_X10_stay := ur_ckM_t (p1 := 1752) (p2 := 111) (p3 := 1750) (p4 := 1751) (by decide +kernel)
theorem cm_X10_widows : ur_PM gn_X10_widows := ur_ckM_t (p1 := 1756) (p2 := 111) (p3 := 1754) (p4 := 1755) (by decide +kernel)
theorem cm_X10_reach : ur_PM gn_X10_reach := ur_ckM_t (p1 := 1760) (p2 := 111) (p3 := 1758) (p4 := 1759) (by decide +kernel)
theorem cm_X10_far : ur_PM gn_X10_far := ur_ckM_t (p1 := 1764) (p2 := 111) (p3 := 1762) (p4 := 1763) (by decide +kernel)
theorem cm_X10_pieces : ur_PM gn_X10_pieces := ur_ckM_t (p1 := 1772) (p2 := 111) (p3 := 1771) (p4 := 92) (by decide +kernel)
theorem cm_X10_halls : ur_PM gn_X10_halls := ur_ckM_t (p1 := 1768) (p2 := 111) (p3 := 1766) (p4 := 1767) (by decide +kernel)
theorem cm_X10_hinges : ur_PM gn_X10_hinges := ur_ckM_t (p1 := 1776) (p2 := 111) (p3 := 1774) (p4 := 1775) (by decide +kernel)
theorem cm_X10_unsaidBy : ur_PM gn_X10_unsaidBy := ur_ckM_t (p1 := 1784) (p2 := 111) (p3 := 1783) (p4 := 93) (by decide +kernel)
theorem cm_X10_lines : ur_PM gn_X10_lines := ur_ckM_t (p1 := 1780) (p2 := 111) (p3 := 1778) (p4 := 1779) (by decide +kernel)
theorem cm_X10_fire : ur_PM gn_X10_fire := ur_ckM_t (p1 := 1788) (p2 := 111) (p3 := 1786) (p4 := 1787) (by decide +kernel)
theorem cm_X10_queues : ur_PM gn_X10_queues := ur_ckM_t (p1 := 1796) (p2 := 111) (p3 := 1795) (p4 := 94) (by decide +kernel)
theorem cm_X10_queue : ur_PM gn_X10_queue := ur_ckM_t (p1 := 1792) (p2 := 111) (p3 := 1790) (p4 := 1791) (by decide +kernel)
theorem cm_X10_longest : ur_PM gn_X10_longest := ur_ckM_t (p1 := 1800) (p2 := 111) (p3 := 1798) (p4 := 1799) (by decide +kernel)
theorem cm_X10_as : ur_PM gn_X10_as := ur_ckM_t (p1 := 1804) (p2 := 111) (p3 := 1802) (p4 := 1803) (by decide +kernel)
theorem cm_X10_been : ur_PM gn_X10_been := ur_ckM_t (p1 := 1808) (p2 := 111) (p3 := 1806) (p4 := 1807) (by decide +kernel)
theorem cm_X10_alike : ur_PM gn_X10_alike := ur_ckM_t (p1 := 1812) (p2 := 111) (p3 := 1810) (p4 := 1811) (by decide +kernel)
theorem cm_X10_laysStays : ur_PM gn_X10_laysStays := ur_ckM_t (p1 := 1824) (p2 := 111) (p3 := 1823) (p4 := 95) (by decide +kernel)
theorem cm_X10_see : ur_PM gn_X10_see := ur_ckM_t (p1 := 1816) (p2 := 111) (p3 := 1814) (p4 := 1815) (by decide +kernel)
theorem cm_X10_isAsSeen : ur_PM gn_X10_isAsSeen := ur_ckM_t (p1 := 1828) (p2 := 111) (p3 := 1827) (p4 := 96) (by decide +kernel)
theorem cm_X10_which : ur_PM gn_X10_which := ur_ckM_t (p1 := 1820) (p2 := 111) (p3 := 1818) (p4 := 1819) (by decide +kernel)
theorem cm_X10_ask : ur_PM gn_X10_ask := ur_ckM_t (p1 := 1832) (p2 := 111) (p3 := 1830) (p4 := 1831) (by decide +kernel)
theorem cm_X10_chance : ur_PM gn_X10_chance := ur_ckM_t (p1 := 1838) (p2 := 111) (p3 := 1836) (p4 := 1837) (by decide +kernel)
theorem cm_X10_getsBy : ur_PM gn_X10_getsBy := ur_ckM_t (p1 := 1847) (p2 := 111) (p3 := 1846) (p4 := 0) (by decide +kernel)
theorem cm_X10_rests : ur_PM gn_X10_rests := ur_ckM_t (p1 := 1844) (p2 := 111) (p3 := 1842) (p4 := 1843) (by decide +kernel)
theorem cm_X10_draws : ur_PM gn_X10_draws := ur_ckM_t (p1 := 1859) (p2 := 111) (p3 := 1858) (p4 := 98) (by decide +kernel)
theorem cm_X10_livesMinute : ur_PM gn_X10_livesMinute := ur_ckM_t (p1 := 1855) (p2 := 111) (p3 := 1854) (p4 := 97) (by decide +kernel)
theorem cm_X10_evenings : ur_PM gn_X10_evenings := ur_ckM_t (p1 := 1851) (p2 := 111) (p3 := 1849) (p4 := 1850) (by decide +kernel)
theorem cm_X10_mark : ur_PM gn_X10_mark := ur_ckM_t (p1 := 1867) (p2 := 111) (p3 := 1865) (p4 := 1866) (by decide +kernel)
theorem cm_X10_count : ur_PM gn_X10_count := ur_ckM_t (p1 := 1875) (p2 := 111) (p3 := 1873) (p4 := 1874) (by decide +kernel)
theorem cm_J6_lowestOneBit_0f7a4 : ur_PM gn_J6_lowestOneBit_0f7a4 := ur_ckM_t (p1 := 1014) (p2 := 120) (p3 := 1013) (p4 := 0) (by decide +kernel)
theorem cm_J6_numberOfTrailingZeros_0f7a4 : ur_PM gn_J6_numberOfTrailingZeros_0f7a4 := ur_ckM_t (p1 := 816) (p2 := 120) (p3 := 815) (p4 := 0) (by decide +kernel)
theorem cm_J6_bitCount_0f7a4 : ur_PM gn_J6_bitCount_0f7a4 := ur_ckM_t (p1 := 888) (p2 := 120) (p3 := 887) (p4 := 0) (by decide +kernel)
theorem cm_J0_length_8abf5 : ur_PM gn_J0_length_8abf5 := ur_ckM_t (p1 := 506) (p2 := 113) (p3 := 504) (p4 := 505) (by decide +kernel)
theorem cm_J0_charAt_5068e : ur_PM gn_J0_charAt_5068e := ur_ckM_t (p1 := 516) (p2 := 113) (p3 := 514) (p4 := 515) (by decide +kernel)
theorem cm_J0_indexOf_0f7a4 : ur_PM gn_J0_indexOf_0f7a4 := ur_ckM_t (p1 := 560) (p2 := 113) (p3 := 558) (p4 := 559) (by decide +kernel)
theorem cm_J0_indexOf_7cf53 : ur_PM gn_J0_indexOf_7cf53 := ur_ckM_t (p1 := 564) (p2 := 113) (p3 := 562) (p4 := 563) (by decide +kernel)
theorem cm_J0_coder_7d493 : ur_PM gn_J0_coder_7d493 := ur_ckM_t (p1 := 510) (p2 := 113) (p3 := 508) (p4 := 509) (by decide +kernel)
theorem cm_J0_isLatin1_aae02 : ur_PM gn_J0_isLatin1_aae02 := ur_ckM_t (p1 := 520) (p2 := 113) (p3 := 518) (p4 := 519) (by decide +kernel)
theorem cm_J0_checkIndex_df160 : ur_PM gn_J0_checkIndex_df160 := ur_ckM_t (p1 := 526) (p2 := 113) (p3 := 525) (p4 := 0) (by decide +kernel)
theorem cm_J1_charAt_3b067 : ur_PM gn_J1_charAt_3b067 := ur_ckM_t (p1 := 523) (p2 := 114) (p3 := 522) (p4 := 0) (by decide +kernel)
theorem cm_J1_canEncode_9a6ad : ur_PM gn_J1_canEncode_9a6ad := ur_ckM_t (p1 := 571) (p2 := 114) (p3 := 570) (p4 := 0) (by decide +kernel)
theorem cm_J1_indexOf_4cfef : ur_PM gn_J1_indexOf_4cfef := ur_ckM_t (p1 := 568) (p2 := 114) (p3 := 567) (p4 := 0) (by decide +kernel)
theorem cm_J1_indexOfChar_4cfef : ur_PM gn_J1_indexOfChar_4cfef := ur_ckM_t (p1 := 580) (p2 := 114) (p3 := 579) (p4 := 0) (by decide +kernel)
theorem cm_J7_fill_53178 : ur_PM gn_J7_fill_53178 := ur_ckM_t (p1 := 485) (p2 := 112) (p3 := 484) (p4 := 0) (by decide +kernel)
theorem cm_J3_checkIndex_8e157 : ur_PM gn_J3_checkIndex_8e157 := ur_ckM_t (p1 := 531) (p2 := 115) (p3 := 530) (p4 := 0) (by decide +kernel)
end
section
/-! all methods -/
theorem ur_allM : ∀ k, k < 267 → ur_PM (ur_GN k) := by
  intro k hk
  unfold ur_GN
  rw [show Nat.blt k 267 = true from Nat.ble_eq_true_of_le hk]
  refine (show ∀ {x y : ur_P × ur_NI}, ur_PM x → ur_PM (bif true then x else y) from fun h => h) ?_
  exact (ur_cd (P := ur_PM) (ur_cd (P := ur_PM) (ur_cd (P := ur_PM) (ur_cd (P := ur_PM) (ur_cd (P := ur_PM) (ur_cd (P := ur_PM) (ur_cd (P := ur_PM) (ur_cd (P := ur_PM) cm_X0_init cm_X0_below) (ur_cd (P := ur_PM) cm_X1_init cm_X1_hasRoom)) (ur_cd (P := ur_PM) (ur_cd (P := ur_PM) cm_X1_hasPerson cm_X1_isUnsaid) (ur_cd (P := ur_PM) cm_X1_saidRooms cm_X1_roomsBeside))) (ur_cd (P := ur_PM) (ur_cd (P := ur_PM) (ur_cd (P := ur_PM) cm_X1_spread cm_X1_roomNamed) (ur_cd (P := ur_PM) cm_X1_personNamed cm_X1_clear)) (ur_cd (P := ur_PM) (ur_cd (P := ur_PM) cm_X1_readFrom cm_X1_readRoom) (ur_cd (P := ur_PM) cm_X1_takeNewName cm_X1_isRoomName)))) (ur_cd (P := ur_PM) (ur_cd (P := ur_PM) (ur_cd (P := ur_PM) (ur_cd (P := ur_PM) cm_X1_readDoor cm_X1_canJoin) (ur_cd (P := ur_PM) cm_X1_readPerson cm_X1_addPerson)) (ur_cd (P := ur_PM) (ur_cd (P := ur_PM) cm_X1_readStays cm_X2_init) (ur_cd (P := ur_PM) cm_X2_readLevel cm_X2_levelOf))) (ur_cd (P := ur_PM) (ur_cd (P := ur_PM) (ur_cd (P := ur_PM) cm_X2_readPart cm_X2_readInner) (ur_cd (P := ur_PM) cm_X2_put cm_X2_valueOf)) (ur_cd (P := ur_PM) (ur_cd (P := ur_PM) cm_X2_follow cm_X2_joined) (ur_cd (P := ur_PM) cm_X2_push (ur_cd (P := ur_PM) cm_X2_pop cm_X3_init)))))) (ur_cd (P := ur_PM) (ur_cd (P := ur_PM) (ur_cd (P := ur_PM) (ur_cd (P := ur_PM) (ur_cd (P := ur_PM) cm_X3_settle cm_X3_tryRows) (ur_cd (P := ur_PM) cm_X3_keepIfBetter cm_X4_init)) (ur_cd (P := ur_PM) (ur_cd (P := ur_PM) cm_X4_lay cm_X4_giveBack) (ur_cd (P := ur_PM) cm_X5_init cm_X5_begin))) (ur_cd (P := ur_PM) (ur_cd (P := ur_PM) (ur_cd (P := ur_PM) cm_X5_copyFrom cm_X5_isInside) (ur_cd (P := ur_PM) cm_X5_allInside cm_X5_allBeen)) (ur_cd (P := ur_PM) (ur_cd (P := ur_PM) cm_X5_personsIn cm_X5_hostOf) (ur_cd (P := ur_PM) cm_X5_standsBeside cm_X5_canWalk)))) (ur_cd (P := ur_PM) (ur_cd (P := ur_PM) (ur_cd (P := ur_PM) (ur_cd (P := ur_PM) cm_X5_tryWalk cm_X5_isLet) (ur_cd (P := ur_PM) cm_X5_canShow cm_X5_tryShow)) (ur_cd (P := ur_PM) (ur_cd (P := ur_PM) cm_X5_stayOf cm_X5_canSpeak) (ur_cd (P := ur_PM) cm_X5_trySpeak cm_X5_flamesFrom))) (ur_cd (P := ur_PM) (ur_cd (P := ur_PM) (ur_cd (P := ur_PM) cm_X5_tryBurn cm_X5_passMinute) (ur_cd (P := ur_PM) cm_X5_comesOut cm_X5_exitOf)) (ur_cd (P := ur_PM) (ur_cd (P := ur_PM) cm_X5_follow cm_X6_init) (ur_cd (P := ur_PM) cm_X6_copyFrom (ur_cd (P := ur_PM) cm_X6_readFrom cm_X6_readLine))))))) (ur_cd (P := ur_PM) (ur_cd (P := ur_PM) (ur_cd (P := ur_PM) (ur_cd (P := ur_PM) (ur_cd (P := ur_PM) (ur_cd (P := ur_PM) cm_X6_readPerson cm_X6_readRoom) (ur_cd (P := ur_PM) cm_X7_init cm_X7_put)) (ur_cd (P := ur_PM) (ur_cd (P := ur_PM) cm_X7_copyFrom cm_X8_init) (ur_cd (P := ur_PM) cm_X8_put cm_X8_begin))) (ur_cd (P := ur_PM) (ur_cd (P := ur_PM) (ur_cd (P := ur_PM) cm_X8_advance cm_X8_takeWord) (ur_cd (P := ur_PM) cm_X8_takeDigits cm_X8_fail)) (ur_cd (P := ur_PM) (ur_cd (P := ur_PM) cm_X8_take cm_X8_isNumber) (ur_cd (P := ur_PM) cm_X9_init cm_X9_feed)))) (ur_cd (P := ur_PM) (ur_cd (P := ur_PM) (ur_cd (P := ur_PM) (ur_cd (P := ur_PM) cm_X9_feedBytes cm_X9_marches) (ur_cd (P := ur_PM) cm_X9_beginAnew cm_X9_evening)) (ur_cd (P := ur_PM) (ur_cd (P := ur_PM) cm_X9_room cm_X9_person) (ur_cd (P := ur_PM) cm_X9_walk cm_X9_show))) (ur_cd (P := ur_PM) (ur_cd (P := ur_PM) (ur_cd (P := ur_PM) cm_X9_speak cm_X9_burn) (ur_cd (P := ur_PM) cm_X9_minute cm_X9_remember)) (ur_cd (P := ur_PM) (ur_cd (P := ur_PM) cm_X9_undo cm_X9_judged) (ur_cd (P := ur_PM) cm_X9_host (ur_cd (P := ur_PM) cm_X9_frees cm_X9_minutesTillFree)))))) (ur_cd (P := ur_PM) (ur_cd (P := ur_PM) (ur_cd (P := ur_PM) (ur_cd (P := ur_PM) (ur_cd (P := ur_PM) cm_X9_later cm_X9_out) (ur_cd (P := ur_PM) cm_X9_calm cm_X9_may)) (ur_cd (P := ur_PM) (ur_cd (P := ur_PM) cm_X9_roomsToBeShown cm_X9_goes) (ur_cd (P := ur_PM) cm_X9_roomsToWalkTo cm_X9_stay))) (ur_cd (P := ur_PM) (ur_cd (P := ur_PM) (ur_cd (P := ur_PM) cm_X9_openRooms cm_X9_isOpen) (ur_cd (P := ur_PM) cm_X9_reach cm_X9_far)) (ur_cd (P := ur_PM) (ur_cd (P := ur_PM) cm_X9_halls cm_X9_hinges) (ur_cd (P := ur_PM) cm_X9_cuts (ur_cd (P := ur_PM) cm_X9_lines cm_X9_fire))))) (ur_cd (P := ur_PM) (ur_cd (P := ur_PM) (ur_cd (P := ur_PM) (ur_cd (P := ur_PM) cm_X9_queue cm_X9_longest) (ur_cd (P := ur_PM) cm_X9_as cm_X9_been)) (ur_cd (P := ur_PM) (ur_cd (P := ur_PM) cm_X9_alike cm_X9_mostKeptAlike) (ur_cd (P := ur_PM) cm_X9_roomsKeeping cm_X9_widows))) (ur_cd (P := ur_PM) (ur_cd (P := ur_PM) (ur_cd (P := ur_PM) cm_X9_see cm_X9_which) (ur_cd (P := ur_PM) cm_X9_ask cm_X9_chance)) (ur_cd (P := ur_PM) (ur_cd (P := ur_PM) cm_X9_rests cm_X9_isPrize) (ur_cd (P := ur_PM) cm_X9_isAtRest (ur_cd (P := ur_PM) cm_X9_prize cm_X9_evenings)))))))) (ur_cd (P := ur_PM) (ur_cd (P := ur_PM) (ur_cd (P := ur_PM) (ur_cd (P := ur_PM) (ur_cd (P := ur_PM) (ur_cd (P := ur_PM) (ur_cd (P := ur_PM) cm_X9_followDraws cm_X9_mark) (ur_cd (P := ur_PM) cm_X9_count cm_X9_bit)) (ur_cd (P := ur_PM) (ur_cd (P := ur_PM) cm_X9_numberIn cm_X10_init) (ur_cd (P := ur_PM) cm_X10_thrown cm_X10_within))) (ur_cd (P := ur_PM) (ur_cd (P := ur_PM) (ur_cd (P := ur_PM) cm_X10_between cm_X10_bits) (ur_cd (P := ur_PM) cm_X10_feed cm_X10_signAt)) (ur_cd (P := ur_PM) (ur_cd (P := ur_PM) cm_X10_nextToken cm_X10_isWord) (ur_cd (P := ur_PM) cm_X10_isSign cm_X10_fails)))) (ur_cd (P := ur_PM) (ur_cd (P := ur_PM) (ur_cd (P := ur_PM) (ur_cd (P := ur_PM) cm_X10_puts cm_X10_fact) (ur_cd (P := ur_PM) cm_X10_reads cm_X10_opens)) (ur_cd (P := ur_PM) (ur_cd (P := ur_PM) cm_X10_sums cm_X10_tests) (ur_cd (P := ur_PM) cm_X10_worked cm_X10_isKept))) (ur_cd (P := ur_PM) (ur_cd (P := ur_PM) (ur_cd (P := ur_PM) cm_X10_roomNamed cm_X10_personNamed) (ur_cd (P := ur_PM) cm_X10_needsBoth cm_X10_closes)) (ur_cd (P := ur_PM) (ur_cd (P := ur_PM) cm_X10_needsNew cm_X10_needsRoom) (ur_cd (P := ur_PM) cm_X10_readsRoom (ur_cd (P := ur_PM) cm_X10_readsDoor cm_X10_readsPerson)))))) (ur_cd (P := ur_PM) (ur_cd (P := ur_PM) (ur_cd (P := ur_PM) (ur_cd (P := ur_PM) (ur_cd (P := ur_PM) cm_X10_readsStays cm_X10_begins) (ur_cd (P := ur_PM) cm_X10_readsAll cm_X10_shifts)) (ur_cd (P := ur_PM) (ur_cd (P := ur_PM) cm_X10_shiftsNames cm_X10_lays) (ur_cd (P := ur_PM) cm_X10_copies cm_X10_readsLine))) (ur_cd (P := ur_PM) (ur_cd (P := ur_PM) (ur_cd (P := ur_PM) cm_X10_laysLines cm_X10_laysSeen) (ur_cd (P := ur_PM) cm_X10_fresh0 cm_X10_marches)) (ur_cd (P := ur_PM) (ur_cd (P := ur_PM) cm_X10_evening cm_X10_isRoom) (ur_cd (P := ur_PM) cm_X10_isPerson (ur_cd (P := ur_PM) cm_X10_isUnsaid cm_X10_unsaids))))) (ur_cd (P := ur_PM) (ur_cd (P := ur_PM) (ur_cd (P := ur_PM) (ur_cd (P := ur_PM) cm_X10_open cm_X10_isOpen) (ur_cd (P := ur_PM) cm_X10_isInside cm_X10_hostOf)) (ur_cd (P := ur_PM) (ur_cd (P := ur_PM) cm_X10_insiders cm_X10_whoIn) (ur_cd (P := ur_PM) cm_X10_stayOf cm_X10_isFit))) (ur_cd (P := ur_PM) (ur_cd (P := ur_PM) (ur_cd (P := ur_PM) cm_X10_canShow cm_X10_shows) (ur_cd (P := ur_PM) cm_X10_goesOf cm_X10_canSpeak)) (ur_cd (P := ur_PM) (ur_cd (P := ur_PM) cm_X10_speaks cm_X10_burntBy) (ur_cd (P := ur_PM) cm_X10_spreads (ur_cd (P := ur_PM) cm_X10_canBurn cm_X10_firstOf))))))) (ur_cd (P := ur_PM) (ur_cd (P := ur_PM) (ur_cd (P := ur_PM) (ur_cd (P := ur_PM) (ur_cd (P := ur_PM) (ur_cd (P := ur_PM) cm_X10_passes cm_X10_room) (ur_cd (P := ur_PM) cm_X10_person cm_X10_keeps)) (ur_cd (P := ur_PM) (ur_cd (P := ur_PM) cm_X10_walk cm_X10_show) (ur_cd (P := ur_PM) cm_X10_speak cm_X10_burn))) (ur_cd (P := ur_PM) (ur_cd (P := ur_PM) (ur_cd (P := ur_PM) cm_X10_minute cm_X10_undo) (ur_cd (P := ur_PM) cm_X10_allBeen cm_X10_isDone)) (ur_cd (P := ur_PM) (ur_cd (P := ur_PM) cm_X10_judged cm_X10_host) (ur_cd (P := ur_PM) cm_X10_freesOf cm_X10_frees)))) (ur_cd (P := ur_PM) (ur_cd (P := ur_PM) (ur_cd (P := ur_PM) (ur_cd (P := ur_PM) cm_X10_later cm_X10_out) (ur_cd (P := ur_PM) cm_X10_calm cm_X10_mayOf)) (ur_cd (P := ur_PM) (ur_cd (P := ur_PM) cm_X10_may cm_X10_goes) (ur_cd (P := ur_PM) cm_X10_stay cm_X10_widows))) (ur_cd (P := ur_PM) (ur_cd (P := ur_PM) (ur_cd (P := ur_PM) cm_X10_reach cm_X10_far) (ur_cd (P := ur_PM) cm_X10_pieces cm_X10_halls)) (ur_cd (P := ur_PM) (ur_cd (P := ur_PM) cm_X10_hinges cm_X10_unsaidBy) (ur_cd (P := ur_PM) cm_X10_lines (ur_cd (P := ur_PM) cm_X10_fire cm_X10_queues)))))) (ur_cd (P := ur_PM) (ur_cd (P := ur_PM) (ur_cd (P := ur_PM) (ur_cd (P := ur_PM) (ur_cd (P := ur_PM) cm_X10_queue cm_X10_longest) (ur_cd (P := ur_PM) cm_X10_as cm_X10_been)) (ur_cd (P := ur_PM) (ur_cd (P := ur_PM) cm_X10_alike cm_X10_laysStays) (ur_cd (P := ur_PM) cm_X10_see cm_X10_isAsSeen))) (ur_cd (P := ur_PM) (ur_cd (P := ur_PM) (ur_cd (P := ur_PM) cm_X10_which cm_X10_ask) (ur_cd (P := ur_PM) cm_X10_chance cm_X10_getsBy)) (ur_cd (P := ur_PM) (ur_cd (P := ur_PM) cm_X10_rests cm_X10_draws) (ur_cd (P := ur_PM) cm_X10_livesMinute (ur_cd (P := ur_PM) cm_X10_evenings cm_X10_mark))))) (ur_cd (P := ur_PM) (ur_cd (P := ur_PM) (ur_cd (P := ur_PM) (ur_cd (P := ur_PM) cm_X10_count cm_J6_lowestOneBit_0f7a4) (ur_cd (P := ur_PM) cm_J6_numberOfTrailingZeros_0f7a4 cm_J6_bitCount_0f7a4)) (ur_cd (P := ur_PM) (ur_cd (P := ur_PM) cm_J0_length_8abf5 cm_J0_charAt_5068e) (ur_cd (P := ur_PM) cm_J0_indexOf_0f7a4 cm_J0_indexOf_7cf53))) (ur_cd (P := ur_PM) (ur_cd (P := ur_PM) (ur_cd (P := ur_PM) cm_J0_coder_7d493 cm_J0_isLatin1_aae02) (ur_cd (P := ur_PM) cm_J0_checkIndex_df160 cm_J1_charAt_3b067)) (ur_cd (P := ur_PM) (ur_cd (P := ur_PM) cm_J1_canEncode_9a6ad cm_J1_indexOf_4cfef) (ur_cd (P := ur_PM) cm_J1_indexOfChar_4cfef (ur_cd (P := ur_PM) cm_J7_fill_53178 cm_J3_checkIndex_8e157)))))))))
end
section
/-! links -/
def ur_LP_X0_0 : List (Nat × ur_L4) := [(382, 1, 6, 0, 0), (383, 7, 10, 0, 0), (1113, 13, 12, 1103515245, 0), (1114, 15, 12, 12345, 0), (1115, 17, 12, 2147483648, 0), (1116, 19, 12, 65536, 0)]
theorem ur_LC_X0_0 : ur_LP_X0_0.all (fun z => ur_ckL ur_GN 267 RX0 z.1 z.2) = true := by decide +kernel
def ur_LP_X0 : List (Nat × ur_L4) := ur_LP_X0_0
def ur_L_X0 : List ur_L4 := ur_LP_X0.map (fun z => z.2)
theorem ur_LO_X0 : ∀ q ∈ ur_L_X0, ur_PL ur_GN RX0 q := by
  intro q hq
  obtain ⟨z, hz, rfl⟩ := List.mem_map.mp hq
  refine ur_ckL_t ur_allM (pos := z.1) ?_
  have h : ur_LP_X0.all (fun z => ur_ckL ur_GN 267 RX0 z.1 z.2) = true := by
    unfold ur_LP_X0
    simp only [List.all_append, ur_LC_X0_0, Bool.and_self]
  exact List.all_eq_true.mp h z hz
def ur_LP_X1_0 : List (Nat × ur_L4) := [(181, 3, 6, 0, 0), (204, 9, 10, 64, 0), (205, 15, 10, 65, 0), (208, 19, 10, 66, 0), (211, 22, 10, 67, 0), (212, 25, 10, 68, 0), (215, 28, 10, 69, 0), (218, 31, 10, 70, 0), (182, 34, 13, 2, 0), (184, 36, 3, 674, 0), (220, 37, 10, 71, 0), (225, 41, 10, 74, 0), (230, 45, 10, 76, 0), (662, 48, 0, 101, 0), (223, 52, 10, 73, 0), (666, 55, 1, 4357, 0), (877, 59, 0, 229, 0), (483, 63, 1, 8484, 0), (191, 69, 10, 130, 0), (222, 72, 10, 72, 0), (227, 76, 10, 75, 0), (479, 79, 0, 354, 0), (486, 82, 0, 2338, 0), (147, 87, 10, 516, 0), (616, 90, 0, 423, 0), (646, 94, 0, 517, 0), (669, 98, 0, 581, 0), (677, 101, 0, 645, 0), (620, 104, 0, 2469, 0), (637, 107, 0, 2501, 0), (157, 110, 10, 519, 0), (624, 113, 0, 2370, 0), (151, 116, 10, 517, 0), (625, 120, 0, 453, 0), (642, 123, 0, 2535, 0), (154, 127, 10, 518, 0), (629, 130, 0, 293, 0), (633, 134, 0, 325, 0), (650, 137, 0, 485, 0), (654, 140, 0, 551, 0)]
theorem ur_LC_X1_0 : ur_LP_X1_0.all (fun z => ur_ckL ur_GN 267 RX1 z.1 z.2) = true := by decide +kernel
def ur_LP_X1_1 : List (Nat × ur_L4) := [(658, 143, 0, 165, 0), (673, 146, 0, 618, 0), (681, 150, 0, 713, 0)]
theorem ur_LC_X1_1 : ur_LP_X1_1.all (fun z => ur_ckL ur_GN 267 RX1 z.1 z.2) = true := by decide +kernel
def ur_LP_X1 : List (Nat × ur_L4) := ur_LP_X1_0 ++ ur_LP_X1_1
def ur_L_X1 : List ur_L4 := ur_LP_X1.map (fun z => z.2)
theorem ur_LO_X1 : ∀ q ∈ ur_L_X1, ur_PL ur_GN RX1 q := by
  intro q hq
  obtain ⟨z, hz, rfl⟩ := List.mem_map.mp hq
  refine ur_ckL_t ur_allM (pos := z.1) ?_
  have h : ur_LP_X1.all (fun z => ur_ckL ur_GN 267 RX1 z.1 z.2) = true := by
    unfold ur_LP_X1
    simp only [List.all_append, ur_LC_X1_0, ur_LC_X1_1, Bool.and_self]
  exact List.all_eq_true.mp h z hz
def ur_LP_X2_0 : List (Nat × ur_L4) := [(187, 3, 6, 0, 0), (188, 9, 10, 128, 0), (189, 15, 10, 129, 0), (685, 18, 0, 775, 0), (697, 22, 0, 713, 0), (144, 26, 10, 516, 0), (702, 32, 1, 739, 0), (692, 36, 0, 2370, 0), (698, 39, 0, 836, 0), (152, 43, 10, 518, 0), (0, 46, 19, 2, 0), (148, 48, 10, 517, 0), (690, 52, 1, 4389, 0), (691, 56, 0, 2469, 0), (693, 60, 0, 807, 0), (190, 63, 10, 130, 0), (192, 66, 10, 131, 0), (831, 69, 0, 964, 0), (835, 72, 0, 995, 0), (839, 76, 0, 900, 0), (843, 79, 1, 935, 0)]
theorem ur_LC_X2_0 : ur_LP_X2_0.all (fun z => ur_ckL ur_GN 267 RX2 z.1 z.2) = true := by decide +kernel
def ur_LP_X2 : List (Nat × ur_L4) := ur_LP_X2_0
def ur_L_X2 : List ur_L4 := ur_LP_X2.map (fun z => z.2)
theorem ur_LO_X2 : ∀ q ∈ ur_L_X2, ur_PL ur_GN RX2 q := by
  intro q hq
  obtain ⟨z, hz, rfl⟩ := List.mem_map.mp hq
  refine ur_ckL_t ur_allM (pos := z.1) ?_
  have h : ur_LP_X2.all (fun z => ur_ckL ur_GN 267 RX2 z.1 z.2) = true := by
    unfold ur_LP_X2
    simp only [List.all_append, ur_LC_X2_0, Bool.and_self]
  exact List.all_eq_true.mp h z hz
def ur_LP_X3_0 : List (Nat × ur_L4) := [(357, 3, 6, 0, 0), (358, 9, 10, 192, 0), (359, 15, 10, 193, 0), (361, 18, 10, 194, 0), (302, 21, 10, 327, 0), (1033, 27, 0, 1479, 0), (229, 31, 10, 76, 0), (1034, 36, 0, 1349, 0), (1035, 40, 0, 1607, 0), (1036, 44, 0, 1707, 0), (1037, 48, 1, 8099, 0), (362, 54, 10, 195, 0), (1038, 57, 11, 0, 2147483647), (364, 58, 10, 196, 0), (1039, 61, 0, 1098, 0), (1043, 65, 0, 1124, 0), (1048, 69, 1, 4357, 0), (1047, 73, 5, 0, 0)]
theorem ur_LC_X3_0 : ur_LP_X3_0.all (fun z => ur_ckL ur_GN 267 RX3 z.1 z.2) = true := by decide +kernel
def ur_LP_X3 : List (Nat × ur_L4) := ur_LP_X3_0
def ur_L_X3 : List ur_L4 := ur_LP_X3.map (fun z => z.2)
theorem ur_LO_X3 : ∀ q ∈ ur_L_X3, ur_PL ur_GN RX3 q := by
  intro q hq
  obtain ⟨z, hz, rfl⟩ := List.mem_map.mp hq
  refine ur_ckL_t ur_allM (pos := z.1) ?_
  have h : ur_LP_X3.all (fun z => ur_ckL ur_GN 267 RX3 z.1 z.2) = true := by
    unfold ur_LP_X3
    simp only [List.all_append, ur_LC_X3_0, Bool.and_self]
  exact List.all_eq_true.mp h z hz
def ur_LP_X4_0 : List (Nat × ur_L4) := [(392, 1, 6, 0, 0), (393, 7, 13, 5, 0), (394, 9, 3, 1250, 0), (399, 10, 10, 256, 0), (395, 16, 13, 6, 0), (396, 18, 3, 1986, 0), (400, 19, 10, 257, 0), (397, 23, 13, 7, 0), (398, 25, 3, 2178, 0), (401, 26, 10, 258, 0), (1125, 30, 0, 1316, 0), (1126, 34, 0, 2020, 0), (1131, 37, 0, 2244, 0), (402, 40, 10, 259, 0)]
theorem ur_LC_X4_0 : ur_LP_X4_0.all (fun z => ur_ckL ur_GN 267 RX4 z.1 z.2) = true := by decide +kernel
def ur_LP_X4 : List (Nat × ur_L4) := ur_LP_X4_0
def ur_L_X4 : List ur_L4 := ur_LP_X4.map (fun z => z.2)
theorem ur_LO_X4 : ∀ q ∈ ur_L_X4, ur_PL ur_GN RX4 q := by
  intro q hq
  obtain ⟨z, hz, rfl⟩ := List.mem_map.mp hq
  refine ur_ckL_t ur_allM (pos := z.1) ?_
  have h : ur_LP_X4.all (fun z => ur_ckL ur_GN 267 RX4 z.1 z.2) = true := by
    unfold ur_LP_X4
    simp only [List.all_append, ur_LC_X4_0, Bool.and_self]
  exact List.all_eq_true.mp h z hz
def ur_LP_X5_0 : List (Nat × ur_L4) := [(288, 3, 6, 0, 0), (289, 9, 10, 320, 0), (291, 15, 10, 321, 0), (293, 18, 10, 322, 0), (294, 21, 10, 323, 0), (296, 24, 10, 324, 0), (219, 27, 10, 70, 0), (713, 32, 5, 0, 0), (716, 38, 1, 8484, 0), (298, 44, 10, 325, 0), (300, 48, 10, 326, 0), (303, 51, 10, 327, 0), (305, 54, 10, 328, 0), (231, 57, 10, 76, 0), (777, 60, 0, 1349, 0), (813, 64, 0, 1447, 0), (814, 68, 1, 8067, 0), (775, 74, 0, 133, 0), (776, 77, 0, 101, 0), (210, 80, 10, 66, 0), (781, 83, 1, 4357, 0), (771, 87, 0, 1513, 0), (782, 91, 0, 165, 0), (796, 94, 0, 1545, 0), (214, 97, 10, 68, 0), (217, 100, 10, 69, 0), (805, 103, 0, 1607, 0), (809, 107, 0, 1479, 0), (822, 110, 0, 1641, 0), (823, 113, 0, 1707, 0), (221, 117, 10, 71, 0), (207, 121, 10, 65, 0), (827, 124, 0, 875, 0), (846, 130, 8, 0, 0), (847, 135, 7, 0, 0), (860, 138, 0, 1735, 0), (869, 141, 0, 195, 0), (873, 145, 0, 263, 0), (885, 148, 0, 1799, 0), (886, 151, 1, 8099, 0)]
theorem ur_LC_X5_0 : ur_LP_X5_0.all (fun z => ur_ckL ur_GN 267 RX5 z.1 z.2) = true := by decide +kernel
def ur_LP_X5_1 : List (Nat × ur_L4) := [(900, 154, 0, 1895, 0), (904, 157, 0, 1927, 0), (920, 160, 0, 1577, 0), (921, 163, 0, 1673, 0), (922, 167, 0, 1767, 0), (923, 170, 0, 1831, 0), (924, 173, 0, 1861, 0)]
theorem ur_LC_X5_1 : ur_LP_X5_1.all (fun z => ur_ckL ur_GN 267 RX5 z.1 z.2) = true := by decide +kernel
def ur_LP_X5 : List (Nat × ur_L4) := ur_LP_X5_0 ++ ur_LP_X5_1
def ur_L_X5 : List ur_L4 := ur_LP_X5.map (fun z => z.2)
theorem ur_LO_X5 : ∀ q ∈ ur_L_X5, ur_PL ur_GN RX5 q := by
  intro q hq
  obtain ⟨z, hz, rfl⟩ := List.mem_map.mp hq
  refine ur_ckL_t ur_allM (pos := z.1) ?_
  have h : ur_LP_X5.all (fun z => ur_ckL ur_GN 267 RX5 z.1 z.2) = true := by
    unfold ur_LP_X5
    simp only [List.all_append, ur_LC_X5_0, ur_LC_X5_1, Bool.and_self]
  exact List.all_eq_true.mp h z hz
def ur_LP_X6_0 : List (Nat × ur_L4) := [(265, 3, 6, 0, 0), (266, 9, 10, 384, 0), (268, 15, 10, 385, 0), (270, 18, 10, 386, 0), (272, 21, 10, 387, 0), (1130, 25, 5, 0, 0), (726, 31, 0, 2338, 0), (145, 36, 10, 516, 0), (727, 39, 0, 2087, 0), (156, 43, 10, 519, 0), (731, 46, 0, 2469, 0), (732, 50, 0, 2370, 0), (733, 53, 0, 2119, 0), (738, 56, 0, 2151, 0), (744, 59, 0, 2501, 0), (150, 62, 10, 517, 0), (737, 66, 0, 325, 0), (742, 72, 0, 485, 0), (743, 76, 0, 293, 0)]
theorem ur_LC_X6_0 : ur_LP_X6_0.all (fun z => ur_ckL ur_GN 267 RX6 z.1 z.2) = true := by decide +kernel
def ur_LP_X6 : List (Nat × ur_L4) := ur_LP_X6_0
def ur_L_X6 : List ur_L4 := ur_LP_X6.map (fun z => z.2)
theorem ur_LO_X6 : ∀ q ∈ ur_L_X6, ur_PL ur_GN RX6 q := by
  intro q hq
  obtain ⟨z, hz, rfl⟩ := List.mem_map.mp hq
  refine ur_ckL_t ur_allM (pos := z.1) ?_
  have h : ur_LP_X6.all (fun z => ur_ckL ur_GN 267 RX6 z.1 z.2) = true := by
    unfold ur_LP_X6
    simp only [List.all_append, ur_LC_X6_0, Bool.and_self]
  exact List.all_eq_true.mp h z hz
def ur_LP_X7_0 : List (Nat × ur_L4) := [(331, 3, 6, 0, 0), (332, 9, 10, 448, 0), (334, 15, 10, 449, 0), (338, 18, 10, 451, 0), (336, 22, 10, 450, 0), (1135, 25, 5, 0, 0)]
theorem ur_LC_X7_0 : ur_LP_X7_0.all (fun z => ur_ckL ur_GN 267 RX7 z.1 z.2) = true := by decide +kernel
def ur_LP_X7 : List (Nat × ur_L4) := ur_LP_X7_0
def ur_L_X7 : List ur_L4 := ur_LP_X7.map (fun z => z.2)
theorem ur_LO_X7 : ∀ q ∈ ur_L_X7, ur_PL ur_GN RX7 q := by
  intro q hq
  obtain ⟨z, hz, rfl⟩ := List.mem_map.mp hq
  refine ur_ckL_t ur_allM (pos := z.1) ?_
  have h : ur_LP_X7.all (fun z => ur_ckL ur_GN 267 RX7 z.1 z.2) = true := by
    unfold ur_LP_X7
    simp only [List.all_append, ur_LC_X7_0, Bool.and_self]
  exact List.all_eq_true.mp h z hz
def ur_LP_X8_0 : List (Nat × ur_L4) := [(138, 3, 6, 0, 0), (139, 9, 10, 512, 0), (141, 15, 10, 513, 0), (142, 19, 10, 514, 0), (155, 22, 10, 519, 0), (490, 25, 0, 2370, 0), (143, 28, 10, 515, 0), (146, 31, 10, 516, 0), (494, 34, 0, 2402, 0), (552, 37, 0, 2434, 0), (0, 40, 19, 1, 0), (557, 42, 0, 8197, 0), (149, 48, 10, 517, 0), (498, 52, 12, 32, 0), (0, 54, 19, 0, 0), (500, 56, 1, 4389, 0), (153, 60, 10, 518, 0), (641, 63, 0, 2469, 0)]
theorem ur_LC_X8_0 : ur_LP_X8_0.all (fun z => ur_ckL ur_GN 267 RX8 z.1 z.2) = true := by decide +kernel
def ur_LP_X8 : List (Nat × ur_L4) := ur_LP_X8_0
def ur_L_X8 : List ur_L4 := ur_LP_X8.map (fun z => z.2)
theorem ur_LO_X8 : ∀ q ∈ ur_L_X8, ur_PL ur_GN RX8 q := by
  intro q hq
  obtain ⟨z, hz, rfl⟩ := List.mem_map.mp hq
  refine ur_ckL_t ur_allM (pos := z.1) ?_
  have h : ur_LP_X8.all (fun z => ur_ckL ur_GN 267 RX8 z.1 z.2) = true := by
    unfold ur_LP_X8
    simp only [List.all_append, ur_LC_X8_0, Bool.and_self]
  exact List.all_eq_true.mp h z hz
def ur_LP_X9_0 : List (Nat × ur_L4) := [(130, 3, 6, 0, 0), (133, 9, 13, 8, 0), (135, 11, 3, 2274, 0), (413, 12, 10, 576, 0), (176, 16, 13, 1, 0), (178, 18, 3, 66, 0), (414, 19, 10, 577, 0), (415, 23, 10, 578, 0), (260, 26, 13, 6, 0), (262, 28, 3, 1986, 0), (416, 29, 10, 579, 0), (417, 33, 10, 580, 0), (283, 36, 13, 5, 0), (285, 38, 3, 1250, 0), (418, 39, 10, 581, 0), (419, 43, 10, 582, 0), (326, 46, 13, 7, 0), (328, 48, 3, 2178, 0), (420, 49, 10, 583, 0), (283, 36, 14, 4, 0), (421, 53, 10, 584, 0), (350, 57, 14, 5, 0), (424, 59, 10, 587, 0), (352, 63, 13, 3, 0), (354, 65, 3, 1026, 0), (425, 66, 10, 588, 0), (377, 70, 13, 0, 0), (379, 72, 3, 2, 0), (426, 73, 10, 589, 0), (427, 77, 10, 590, 0), (350, 57, 13, 4, 0), (389, 81, 3, 1154, 0), (463, 82, 0, 2628, 0), (140, 86, 10, 513, 0), (467, 90, 0, 2308, 0), (475, 94, 0, 389, 0), (705, 98, 0, 2690, 0), (709, 101, 0, 1284, 0), (273, 105, 10, 387, 0), (339, 108, 10, 451, 0)]
theorem ur_LC_X9_0 : ur_LP_X9_0.all (fun z => ur_ckL ur_GN 267 RX9 z.1 z.2) = true := by decide +kernel
def ur_LP_X9_1 : List (Nat × ur_L4) := [(423, 109, 10, 586, 0), (403, 112, 10, 259, 0), (722, 116, 0, 2055, 0), (749, 119, 0, 101, 0), (224, 123, 10, 73, 0), (750, 126, 1, 4357, 0), (206, 130, 10, 65, 0), (209, 133, 10, 66, 0), (301, 136, 10, 326, 0), (751, 139, 0, 1447, 0), (759, 143, 0, 133, 0), (213, 146, 10, 68, 0), (216, 149, 10, 69, 0), (290, 152, 10, 320, 0), (292, 155, 10, 321, 0), (295, 158, 10, 323, 0), (299, 161, 10, 325, 0), (767, 164, 0, 1545, 0), (783, 168, 0, 2978, 0), (792, 171, 0, 1577, 0), (801, 174, 0, 1641, 0), (818, 177, 0, 1673, 0), (852, 181, 0, 1735, 0), (856, 185, 0, 1767, 0), (865, 188, 0, 1799, 0), (881, 191, 0, 1831, 0), (896, 194, 0, 1861, 0), (422, 198, 10, 585, 0), (787, 201, 0, 1316, 0), (791, 205, 8, 0, 0), (267, 210, 10, 384, 0), (269, 213, 10, 385, 0), (271, 216, 10, 386, 0), (916, 219, 0, 1963, 0), (304, 223, 10, 327, 0), (925, 226, 0, 1413, 0), (933, 229, 0, 165, 0), (934, 232, 0, 1479, 0), (939, 235, 0, 3141, 0), (951, 239, 0, 1349, 0)]
theorem ur_LC_X9_1 : ur_LP_X9_1.all (fun z => ur_ckL ur_GN 267 RX9 z.1 z.2) = true := by decide +kernel
def ur_LP_X9_2 : List (Nat × ur_L4) := [(956, 242, 0, 1381, 0), (964, 245, 0, 3301, 0), (226, 248, 10, 74, 0), (972, 251, 0, 3365, 0), (980, 254, 0, 1707, 0), (993, 258, 0, 195, 0), (989, 262, 0, 3427, 0), (985, 265, 0, 3461, 0), (994, 268, 0, 263, 0), (999, 271, 0, 229, 0), (1008, 274, 0, 3623, 0), (1012, 278, 1, 8035, 0), (1019, 283, 1, 8099, 0), (1028, 286, 0, 3109, 0), (1029, 289, 0, 1066, 0), (365, 293, 10, 196, 0), (363, 296, 10, 195, 0), (360, 297, 10, 193, 0), (232, 300, 10, 76, 0), (297, 303, 10, 324, 0), (1065, 306, 0, 3879, 0), (1069, 309, 1, 8484, 0), (1070, 315, 7, 0, 0), (1079, 318, 0, 2217, 0), (333, 321, 10, 448, 0), (335, 322, 10, 449, 0), (1087, 325, 0, 3911, 0), (337, 328, 10, 450, 0), (1095, 331, 0, 4003, 0), (1100, 334, 11, 0, 1000000), (1152, 335, 1, 4131, 0), (1216, 341, 1, 4169, 0), (1219, 345, 1, 4203, 0), (384, 349, 10, 0, 0), (1105, 353, 0, 4258, 0), (1109, 356, 0, 37, 0), (1121, 359, 0, 1192, 0), (1136, 363, 0, 1224, 0), (228, 366, 10, 75, 0), (306, 369, 10, 328, 0)]
theorem ur_LC_X9_2 : ur_LP_X9_2.all (fun z => ur_ckL ur_GN 267 RX9 z.1 z.2) = true := by decide +kernel
def ur_LP_X9_3 : List (Nat × ur_L4) := [(503, 372, 0, 8131, 0), (513, 376, 0, 8165, 0), (551, 380, 12, 32, 0)]
theorem ur_LC_X9_3 : ur_LP_X9_3.all (fun z => ur_ckL ur_GN 267 RX9 z.1 z.2) = true := by decide +kernel
def ur_LP_X9 : List (Nat × ur_L4) := ur_LP_X9_0 ++ ur_LP_X9_1 ++ ur_LP_X9_2 ++ ur_LP_X9_3
def ur_L_X9 : List ur_L4 := ur_LP_X9.map (fun z => z.2)
theorem ur_LO_X9 : ∀ q ∈ ur_L_X9, ur_PL ur_GN RX9 q := by
  intro q hq
  obtain ⟨z, hz, rfl⟩ := List.mem_map.mp hq
  refine ur_ckL_t ur_allM (pos := z.1) ?_
  have h : ur_LP_X9.all (fun z => ur_ckL ur_GN 267 RX9 z.1 z.2) = true := by
    unfold ur_LP_X9
    simp only [List.all_append, ur_LC_X9_0, ur_LC_X9_1, ur_LC_X9_2, ur_LC_X9_3, Bool.and_self]
  exact List.all_eq_true.mp h z hz
def ur_LP_X10_0 : List (Nat × ur_L4) := [(1227, 1, 6, 0, 0), (1234, 7, 10, 642, 0), (1242, 13, 10, 650, 0), (1243, 16, 10, 651, 0), (1244, 20, 10, 652, 0), (1245, 23, 10, 653, 0), (1246, 26, 10, 654, 0), (1247, 29, 10, 655, 0), (1248, 32, 10, 656, 0), (1249, 35, 10, 657, 0), (1250, 38, 10, 658, 0), (1251, 41, 10, 659, 0), (1252, 44, 10, 660, 0), (1254, 47, 10, 662, 0), (1255, 50, 10, 663, 0), (1256, 54, 10, 664, 0), (1257, 57, 10, 665, 0), (1258, 60, 10, 666, 0), (1259, 63, 10, 667, 0), (1260, 66, 10, 668, 0), (1261, 69, 10, 669, 0), (1262, 72, 10, 670, 0), (1263, 75, 10, 671, 0), (1264, 78, 10, 672, 0), (1265, 81, 10, 673, 0), (1268, 84, 10, 676, 0), (1269, 87, 10, 677, 0), (1270, 90, 10, 678, 0), (1271, 93, 10, 679, 0), (1272, 96, 10, 680, 0), (1273, 99, 10, 681, 0), (1274, 102, 10, 682, 0), (1275, 105, 10, 683, 0), (1276, 108, 10, 684, 0), (1277, 111, 10, 685, 0), (1278, 114, 10, 686, 0), (1279, 117, 10, 687, 0), (1280, 120, 10, 688, 0), (1281, 123, 10, 689, 0), (1283, 126, 10, 691, 0)]
theorem ur_LC_X10_0 : ur_LP_X10_0.all (fun z => ur_ckL ur_GN 267 RX10 z.1 z.2) = true := by decide +kernel
def ur_LP_X10_1 : List (Nat × ur_L4) := [(1284, 129, 10, 692, 0), (1286, 132, 10, 694, 0), (1287, 135, 10, 695, 0), (1228, 138, 0, 5634, 0), (1232, 141, 10, 640, 0), (1413, 145, 12, 255, 0), (1233, 147, 10, 641, 0), (1235, 150, 10, 643, 0), (1236, 153, 10, 644, 0), (1237, 156, 10, 645, 0), (1239, 159, 10, 647, 0), (1240, 163, 10, 648, 0), (1238, 166, 10, 646, 0), (1430, 169, 0, 4613, 0), (1434, 173, 12, 27, 0), (1435, 175, 12, 96, 0), (1241, 177, 10, 649, 0), (1253, 180, 10, 661, 0), (1523, 183, 12, 271277, 0), (1524, 185, 12, 10815598, 0), (1525, 187, 12, 13385674, 0), (1526, 189, 12, 286624, 0), (1519, 191, 0, 4803, 0), (1473, 195, 12, 10631, 0), (1437, 197, 0, 4677, 0), (1495, 201, 0, 4709, 0), (1445, 205, 0, 4741, 0), (1527, 208, 0, 4772, 0), (1426, 212, 0, 4642, 0), (1474, 215, 12, 1111, 0), (1475, 217, 12, 423, 0), (1632, 219, 0, 4900, 0), (1628, 222, 0, 4868, 0), (1636, 225, 0, 4932, 0), (1436, 228, 12, 365647, 0), (1457, 230, 12, 309142174, 0), (1458, 232, 12, 4555648, 0), (1459, 234, 12, 90090, 0), (1460, 236, 12, 232608281, 0), (1461, 238, 12, 923, 0)]
theorem ur_LC_X10_1 : ur_LP_X10_1.all (fun z => ur_ckL ur_GN 267 RX10 z.1 z.2) = true := by decide +kernel
def ur_LP_X10_2 : List (Nat × ur_L4) := [(1462, 240, 12, 257, 0), (1463, 242, 12, 10492462, 0), (1464, 244, 12, 453773, 0), (1465, 246, 12, 380237, 0), (1466, 248, 12, 10415990, 0), (1467, 250, 12, 55175, 0), (1468, 252, 12, 191610176, 0), (1469, 254, 12, 4137608, 0), (1470, 256, 12, 459437, 0), (1471, 258, 12, 1758676, 0), (1472, 260, 12, 287991491, 0), (1488, 262, 1, 4487, 0), (1266, 266, 10, 674, 0), (1453, 269, 0, 4995, 0), (1476, 273, 0, 5029, 0), (1480, 276, 0, 5061, 0), (1267, 279, 10, 675, 0), (1449, 282, 0, 5155, 0), (1484, 285, 0, 5097, 0), (1491, 289, 0, 5123, 0), (1503, 292, 0, 5189, 0), (1515, 295, 0, 4835, 0), (1422, 298, 0, 5346, 0), (1441, 301, 0, 5221, 0), (1499, 305, 0, 5251, 0), (1507, 308, 0, 5283, 0), (1511, 311, 0, 5315, 0), (1535, 314, 1, 5412, 0), (1538, 318, 1, 5444, 0), (1418, 322, 0, 5379, 0), (1531, 325, 0, 5474, 0), (1282, 328, 10, 690, 0), (1545, 331, 0, 5539, 0), (1549, 334, 0, 5574, 0), (1557, 338, 0, 5733, 0), (1589, 341, 0, 5827, 0), (1585, 344, 0, 5859, 0), (1581, 347, 0, 5925, 0), (1624, 350, 0, 4965, 0), (1640, 353, 1, 4519, 0)]
theorem ur_LC_X10_2 : ur_LP_X10_2.all (fun z => ur_ckL ur_GN 267 RX10 z.1 z.2) = true := by decide +kernel
def ur_LP_X10_3 : List (Nat × ur_L4) := [(1608, 357, 0, 6085, 0), (1612, 360, 0, 5957, 0), (1620, 363, 0, 6057, 0), (1561, 366, 0, 6021, 0), (1671, 369, 0, 6311, 0), (1663, 373, 0, 5893, 0), (1686, 376, 1, 6371, 0), (1569, 379, 0, 5765, 0), (1597, 382, 1, 5512, 0), (1577, 386, 0, 6181, 0), (1593, 389, 0, 6498, 0), (1604, 392, 0, 6119, 0), (1616, 396, 0, 6151, 0), (1647, 399, 0, 6213, 0), (1651, 402, 0, 6244, 0), (1659, 405, 0, 6341, 0), (1667, 408, 0, 6277, 0), (1675, 411, 1, 4547, 0), (1682, 414, 0, 6403, 0), (1697, 417, 0, 6757, 0), (1701, 420, 0, 6723, 0), (1709, 423, 0, 5797, 0), (1717, 426, 0, 6853, 0), (1733, 429, 0, 5987, 0), (1741, 432, 0, 7013, 0), (1769, 435, 0, 7237, 0), (1781, 438, 0, 7333, 0), (1285, 441, 10, 693, 0), (1793, 444, 0, 7438, 0), (1821, 448, 0, 7618, 0), (1825, 451, 0, 7685, 0), (1833, 454, 0, 7715, 0), (1834, 457, 7, 0, 0), (1839, 462, 12, 10, 0), (1840, 464, 12, 1000000, 0), (1845, 466, 1, 7819, 0), (1288, 470, 10, 696, 0), (1860, 473, 12, 1103515245, 0), (1861, 475, 12, 12345, 0), (1862, 477, 12, 2147483648, 0)]
theorem ur_LC_X10_3 : ur_LP_X10_3.all (fun z => ur_ckL ur_GN 267 RX10 z.1 z.2) = true := by decide +kernel
def ur_LP_X10_4 : List (Nat × ur_L4) := [(1863, 479, 12, 65536, 0), (1856, 481, 0, 7877, 0), (1852, 484, 0, 7906, 0), (1868, 487, 0, 5606, 0)]
theorem ur_LC_X10_4 : ur_LP_X10_4.all (fun z => ur_ckL ur_GN 267 RX10 z.1 z.2) = true := by decide +kernel
def ur_LP_X10 : List (Nat × ur_L4) := ur_LP_X10_0 ++ ur_LP_X10_1 ++ ur_LP_X10_2 ++ ur_LP_X10_3 ++ ur_LP_X10_4
def ur_L_X10 : List ur_L4 := ur_LP_X10.map (fun z => z.2)
theorem ur_LO_X10 : ∀ q ∈ ur_L_X10, ur_PL ur_GN RX10 q := by
  intro q hq
  obtain ⟨z, hz, rfl⟩ := List.mem_map.mp hq
  refine ur_ckL_t ur_allM (pos := z.1) ?_
  have h : ur_LP_X10.all (fun z => ur_ckL ur_GN 267 RX10 z.1 z.2) = true := by
    unfold ur_LP_X10
    simp only [List.all_append, ur_LC_X10_0, ur_LC_X10_1, ur_LC_X10_2, ur_LC_X10_3, ur_LC_X10_4, Bool.and_self]
  exact List.all_eq_true.mp h z hz
def ur_LP_J6_0 : List (Nat × ur_L4) := [(817, 264, 11, 0, 65536), (889, 265, 11, 0, 1431655765), (890, 266, 11, 0, 858993459), (891, 267, 11, 0, 252645135)]
theorem ur_LC_J6_0 : ur_LP_J6_0.all (fun z => ur_ckL ur_GN 267 RJ6 z.1 z.2) = true := by decide +kernel
def ur_LP_J6 : List (Nat × ur_L4) := ur_LP_J6_0
def ur_L_J6 : List ur_L4 := ur_LP_J6.map (fun z => z.2)
theorem ur_LO_J6 : ∀ q ∈ ur_L_J6, ur_PL ur_GN RJ6 q := by
  intro q hq
  obtain ⟨z, hz, rfl⟩ := List.mem_map.mp hq
  refine ur_ckL_t ur_allM (pos := z.1) ?_
  have h : ur_LP_J6.all (fun z => ur_ckL ur_GN 267 RJ6 z.1 z.2) = true := by
    unfold ur_LP_J6
    simp only [List.all_append, ur_LC_J6_0, Bool.and_self]
  exact List.all_eq_true.mp h z hz
def ur_LP_J0_0 : List (Nat × ur_L4) := [(1892, 9, 15, 0, 0), (507, 335, 0, 8259, 0), (517, 492, 0, 8291, 0), (521, 495, 1, 8357, 0), (561, 633, 0, 8231, 0), (565, 505, 0, 8131, 0), (566, 637, 1, 8425, 0), (511, 38, 17, 0, 0), (1893, 15, 16, 0, 0), (527, 1053, 18, 0, 0), (529, 1059, 1, 8519, 0)]
theorem ur_LC_J0_0 : ur_LP_J0_0.all (fun z => ur_ckL ur_GN 267 RJ0 z.1 z.2) = true := by decide +kernel
def ur_LP_J0 : List (Nat × ur_L4) := ur_LP_J0_0
def ur_L_J0 : List ur_L4 := ur_LP_J0.map (fun z => z.2)
theorem ur_LO_J0 : ∀ q ∈ ur_L_J0, ur_PL ur_GN RJ0 q := by
  intro q hq
  obtain ⟨z, hz, rfl⟩ := List.mem_map.mp hq
  refine ur_ckL_t ur_allM (pos := z.1) ?_
  have h : ur_LP_J0.all (fun z => ur_ckL ur_GN 267 RJ0 z.1 z.2) = true := by
    unfold ur_LP_J0
    simp only [List.all_append, ur_LC_J0_0, Bool.and_self]
  exact List.all_eq_true.mp h z hz
def ur_LP_J1_0 : List (Nat × ur_L4) := [(524, 9, 1, 8324, 0), (569, 88, 1, 8387, 0), (572, 92, 7, 0, 0), (575, 38, 8, 0, 0), (578, 95, 1, 8457, 0)]
theorem ur_LC_J1_0 : ur_LP_J1_0.all (fun z => ur_ckL ur_GN 267 RJ1 z.1 z.2) = true := by decide +kernel
def ur_LP_J1 : List (Nat × ur_L4) := ur_LP_J1_0
def ur_L_J1 : List ur_L4 := ur_LP_J1.map (fun z => z.2)
theorem ur_LO_J1 : ∀ q ∈ ur_L_J1, ur_PL ur_GN RJ1 q := by
  intro q hq
  obtain ⟨z, hz, rfl⟩ := List.mem_map.mp hq
  refine ur_ckL_t ur_allM (pos := z.1) ?_
  have h : ur_LP_J1.all (fun z => ur_ckL ur_GN 267 RJ1 z.1 z.2) = true := by
    unfold ur_LP_J1
    simp only [List.all_append, ur_LC_J1_0, Bool.and_self]
  exact List.all_eq_true.mp h z hz
theorem ur_w0 : ur_W0 := ⟨⟨ur_wp_t (pos := 715) (by decide +kernel), ur_wp_t (pos := 714) (by decide +kernel), ur_wp_t (pos := 119) (by decide +kernel)⟩, ⟨ur_wp_t (pos := 131) (by decide +kernel), ur_wp_t (pos := 132) (by decide +kernel)⟩, ur_wp_t (pos := 203) (by decide +kernel), ur_wp_t (pos := 202) (by decide +kernel), ur_wp_t (pos := 1404) (by decide +kernel), ur_wp_t (pos := 175) (by decide +kernel), ur_wp_t (pos := 573) (by decide +kernel), ur_wp_t (pos := 117) (by decide +kernel), ur_wp_t (pos := 574) (by decide +kernel), ur_wp_t (pos := 576) (by decide +kernel), ur_wp_t (pos := 577) (by decide +kernel)⟩
end
section
/-! rows of methods against the tables: printed by wip/whole/gen.py -/
theorem ce_X0_init : ur_PE ur_GN gn_X0_init := ur_ckR_t ur_w0 (L := ur_L_X0) ur_LO_X0 (by decide +kernel)
theorem ce_X0_below : ur_PE ur_GN gn_X0_below := ur_ckR_t ur_w0 (L := ur_L_X0) ur_LO_X0 (by decide +kernel)
theorem ce_X1_init : ur_PE ur_GN gn_X1_init := ur_ckR_t ur_w0 (L := ur_L_X1) ur_LO_X1 (by decide +kernel)
theorem ce_X1_hasRoom : ur_PE ur_GN gn_X1_hasRoom := ur_ckR_t ur_w0 (L := ur_L_X1) ur_LO_X1 (by decide +kernel)
theorem ce_X1_hasPerson : ur_PE ur_GN gn_X1_hasPerson := ur_ckR_t ur_w0 (L := ur_L_X1) ur_LO_X1 (by decide +kernel)
theorem ce_X1_isUnsaid : ur_PE ur_GN gn_X1_isUnsaid := ur_ckR_t ur_w0 (L := ur_L_X1) ur_LO_X1 (by decide +kernel)
theorem ce_X1_saidRooms : ur_PE ur_GN gn_X1_saidRooms := ur_ckR_t ur_w0 (L := ur_L_X1) ur_LO_X1 (by decide +kernel)
theorem ce_X1_roomsBeside : ur_PE ur_GN gn_X1_roomsBeside := ur_ckR_t ur_w0 (L := ur_L_X1) ur_LO_X1 (by decide +kernel)
theorem ce_X1_spread : ur_PE ur_GN gn_X1_spread := ur_ckR_t ur_w0 (L := ur_L_X1) ur_LO_X1 (by decide +kernel)
theorem ce_X1_roomNamed : ur_PE ur_GN gn_X1_roomNamed := ur_ckR_t ur_w0 (L := ur_L_X1) ur_LO_X1 (by decide +kernel)
theorem ce_X1_personNamed : ur_PE ur_GN gn_X1_personNamed := ur_ckR_t ur_w0 (L := ur_L_X1) ur_LO_X1 (by decide +kernel)
theorem ce_X1_clear : ur_PE ur_GN gn_X1_clear := ur_ckR_t ur_w0 (L := ur_L_X1) ur_LO_X1 (by decide +kernel)
theorem ce_X1_readFrom : ur_PE ur_GN gn_X1_readFrom := ur_ckR_t ur_w0 (L := ur_L_X1) ur_LO_X1 (by decide +kernel)
theorem ce_X1_readRoom : ur_PE ur_GN gn_X1_readRoom := ur_ckR_t ur_w0 (L := ur_L_X1) ur_LO_X1 (by decide +kernel)
theorem ce_X1_takeNewName : ur_PE ur_GN gn_X1_takeNewName := ur_ckR_t ur_w0 (L := ur_L_X1) ur_LO_X1 (by decide +kernel)
theorem ce_X1_isRoomName : ur_PE ur_GN gn_X1_isRoomName := ur_ckR_t ur_w0 (L := ur_L_X1) ur_LO_X1 (by decide +kernel)
theorem ce_X1_readDoor : ur_PE ur_GN gn_X1_readDoor := ur_ckR_t ur_w0 (L := ur_L_X1) ur_LO_X1 (by decide +kernel)
theorem ce_X1_canJoin : ur_PE ur_GN gn_X1_canJoin := ur_ckR_t ur_w0 (L := ur_L_X1) ur_LO_X1 (by decide +kernel)
theorem ce_X1_readPerson : ur_PE ur_GN gn_X1_readPerson := ur_ckR_t ur_w0 (L := ur_L_X1) ur_LO_X1 (by decide +kernel)
theorem ce_X1_addPerson : ur_PE ur_GN gn_X1_addPerson := ur_ckR_t ur_w0 (L := ur_L_X1) ur_LO_X1 (by decide +kernel)
theorem ce_X1_readStays : ur_PE ur_GN gn_X1_readStays := ur_ckR_t ur_w0 (L := ur_L_X1) ur_LO_X1 (by decide +kernel)
theorem ce_X2_init : ur_PE ur_GN gn_X2_init := ur_ckR_t ur_w0 (L := ur_L_X2) ur_LO_X2 (by decide +kernel)
theorem ce_X2_readLevel : ur_PE ur_GN gn_X2_readLevel := ur_ckR_t ur_w0 (L := ur_L_X2) ur_LO_X2 (by decide +kernel)
theorem ce_X2_levelOf : ur_PE ur_GN gn_X2_levelOf := ur_ckR_t ur_w0 (L := ur_L_X2) ur_LO_X2 (by decide +kernel)
theorem ce_X2_readPart : ur_PE ur_GN gn_X2_readPart := ur_ckR_t ur_w0 (L := ur_L_X2) ur_LO_X2 (by decide +kernel)
theorem ce_X2_readInner : ur_PE ur_GN gn_X2_readInner := ur_ckR_t ur_w0 (L := ur_L_X2) ur_LO_X2 (by decide +kernel)
theorem ce_X2_put : ur_PE ur_GN gn_X2_put := ur_ckR_t ur_w0 (L := ur_L_X2) ur_LO_X2 (by decide +kernel)
theorem ce_X2_valueOf : ur_PE ur_GN gn_X2_valueOf := ur_ckR_t ur_w0 (L := ur_L_X2) ur_LO_X2 (by decide +kernel)
theorem ce_X2_follow : ur_PE ur_GN gn_X2_follow := ur_ckR_t ur_w0 (L := ur_L_X2) ur_LO_X2 (by decide +kernel)
theorem ce_X2_joined : ur_PE ur_GN gn_X2_joined := ur_ckR_t ur_w0 (L := ur_L_X2) ur_LO_X2 (by decide +kernel)
theorem ce_X2_push : ur_PE ur_GN gn_X2_push := ur_ckR_t ur_w0 (L := ur_L_X2) ur_LO_X2 (by decide +kernel)
theorem ce_X2_pop : ur_PE ur_GN gn_X2_pop := ur_ckR_t ur_w0 (L := ur_L_X2) ur_LO_X2 (by decide +kernel)
theorem ce_X3_init : ur_PE ur_GN gn_X3_init := ur_ckR_t ur_w0 (L := ur_L_X3) ur_LO_X3 (by decide +kernel)
theorem ce_X3_settle : ur_PE ur_GN gn_X3_settle := ur_ckR_t ur_w0 (L := ur_L_X3) ur_LO_X3 (by decide +kernel)
theorem ce_X3_tryRows : ur_PE ur_GN gn_X3_tryRows := ur_ckR_t ur_w0 (L := ur_L_X3) ur_LO_X3 (by decide +kernel)
theorem ce_X3_keepIfBetter : ur_PE ur_GN gn_X3_keepIfBetter := ur_ckR_t ur_w0 (L := ur_L_X3) ur_LO_X3 (by decide +kernel)
theorem ce_X4_init : ur_PE ur_GN gn_X4_init := ur_ckR_t ur_w0 (L := ur_L_X4) ur_LO_X4 (by decide +kernel)
theorem ce_X4_lay : ur_PE ur_GN gn_X4_lay := ur_ckR_t ur_w0 (L := ur_L_X4) ur_LO_X4 (by decide +kernel)
theorem ce_X4_giveBack : ur_PE ur_GN gn_X4_giveBack := ur_ckR_t ur_w0 (L := ur_L_X4) ur_LO_X4 (by decide +kernel)
theorem ce_X5_init : ur_PE ur_GN gn_X5_init := ur_ckR_t ur_w0 (L := ur_L_X5) ur_LO_X5 (by decide +kernel)
theorem ce_X5_begin : ur_PE ur_GN gn_X5_begin := ur_ckR_t ur_w0 (L := ur_L_X5) ur_LO_X5 (by decide +kernel)
theorem ce_X5_copyFrom : ur_PE ur_GN gn_X5_copyFrom := ur_ckR_t ur_w0 (L := ur_L_X5) ur_LO_X5 (by decide +kernel)
theorem ce_X5_isInside : ur_PE ur_GN gn_X5_isInside := ur_ckR_t ur_w0 (L := ur_L_X5) ur_LO_X5 (by decide +kernel)
theorem ce_X5_allInside : ur_PE ur_GN gn_X5_allInside := ur_ckR_t ur_w0 (L := ur_L_X5) ur_LO_X5 (by decide +kernel)
theorem ce_X5_allBeen : ur_PE ur_GN gn_X5_allBeen := ur_ckR_t ur_w0 (L := ur_L_X5) ur_LO_X5 (by decide +kernel)
theorem ce_X5_personsIn : ur_PE ur_GN gn_X5_personsIn := ur_ckR_t ur_w0 (L := ur_L_X5) ur_LO_X5 (by decide +kernel)
theorem ce_X5_hostOf : ur_PE ur_GN gn_X5_hostOf := ur_ckR_t ur_w0 (L := ur_L_X5) ur_LO_X5 (by decide +kernel)
theorem ce_X5_standsBeside : ur_PE ur_GN gn_X5_standsBeside := ur_ckR_t ur_w0 (L := ur_L_X5) ur_LO_X5 (by decide +kernel)
theorem ce_X5_canWalk : ur_PE ur_GN gn_X5_canWalk := ur_ckR_t ur_w0 (L := ur_L_X5) ur_LO_X5 (by decide +kernel)
theorem ce_X5_tryWalk : ur_PE ur_GN gn_X5_tryWalk := ur_ckR_t ur_w0 (L := ur_L_X5) ur_LO_X5 (by decide +kernel)
theorem ce_X5_isLet : ur_PE ur_GN gn_X5_isLet := ur_ckR_t ur_w0 (L := ur_L_X5) ur_LO_X5 (by decide +kernel)
theorem ce_X5_canShow : ur_PE ur_GN gn_X5_canShow := ur_ckR_t ur_w0 (L := ur_L_X5) ur_LO_X5 (by decide +kernel)
theorem ce_X5_tryShow : ur_PE ur_GN gn_X5_tryShow := ur_ckR_t ur_w0 (L := ur_L_X5) ur_LO_X5 (by decide +kernel)
theorem ce_X5_stayOf : ur_PE ur_GN gn_X5_stayOf := ur_ckR_t ur_w0 (L := ur_L_X5) ur_LO_X5 (by decide +kernel)
theorem ce_X5_canSpeak : ur_PE ur_GN gn_X5_canSpeak := ur_ckR_t ur_w0 (L := ur_L_X5) ur_LO_X5 (by decide +kernel)
theorem ce_X5_trySpeak : ur_PE ur_GN gn_X5_trySpeak := ur_ckR_t ur_w0 (L := ur_L_X5) ur_LO_X5 (by decide +kernel)
theorem ce_X5_flamesFrom : ur_PE ur_GN gn_X5_flamesFrom := ur_ckR_t ur_w0 (L := ur_L_X5) ur_LO_X5 (by decide +kernel)
theorem ce_X5_tryBurn : ur_PE ur_GN gn_X5_tryBurn := ur_ckR_t ur_w0 (L := ur_L_X5) ur_LO_X5 (by decide +kernel)
theorem ce_X5_passMinute : ur_PE ur_GN gn_X5_passMinute := ur_ckR_t ur_w0 (L := ur_L_X5) ur_LO_X5 (by decide +kernel)
theorem ce_X5_comesOut : ur_PE ur_GN gn_X5_comesOut := ur_ckR_t ur_w0 (L := ur_L_X5) ur_LO_X5 (by decide +kernel)
theorem ce_X5_exitOf : ur_PE ur_GN gn_X5_exitOf := ur_ckR_t ur_w0 (L := ur_L_X5) ur_LO_X5 (by decide +kernel)
theorem ce_X5_follow : ur_PE ur_GN gn_X5_follow := ur_ckR_t ur_w0 (L := ur_L_X5) ur_LO_X5 (by decide +kernel)
theorem ce_X6_init : ur_PE ur_GN gn_X6_init := ur_ckR_t ur_w0 (L := ur_L_X6) ur_LO_X6 (by decide +kernel)
theorem ce_X6_copyFrom : ur_PE ur_GN gn_X6_copyFrom := ur_ckR_t ur_w0 (L := ur_L_X6) ur_LO_X6 (by decide +kernel)
theorem ce_X6_readFrom : ur_PE ur_GN gn_X6_readFrom := ur_ckR_t ur_w0 (L := ur_L_X6) ur_LO_X6 (by decide +kernel)
theorem ce_X6_readLine : ur_PE ur_GN gn_X6_readLine := ur_ckR_t ur_w0 (L := ur_L_X6) ur_LO_X6 (by decide +kernel)
theorem ce_X6_readPerson : ur_PE ur_GN gn_X6_readPerson := ur_ckR_t ur_w0 (L := ur_L_X6) ur_LO_X6 (by decide +kernel)
theorem ce_X6_readRoom : ur_PE ur_GN gn_X6_readRoom := ur_ckR_t ur_w0 (L := ur_L_X6) ur_LO_X6 (by decide +kernel)
theorem ce_X7_init : ur_PE ur_GN gn_X7_init := ur_ckR_t ur_w0 (L := ur_L_X7) ur_LO_X7 (by decide +kernel)
theorem ce_X7_put : ur_PE ur_GN gn_X7_put := ur_ckR_t ur_w0 (L := ur_L_X7) ur_LO_X7 (by decide +kernel)
theorem ce_X7_copyFrom : ur_PE ur_GN gn_X7_copyFrom := ur_ckR_t ur_w0 (L := ur_L_X7) ur_LO_X7 (by decide +kernel)
theorem ce_X8_init : ur_PE ur_GN gn_X8_init := ur_ckR_t ur_w0 (L := ur_L_X8) ur_LO_X8 (by decide +kernel)
theorem ce_X8_put : ur_PE ur_GN gn_X8_put := ur_ckR_t ur_w0 (L := ur_L_X8) ur_LO_X8 (by decide +kernel)
theorem ce_X8_begin : ur_PE ur_GN gn_X8_begin := ur_ckR_t ur_w0 (L := ur_L_X8) ur_LO_X8 (by decide +kernel)
theorem ce_X8_advance : ur_PE ur_GN gn_X8_advance := ur_ckR_t ur_w0 (L := ur_L_X8) ur_LO_X8 (by decide +kernel)
theorem ce_X8_takeWord : ur_PE ur_GN gn_X8_takeWord := ur_ckR_t ur_w0 (L := ur_L_X8) ur_LO_X8 (by decide +kernel)
theorem ce_X8_takeDigits : ur_PE ur_GN gn_X8_takeDigits := ur_ckR_t ur_w0 (L := ur_L_X8) ur_LO_X8 (by decide +kernel)
theorem ce_X8_fail : ur_PE ur_GN gn_X8_fail := ur_ckR_t ur_w0 (L := ur_L_X8) ur_LO_X8 (by decide +kernel)
theorem ce_X8_take : ur_PE ur_GN gn_X8_take := ur_ckR_t ur_w0 (L := ur_L_X8) ur_LO_X8 (by decide +kernel)
theorem ce_X8_isNumber : ur_PE ur_GN gn_X8_isNumber := ur_ckR_t ur_w0 (L := ur_L_X8) ur_LO_X8 (by decide +kernel)
theorem ce_X9_init : ur_PE ur_GN gn_X9_init := ur_ckR_t ur_w0 (L := ur_L_X9) ur_LO_X9 (by decide +kernel)
theorem ce_X9_feed : ur_PE ur_GN gn_X9_feed := ur_ckR_t ur_w0 (L := ur_L_X9) ur_LO_X9 (by decide +kernel)
theorem ce_X9_feedBytes : ur_PE ur_GN gn_X9_feedBytes := ur_ckR_t ur_w0 (L := ur_L_X9) ur_LO_X9 (by decide +kernel)
end
section
/-! rows of methods against the tables: printed by wip/whole/gen.py -/
theorem ce_X9_marches : ur_PE ur_GN gn_X9_marches := ur_ckR_t ur_w0 (L := ur_L_X9) ur_LO_X9 (by decide +kernel)
theorem ce_X9_beginAnew : ur_PE ur_GN gn_X9_beginAnew := ur_ckR_t ur_w0 (L := ur_L_X9) ur_LO_X9 (by decide +kernel)
theorem ce_X9_evening : ur_PE ur_GN gn_X9_evening := ur_ckR_t ur_w0 (L := ur_L_X9) ur_LO_X9 (by decide +kernel)
theorem ce_X9_room : ur_PE ur_GN gn_X9_room := ur_ckR_t ur_w0 (L := ur_L_X9) ur_LO_X9 (by decide +kernel)
theorem ce_X9_person : ur_PE ur_GN gn_X9_person := ur_ckR_t ur_w0 (L := ur_L_X9) ur_LO_X9 (by decide +kernel)
theorem ce_X9_walk : ur_PE ur_GN gn_X9_walk := ur_ckR_t ur_w0 (L := ur_L_X9) ur_LO_X9 (by decide +kernel)
theorem ce_X9_show : ur_PE ur_GN gn_X9_show := ur_ckR_t ur_w0 (L := ur_L_X9) ur_LO_X9 (by decide +kernel)
theorem ce_X9_speak : ur_PE ur_GN gn_X9_speak := ur_ckR_t ur_w0 (L := ur_L_X9) ur_LO_X9 (by decide +kernel)
theorem ce_X9_burn : ur_PE ur_GN gn_X9_burn := ur_ckR_t ur_w0 (L := ur_L_X9) ur_LO_X9 (by decide +kernel)
theorem ce_X9_minute : ur_PE ur_GN gn_X9_minute := ur_ckR_t ur_w0 (L := ur_L_X9) ur_LO_X9 (by decide +kernel)
theorem ce_X9_remember : ur_PE ur_GN gn_X9_remember := ur_ckR_t ur_w0 (L := ur_L_X9) ur_LO_X9 (by decide +kernel)
theorem ce_X9_undo : ur_PE ur_GN gn_X9_undo := ur_ckR_t ur_w0 (L := ur_L_X9) ur_LO_X9 (by decide +kernel)
theorem ce_X9_judged : ur_PE ur_GN gn_X9_judged := ur_ckR_t ur_w0 (L := ur_L_X9) ur_LO_X9 (by decide +kernel)
theorem ce_X9_host : ur_PE ur_GN gn_X9_host := ur_ckR_t ur_w0 (L := ur_L_X9) ur_LO_X9 (by decide +kernel)
theorem ce_X9_frees : ur_PE ur_GN gn_X9_frees := ur_ckR_t ur_w0 (L := ur_L_X9) ur_LO_X9 (by decide +kernel)
theorem ce_X9_minutesTillFree : ur_PE ur_GN gn_X9_minutesTillFree := ur_ckR_t ur_w0 (L := ur_L_X9) ur_LO_X9 (by decide +kernel)
theorem ce_X9_later : ur_PE ur_GN gn_X9_later := ur_ckR_t ur_w0 (L := ur_L_X9) ur_LO_X9 (by decide +kernel)
theorem ce_X9_out : ur_PE ur_GN gn_X9_out := ur_ckR_t ur_w0 (L := ur_L_X9) ur_LO_X9 (by decide +kernel)
theorem ce_X9_calm : ur_PE ur_GN gn_X9_calm := ur_ckR_t ur_w0 (L := ur_L_X9) ur_LO_X9 (by decide +kernel)
theorem ce_X9_may : ur_PE ur_GN gn_X9_may := ur_ckR_t ur_w0 (L := ur_L_X9) ur_LO_X9 (by decide +kernel)
theorem ce_X9_roomsToBeShown : ur_PE ur_GN gn_X9_roomsToBeShown := ur_ckR_t ur_w0 (L := ur_L_X9) ur_LO_X9 (by decide +kernel)
theorem ce_X9_goes : ur_PE ur_GN gn_X9_goes := ur_ckR_t ur_w0 (L := ur_L_X9) ur_LO_X9 (by decide +kernel)
theorem ce_X9_roomsToWalkTo : ur_PE ur_GN gn_X9_roomsToWalkTo := ur_ckR_t ur_w0 (L := ur_L_X9) ur_LO_X9 (by decide +kernel)
theorem ce_X9_stay : ur_PE ur_GN gn_X9_stay := ur_ckR_t ur_w0 (L := ur_L_X9) ur_LO_X9 (by decide +kernel)
theorem ce_X9_openRooms : ur_PE ur_GN gn_X9_openRooms := ur_ckR_t ur_w0 (L := ur_L_X9) ur_LO_X9 (by decide +kernel)
theorem ce_X9_isOpen : ur_PE ur_GN gn_X9_isOpen := ur_ckR_t ur_w0 (L := ur_L_X9) ur_LO_X9 (by decide +kernel)
theorem ce_X9_reach : ur_PE ur_GN gn_X9_reach := ur_ckR_t ur_w0 (L := ur_L_X9) ur_LO_X9 (by decide +kernel)
theorem ce_X9_far : ur_PE ur_GN gn_X9_far := ur_ckR_t ur_w0 (L := ur_L_X9) ur_LO_X9 (by decide +kernel)
theorem ce_X9_halls : ur_PE ur_GN gn_X9_halls := ur_ckR_t ur_w0 (L := ur_L_X9) ur_LO_X9 (by decide +kernel)
theorem ce_X9_hinges : ur_PE ur_GN gn_X9_hinges := ur_ckR_t ur_w0 (L := ur_L_X9) ur_LO_X9 (by decide +kernel)
theorem ce_X9_cuts : ur_PE ur_GN gn_X9_cuts := ur_ckR_t ur_w0 (L := ur_L_X9) ur_LO_X9 (by decide +kernel)
theorem ce_X9_lines : ur_PE ur_GN gn_X9_lines := ur_ckR_t ur_w0 (L := ur_L_X9) ur_LO_X9 (by decide +kernel)
theorem ce_X9_fire : ur_PE ur_GN gn_X9_fire := ur_ckR_t ur_w0 (L := ur_L_X9) ur_LO_X9 (by decide +kernel)
theorem ce_X9_queue : ur_PE ur_GN gn_X9_queue := ur_ckR_t ur_w0 (L := ur_L_X9) ur_LO_X9 (by decide +kernel)
theorem ce_X9_longest : ur_PE ur_GN gn_X9_longest := ur_ckR_t ur_w0 (L := ur_L_X9) ur_LO_X9 (by decide +kernel)
theorem ce_X9_as : ur_PE ur_GN gn_X9_as := ur_ckR_t ur_w0 (L := ur_L_X9) ur_LO_X9 (by decide +kernel)
theorem ce_X9_been : ur_PE ur_GN gn_X9_been := ur_ckR_t ur_w0 (L := ur_L_X9) ur_LO_X9 (by decide +kernel)
theorem ce_X9_alike : ur_PE ur_GN gn_X9_alike := ur_ckR_t ur_w0 (L := ur_L_X9) ur_LO_X9 (by decide +kernel)
theorem ce_X9_mostKeptAlike : ur_PE ur_GN gn_X9_mostKeptAlike := ur_ckR_t ur_w0 (L := ur_L_X9) ur_LO_X9 (by decide +kernel)
theorem ce_X9_roomsKeeping : ur_PE ur_GN gn_X9_roomsKeeping := ur_ckR_t ur_w0 (L := ur_L_X9) ur_LO_X9 (by decide +kernel)
theorem ce_X9_widows : ur_PE ur_GN gn_X9_widows := ur_ckR_t ur_w0 (L := ur_L_X9) ur_LO_X9 (by decide +kernel)
theorem ce_X9_see : ur_PE ur_GN gn_X9_see := ur_ckR_t ur_w0 (L := ur_L_X9) ur_LO_X9 (by decide +kernel)
theorem ce_X9_which : ur_PE ur_GN gn_X9_which := ur_ckR_t ur_w0 (L := ur_L_X9) ur_LO_X9 (by decide +kernel)
theorem ce_X9_ask : ur_PE ur_GN gn_X9_ask := ur_ckR_t ur_w0 (L := ur_L_X9) ur_LO_X9 (by decide +kernel)
theorem ce_X9_chance : ur_PE ur_GN gn_X9_chance := ur_ckR_t ur_w0 (L := ur_L_X9) ur_LO_X9 (by decide +kernel)
theorem ce_X9_rests : ur_PE ur_GN gn_X9_rests := ur_ckR_t ur_w0 (L := ur_L_X9) ur_LO_X9 (by decide +kernel)
theorem ce_X9_isPrize : ur_PE ur_GN gn_X9_isPrize := ur_ckR_t ur_w0 (L := ur_L_X9) ur_LO_X9 (by decide +kernel)
theorem ce_X9_isAtRest : ur_PE ur_GN gn_X9_isAtRest := ur_ckR_t ur_w0 (L := ur_L_X9) ur_LO_X9 (by decide +kernel)
theorem ce_X9_prize : ur_PE ur_GN gn_X9_prize := ur_ckR_t ur_w0 (L := ur_L_X9) ur_LO_X9 (by decide +kernel)
theorem ce_X9_evenings : ur_PE ur_GN gn_X9_evenings := ur_ckR_t ur_w0 (L := ur_L_X9) ur_LO_X9 (by decide +kernel)
theorem ce_X9_followDraws : ur_PE ur_GN gn_X9_followDraws := ur_ckR_t ur_w0 (L := ur_L_X9) ur_LO_X9 (by decide +kernel)
theorem ce_X9_mark : ur_PE ur_GN gn_X9_mark := ur_ckR_t ur_w0 (L := ur_L_X9) ur_LO_X9 (by decide +kernel)
theorem ce_X9_count : ur_PE ur_GN gn_X9_count := ur_ckR_t ur_w0 (L := ur_L_X9) ur_LO_X9 (by decide +kernel)
theorem ce_X9_bit : ur_PE ur_GN gn_X9_bit := ur_ckR_t ur_w0 (L := ur_L_X9) ur_LO_X9 (by decide +kernel)
theorem ce_X9_numberIn : ur_PE ur_GN gn_X9_numberIn := ur_ckR_t ur_w0 (L := ur_L_X9) ur_LO_X9 (by decide +kernel)
theorem ce_X10_init : ur_PE ur_GN gn_X10_init := ur_ckR_t ur_w0 (L := ur_L_X10) ur_LO_X10 (by decide +kernel)
theorem ce_X10_thrown : ur_PE ur_GN gn_X10_thrown := ur_ckR_t ur_w0 (L := ur_L_X10) ur_LO_X10 (by decide +kernel)
theorem ce_X10_within : ur_PE ur_GN gn_X10_within := ur_ckR_t ur_w0 (L := ur_L_X10) ur_LO_X10 (by decide +kernel)
theorem ce_X10_between : ur_PE ur_GN gn_X10_between := ur_ckR_t ur_w0 (L := ur_L_X10) ur_LO_X10 (by decide +kernel)
theorem ce_X10_bits : ur_PE ur_GN gn_X10_bits := ur_ckR_t ur_w0 (L := ur_L_X10) ur_LO_X10 (by decide +kernel)
theorem ce_X10_feed : ur_PE ur_GN gn_X10_feed := ur_ckR_t ur_w0 (L := ur_L_X10) ur_LO_X10 (by decide +kernel)
theorem ce_X10_signAt : ur_PE ur_GN gn_X10_signAt := ur_ckR_t ur_w0 (L := ur_L_X10) ur_LO_X10 (by decide +kernel)
theorem ce_X10_nextToken : ur_PE ur_GN gn_X10_nextToken := ur_ckR_t ur_w0 (L := ur_L_X10) ur_LO_X10 (by decide +kernel)
theorem ce_X10_isWord : ur_PE ur_GN gn_X10_isWord := ur_ckR_t ur_w0 (L := ur_L_X10) ur_LO_X10 (by decide +kernel)
theorem ce_X10_isSign : ur_PE ur_GN gn_X10_isSign := ur_ckR_t ur_w0 (L := ur_L_X10) ur_LO_X10 (by decide +kernel)
theorem ce_X10_fails : ur_PE ur_GN gn_X10_fails := ur_ckR_t ur_w0 (L := ur_L_X10) ur_LO_X10 (by decide +kernel)
theorem ce_X10_puts : ur_PE ur_GN gn_X10_puts := ur_ckR_t ur_w0 (L := ur_L_X10) ur_LO_X10 (by decide +kernel)
theorem ce_X10_fact : ur_PE ur_GN gn_X10_fact := ur_ckR_t ur_w0 (L := ur_L_X10) ur_LO_X10 (by decide +kernel)
theorem ce_X10_reads : ur_PE ur_GN gn_X10_reads := ur_ckR_t ur_w0 (L := ur_L_X10) ur_LO_X10 (by decide +kernel)
theorem ce_X10_opens : ur_PE ur_GN gn_X10_opens := ur_ckR_t ur_w0 (L := ur_L_X10) ur_LO_X10 (by decide +kernel)
theorem ce_X10_sums : ur_PE ur_GN gn_X10_sums := ur_ckR_t ur_w0 (L := ur_L_X10) ur_LO_X10 (by decide +kernel)
theorem ce_X10_tests : ur_PE ur_GN gn_X10_tests := ur_ckR_t ur_w0 (L := ur_L_X10) ur_LO_X10 (by decide +kernel)
end
section
/-! rows of methods against the tables: printed by wip/whole/gen.py -/
theorem ce_X10_worked : ur_PE ur_GN gn_X10_worked := ur_ckR_t ur_w0 (L := ur_L_X10) ur_LO_X10 (by decide +kernel)
theorem ce_X10_isKept : ur_PE ur_GN gn_X10_isKept := ur_ckR_t ur_w0 (L := ur_L_X10) ur_LO_X10 (by decide +kernel)
theorem ce_X10_roomNamed : ur_PE ur_GN gn_X10_roomNamed := ur_ckR_t ur_w0 (L := ur_L_X10) ur_LO_X10 (by decide +kernel)
theorem ce_X10_personNamed : ur_PE ur_GN gn_X10_personNamed := ur_ckR_t ur_w0 (L := ur_L_X10) ur_LO_X10 (by decide +kernel)
theorem ce_X10_needsBoth : ur_PE ur_GN gn_X10_needsBoth := ur_ckR_t ur_w0 (L := ur_L_X10) ur_LO_X10 (by decide +kernel)
theorem ce_X10_closes : ur_PE ur_GN gn_X10_closes := ur_ckR_t ur_w0 (L := ur_L_X10) ur_LO_X10 (by decide +kernel)
theorem ce_X10_needsNew : ur_PE ur_GN gn_X10_needsNew := ur_ckR_t ur_w0 (L := ur_L_X10) ur_LO_X10 (by decide +kernel)
theorem ce_X10_needsRoom : ur_PE ur_GN gn_X10_needsRoom := ur_ckR_t ur_w0 (L := ur_L_X10) ur_LO_X10 (by decide +kernel)
theorem ce_X10_readsRoom : ur_PE ur_GN gn_X10_readsRoom := ur_ckR_t ur_w0 (L := ur_L_X10) ur_LO_X10 (by decide +kernel)
theorem ce_X10_readsDoor : ur_PE ur_GN gn_X10_readsDoor := ur_ckR_t ur_w0 (L := ur_L_X10) ur_LO_X10 (by decide +kernel)
theorem ce_X10_readsPerson : ur_PE ur_GN gn_X10_readsPerson := ur_ckR_t ur_w0 (L := ur_L_X10) ur_LO_X10 (by decide +kernel)
theorem ce_X10_readsStays : ur_PE ur_GN gn_X10_readsStays := ur_ckR_t ur_w0 (L := ur_L_X10) ur_LO_X10 (by decide +kernel)
theorem ce_X10_begins : ur_PE ur_GN gn_X10_begins := ur_ckR_t ur_w0 (L := ur_L_X10) ur_LO_X10 (by decide +kernel)
theorem ce_X10_readsAll : ur_PE ur_GN gn_X10_readsAll := ur_ckR_t ur_w0 (L := ur_L_X10) ur_LO_X10 (by decide +kernel)
theorem ce_X10_shifts : ur_PE ur_GN gn_X10_shifts := ur_ckR_t ur_w0 (L := ur_L_X10) ur_LO_X10 (by decide +kernel)
theorem ce_X10_shiftsNames : ur_PE ur_GN gn_X10_shiftsNames := ur_ckR_t ur_w0 (L := ur_L_X10) ur_LO_X10 (by decide +kernel)
theorem ce_X10_lays : ur_PE ur_GN gn_X10_lays := ur_ckR_t ur_w0 (L := ur_L_X10) ur_LO_X10 (by decide +kernel)
theorem ce_X10_copies : ur_PE ur_GN gn_X10_copies := ur_ckR_t ur_w0 (L := ur_L_X10) ur_LO_X10 (by decide +kernel)
theorem ce_X10_readsLine : ur_PE ur_GN gn_X10_readsLine := ur_ckR_t ur_w0 (L := ur_L_X10) ur_LO_X10 (by decide +kernel)
theorem ce_X10_laysLines : ur_PE ur_GN gn_X10_laysLines := ur_ckR_t ur_w0 (L := ur_L_X10) ur_LO_X10 (by decide +kernel)
theorem ce_X10_laysSeen : ur_PE ur_GN gn_X10_laysSeen := ur_ckR_t ur_w0 (L := ur_L_X10) ur_LO_X10 (by decide +kernel)
theorem ce_X10_fresh0 : ur_PE ur_GN gn_X10_fresh0 := ur_ckR_t ur_w0 (L := ur_L_X10) ur_LO_X10 (by decide +kernel)
theorem ce_X10_marches : ur_PE ur_GN gn_X10_marches := ur_ckR_t ur_w0 (L := ur_L_X10) ur_LO_X10 (by decide +kernel)
theorem ce_X10_evening : ur_PE ur_GN gn_X10_evening := ur_ckR_t ur_w0 (L := ur_L_X10) ur_LO_X10 (by decide +kernel)
theorem ce_X10_isRoom : ur_PE ur_GN gn_X10_isRoom := ur_ckR_t ur_w0 (L := ur_L_X10) ur_LO_X10 (by decide +kernel)
theorem ce_X10_isPerson : ur_PE ur_GN gn_X10_isPerson := ur_ckR_t ur_w0 (L := ur_L_X10) ur_LO_X10 (by decide +kernel)
theorem ce_X10_isUnsaid : ur_PE ur_GN gn_X10_isUnsaid := ur_ckR_t ur_w0 (L := ur_L_X10) ur_LO_X10 (by decide +kernel)
theorem ce_X10_unsaids : ur_PE ur_GN gn_X10_unsaids := ur_ckR_t ur_w0 (L := ur_L_X10) ur_LO_X10 (by decide +kernel)
theorem ce_X10_open : ur_PE ur_GN gn_X10_open := ur_ckR_t ur_w0 (L := ur_L_X10) ur_LO_X10 (by decide +kernel)
theorem ce_X10_isOpen : ur_PE ur_GN gn_X10_isOpen := ur_ckR_t ur_w0 (L := ur_L_X10) ur_LO_X10 (by decide +kernel)
theorem ce_X10_isInside : ur_PE ur_GN gn_X10_isInside := ur_ckR_t ur_w0 (L := ur_L_X10) ur_LO_X10 (by decide +kernel)
theorem ce_X10_hostOf : ur_PE ur_GN gn_X10_hostOf := ur_ckR_t ur_w0 (L := ur_L_X10) ur_LO_X10 (by decide +kernel)
theorem ce_X10_insiders : ur_PE ur_GN gn_X10_insiders := ur_ckR_t ur_w0 (L := ur_L_X10) ur_LO_X10 (by decide +kernel)
theorem ce_X10_whoIn : ur_PE ur_GN gn_X10_whoIn := ur_ckR_t ur_w0 (L := ur_L_X10) ur_LO_X10 (by decide +kernel)
theorem ce_X10_stayOf : ur_PE ur_GN gn_X10_stayOf := ur_ckR_t ur_w0 (L := ur_L_X10) ur_LO_X10 (by decide +kernel)
theorem ce_X10_isFit : ur_PE ur_GN gn_X10_isFit := ur_ckR_t ur_w0 (L := ur_L_X10) ur_LO_X10 (by decide +kernel)
theorem ce_X10_canShow : ur_PE ur_GN gn_X10_canShow := ur_ckR_t ur_w0 (L := ur_L_X10) ur_LO_X10 (by decide +kernel)
theorem ce_X10_shows : ur_PE ur_GN gn_X10_shows := ur_ckR_t ur_w0 (L := ur_L_X10) ur_LO_X10 (by decide +kernel)
theorem ce_X10_goesOf : ur_PE ur_GN gn_X10_goesOf := ur_ckR_t ur_w0 (L := ur_L_X10) ur_LO_X10 (by decide +kernel)
theorem ce_X10_canSpeak : ur_PE ur_GN gn_X10_canSpeak := ur_ckR_t ur_w0 (L := ur_L_X10) ur_LO_X10 (by decide +kernel)
theorem ce_X10_speaks : ur_PE ur_GN gn_X10_speaks := ur_ckR_t ur_w0 (L := ur_L_X10) ur_LO_X10 (by decide +kernel)
theorem ce_X10_burntBy : ur_PE ur_GN gn_X10_burntBy := ur_ckR_t ur_w0 (L := ur_L_X10) ur_LO_X10 (by decide +kernel)
theorem ce_X10_spreads : ur_PE ur_GN gn_X10_spreads := ur_ckR_t ur_w0 (L := ur_L_X10) ur_LO_X10 (by decide +kernel)
theorem ce_X10_canBurn : ur_PE ur_GN gn_X10_canBurn := ur_ckR_t ur_w0 (L := ur_L_X10) ur_LO_X10 (by decide +kernel)
theorem ce_X10_firstOf : ur_PE ur_GN gn_X10_firstOf := ur_ckR_t ur_w0 (L := ur_L_X10) ur_LO_X10 (by decide +kernel)
theorem ce_X10_passes : ur_PE ur_GN gn_X10_passes := ur_ckR_t ur_w0 (L := ur_L_X10) ur_LO_X10 (by decide +kernel)
theorem ce_X10_room : ur_PE ur_GN gn_X10_room := ur_ckR_t ur_w0 (L := ur_L_X10) ur_LO_X10 (by decide +kernel)
theorem ce_X10_person : ur_PE ur_GN gn_X10_person := ur_ckR_t ur_w0 (L := ur_L_X10) ur_LO_X10 (by decide +kernel)
theorem ce_X10_keeps : ur_PE ur_GN gn_X10_keeps := ur_ckR_t ur_w0 (L := ur_L_X10) ur_LO_X10 (by decide +kernel)
theorem ce_X10_walk : ur_PE ur_GN gn_X10_walk := ur_ckR_t ur_w0 (L := ur_L_X10) ur_LO_X10 (by decide +kernel)
theorem ce_X10_show : ur_PE ur_GN gn_X10_show := ur_ckR_t ur_w0 (L := ur_L_X10) ur_LO_X10 (by decide +kernel)
theorem ce_X10_speak : ur_PE ur_GN gn_X10_speak := ur_ckR_t ur_w0 (L := ur_L_X10) ur_LO_X10 (by decide +kernel)
theorem ce_X10_burn : ur_PE ur_GN gn_X10_burn := ur_ckR_t ur_w0 (L := ur_L_X10) ur_LO_X10 (by decide +kernel)
theorem ce_X10_minute : ur_PE ur_GN gn_X10_minute := ur_ckR_t ur_w0 (L := ur_L_X10) ur_LO_X10 (by decide +kernel)
theorem ce_X10_undo : ur_PE ur_GN gn_X10_undo := ur_ckR_t ur_w0 (L := ur_L_X10) ur_LO_X10 (by decide +kernel)
theorem ce_X10_allBeen : ur_PE ur_GN gn_X10_allBeen := ur_ckR_t ur_w0 (L := ur_L_X10) ur_LO_X10 (by decide +kernel)
theorem ce_X10_isDone : ur_PE ur_GN gn_X10_isDone := ur_ckR_t ur_w0 (L := ur_L_X10) ur_LO_X10 (by decide +kernel)
theorem ce_X10_judged : ur_PE ur_GN gn_X10_judged := ur_ckR_t ur_w0 (L := ur_L_X10) ur_LO_X10 (by decide +kernel)
theorem ce_X10_host : ur_PE ur_GN gn_X10_host := ur_ckR_t ur_w0 (L := ur_L_X10) ur_LO_X10 (by decide +kernel)
theorem ce_X10_freesOf : ur_PE ur_GN gn_X10_freesOf := ur_ckR_t ur_w0 (L := ur_L_X10) ur_LO_X10 (by decide +kernel)
theorem ce_X10_frees : ur_PE ur_GN gn_X10_frees := ur_ckR_t ur_w0 (L := ur_L_X10) ur_LO_X10 (by decide +kernel)
theorem ce_X10_later : ur_PE ur_GN gn_X10_later := ur_ckR_t ur_w0 (L := ur_L_X10) ur_LO_X10 (by decide +kernel)
end
section
/-! rows of methods against the tables: printed by wip/whole/gen.py -/
theorem ce_X10_out : ur_PE ur_GN gn_X10_out := ur_ckR_t ur_w0 (L := ur_L_X10) ur_LO_X10 (by decide +kernel)
theorem ce_X10_calm : ur_PE ur_GN gn_X10_calm := ur_ckR_t ur_w0 (L := ur_L_X10) ur_LO_X10 (by decide +kernel)
theorem ce_X10_mayOf : ur_PE ur_GN gn_X10_mayOf := ur_ckR_t ur_w0 (L := ur_L_X10) ur_LO_X10 (by decide +kernel)
theorem ce_X10_may : ur_PE ur_GN gn_X10_may := ur_ckR_t ur_w0 (L := ur_L_X10) ur_LO_X10 (by decide +kernel)
theorem ce_X10_goes : ur_PE ur_GN gn_X10_goes := ur_ckR_t ur_w0 (L := ur_L_X10) ur_LO_X10 (by decide +kernel)
theorem ce_X10_stay : ur_PE ur_GN gn_X10_stay := ur_ckR_t ur_w0 (L := ur_L_X10) ur_LO_X10 (by decide +kernel)
theorem ce_X10_widows : ur_PE ur_GN gn_X10_widows := ur_ckR_t ur_w0 (L := ur_L_X10) ur_LO_X10 (by decide +kernel)
theorem ce_X10_reach : ur_PE ur_GN gn_X10_reach := ur_ckR_t ur_w0 (L := ur_L_X10) ur_LO_X10 (by decide +kernel)
theorem ce_X10_far : ur_PE ur_GN gn_X10_far := ur_ckR_t ur_w0 (L := ur_L_X10) ur_LO_X10 (by decide +kernel)
theorem ce_X10_pieces : ur_PE ur_GN gn_X10_pieces := ur_ckR_t ur_w0 (L := ur_L_X10) ur_LO_X10 (by decide +kernel)
theorem ce_X10_halls : ur_PE ur_GN gn_X10_halls := ur_ckR_t ur_w0 (L := ur_L_X10) ur_LO_X10 (by decide +kernel)
theorem ce_X10_hinges : ur_PE ur_GN gn_X10_hinges := ur_ckR_t ur_w0 (L := ur_L_X10) ur_LO_X10 (by decide +kernel)
theorem ce_X10_unsaidBy : ur_PE ur_GN gn_X10_unsaidBy := ur_ckR_t ur_w0 (L := ur_L_X10) ur_LO_X10 (by decide +kernel)
theorem ce_X10_lines : ur_PE ur_GN gn_X10_lines := ur_ckR_t ur_w0 (L := ur_L_X10) ur_LO_X10 (by decide +kernel)
theorem ce_X10_fire : ur_PE ur_GN gn_X10_fire := ur_ckR_t ur_w0 (L := ur_L_X10) ur_LO_X10 (by decide +kernel)
theorem ce_X10_queues : ur_PE ur_GN gn_X10_queues := ur_ckR_t ur_w0 (L := ur_L_X10) ur_LO_X10 (by decide +kernel)
theorem ce_X10_queue : ur_PE ur_GN gn_X10_queue := ur_ckR_t ur_w0 (L := ur_L_X10) ur_LO_X10 (by decide +kernel)
theorem ce_X10_longest : ur_PE ur_GN gn_X10_longest := ur_ckR_t ur_w0 (L := ur_L_X10) ur_LO_X10 (by decide +kernel)
theorem ce_X10_as : ur_PE ur_GN gn_X10_as := ur_ckR_t ur_w0 (L := ur_L_X10) ur_LO_X10 (by decide +kernel)
theorem ce_X10_been : ur_PE ur_GN gn_X10_been := ur_ckR_t ur_w0 (L := ur_L_X10) ur_LO_X10 (by decide +kernel)
theorem ce_X10_alike : ur_PE ur_GN gn_X10_alike := ur_ckR_t ur_w0 (L := ur_L_X10) ur_LO_X10 (by decide +kernel)
theorem ce_X10_laysStays : ur_PE ur_GN gn_X10_laysStays := ur_ckR_t ur_w0 (L := ur_L_X10) ur_LO_X10 (by decide +kernel)
theorem ce_X10_see : ur_PE ur_GN gn_X10_see := ur_ckR_t ur_w0 (L := ur_L_X10) ur_LO_X10 (by decide +kernel)
theorem ce_X10_isAsSeen : ur_PE ur_GN gn_X10_isAsSeen := ur_ckR_t ur_w0 (L := ur_L_X10) ur_LO_X10 (by decide +kernel)
theorem ce_X10_which : ur_PE ur_GN gn_X10_which := ur_ckR_t ur_w0 (L := ur_L_X10) ur_LO_X10 (by decide +kernel)
theorem ce_X10_ask : ur_PE ur_GN gn_X10_ask := ur_ckR_t ur_w0 (L := ur_L_X10) ur_LO_X10 (by decide +kernel)
theorem ce_X10_chance : ur_PE ur_GN gn_X10_chance := ur_ckR_t ur_w0 (L := ur_L_X10) ur_LO_X10 (by decide +kernel)
theorem ce_X10_getsBy : ur_PE ur_GN gn_X10_getsBy := ur_ckR_t ur_w0 (L := ur_L_X10) ur_LO_X10 (by decide +kernel)
theorem ce_X10_rests : ur_PE ur_GN gn_X10_rests := ur_ckR_t ur_w0 (L := ur_L_X10) ur_LO_X10 (by decide +kernel)
theorem ce_X10_draws : ur_PE ur_GN gn_X10_draws := ur_ckR_t ur_w0 (L := ur_L_X10) ur_LO_X10 (by decide +kernel)
theorem ce_X10_livesMinute : ur_PE ur_GN gn_X10_livesMinute := ur_ckR_t ur_w0 (L := ur_L_X10) ur_LO_X10 (by decide +kernel)
theorem ce_X10_evenings : ur_PE ur_GN gn_X10_evenings := ur_ckR_t ur_w0 (L := ur_L_X10) ur_LO_X10 (by decide +kernel)
theorem ce_X10_mark : ur_PE ur_GN gn_X10_mark := ur_ckR_t ur_w0 (L := ur_L_X10) ur_LO_X10 (by decide +kernel)
theorem ce_X10_count : ur_PE ur_GN gn_X10_count := ur_ckR_t ur_w0 (L := ur_L_X10) ur_LO_X10 (by decide +kernel)
theorem ce_J6_lowestOneBit_0f7a4 : ur_PE ur_GN gn_J6_lowestOneBit_0f7a4 := ur_ckR_t ur_w0 (L := ur_L_J6) ur_LO_J6 (by decide +kernel)
theorem ce_J6_numberOfTrailingZeros_0f7a4 : ur_PE ur_GN gn_J6_numberOfTrailingZeros_0f7a4 := ur_ckR_t ur_w0 (L := ur_L_J6) ur_LO_J6 (by decide +kernel)
theorem ce_J6_bitCount_0f7a4 : ur_PE ur_GN gn_J6_bitCount_0f7a4 := ur_ckR_t ur_w0 (L := ur_L_J6) ur_LO_J6 (by decide +kernel)
theorem ce_J0_length_8abf5 : ur_PE ur_GN gn_J0_length_8abf5 := ur_ckR_t ur_w0 (L := ur_L_J0) ur_LO_J0 (by decide +kernel)
theorem ce_J0_charAt_5068e : ur_PE ur_GN gn_J0_charAt_5068e := ur_ckR_t ur_w0 (L := ur_L_J0) ur_LO_J0 (by decide +kernel)
theorem ce_J0_indexOf_0f7a4 : ur_PE ur_GN gn_J0_indexOf_0f7a4 := ur_ckR_t ur_w0 (L := ur_L_J0) ur_LO_J0 (by decide +kernel)
theorem ce_J0_indexOf_7cf53 : ur_PE ur_GN gn_J0_indexOf_7cf53 := ur_ckR_t ur_w0 (L := ur_L_J0) ur_LO_J0 (by decide +kernel)
theorem ce_J0_coder_7d493 : ur_PE ur_GN gn_J0_coder_7d493 := ur_ckR_t ur_w0 (L := ur_L_J0) ur_LO_J0 (by decide +kernel)
theorem ce_J0_isLatin1_aae02 : ur_PE ur_GN gn_J0_isLatin1_aae02 := ur_ckR_t ur_w0 (L := ur_L_J0) ur_LO_J0 (by decide +kernel)
theorem ce_J0_checkIndex_df160 : ur_PE ur_GN gn_J0_checkIndex_df160 := ur_ckR_t ur_w0 (L := ur_L_J0) ur_LO_J0 (by decide +kernel)
theorem ce_J1_charAt_3b067 : ur_PE ur_GN gn_J1_charAt_3b067 := ur_ckR_t ur_w0 (L := ur_L_J1) ur_LO_J1 (by decide +kernel)
theorem ce_J1_canEncode_9a6ad : ur_PE ur_GN gn_J1_canEncode_9a6ad := ur_ckR_t ur_w0 (L := ur_L_J1) ur_LO_J1 (by decide +kernel)
theorem ce_J1_indexOf_4cfef : ur_PE ur_GN gn_J1_indexOf_4cfef := ur_ckR_t ur_w0 (L := ur_L_J1) ur_LO_J1 (by decide +kernel)
theorem ce_J1_indexOfChar_4cfef : ur_PE ur_GN gn_J1_indexOfChar_4cfef := ur_ckR_t ur_w0 (L := ur_L_J1) ur_LO_J1 (by decide +kernel)
theorem ce_J7_fill_53178 : ur_PE ur_GN gn_J7_fill_53178 := ur_ckR_t ur_w0 (L := ([] : List ur_L4)) (fun z h => absurd h List.not_mem_nil) (by decide +kernel)
theorem ce_J3_checkIndex_8e157 : ur_PE ur_GN gn_J3_checkIndex_8e157 := ur_ckR_t ur_w0 (L := ([] : List ur_L4)) (fun z h => absurd h List.not_mem_nil) (by decide +kernel)
theorem ur_allE : ∀ k, ur_PE ur_GN (ur_GN k) := by
  intro k
  unfold ur_GN
  exact ur_cd (P := ur_PE ur_GN) (ur_cd (P := ur_PE ur_GN) (ur_cd (P := ur_PE ur_GN) (ur_cd (P := ur_PE ur_GN) (ur_cd (P := ur_PE ur_GN) (ur_cd (P := ur_PE ur_GN) (ur_cd (P := ur_PE ur_GN) (ur_cd (P := ur_PE ur_GN) (ur_cd (P := ur_PE ur_GN) ce_X0_init ce_X0_below) (ur_cd (P := ur_PE ur_GN) ce_X1_init ce_X1_hasRoom)) (ur_cd (P := ur_PE ur_GN) (ur_cd (P := ur_PE ur_GN) ce_X1_hasPerson ce_X1_isUnsaid) (ur_cd (P := ur_PE ur_GN) ce_X1_saidRooms ce_X1_roomsBeside))) (ur_cd (P := ur_PE ur_GN) (ur_cd (P := ur_PE ur_GN) (ur_cd (P := ur_PE ur_GN) ce_X1_spread ce_X1_roomNamed) (ur_cd (P := ur_PE ur_GN) ce_X1_personNamed ce_X1_clear)) (ur_cd (P := ur_PE ur_GN) (ur_cd (P := ur_PE ur_GN) ce_X1_readFrom ce_X1_readRoom) (ur_cd (P := ur_PE ur_GN) ce_X1_takeNewName ce_X1_isRoomName)))) (ur_cd (P := ur_PE ur_GN) (ur_cd (P := ur_PE ur_GN) (ur_cd (P := ur_PE ur_GN) (ur_cd (P := ur_PE ur_GN) ce_X1_readDoor ce_X1_canJoin) (ur_cd (P := ur_PE ur_GN) ce_X1_readPerson ce_X1_addPerson)) (ur_cd (P := ur_PE ur_GN) (ur_cd (P := ur_PE ur_GN) ce_X1_readStays ce_X2_init) (ur_cd (P := ur_PE ur_GN) ce_X2_readLevel ce_X2_levelOf))) (ur_cd (P := ur_PE ur_GN) (ur_cd (P := ur_PE ur_GN) (ur_cd (P := ur_PE ur_GN) ce_X2_readPart ce_X2_readInner) (ur_cd (P := ur_PE ur_GN) ce_X2_put ce_X2_valueOf)) (ur_cd (P := ur_PE ur_GN) (ur_cd (P := ur_PE ur_GN) ce_X2_follow ce_X2_joined) (ur_cd (P := ur_PE ur_GN) ce_X2_push (ur_cd (P := ur_PE ur_GN) ce_X2_pop ce_X3_init)))))) (ur_cd (P := ur_PE ur_GN) (ur_cd (P := ur_PE ur_GN) (ur_cd (P := ur_PE ur_GN) (ur_cd (P := ur_PE ur_GN) (ur_cd (P := ur_PE ur_GN) ce_X3_settle ce_X3_tryRows) (ur_cd (P := ur_PE ur_GN) ce_X3_keepIfBetter ce_X4_init)) (ur_cd (P := ur_PE ur_GN) (ur_cd (P := ur_PE ur_GN) ce_X4_lay ce_X4_giveBack) (ur_cd (P := ur_PE ur_GN) ce_X5_init ce_X5_begin))) (ur_cd (P := ur_PE ur_GN) (ur_cd (P := ur_PE ur_GN) (ur_cd (P := ur_PE ur_GN) ce_X5_copyFrom ce_X5_isInside) (ur_cd (P := ur_PE ur_GN) ce_X5_allInside ce_X5_allBeen)) (ur_cd (P := ur_PE ur_GN) (ur_cd (P := ur_PE ur_GN) ce_X5_personsIn ce_X5_hostOf) (ur_cd (P := ur_PE ur_GN) ce_X5_standsBeside ce_X5_canWalk)))) (ur_cd (P := ur_PE ur_GN) (ur_cd (P := ur_PE ur_GN) (ur_cd (P := ur_PE ur_GN) (ur_cd (P := ur_PE ur_GN) ce_X5_tryWalk ce_X5_isLet) (ur_cd (P := ur_PE ur_GN) ce_X5_canShow ce_X5_tryShow)) (ur_cd (P := ur_PE ur_GN) (ur_cd (P := ur_PE ur_GN) ce_X5_stayOf ce_X5_canSpeak) (ur_cd (P := ur_PE ur_GN) ce_X5_trySpeak ce_X5_flamesFrom))) (ur_cd (P := ur_PE ur_GN) (ur_cd (P := ur_PE ur_GN) (ur_cd (P := ur_PE ur_GN) ce_X5_tryBurn ce_X5_passMinute) (ur_cd (P := ur_PE ur_GN) ce_X5_comesOut ce_X5_exitOf)) (ur_cd (P := ur_PE ur_GN) (ur_cd (P := ur_PE ur_GN) ce_X5_follow ce_X6_init) (ur_cd (P := ur_PE ur_GN) ce_X6_copyFrom (ur_cd (P := ur_PE ur_GN) ce_X6_readFrom ce_X6_readLine))))))) (ur_cd (P := ur_PE ur_GN) (ur_cd (P := ur_PE ur_GN) (ur_cd (P := ur_PE ur_GN) (ur_cd (P := ur_PE ur_GN) (ur_cd (P := ur_PE ur_GN) (ur_cd (P := ur_PE ur_GN) ce_X6_readPerson ce_X6_readRoom) (ur_cd (P := ur_PE ur_GN) ce_X7_init ce_X7_put)) (ur_cd (P := ur_PE ur_GN) (ur_cd (P := ur_PE ur_GN) ce_X7_copyFrom ce_X8_init) (ur_cd (P := ur_PE ur_GN) ce_X8_put ce_X8_begin))) (ur_cd (P := ur_PE ur_GN) (ur_cd (P := ur_PE ur_GN) (ur_cd (P := ur_PE ur_GN) ce_X8_advance ce_X8_takeWord) (ur_cd (P := ur_PE ur_GN) ce_X8_takeDigits ce_X8_fail)) (ur_cd (P := ur_PE ur_GN) (ur_cd (P := ur_PE ur_GN) ce_X8_take ce_X8_isNumber) (ur_cd (P := ur_PE ur_GN) ce_X9_init ce_X9_feed)))) (ur_cd (P := ur_PE ur_GN) (ur_cd (P := ur_PE ur_GN) (ur_cd (P := ur_PE ur_GN) (ur_cd (P := ur_PE ur_GN) ce_X9_feedBytes ce_X9_marches) (ur_cd (P := ur_PE ur_GN) ce_X9_beginAnew ce_X9_evening)) (ur_cd (P := ur_PE ur_GN) (ur_cd (P := ur_PE ur_GN) ce_X9_room ce_X9_person) (ur_cd (P := ur_PE ur_GN) ce_X9_walk ce_X9_show))) (ur_cd (P := ur_PE ur_GN) (ur_cd (P := ur_PE ur_GN) (ur_cd (P := ur_PE ur_GN) ce_X9_speak ce_X9_burn) (ur_cd (P := ur_PE ur_GN) ce_X9_minute ce_X9_remember)) (ur_cd (P := ur_PE ur_GN) (ur_cd (P := ur_PE ur_GN) ce_X9_undo ce_X9_judged) (ur_cd (P := ur_PE ur_GN) ce_X9_host (ur_cd (P := ur_PE ur_GN) ce_X9_frees ce_X9_minutesTillFree)))))) (ur_cd (P := ur_PE ur_GN) (ur_cd (P := ur_PE ur_GN) (ur_cd (P := ur_PE ur_GN) (ur_cd (P := ur_PE ur_GN) (ur_cd (P := ur_PE ur_GN) ce_X9_later ce_X9_out) (ur_cd (P := ur_PE ur_GN) ce_X9_calm ce_X9_may)) (ur_cd (P := ur_PE ur_GN) (ur_cd (P := ur_PE ur_GN) ce_X9_roomsToBeShown ce_X9_goes) (ur_cd (P := ur_PE ur_GN) ce_X9_roomsToWalkTo ce_X9_stay))) (ur_cd (P := ur_PE ur_GN) (ur_cd (P := ur_PE ur_GN) (ur_cd (P := ur_PE ur_GN) ce_X9_openRooms ce_X9_isOpen) (ur_cd (P := ur_PE ur_GN) ce_X9_reach ce_X9_far)) (ur_cd (P := ur_PE ur_GN) (ur_cd (P := ur_PE ur_GN) ce_X9_halls ce_X9_hinges) (ur_cd (P := ur_PE ur_GN) ce_X9_cuts (ur_cd (P := ur_PE ur_GN) ce_X9_lines ce_X9_fire))))) (ur_cd (P := ur_PE ur_GN) (ur_cd (P := ur_PE ur_GN) (ur_cd (P := ur_PE ur_GN) (ur_cd (P := ur_PE ur_GN) ce_X9_queue ce_X9_longest) (ur_cd (P := ur_PE ur_GN) ce_X9_as ce_X9_been)) (ur_cd (P := ur_PE ur_GN) (ur_cd (P := ur_PE ur_GN) ce_X9_alike ce_X9_mostKeptAlike) (ur_cd (P := ur_PE ur_GN) ce_X9_roomsKeeping ce_X9_widows))) (ur_cd (P := ur_PE ur_GN) (ur_cd (P := ur_PE ur_GN) (ur_cd (P := ur_PE ur_GN) ce_X9_see ce_X9_which) (ur_cd (P := ur_PE ur_GN) ce_X9_ask ce_X9_chance)) (ur_cd (P := ur_PE ur_GN) (ur_cd (P := ur_PE ur_GN) ce_X9_rests ce_X9_isPrize) (ur_cd (P := ur_PE ur_GN) ce_X9_isAtRest (ur_cd (P := ur_PE ur_GN) ce_X9_prize ce_X9_evenings)))))))) (ur_cd (P := ur_PE ur_GN) (ur_cd (P := ur_PE ur_GN) (ur_cd (P := ur_PE ur_GN) (ur_cd (P := ur_PE ur_GN) (ur_cd (P := ur_PE ur_GN) (ur_cd (P := ur_PE ur_GN) (ur_cd (P := ur_PE ur_GN) ce_X9_followDraws ce_X9_mark) (ur_cd (P := ur_PE ur_GN) ce_X9_count ce_X9_bit)) (ur_cd (P := ur_PE ur_GN) (ur_cd (P := ur_PE ur_GN) ce_X9_numberIn ce_X10_init) (ur_cd (P := ur_PE ur_GN) ce_X10_thrown ce_X10_within))) (ur_cd (P := ur_PE ur_GN) (ur_cd (P := ur_PE ur_GN) (ur_cd (P := ur_PE ur_GN) ce_X10_between ce_X10_bits) (ur_cd (P := ur_PE ur_GN) ce_X10_feed ce_X10_signAt)) (ur_cd (P := ur_PE ur_GN) (ur_cd (P := ur_PE ur_GN) ce_X10_nextToken ce_X10_isWord) (ur_cd (P := ur_PE ur_GN) ce_X10_isSign ce_X10_fails)))) (ur_cd (P := ur_PE ur_GN) (ur_cd (P := ur_PE ur_GN) (ur_cd (P := ur_PE ur_GN) (ur_cd (P := ur_PE ur_GN) ce_X10_puts ce_X10_fact) (ur_cd (P := ur_PE ur_GN) ce_X10_reads ce_X10_opens)) (ur_cd (P := ur_PE ur_GN) (ur_cd (P := ur_PE ur_GN) ce_X10_sums ce_X10_tests) (ur_cd (P := ur_PE ur_GN) ce_X10_worked ce_X10_isKept))) (ur_cd (P := ur_PE ur_GN) (ur_cd (P := ur_PE ur_GN) (ur_cd (P := ur_PE ur_GN) ce_X10_roomNamed ce_X10_personNamed) (ur_cd (P := ur_PE ur_GN) ce_X10_needsBoth ce_X10_closes)) (ur_cd (P := ur_PE ur_GN) (ur_cd (P := ur_PE ur_GN) ce_X10_needsNew ce_X10_needsRoom) (ur_cd (P := ur_PE ur_GN) ce_X10_readsRoom (ur_cd (P := ur_PE ur_GN) ce_X10_readsDoor ce_X10_readsPerson)))))) (ur_cd (P := ur_PE ur_GN) (ur_cd (P := ur_PE ur_GN) (ur_cd (P := ur_PE ur_GN) (ur_cd (P := ur_PE ur_GN) (ur_cd (P := ur_PE ur_GN) ce_X10_readsStays ce_X10_begins) (ur_cd (P := ur_PE ur_GN) ce_X10_readsAll ce_X10_shifts)) (ur_cd (P := ur_PE ur_GN) (ur_cd (P := ur_PE ur_GN) ce_X10_shiftsNames ce_X10_lays) (ur_cd (P := ur_PE ur_GN) ce_X10_copies ce_X10_readsLine))) (ur_cd (P := ur_PE ur_GN) (ur_cd (P := ur_PE ur_GN) (ur_cd (P := ur_PE ur_GN) ce_X10_laysLines ce_X10_laysSeen) (ur_cd (P := ur_PE ur_GN) ce_X10_fresh0 ce_X10_marches)) (ur_cd (P := ur_PE ur_GN) (ur_cd (P := ur_PE ur_GN) ce_X10_evening ce_X10_isRoom) (ur_cd (P := ur_PE ur_GN) ce_X10_isPerson (ur_cd (P := ur_PE ur_GN) ce_X10_isUnsaid ce_X10_unsaids))))) (ur_cd (P := ur_PE ur_GN) (ur_cd (P := ur_PE ur_GN) (ur_cd (P := ur_PE ur_GN) (ur_cd (P := ur_PE ur_GN) ce_X10_open ce_X10_isOpen) (ur_cd (P := ur_PE ur_GN) ce_X10_isInside ce_X10_hostOf)) (ur_cd (P := ur_PE ur_GN) (ur_cd (P := ur_PE ur_GN) ce_X10_insiders ce_X10_whoIn) (ur_cd (P := ur_PE ur_GN) ce_X10_stayOf ce_X10_isFit))) (ur_cd (P := ur_PE ur_GN) (ur_cd (P := ur_PE ur_GN) (ur_cd (P := ur_PE ur_GN) ce_X10_canShow ce_X10_shows) (ur_cd (P := ur_PE ur_GN) ce_X10_goesOf ce_X10_canSpeak)) (ur_cd (P := ur_PE ur_GN) (ur_cd (P := ur_PE ur_GN) ce_X10_speaks ce_X10_burntBy) (ur_cd (P := ur_PE ur_GN) ce_X10_spreads (ur_cd (P := ur_PE ur_GN) ce_X10_canBurn ce_X10_firstOf))))))) (ur_cd (P := ur_PE ur_GN) (ur_cd (P := ur_PE ur_GN) (ur_cd (P := ur_PE ur_GN) (ur_cd (P := ur_PE ur_GN) (ur_cd (P := ur_PE ur_GN) (ur_cd (P := ur_PE ur_GN) ce_X10_passes ce_X10_room) (ur_cd (P := ur_PE ur_GN) ce_X10_person ce_X10_keeps)) (ur_cd (P := ur_PE ur_GN) (ur_cd (P := ur_PE ur_GN) ce_X10_walk ce_X10_show) (ur_cd (P := ur_PE ur_GN) ce_X10_speak ce_X10_burn))) (ur_cd (P := ur_PE ur_GN) (ur_cd (P := ur_PE ur_GN) (ur_cd (P := ur_PE ur_GN) ce_X10_minute ce_X10_undo) (ur_cd (P := ur_PE ur_GN) ce_X10_allBeen ce_X10_isDone)) (ur_cd (P := ur_PE ur_GN) (ur_cd (P := ur_PE ur_GN) ce_X10_judged ce_X10_host) (ur_cd (P := ur_PE ur_GN) ce_X10_freesOf ce_X10_frees)))) (ur_cd (P := ur_PE ur_GN) (ur_cd (P := ur_PE ur_GN) (ur_cd (P := ur_PE ur_GN) (ur_cd (P := ur_PE ur_GN) ce_X10_later ce_X10_out) (ur_cd (P := ur_PE ur_GN) ce_X10_calm ce_X10_mayOf)) (ur_cd (P := ur_PE ur_GN) (ur_cd (P := ur_PE ur_GN) ce_X10_may ce_X10_goes) (ur_cd (P := ur_PE ur_GN) ce_X10_stay ce_X10_widows))) (ur_cd (P := ur_PE ur_GN) (ur_cd (P := ur_PE ur_GN) (ur_cd (P := ur_PE ur_GN) ce_X10_reach ce_X10_far) (ur_cd (P := ur_PE ur_GN) ce_X10_pieces ce_X10_halls)) (ur_cd (P := ur_PE ur_GN) (ur_cd (P := ur_PE ur_GN) ce_X10_hinges ce_X10_unsaidBy) (ur_cd (P := ur_PE ur_GN) ce_X10_lines (ur_cd (P := ur_PE ur_GN) ce_X10_fire ce_X10_queues)))))) (ur_cd (P := ur_PE ur_GN) (ur_cd (P := ur_PE ur_GN) (ur_cd (P := ur_PE ur_GN) (ur_cd (P := ur_PE ur_GN) (ur_cd (P := ur_PE ur_GN) ce_X10_queue ce_X10_longest) (ur_cd (P := ur_PE ur_GN) ce_X10_as ce_X10_been)) (ur_cd (P := ur_PE ur_GN) (ur_cd (P := ur_PE ur_GN) ce_X10_alike ce_X10_laysStays) (ur_cd (P := ur_PE ur_GN) ce_X10_see ce_X10_isAsSeen))) (ur_cd (P := ur_PE ur_GN) (ur_cd (P := ur_PE ur_GN) (ur_cd (P := ur_PE ur_GN) ce_X10_which ce_X10_ask) (ur_cd (P := ur_PE ur_GN) ce_X10_chance ce_X10_getsBy)) (ur_cd (P := ur_PE ur_GN) (ur_cd (P := ur_PE ur_GN) ce_X10_rests ce_X10_draws) (ur_cd (P := ur_PE ur_GN) ce_X10_livesMinute (ur_cd (P := ur_PE ur_GN) ce_X10_evenings ce_X10_mark))))) (ur_cd (P := ur_PE ur_GN) (ur_cd (P := ur_PE ur_GN) (ur_cd (P := ur_PE ur_GN) (ur_cd (P := ur_PE ur_GN) ce_X10_count ce_J6_lowestOneBit_0f7a4) (ur_cd (P := ur_PE ur_GN) ce_J6_numberOfTrailingZeros_0f7a4 ce_J6_bitCount_0f7a4)) (ur_cd (P := ur_PE ur_GN) (ur_cd (P := ur_PE ur_GN) ce_J0_length_8abf5 ce_J0_charAt_5068e) (ur_cd (P := ur_PE ur_GN) ce_J0_indexOf_0f7a4 ce_J0_indexOf_7cf53))) (ur_cd (P := ur_PE ur_GN) (ur_cd (P := ur_PE ur_GN) (ur_cd (P := ur_PE ur_GN) ce_J0_coder_7d493 ce_J0_isLatin1_aae02) (ur_cd (P := ur_PE ur_GN) ce_J0_checkIndex_df160 ce_J1_charAt_3b067)) (ur_cd (P := ur_PE ur_GN) (ur_cd (P := ur_PE ur_GN) ce_J1_canEncode_9a6ad ce_J1_indexOf_4cfef) (ur_cd (P := ur_PE ur_GN) ce_J1_indexOfChar_4cfef (ur_cd (P := ur_PE ur_GN) ce_J7_fill_53178 ce_J3_checkIndex_8e157))))))))) (fun pc i n x v h => by cases h)
end
section
/-! LOCALS THAT NOBODY READS MAY BE FORGOTTEN -/
def ur_sub (a b : List (Option Value)) : Prop := a.length = b.length ∧ ∀ (i : Nat) (v : Value), a[i]? = some (some v) → b[i]? = some (some v)
def ur_ss (x y : ur_S) : Prop := x.1 = y.1 ∧ ur_sub x.2.1 y.2.1 ∧ x.2.2 = y.2.2
def ur_sA (A B : Option ur_A) : Prop := match A, B with
  | none, _ => True
  | some (.inl (bs, s)), some (.inl (bs', s')) => bs.map (fun q => q.1) = bs'.map (fun q => q.1) ∧ (∀ (i : Nat) (q q' : Bool × ur_S), bs[i]? = some q → bs'[i]? = some q' → ur_ss q.2 q'.2) ∧ ur_ss s s'
  | some (.inr (.inl r)), some (.inr (.inl r')) => r = r'
  | some (.inr (.inr (.inl (y, as, m, f)))), some (.inr (.inr (.inl (y', as', m', f')))) => y = y' ∧ as = as' ∧ m = m' ∧ ∀ v m, ur_ss (f v m) (f' v m)
  | some (.inr (.inr (.inr (.inl (o, f))))), some (.inr (.inr (.inr (.inl (o', f'))))) => o = o' ∧ ∀ v, ur_ss (f v) (f' v)
  | some (.inr (.inr (.inr (.inr (.inl (o, f)))))), some (.inr (.inr (.inr (.inr (.inl (o', f')))))) => o = o' ∧ ∀ v, ur_ss (f v) (f' v)
  | some (.inr (.inr (.inr (.inr (.inr (.inl (o, f))))))), some (.inr (.inr (.inr (.inr (.inr (.inl (o', f'))))))) => o = o' ∧ ∀ v, ur_ss (f v) (f' v)
  | some (.inr (.inr (.inr (.inr (.inr (.inr (o, f))))))), some (.inr (.inr (.inr (.inr (.inr (.inr (o', f'))))))) => o = o' ∧ ∀ v, ur_ss (f v) (f' v)
  | _, _ => False
section URB
variable {a b : List (Option Value)} {pc pc' n x k : Nat} {st st' : List Value} {m m' : ur_M} {i v : Int32}
theorem ur_sub_ld (h : ur_sub a b) {j : Nat} {w : Value} (hw : ur_ld a j = some w) : ur_ld b j = some w := by
  have := h.2 j w (ur_ld_some hw)
  unfold ur_ld
  rw [this]
theorem ur_sub_rf : ur_sub a a := ⟨rfl, fun _ _ h => h⟩
theorem ur_clr_b (h : ur_sub a b) (j : Nat) (i : Nat) (w : Value) (hw : (ur_clr a j)[i]? = some (some w)) : (ur_clr b j)[i]? = some (some w) := by
  obtain ⟨h1, h2⟩ := ur_clr_at hw
  have h3 := h.2 i w h1
  cases j with
  | zero => exact h3
  | succ j =>
    simp only [ur_clr]
    split
    next z hz =>
      cases hc : z.category == 2 with
      | false => exact h3
      | true =>
        simp only [cond_true]
        by_cases hi : i = j
        · subst hi
          rw [h3] at hz
          cases hz
          exact absurd ⟨rfl, by simpa using hc⟩ h2
        · rw [List.getElem?_set_ne (fun q => hi q.symm)]; exact h3
    next => exact h3
theorem ur_sub_st1 (h : ur_sub a b) (j : Nat) (w : Value) : ur_sub (ur_st1 a j w) (ur_st1 b j w) := by
  refine ⟨by simp [ur_st1, ur_clr_len, h.1], fun i z hz => ?_⟩
  unfold ur_st1 at hz ⊢
  by_cases hi : i = j
  · subst hi
    rw [List.getElem?_set] at hz ⊢
    simp only [ur_clr_len, if_true, h.1] at hz ⊢
    exact hz
  · rw [List.getElem?_set_ne (fun q => hi q.symm)] at hz ⊢
    exact ur_clr_b h j i z hz
theorem ur_sub_st2 (h : ur_sub a b) (j : Nat) (w : Value) : ur_sub (ur_st2 a j w) (ur_st2 b j w) := by
  refine ⟨by simp [ur_st2, ur_clr_len, h.1], fun i z hz => ?_⟩
  unfold ur_st2 at hz ⊢
  by_cases hi1 : i = j + 1
  · subst hi1
    rw [List.getElem?_set] at hz
    split at hz
    · split at hz <;> cases hz
    · rename_i hne; exact absurd rfl hne
  rw [List.getElem?_set_ne (fun q => hi1 q.symm)] at hz ⊢
  by_cases hi : i = j
  · subst hi
    rw [List.getElem?_set] at hz ⊢
    simp only [ur_clr_len, if_true, h.1] at hz ⊢
    exact hz
  · rw [List.getElem?_set_ne (fun q => hi q.symm)] at hz ⊢
    exact ur_clr_b h j i z hz
theorem ur_b_nx (h : ur_sub a b) : ur_sA (ur_nx pc a st m) (ur_nx pc b st m) := ⟨rfl, fun _ _ _ h => (by cases h), rfl, h, rfl⟩
theorem ur_b_cd {z : Bool} {A B : Option ur_A} (h : ur_sA A B) : ur_sA (bif z then A else none) (bif z then B else none) := by cases z with
  | true => exact h
  | false => trivial
theorem ur_b_cd2 {z : Bool} {A B A' B' : Option ur_A} (h : ur_sA A B) (h' : ur_sA A' B') : ur_sA (bif z then A else A') (bif z then B else B') := by cases z <;> assumption
theorem ur_b_ldi (h : ur_sub a b) : ur_sA (ur_ldi k n pc a st m) (ur_ldi k n pc b st m) := by
  unfold ur_ldi
  cases hq : ur_ld a k with
  | none => trivial
  | some w =>
    rw [ur_sub_ld h hq]
    cases w <;> first | exact ur_b_nx h | trivial
theorem ur_b_ldl (h : ur_sub a b) : ur_sA (ur_ldl k n pc a st m) (ur_ldl k n pc b st m) := by
  unfold ur_ldl
  cases hq : ur_ld a k with
  | none => trivial
  | some w =>
    rw [ur_sub_ld h hq]
    cases w <;> first | exact ur_b_nx h | trivial
theorem ur_b_lda (h : ur_sub a b) : ur_sA (ur_lda k n pc a st m) (ur_lda k n pc b st m) := by
  unfold ur_lda
  cases hq : ur_ld a k with
  | none => trivial
  | some w =>
    rw [ur_sub_ld h hq]
    cases w <;> first | exact ur_b_nx h | trivial
theorem ur_b_iinc (h : ur_sub a b) : ur_sA (match ur_ld a k with
    | some (.int w) => bif Nat.blt k a.length then ur_nx (pc + n) (ur_st1 a k (.int (w + v))) st m else none
    | _ => none) (match ur_ld b k with
    | some (.int w) => bif Nat.blt k b.length then ur_nx (pc + n) (ur_st1 b k (.int (w + v))) st m else none
    | _ => none) := by
  rw [← h.1]
  cases hq : ur_ld a k with
  | none => trivial
  | some w =>
    rw [ur_sub_ld h hq]
    cases w <;> first | exact ur_b_cd (ur_b_nx (ur_sub_st1 h _ _)) | trivial
theorem ur_b_sti (h : ur_sub a b) : ur_sA (ur_sti k n pc a st m) (ur_sti k n pc b st m) := by
  unfold ur_sti
  rw [← h.1]
  split
  · exact ur_b_cd (ur_b_nx (ur_sub_st1 h _ _))
  · trivial
theorem ur_b_sta (h : ur_sub a b) : ur_sA (ur_sta k n pc a st m) (ur_sta k n pc b st m) := by
  unfold ur_sta
  rw [← h.1]
  split
  · exact ur_b_cd (ur_b_nx (ur_sub_st1 h _ _))
  · trivial
theorem ur_b_stl (h : ur_sub a b) : ur_sA (ur_stl k n pc a st m) (ur_stl k n pc b st m) := by
  unfold ur_stl
  rw [← h.1]
  split
  · exact ur_b_cd (ur_b_nx (ur_sub_st2 h _ _))
  · trivial
theorem ur_b_br (h : ur_sub a b) {c : Bool} : ur_sA (ur_br c (x, a, st, m) (pc, a, st, m)) (ur_br c (x, b, st, m) (pc, b, st, m)) := by
  refine ⟨rfl, fun i q q' h1 h2 => ?_, rfl, h, rfl⟩
  match i, h1, h2 with
  | 0, h1, h2 => cases h1; cases h2; exact ⟨rfl, h, rfl⟩
theorem ur_b_sw (h : ur_sub a b) {sw : List (Int32 × Nat)} {d : Nat} {w : Int32} : ur_sA (some (.inl (sw.map (fun q => (decide (w = q.1), (q.2, a, st, m))), (d, a, st, m)))) (some (.inl (sw.map (fun q => (decide (w = q.1), (q.2, b, st, m))), (d, b, st, m)))) := by
  refine ⟨by simp, fun i q q' h1 h2 => ?_, rfl, h, rfl⟩
  rw [List.getElem?_map] at h1 h2
  cases hz : sw[i]? with
  | none => rw [hz] at h1; cases h1
  | some z =>
    rw [hz] at h1 h2
    cases h1; cases h2
    exact ⟨rfl, h, rfl⟩
theorem ur_b_inv (h : ur_sub a b) : ur_sA (ur_inv x pc a st m) (ur_inv x pc b st m) := by
  unfold ur_inv
  refine ur_b_cd2 (ur_b_cd ⟨rfl, rfl, rfl, fun _ _ => ⟨rfl, h, rfl⟩⟩) ?_
  unfold ur_lib
  refine ur_b_cd2 ?_ (ur_b_cd2 ?_ (ur_b_cd2 ?_ (ur_b_cd2 ?_ trivial)))
  · unfold ur_lib0
    split
    · exact ur_b_cd ⟨rfl, fun _ => ⟨rfl, h, rfl⟩⟩
    · trivial
  · unfold ur_lib1
    split
    · exact ur_b_cd (ur_b_nx h)
    · trivial
  · unfold ur_lib2
    split
    · exact ur_b_cd (ur_b_nx h)
    · trivial
  · unfold ur_lib2
    split
    · exact ur_b_cd (ur_b_nx h)
    · trivial
theorem ur_b_putf (h : ur_sub a b) : ur_sA (ur_putf x pc a st m) (ur_putf x pc b st m) := by
  unfold ur_putf
  split <;> split <;> first | trivial | exact ⟨rfl, fun _ => ⟨rfl, h, rfl⟩⟩
theorem ur_b_getf (h : ur_sub a b) : ur_sA (ur_getf x pc a st m) (ur_getf x pc b st m) := by
  unfold ur_getf
  split
  · split <;> exact ⟨rfl, fun _ => ⟨rfl, h, rfl⟩⟩
  · trivial
set_option maxHeartbeats 4000000 in
theorem ur_one_b (h : ur_sub a b) (z : Nat) (sw : List (Int32 × Nat) × Nat) (i : Instr) (n x : Nat) (v : Int32) (pc : Nat) (st : List Value) (m : ur_M) : ur_sA (ur_one z sw i n x v pc a st m) (ur_one z sw i n x v pc b st m) := by
  cases i <;> simp only [ur_one] <;> first | trivial | exact ur_b_nx h | exact ur_b_inv h | exact ur_b_ldi h | exact ur_b_ldl h | exact ur_b_lda h | exact ur_b_sti h | exact ur_b_stl h | exact ur_b_sta h | exact ur_b_iinc h | exact ur_b_getf h | exact ur_b_putf h | exact ur_b_cd2 (ur_b_nx h) (ur_b_nx h) | exact ⟨rfl, fun _ => ⟨rfl, h, rfl⟩⟩ | ((try simp only [ur_bi, ur_bl, ur_i1, ur_if1, ur_if2, ur_ald, ur_ast]); split <;> first | trivial | exact ur_b_nx h | exact ur_b_br h | exact ⟨rfl, fun _ => ⟨rfl, h, rfl⟩⟩ | exact ur_b_sw h | rfl)
end URB
theorem ur_do_b {self : ur_S → Option ur_V} {call : Nat → List Value → ur_M → Option ur_V} {self' : ur_S → Option ur_V} {A B : Option ur_A} {r : ur_V} (hs : ∀ s s' r, ur_ss s s' → self s = some r → self' s' = some r) (h : ur_sA A B) (hA : ur_do self call A = some r) : ur_do self' call B = some r := by
  match A, B, h, hA with
  | some (.inl (bs, s)), some (.inl (bs', s')), h, hA =>
    obtain ⟨h1, h2, h3⟩ := h
    revert hA; revert h2; revert h1
    show bs.map _ = bs'.map _ → _ → bs.foldr (fun q r => bif q.1 then self q.2 else r) (self s) = some r → bs'.foldr (fun q r => bif q.1 then self' q.2 else r) (self' s') = some r
    induction bs generalizing bs' with
    | nil =>
      intro h1 h2 hA
      cases bs' with
      | nil => exact hs _ _ _ h3 hA
      | cons _ _ => cases h1
    | cons q bs ih =>
      intro h1 h2 hA
      cases bs' with
      | nil => cases h1
      | cons q' bs' =>
        simp only [List.map_cons, List.cons.injEq] at h1
        simp only [List.foldr_cons] at hA ⊢
        rw [← h1.1]
        cases hq : q.1 with
        | true =>
          rw [hq] at hA
          exact hs _ _ _ (h2 0 q q' rfl rfl) hA
        | false =>
          rw [hq] at hA
          exact ih bs' h1.2 (fun i z z' a1 a2 => h2 (i + 1) z z' a1 a2) hA
  | some (.inr (.inl x)), some (.inr (.inl x')), h, hA =>
    have h : x = x' := h
    subst h
    exact hA
  | some (.inr (.inr (.inl (y, as, m, f)))), some (.inr (.inr (.inl (y', as', m', f')))), h, hA =>
    obtain ⟨rfl, rfl, rfl, h4⟩ := h
    obtain ⟨v, g1, g2⟩ := Option.bind_eq_some_iff.mp hA
    exact Option.bind_eq_some_iff.mpr ⟨v, g1, hs _ _ _ (h4 _ _) g2⟩
  | some (.inr (.inr (.inr (.inl (o, f))))), some (.inr (.inr (.inr (.inl (o', f'))))), h, hA =>
    obtain ⟨rfl, h4⟩ := h
    obtain ⟨v, g1, g2⟩ := Option.bind_eq_some_iff.mp hA
    exact Option.bind_eq_some_iff.mpr ⟨v, g1, hs _ _ _ (h4 _) g2⟩
  | some (.inr (.inr (.inr (.inr (.inl (o, f)))))), some (.inr (.inr (.inr (.inr (.inl (o', f')))))), h, hA =>
    obtain ⟨rfl, h4⟩ := h
    obtain ⟨v, g1, g2⟩ := Option.bind_eq_some_iff.mp hA
    exact Option.bind_eq_some_iff.mpr ⟨v, g1, hs _ _ _ (h4 _) g2⟩
  | some (.inr (.inr (.inr (.inr (.inr (.inl (o, f))))))), some (.inr (.inr (.inr (.inr (.inr (.inl (o', f'))))))), h, hA =>
    obtain ⟨rfl, h4⟩ := h
    obtain ⟨v, g1, g2⟩ := Option.bind_eq_some_iff.mp hA
    exact Option.bind_eq_some_iff.mpr ⟨v, g1, hs _ _ _ (h4 _) g2⟩
  | some (.inr (.inr (.inr (.inr (.inr (.inr (o, f))))))), some (.inr (.inr (.inr (.inr (.inr (.inr (o', f'))))))), h, hA =>
    obtain ⟨rfl, h4⟩ := h
    obtain ⟨v, g1, g2⟩ := Option.bind_eq_some_iff.mp hA
    exact Option.bind_eq_some_iff.mpr ⟨v, g1, hs _ _ _ (h4 _) g2⟩
theorem ur_ex_b (G : Nat → ur_P) : ∀ (n d k : Nat) (s s' : ur_S) (r : ur_V), ur_ss s s' → ur_ex G n d k s = some r → ur_ex G n d k s' = some r
  | 0, _, _, _, _, _, _, h => by simp [ur_ex] at h
  | n + 1, d, k, s, s', r, hss, h => by
    rw [ur_ex_s] at h ⊢
    obtain ⟨e1, e2, e3⟩ := hss
    refine ur_do_b (fun s s' r => ur_ex_b G n d k s s' r) ?_ h
    unfold ur_stp
    rw [← e1, ← e3]
    split
    · exact ur_one_b e2 _ _ _ _ _ _ _ _ _
    · trivial
/-- what is shown with fewer locals holds with more -/
theorem ur_at_b {G : Nat → ur_P} {d k pc : Nat} {a b : List (Option Value)} {st : List Value} {m : ur_M} {r : ur_V} (h : ur_sub a b) (hr : ur_at G d k (pc, a, st, m) = some r) : ur_at G d k (pc, b, st, m) = some r := by
  obtain ⟨n, hn⟩ := ur_at_iff.mp hr
  exact ur_at_iff.mpr ⟨n, ur_ex_b G n d k (pc, a, st, m) (pc, b, st, m) r ⟨rfl, h, rfl⟩ hn⟩
/-- some locals forgotten: those whose place is false -/
def ur_fg : List Bool → List (Option Value) → List (Option Value)
  | _, [] => []
  | [], l => l
  | true :: q, o :: l => o :: ur_fg q l
  | false :: q, _ :: l => none :: ur_fg q l
theorem ur_fg_sub : ∀ (q : List Bool) (l : List (Option Value)), ur_sub (ur_fg q l) l
  | [], [] => ur_sub_rf
  | [], _ :: _ => ur_sub_rf
  | _ :: _, [] => ur_sub_rf
  | true :: q, o :: l => by
    obtain ⟨h1, h2⟩ := ur_fg_sub q l
    refine ⟨by simp [ur_fg, h1], fun i v h => ?_⟩
    match i, h with
    | 0, h => exact h
    | i + 1, h => exact h2 i v h
  | false :: q, o :: l => by
    obtain ⟨h1, h2⟩ := ur_fg_sub q l
    refine ⟨by simp [ur_fg, h1], fun i v h => ?_⟩
    match i, h with
    | 0, h => cases h
    | i + 1, h => exact h2 i v h
/-- steps on and on, up to places where one stops, there forgetting the locals that nobody reads -/
noncomputable def ur_bf (G : Nat → ur_P) (stop : Nat → Option (List Bool)) (d k : Nat) : Nat → ur_S → Option ur_V
  | 0, s => ur_at G d k s
  | N + 1, s => match stop s.1 with
    | some q => ur_at G d k (s.1, ur_fg q s.2.1, s.2.2)
    | none => ur_do (ur_bf G stop d k N) (ur_call G d) (ur_stp (G k) s)
theorem ur_bf_at (G : Nat → ur_P) (stop : Nat → Option (List Bool)) (d k : Nat) : ∀ (N : Nat) (s : ur_S) (r : ur_V), ur_bf G stop d k N s = some r → ur_at G d k s = some r
  | 0, _, _, h => h
  | N + 1, s, r, h => by
    simp only [ur_bf] at h
    split at h
    next q _ => exact ur_at_b (ur_fg_sub q s.2.1) h
    next =>
      rw [ur_at_eq]
      exact ur_do_mono (fun s r => ur_bf_at G stop d k N s r) (fun _ _ _ _ h => h) _ r h
theorem ur_gof {G : Nat → ur_P} {stop : Nat → Option (List Bool)} {N d k : Nat} {s : ur_S} {r : ur_V} (h : ur_do (ur_bf G stop d k N) (ur_call G d) (ur_stp (G k) s) = some r) : ur_at G d k s = some r := by
  rw [ur_at_eq]
  exact ur_do_mono (fun s r => ur_bf_at G stop d k N s r) (fun _ _ _ _ h => h) _ r h
end
