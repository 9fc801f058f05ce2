section
-- ===== PART A: goes FIRST, ahead of the names: the tables' words, and 'selects' of the private methods out of them =====
/-- a private method of a class that the tables say can be made, by its rows of tables_1 -/
def lw_okq (q : MethodName × Nat) : Prop := (q.1.cls ≠ "java/lang/invoke/MethodHandle" ∧ q.1.cls ≠ "java/lang/invoke/VarHandle") ∧ Cond.instantiable q.1.cls q.2 ∈ tables_1 ∧ Cond.privateMethod q.1 ∈ tables_1 ∧ Cond.instanceMethod q.1 ∈ tables_1
theorem lw_p0 : lw_okq (⟨"UnsaidRoom", "feedBytes", "(J)V"⟩, 15) := ⟨⟨by decide +kernel, by decide +kernel⟩, List.mem_of_getElem? (i := 26) (by decide +kernel), List.mem_of_getElem? (i := 364) (by decide +kernel), List.mem_of_getElem? (i := 365) (by decide +kernel)⟩
theorem lw_p1 : lw_okq (⟨"UnsaidRoom$Land", "clear", "()V"⟩, 13) := ⟨⟨by decide +kernel, by decide +kernel⟩, List.mem_of_getElem? (i := 77) (by decide +kernel), List.mem_of_getElem? (i := 380) (by decide +kernel), List.mem_of_getElem? (i := 381) (by decide +kernel)⟩
theorem lw_p2 : lw_okq (⟨"UnsaidRoom$Tape", "takeWord", "()V"⟩, 8) := ⟨⟨by decide +kernel, by decide +kernel⟩, List.mem_of_getElem? (i := 34) (by decide +kernel), List.mem_of_getElem? (i := 395) (by decide +kernel), List.mem_of_getElem? (i := 396) (by decide +kernel)⟩
theorem lw_p3 : lw_okq (⟨"UnsaidRoom$Tape", "takeDigits", "()V"⟩, 8) := ⟨⟨by decide +kernel, by decide +kernel⟩, List.mem_of_getElem? (i := 34) (by decide +kernel), List.mem_of_getElem? (i := 453) (by decide +kernel), List.mem_of_getElem? (i := 454) (by decide +kernel)⟩
theorem lw_p4 : lw_okq (⟨"UnsaidRoom$Land", "readRoom", "(LUnsaidRoom$Tape;Z)Z"⟩, 13) := ⟨⟨by decide +kernel, by decide +kernel⟩, List.mem_of_getElem? (i := 77) (by decide +kernel), List.mem_of_getElem? (i := 517) (by decide +kernel), List.mem_of_getElem? (i := 518) (by decide +kernel)⟩
theorem lw_p5 : lw_okq (⟨"UnsaidRoom$Land", "takeNewName", "(LUnsaidRoom$Tape;)Z"⟩, 13) := ⟨⟨by decide +kernel, by decide +kernel⟩, List.mem_of_getElem? (i := 77) (by decide +kernel), List.mem_of_getElem? (i := 526) (by decide +kernel), List.mem_of_getElem? (i := 527) (by decide +kernel)⟩
theorem lw_p6 : lw_okq (⟨"UnsaidRoom$Land", "readDoor", "(LUnsaidRoom$Tape;)Z"⟩, 13) := ⟨⟨by decide +kernel, by decide +kernel⟩, List.mem_of_getElem? (i := 77) (by decide +kernel), List.mem_of_getElem? (i := 547) (by decide +kernel), List.mem_of_getElem? (i := 548) (by decide +kernel)⟩
theorem lw_p7 : lw_okq (⟨"UnsaidRoom$Land", "canJoin", "(II)Z"⟩, 13) := ⟨⟨by decide +kernel, by decide +kernel⟩, List.mem_of_getElem? (i := 77) (by decide +kernel), List.mem_of_getElem? (i := 555) (by decide +kernel), List.mem_of_getElem? (i := 556) (by decide +kernel)⟩
theorem lw_p8 : lw_okq (⟨"UnsaidRoom$Land", "readPerson", "(LUnsaidRoom$Tape;)Z"⟩, 13) := ⟨⟨by decide +kernel, by decide +kernel⟩, List.mem_of_getElem? (i := 77) (by decide +kernel), List.mem_of_getElem? (i := 570) (by decide +kernel), List.mem_of_getElem? (i := 571) (by decide +kernel)⟩
theorem lw_p9 : lw_okq (⟨"UnsaidRoom$Land", "addPerson", "(JIII)V"⟩, 13) := ⟨⟨by decide +kernel, by decide +kernel⟩, List.mem_of_getElem? (i := 77) (by decide +kernel), List.mem_of_getElem? (i := 574) (by decide +kernel), List.mem_of_getElem? (i := 575) (by decide +kernel)⟩
theorem lw_p10 : lw_okq (⟨"UnsaidRoom$Land", "readStays", "(LUnsaidRoom$Tape;)Z"⟩, 13) := ⟨⟨by decide +kernel, by decide +kernel⟩, List.mem_of_getElem? (i := 77) (by decide +kernel), List.mem_of_getElem? (i := 578) (by decide +kernel), List.mem_of_getElem? (i := 579) (by decide +kernel)⟩
theorem lw_p11 : lw_okq (⟨"UnsaidRoom$Law", "readPart", "(LUnsaidRoom$Tape;I)Z"⟩, 4) := ⟨⟨by decide +kernel, by decide +kernel⟩, List.mem_of_getElem? (i := 83) (by decide +kernel), List.mem_of_getElem? (i := 586) (by decide +kernel), List.mem_of_getElem? (i := 587) (by decide +kernel)⟩
theorem lw_p12 : lw_okq (⟨"UnsaidRoom$Law", "readInner", "(LUnsaidRoom$Tape;I)Z"⟩, 4) := ⟨⟨by decide +kernel, by decide +kernel⟩, List.mem_of_getElem? (i := 83) (by decide +kernel), List.mem_of_getElem? (i := 594) (by decide +kernel), List.mem_of_getElem? (i := 595) (by decide +kernel)⟩
theorem lw_p13 : lw_okq (⟨"UnsaidRoom$Law", "put", "(I)V"⟩, 4) := ⟨⟨by decide +kernel, by decide +kernel⟩, List.mem_of_getElem? (i := 83) (by decide +kernel), List.mem_of_getElem? (i := 599) (by decide +kernel), List.mem_of_getElem? (i := 600) (by decide +kernel)⟩
theorem lw_p14 : lw_okq (⟨"UnsaidRoom", "beginAnew", "()V"⟩, 15) := ⟨⟨by decide +kernel, by decide +kernel⟩, List.mem_of_getElem? (i := 26) (by decide +kernel), List.mem_of_getElem? (i := 606) (by decide +kernel), List.mem_of_getElem? (i := 607) (by decide +kernel)⟩
theorem lw_p15 : lw_okq (⟨"UnsaidRoom$Script", "readLine", "(LUnsaidRoom$Tape;LUnsaidRoom$Land;)Z"⟩, 4) := ⟨⟨by decide +kernel, by decide +kernel⟩, List.mem_of_getElem? (i := 161) (by decide +kernel), List.mem_of_getElem? (i := 628) (by decide +kernel), List.mem_of_getElem? (i := 629) (by decide +kernel)⟩
def lw_privs_1 : List (MethodName × Nat) := [(⟨"UnsaidRoom", "feedBytes", "(J)V"⟩, 15), (⟨"UnsaidRoom$Land", "clear", "()V"⟩, 13), (⟨"UnsaidRoom$Tape", "takeWord", "()V"⟩, 8), (⟨"UnsaidRoom$Tape", "takeDigits", "()V"⟩, 8), (⟨"UnsaidRoom$Land", "readRoom", "(LUnsaidRoom$Tape;Z)Z"⟩, 13), (⟨"UnsaidRoom$Land", "takeNewName", "(LUnsaidRoom$Tape;)Z"⟩, 13), (⟨"UnsaidRoom$Land", "readDoor", "(LUnsaidRoom$Tape;)Z"⟩, 13), (⟨"UnsaidRoom$Land", "canJoin", "(II)Z"⟩, 13), (⟨"UnsaidRoom$Land", "readPerson", "(LUnsaidRoom$Tape;)Z"⟩, 13), (⟨"UnsaidRoom$Land", "addPerson", "(JIII)V"⟩, 13), (⟨"UnsaidRoom$Land", "readStays", "(LUnsaidRoom$Tape;)Z"⟩, 13), (⟨"UnsaidRoom$Law", "readPart", "(LUnsaidRoom$Tape;I)Z"⟩, 4), (⟨"UnsaidRoom$Law", "readInner", "(LUnsaidRoom$Tape;I)Z"⟩, 4), (⟨"UnsaidRoom$Law", "put", "(I)V"⟩, 4), (⟨"UnsaidRoom", "beginAnew", "()V"⟩, 15), (⟨"UnsaidRoom$Script", "readLine", "(LUnsaidRoom$Tape;LUnsaidRoom$Land;)Z"⟩, 4)]
theorem lw_r1 : ∀ q ∈ lw_privs_1, lw_okq q := List.forall_mem_cons.mpr ⟨lw_p0, List.forall_mem_cons.mpr ⟨lw_p1, List.forall_mem_cons.mpr ⟨lw_p2, List.forall_mem_cons.mpr ⟨lw_p3, List.forall_mem_cons.mpr ⟨lw_p4, List.forall_mem_cons.mpr ⟨lw_p5, List.forall_mem_cons.mpr ⟨lw_p6, List.forall_mem_cons.mpr ⟨lw_p7, List.forall_mem_cons.mpr ⟨lw_p8, List.forall_mem_cons.mpr ⟨lw_p9, List.forall_mem_cons.mpr ⟨lw_p10, List.forall_mem_cons.mpr ⟨lw_p11, List.forall_mem_cons.mpr ⟨lw_p12, List.forall_mem_cons.mpr ⟨lw_p13, List.forall_mem_cons.mpr ⟨lw_p14, List.forall_mem_cons.mpr ⟨lw_p15, fun _ h => absurd h List.not_mem_nil⟩⟩⟩⟩⟩⟩⟩⟩⟩⟩⟩⟩⟩⟩⟩⟩
theorem lw_p16 : lw_okq (⟨"UnsaidRoom$Script", "readPerson", "(LUnsaidRoom$Tape;LUnsaidRoom$Land;)Z"⟩, 4) := ⟨⟨by decide +kernel, by decide +kernel⟩, List.mem_of_getElem? (i := 161) (by decide +kernel), List.mem_of_getElem? (i := 634) (by decide +kernel), List.mem_of_getElem? (i := 635) (by decide +kernel)⟩
theorem lw_p17 : lw_okq (⟨"UnsaidRoom$Script", "readRoom", "(LUnsaidRoom$Tape;LUnsaidRoom$Land;)Z"⟩, 4) := ⟨⟨by decide +kernel, by decide +kernel⟩, List.mem_of_getElem? (i := 161) (by decide +kernel), List.mem_of_getElem? (i := 639) (by decide +kernel), List.mem_of_getElem? (i := 640) (by decide +kernel)⟩
theorem lw_p18 : lw_okq (⟨"UnsaidRoom$Night", "standsBeside", "(LUnsaidRoom$Land;II)Z"⟩, 9) := ⟨⟨by decide +kernel, by decide +kernel⟩, List.mem_of_getElem? (i := 184) (by decide +kernel), List.mem_of_getElem? (i := 672) (by decide +kernel), List.mem_of_getElem? (i := 673) (by decide +kernel)⟩
theorem lw_p19 : lw_okq (⟨"UnsaidRoom", "remember", "()V"⟩, 15) := ⟨⟨by decide +kernel, by decide +kernel⟩, List.mem_of_getElem? (i := 26) (by decide +kernel), List.mem_of_getElem? (i := 684) (by decide +kernel), List.mem_of_getElem? (i := 685) (by decide +kernel)⟩
theorem lw_p20 : lw_okq (⟨"UnsaidRoom$Law", "push", "(I)V"⟩, 4) := ⟨⟨by decide +kernel, by decide +kernel⟩, List.mem_of_getElem? (i := 83) (by decide +kernel), List.mem_of_getElem? (i := 732) (by decide +kernel), List.mem_of_getElem? (i := 733) (by decide +kernel)⟩
theorem lw_p21 : lw_okq (⟨"UnsaidRoom$Law", "pop", "()I"⟩, 4) := ⟨⟨by decide +kernel, by decide +kernel⟩, List.mem_of_getElem? (i := 83) (by decide +kernel), List.mem_of_getElem? (i := 736) (by decide +kernel), List.mem_of_getElem? (i := 737) (by decide +kernel)⟩
theorem lw_p22 : lw_okq (⟨"UnsaidRoom$Law", "follow", "(I)V"⟩, 4) := ⟨⟨by decide +kernel, by decide +kernel⟩, List.mem_of_getElem? (i := 83) (by decide +kernel), List.mem_of_getElem? (i := 740) (by decide +kernel), List.mem_of_getElem? (i := 741) (by decide +kernel)⟩
theorem lw_p23 : lw_okq (⟨"UnsaidRoom$Night", "comesOut", "(LUnsaidRoom$Land;I)Z"⟩, 9) := ⟨⟨by decide +kernel, by decide +kernel⟩, List.mem_of_getElem? (i := 184) (by decide +kernel), List.mem_of_getElem? (i := 801) (by decide +kernel), List.mem_of_getElem? (i := 802) (by decide +kernel)⟩
theorem lw_p24 : lw_okq (⟨"UnsaidRoom$Night", "exitOf", "(LUnsaidRoom$Land;I)I"⟩, 9) := ⟨⟨by decide +kernel, by decide +kernel⟩, List.mem_of_getElem? (i := 184) (by decide +kernel), List.mem_of_getElem? (i := 805) (by decide +kernel), List.mem_of_getElem? (i := 806) (by decide +kernel)⟩
theorem lw_p25 : lw_okq (⟨"UnsaidRoom", "minutesTillFree", "(I)I"⟩, 15) := ⟨⟨by decide +kernel, by decide +kernel⟩, List.mem_of_getElem? (i := 26) (by decide +kernel), List.mem_of_getElem? (i := 840) (by decide +kernel), List.mem_of_getElem? (i := 841) (by decide +kernel)⟩
theorem lw_p26 : lw_okq (⟨"UnsaidRoom", "roomsToBeShown", "(I)I"⟩, 15) := ⟨⟨by decide +kernel, by decide +kernel⟩, List.mem_of_getElem? (i := 26) (by decide +kernel), List.mem_of_getElem? (i := 865) (by decide +kernel), List.mem_of_getElem? (i := 866) (by decide +kernel)⟩
theorem lw_p27 : lw_okq (⟨"UnsaidRoom", "roomsToWalkTo", "(I)I"⟩, 15) := ⟨⟨by decide +kernel, by decide +kernel⟩, List.mem_of_getElem? (i := 26) (by decide +kernel), List.mem_of_getElem? (i := 873) (by decide +kernel), List.mem_of_getElem? (i := 874) (by decide +kernel)⟩
theorem lw_p28 : lw_okq (⟨"UnsaidRoom", "isOpen", "(I)Z"⟩, 15) := ⟨⟨by decide +kernel, by decide +kernel⟩, List.mem_of_getElem? (i := 26) (by decide +kernel), List.mem_of_getElem? (i := 886) (by decide +kernel), List.mem_of_getElem? (i := 887) (by decide +kernel)⟩
theorem lw_p29 : lw_okq (⟨"UnsaidRoom", "openRooms", "()I"⟩, 15) := ⟨⟨by decide +kernel, by decide +kernel⟩, List.mem_of_getElem? (i := 26) (by decide +kernel), List.mem_of_getElem? (i := 890) (by decide +kernel), List.mem_of_getElem? (i := 891) (by decide +kernel)⟩
theorem lw_p30 : lw_okq (⟨"UnsaidRoom", "cuts", "(II)Z"⟩, 15) := ⟨⟨by decide +kernel, by decide +kernel⟩, List.mem_of_getElem? (i := 26) (by decide +kernel), List.mem_of_getElem? (i := 909) (by decide +kernel), List.mem_of_getElem? (i := 910) (by decide +kernel)⟩
theorem lw_p31 : lw_okq (⟨"UnsaidRoom$Line", "tryRows", "(IIII)V"⟩, 5) := ⟨⟨by decide +kernel, by decide +kernel⟩, List.mem_of_getElem? (i := 253) (by decide +kernel), List.mem_of_getElem? (i := 940) (by decide +kernel), List.mem_of_getElem? (i := 941) (by decide +kernel)⟩
def lw_privs_2 : List (MethodName × Nat) := [(⟨"UnsaidRoom$Script", "readPerson", "(LUnsaidRoom$Tape;LUnsaidRoom$Land;)Z"⟩, 4), (⟨"UnsaidRoom$Script", "readRoom", "(LUnsaidRoom$Tape;LUnsaidRoom$Land;)Z"⟩, 4), (⟨"UnsaidRoom$Night", "standsBeside", "(LUnsaidRoom$Land;II)Z"⟩, 9), (⟨"UnsaidRoom", "remember", "()V"⟩, 15), (⟨"UnsaidRoom$Law", "push", "(I)V"⟩, 4), (⟨"UnsaidRoom$Law", "pop", "()I"⟩, 4), (⟨"UnsaidRoom$Law", "follow", "(I)V"⟩, 4), (⟨"UnsaidRoom$Night", "comesOut", "(LUnsaidRoom$Land;I)Z"⟩, 9), (⟨"UnsaidRoom$Night", "exitOf", "(LUnsaidRoom$Land;I)I"⟩, 9), (⟨"UnsaidRoom", "minutesTillFree", "(I)I"⟩, 15), (⟨"UnsaidRoom", "roomsToBeShown", "(I)I"⟩, 15), (⟨"UnsaidRoom", "roomsToWalkTo", "(I)I"⟩, 15), (⟨"UnsaidRoom", "isOpen", "(I)Z"⟩, 15), (⟨"UnsaidRoom", "openRooms", "()I"⟩, 15), (⟨"UnsaidRoom", "cuts", "(II)Z"⟩, 15), (⟨"UnsaidRoom$Line", "tryRows", "(IIII)V"⟩, 5)]
theorem lw_r2 : ∀ q ∈ lw_privs_2, lw_okq q := List.forall_mem_cons.mpr ⟨lw_p16, List.forall_mem_cons.mpr ⟨lw_p17, List.forall_mem_cons.mpr ⟨lw_p18, List.forall_mem_cons.mpr ⟨lw_p19, List.forall_mem_cons.mpr ⟨lw_p20, List.forall_mem_cons.mpr ⟨lw_p21, List.forall_mem_cons.mpr ⟨lw_p22, List.forall_mem_cons.mpr ⟨lw_p23, List.forall_mem_cons.mpr ⟨lw_p24, List.forall_mem_cons.mpr ⟨lw_p25, List.forall_mem_cons.mpr ⟨lw_p26, List.forall_mem_cons.mpr ⟨lw_p27, List.forall_mem_cons.mpr ⟨lw_p28, List.forall_mem_cons.mpr ⟨lw_p29, List.forall_mem_cons.mpr ⟨lw_p30, List.forall_mem_cons.mpr ⟨lw_p31, fun _ h => absurd h List.not_mem_nil⟩⟩⟩⟩⟩⟩⟩⟩⟩⟩⟩⟩⟩⟩⟩⟩
theorem lw_p32 : lw_okq (⟨"UnsaidRoom$Line", "keepIfBetter", "(I)V"⟩, 5) := ⟨⟨by decide +kernel, by decide +kernel⟩, List.mem_of_getElem? (i := 253) (by decide +kernel), List.mem_of_getElem? (i := 944) (by decide +kernel), List.mem_of_getElem? (i := 945) (by decide +kernel)⟩
theorem lw_p33 : lw_okq (⟨"UnsaidRoom", "mostKeptAlike", "(II)I"⟩, 15) := ⟨⟨by decide +kernel, by decide +kernel⟩, List.mem_of_getElem? (i := 26) (by decide +kernel), List.mem_of_getElem? (i := 966) (by decide +kernel), List.mem_of_getElem? (i := 967) (by decide +kernel)⟩
theorem lw_p34 : lw_okq (⟨"UnsaidRoom", "roomsKeeping", "(II)I"⟩, 15) := ⟨⟨by decide +kernel, by decide +kernel⟩, List.mem_of_getElem? (i := 26) (by decide +kernel), List.mem_of_getElem? (i := 988) (by decide +kernel), List.mem_of_getElem? (i := 989) (by decide +kernel)⟩
theorem lw_p35 : lw_okq (⟨"UnsaidRoom", "followDraws", "()V"⟩, 15) := ⟨⟨by decide +kernel, by decide +kernel⟩, List.mem_of_getElem? (i := 26) (by decide +kernel), List.mem_of_getElem? (i := 1006) (by decide +kernel), List.mem_of_getElem? (i := 1007) (by decide +kernel)⟩
theorem lw_p36 : lw_okq (⟨"java/lang/Throwable", "fillInStackTrace", "(I)Ljava/lang/Throwable;"⟩, 6) := ⟨⟨by decide +kernel, by decide +kernel⟩, List.mem_of_getElem? (i := 1092) (by decide +kernel), List.mem_of_getElem? (i := 1090) (by decide +kernel), List.mem_of_getElem? (i := 1091) (by decide +kernel)⟩
theorem lw_p37 : lw_okq (⟨"UnsaidRoomModel", "fresh0", "()V"⟩, 57) := ⟨⟨by decide +kernel, by decide +kernel⟩, List.mem_of_getElem? (i := 1123) (by decide +kernel), List.mem_of_getElem? (i := 1129) (by decide +kernel), List.mem_of_getElem? (i := 1130) (by decide +kernel)⟩
theorem lw_p38 : lw_okq (⟨"UnsaidRoomModel", "readsAll", "()Z"⟩, 57) := ⟨⟨by decide +kernel, by decide +kernel⟩, List.mem_of_getElem? (i := 1123) (by decide +kernel), List.mem_of_getElem? (i := 1319) (by decide +kernel), List.mem_of_getElem? (i := 1320) (by decide +kernel)⟩
theorem lw_p39 : lw_okq (⟨"UnsaidRoomModel", "begins", "()V"⟩, 57) := ⟨⟨by decide +kernel, by decide +kernel⟩, List.mem_of_getElem? (i := 1123) (by decide +kernel), List.mem_of_getElem? (i := 1323) (by decide +kernel), List.mem_of_getElem? (i := 1324) (by decide +kernel)⟩
theorem lw_p40 : lw_okq (⟨"UnsaidRoomModel", "nextToken", "()V"⟩, 57) := ⟨⟨by decide +kernel, by decide +kernel⟩, List.mem_of_getElem? (i := 1123) (by decide +kernel), List.mem_of_getElem? (i := 1327) (by decide +kernel), List.mem_of_getElem? (i := 1328) (by decide +kernel)⟩
theorem lw_p41 : lw_okq (⟨"UnsaidRoomModel", "signAt", "(I)I"⟩, 57) := ⟨⟨by decide +kernel, by decide +kernel⟩, List.mem_of_getElem? (i := 1123) (by decide +kernel), List.mem_of_getElem? (i := 1331) (by decide +kernel), List.mem_of_getElem? (i := 1332) (by decide +kernel)⟩
theorem lw_p42 : lw_okq (⟨"UnsaidRoomModel", "isWord", "(J)Z"⟩, 57) := ⟨⟨by decide +kernel, by decide +kernel⟩, List.mem_of_getElem? (i := 1123) (by decide +kernel), List.mem_of_getElem? (i := 1338) (by decide +kernel), List.mem_of_getElem? (i := 1339) (by decide +kernel)⟩
theorem lw_p43 : lw_okq (⟨"UnsaidRoomModel", "readsRoom", "(Z)Z"⟩, 57) := ⟨⟨by decide +kernel, by decide +kernel⟩, List.mem_of_getElem? (i := 1123) (by decide +kernel), List.mem_of_getElem? (i := 1342) (by decide +kernel), List.mem_of_getElem? (i := 1343) (by decide +kernel)⟩
theorem lw_p44 : lw_okq (⟨"UnsaidRoomModel", "fails", "(I)Z"⟩, 57) := ⟨⟨by decide +kernel, by decide +kernel⟩, List.mem_of_getElem? (i := 1123) (by decide +kernel), List.mem_of_getElem? (i := 1346) (by decide +kernel), List.mem_of_getElem? (i := 1347) (by decide +kernel)⟩
theorem lw_p45 : lw_okq (⟨"UnsaidRoomModel", "needsNew", "()Z"⟩, 57) := ⟨⟨by decide +kernel, by decide +kernel⟩, List.mem_of_getElem? (i := 1123) (by decide +kernel), List.mem_of_getElem? (i := 1350) (by decide +kernel), List.mem_of_getElem? (i := 1351) (by decide +kernel)⟩
theorem lw_p46 : lw_okq (⟨"UnsaidRoomModel", "isKept", "()Z"⟩, 57) := ⟨⟨by decide +kernel, by decide +kernel⟩, List.mem_of_getElem? (i := 1123) (by decide +kernel), List.mem_of_getElem? (i := 1354) (by decide +kernel), List.mem_of_getElem? (i := 1355) (by decide +kernel)⟩
theorem lw_p47 : lw_okq (⟨"UnsaidRoomModel", "roomNamed", "(I)I"⟩, 57) := ⟨⟨by decide +kernel, by decide +kernel⟩, List.mem_of_getElem? (i := 1123) (by decide +kernel), List.mem_of_getElem? (i := 1377) (by decide +kernel), List.mem_of_getElem? (i := 1378) (by decide +kernel)⟩
def lw_privs_3 : List (MethodName × Nat) := [(⟨"UnsaidRoom$Line", "keepIfBetter", "(I)V"⟩, 5), (⟨"UnsaidRoom", "mostKeptAlike", "(II)I"⟩, 15), (⟨"UnsaidRoom", "roomsKeeping", "(II)I"⟩, 15), (⟨"UnsaidRoom", "followDraws", "()V"⟩, 15), (⟨"java/lang/Throwable", "fillInStackTrace", "(I)Ljava/lang/Throwable;"⟩, 6), (⟨"UnsaidRoomModel", "fresh0", "()V"⟩, 57), (⟨"UnsaidRoomModel", "readsAll", "()Z"⟩, 57), (⟨"UnsaidRoomModel", "begins", "()V"⟩, 57), (⟨"UnsaidRoomModel", "nextToken", "()V"⟩, 57), (⟨"UnsaidRoomModel", "signAt", "(I)I"⟩, 57), (⟨"UnsaidRoomModel", "isWord", "(J)Z"⟩, 57), (⟨"UnsaidRoomModel", "readsRoom", "(Z)Z"⟩, 57), (⟨"UnsaidRoomModel", "fails", "(I)Z"⟩, 57), (⟨"UnsaidRoomModel", "needsNew", "()Z"⟩, 57), (⟨"UnsaidRoomModel", "isKept", "()Z"⟩, 57), (⟨"UnsaidRoomModel", "roomNamed", "(I)I"⟩, 57)]
theorem lw_r3 : ∀ q ∈ lw_privs_3, lw_okq q := List.forall_mem_cons.mpr ⟨lw_p32, List.forall_mem_cons.mpr ⟨lw_p33, List.forall_mem_cons.mpr ⟨lw_p34, List.forall_mem_cons.mpr ⟨lw_p35, List.forall_mem_cons.mpr ⟨lw_p36, List.forall_mem_cons.mpr ⟨lw_p37, List.forall_mem_cons.mpr ⟨lw_p38, List.forall_mem_cons.mpr ⟨lw_p39, List.forall_mem_cons.mpr ⟨lw_p40, List.forall_mem_cons.mpr ⟨lw_p41, List.forall_mem_cons.mpr ⟨lw_p42, List.forall_mem_cons.mpr ⟨lw_p43, List.forall_mem_cons.mpr ⟨lw_p44, List.forall_mem_cons.mpr ⟨lw_p45, List.forall_mem_cons.mpr ⟨lw_p46, List.forall_mem_cons.mpr ⟨lw_p47, fun _ h => absurd h List.not_mem_nil⟩⟩⟩⟩⟩⟩⟩⟩⟩⟩⟩⟩⟩⟩⟩⟩
theorem lw_p48 : lw_okq (⟨"UnsaidRoomModel", "personNamed", "(I)I"⟩, 57) := ⟨⟨by decide +kernel, by decide +kernel⟩, List.mem_of_getElem? (i := 1123) (by decide +kernel), List.mem_of_getElem? (i := 1381) (by decide +kernel), List.mem_of_getElem? (i := 1382) (by decide +kernel)⟩
theorem lw_p49 : lw_okq (⟨"UnsaidRoomModel", "needsBoth", "(JII)Z"⟩, 57) := ⟨⟨by decide +kernel, by decide +kernel⟩, List.mem_of_getElem? (i := 1123) (by decide +kernel), List.mem_of_getElem? (i := 1385) (by decide +kernel), List.mem_of_getElem? (i := 1386) (by decide +kernel)⟩
theorem lw_p50 : lw_okq (⟨"UnsaidRoomModel", "closes", "()Z"⟩, 57) := ⟨⟨by decide +kernel, by decide +kernel⟩, List.mem_of_getElem? (i := 1123) (by decide +kernel), List.mem_of_getElem? (i := 1392) (by decide +kernel), List.mem_of_getElem? (i := 1393) (by decide +kernel)⟩
theorem lw_p51 : lw_okq (⟨"UnsaidRoomModel", "isSign", "(I)Z"⟩, 57) := ⟨⟨by decide +kernel, by decide +kernel⟩, List.mem_of_getElem? (i := 1123) (by decide +kernel), List.mem_of_getElem? (i := 1396) (by decide +kernel), List.mem_of_getElem? (i := 1397) (by decide +kernel)⟩
theorem lw_p52 : lw_okq (⟨"UnsaidRoomModel", "readsDoor", "()Z"⟩, 57) := ⟨⟨by decide +kernel, by decide +kernel⟩, List.mem_of_getElem? (i := 1123) (by decide +kernel), List.mem_of_getElem? (i := 1400) (by decide +kernel), List.mem_of_getElem? (i := 1401) (by decide +kernel)⟩
theorem lw_p53 : lw_okq (⟨"UnsaidRoomModel", "needsRoom", "(I)Z"⟩, 57) := ⟨⟨by decide +kernel, by decide +kernel⟩, List.mem_of_getElem? (i := 1123) (by decide +kernel), List.mem_of_getElem? (i := 1404) (by decide +kernel), List.mem_of_getElem? (i := 1405) (by decide +kernel)⟩
theorem lw_p54 : lw_okq (⟨"UnsaidRoomModel", "readsPerson", "()Z"⟩, 57) := ⟨⟨by decide +kernel, by decide +kernel⟩, List.mem_of_getElem? (i := 1123) (by decide +kernel), List.mem_of_getElem? (i := 1408) (by decide +kernel), List.mem_of_getElem? (i := 1409) (by decide +kernel)⟩
theorem lw_p55 : lw_okq (⟨"UnsaidRoomModel", "readsStays", "()Z"⟩, 57) := ⟨⟨by decide +kernel, by decide +kernel⟩, List.mem_of_getElem? (i := 1123) (by decide +kernel), List.mem_of_getElem? (i := 1412) (by decide +kernel), List.mem_of_getElem? (i := 1413) (by decide +kernel)⟩
theorem lw_p56 : lw_okq (⟨"UnsaidRoomModel", "reads", "()Z"⟩, 57) := ⟨⟨by decide +kernel, by decide +kernel⟩, List.mem_of_getElem? (i := 1123) (by decide +kernel), List.mem_of_getElem? (i := 1416) (by decide +kernel), List.mem_of_getElem? (i := 1417) (by decide +kernel)⟩
theorem lw_p57 : lw_okq (⟨"UnsaidRoomModel", "fact", "()I"⟩, 57) := ⟨⟨by decide +kernel, by decide +kernel⟩, List.mem_of_getElem? (i := 1123) (by decide +kernel), List.mem_of_getElem? (i := 1420) (by decide +kernel), List.mem_of_getElem? (i := 1421) (by decide +kernel)⟩
theorem lw_p58 : lw_okq (⟨"UnsaidRoomModel", "puts", "(I)V"⟩, 57) := ⟨⟨by decide +kernel, by decide +kernel⟩, List.mem_of_getElem? (i := 1123) (by decide +kernel), List.mem_of_getElem? (i := 1428) (by decide +kernel), List.mem_of_getElem? (i := 1429) (by decide +kernel)⟩
theorem lw_p59 : lw_okq (⟨"UnsaidRoomModel", "lays", "()V"⟩, 57) := ⟨⟨by decide +kernel, by decide +kernel⟩, List.mem_of_getElem? (i := 1123) (by decide +kernel), List.mem_of_getElem? (i := 1432) (by decide +kernel), List.mem_of_getElem? (i := 1433) (by decide +kernel)⟩
theorem lw_p60 : lw_okq (⟨"UnsaidRoomModel", "readsLine", "()Z"⟩, 57) := ⟨⟨by decide +kernel, by decide +kernel⟩, List.mem_of_getElem? (i := 1123) (by decide +kernel), List.mem_of_getElem? (i := 1446) (by decide +kernel), List.mem_of_getElem? (i := 1447) (by decide +kernel)⟩
theorem lw_p61 : lw_okq (⟨"UnsaidRoomModel", "laysLines", "(II)V"⟩, 57) := ⟨⟨by decide +kernel, by decide +kernel⟩, List.mem_of_getElem? (i := 1123) (by decide +kernel), List.mem_of_getElem? (i := 1450) (by decide +kernel), List.mem_of_getElem? (i := 1451) (by decide +kernel)⟩
theorem lw_p62 : lw_okq (⟨"UnsaidRoomModel", "isRoom", "(I)Z"⟩, 57) := ⟨⟨by decide +kernel, by decide +kernel⟩, List.mem_of_getElem? (i := 1123) (by decide +kernel), List.mem_of_getElem? (i := 1458) (by decide +kernel), List.mem_of_getElem? (i := 1459) (by decide +kernel)⟩
theorem lw_p63 : lw_okq (⟨"UnsaidRoomModel", "whoIn", "(I)I"⟩, 57) := ⟨⟨by decide +kernel, by decide +kernel⟩, List.mem_of_getElem? (i := 1123) (by decide +kernel), List.mem_of_getElem? (i := 1462) (by decide +kernel), List.mem_of_getElem? (i := 1463) (by decide +kernel)⟩
def lw_privs_4 : List (MethodName × Nat) := [(⟨"UnsaidRoomModel", "personNamed", "(I)I"⟩, 57), (⟨"UnsaidRoomModel", "needsBoth", "(JII)Z"⟩, 57), (⟨"UnsaidRoomModel", "closes", "()Z"⟩, 57), (⟨"UnsaidRoomModel", "isSign", "(I)Z"⟩, 57), (⟨"UnsaidRoomModel", "readsDoor", "()Z"⟩, 57), (⟨"UnsaidRoomModel", "needsRoom", "(I)Z"⟩, 57), (⟨"UnsaidRoomModel", "readsPerson", "()Z"⟩, 57), (⟨"UnsaidRoomModel", "readsStays", "()Z"⟩, 57), (⟨"UnsaidRoomModel", "reads", "()Z"⟩, 57), (⟨"UnsaidRoomModel", "fact", "()I"⟩, 57), (⟨"UnsaidRoomModel", "puts", "(I)V"⟩, 57), (⟨"UnsaidRoomModel", "lays", "()V"⟩, 57), (⟨"UnsaidRoomModel", "readsLine", "()Z"⟩, 57), (⟨"UnsaidRoomModel", "laysLines", "(II)V"⟩, 57), (⟨"UnsaidRoomModel", "isRoom", "(I)Z"⟩, 57), (⟨"UnsaidRoomModel", "whoIn", "(I)I"⟩, 57)]
theorem lw_r4 : ∀ q ∈ lw_privs_4, lw_okq q := List.forall_mem_cons.mpr ⟨lw_p48, List.forall_mem_cons.mpr ⟨lw_p49, List.forall_mem_cons.mpr ⟨lw_p50, List.forall_mem_cons.mpr ⟨lw_p51, List.forall_mem_cons.mpr ⟨lw_p52, List.forall_mem_cons.mpr ⟨lw_p53, List.forall_mem_cons.mpr ⟨lw_p54, List.forall_mem_cons.mpr ⟨lw_p55, List.forall_mem_cons.mpr ⟨lw_p56, List.forall_mem_cons.mpr ⟨lw_p57, List.forall_mem_cons.mpr ⟨lw_p58, List.forall_mem_cons.mpr ⟨lw_p59, List.forall_mem_cons.mpr ⟨lw_p60, List.forall_mem_cons.mpr ⟨lw_p61, List.forall_mem_cons.mpr ⟨lw_p62, List.forall_mem_cons.mpr ⟨lw_p63, fun _ h => absurd h List.not_mem_nil⟩⟩⟩⟩⟩⟩⟩⟩⟩⟩⟩⟩⟩⟩⟩⟩
theorem lw_p64 : lw_okq (⟨"UnsaidRoomModel", "isPerson", "(I)Z"⟩, 57) := ⟨⟨by decide +kernel, by decide +kernel⟩, List.mem_of_getElem? (i := 1123) (by decide +kernel), List.mem_of_getElem? (i := 1470) (by decide +kernel), List.mem_of_getElem? (i := 1471) (by decide +kernel)⟩
theorem lw_p65 : lw_okq (⟨"UnsaidRoomModel", "goesOf", "(I)I"⟩, 57) := ⟨⟨by decide +kernel, by decide +kernel⟩, List.mem_of_getElem? (i := 1123) (by decide +kernel), List.mem_of_getElem? (i := 1478) (by decide +kernel), List.mem_of_getElem? (i := 1479) (by decide +kernel)⟩
theorem lw_p66 : lw_okq (⟨"UnsaidRoomModel", "isInside", "(I)Z"⟩, 57) := ⟨⟨by decide +kernel, by decide +kernel⟩, List.mem_of_getElem? (i := 1123) (by decide +kernel), List.mem_of_getElem? (i := 1482) (by decide +kernel), List.mem_of_getElem? (i := 1483) (by decide +kernel)⟩
theorem lw_p67 : lw_okq (⟨"UnsaidRoomModel", "open", "()I"⟩, 57) := ⟨⟨by decide +kernel, by decide +kernel⟩, List.mem_of_getElem? (i := 1123) (by decide +kernel), List.mem_of_getElem? (i := 1486) (by decide +kernel), List.mem_of_getElem? (i := 1487) (by decide +kernel)⟩
theorem lw_p68 : lw_okq (⟨"UnsaidRoomModel", "unsaids", "()I"⟩, 57) := ⟨⟨by decide +kernel, by decide +kernel⟩, List.mem_of_getElem? (i := 1123) (by decide +kernel), List.mem_of_getElem? (i := 1490) (by decide +kernel), List.mem_of_getElem? (i := 1491) (by decide +kernel)⟩
theorem lw_p69 : lw_okq (⟨"UnsaidRoomModel", "keeps", "()V"⟩, 57) := ⟨⟨by decide +kernel, by decide +kernel⟩, List.mem_of_getElem? (i := 1123) (by decide +kernel), List.mem_of_getElem? (i := 1494) (by decide +kernel), List.mem_of_getElem? (i := 1495) (by decide +kernel)⟩
theorem lw_p70 : lw_okq (⟨"UnsaidRoomModel", "canShow", "(II)Z"⟩, 57) := ⟨⟨by decide +kernel, by decide +kernel⟩, List.mem_of_getElem? (i := 1123) (by decide +kernel), List.mem_of_getElem? (i := 1505) (by decide +kernel), List.mem_of_getElem? (i := 1506) (by decide +kernel)⟩
theorem lw_p71 : lw_okq (⟨"UnsaidRoomModel", "isFit", "(I)Z"⟩, 57) := ⟨⟨by decide +kernel, by decide +kernel⟩, List.mem_of_getElem? (i := 1123) (by decide +kernel), List.mem_of_getElem? (i := 1509) (by decide +kernel), List.mem_of_getElem? (i := 1510) (by decide +kernel)⟩
theorem lw_p72 : lw_okq (⟨"UnsaidRoomModel", "hostOf", "(I)I"⟩, 57) := ⟨⟨by decide +kernel, by decide +kernel⟩, List.mem_of_getElem? (i := 1123) (by decide +kernel), List.mem_of_getElem? (i := 1513) (by decide +kernel), List.mem_of_getElem? (i := 1514) (by decide +kernel)⟩
theorem lw_p73 : lw_okq (⟨"UnsaidRoomModel", "shows", "(II)I"⟩, 57) := ⟨⟨by decide +kernel, by decide +kernel⟩, List.mem_of_getElem? (i := 1123) (by decide +kernel), List.mem_of_getElem? (i := 1517) (by decide +kernel), List.mem_of_getElem? (i := 1518) (by decide +kernel)⟩
theorem lw_p74 : lw_okq (⟨"UnsaidRoomModel", "stayOf", "(III)I"⟩, 57) := ⟨⟨by decide +kernel, by decide +kernel⟩, List.mem_of_getElem? (i := 1123) (by decide +kernel), List.mem_of_getElem? (i := 1521) (by decide +kernel), List.mem_of_getElem? (i := 1522) (by decide +kernel)⟩
theorem lw_p75 : lw_okq (⟨"UnsaidRoomModel", "worked", "(I)I"⟩, 57) := ⟨⟨by decide +kernel, by decide +kernel⟩, List.mem_of_getElem? (i := 1123) (by decide +kernel), List.mem_of_getElem? (i := 1525) (by decide +kernel), List.mem_of_getElem? (i := 1526) (by decide +kernel)⟩
theorem lw_p76 : lw_okq (⟨"UnsaidRoomModel", "opens", "(I)V"⟩, 57) := ⟨⟨by decide +kernel, by decide +kernel⟩, List.mem_of_getElem? (i := 1123) (by decide +kernel), List.mem_of_getElem? (i := 1529) (by decide +kernel), List.mem_of_getElem? (i := 1530) (by decide +kernel)⟩
theorem lw_p77 : lw_okq (⟨"UnsaidRoomModel", "sums", "(I)V"⟩, 57) := ⟨⟨by decide +kernel, by decide +kernel⟩, List.mem_of_getElem? (i := 1123) (by decide +kernel), List.mem_of_getElem? (i := 1533) (by decide +kernel), List.mem_of_getElem? (i := 1534) (by decide +kernel)⟩
theorem lw_p78 : lw_okq (⟨"UnsaidRoomModel", "tests", "(I)V"⟩, 57) := ⟨⟨by decide +kernel, by decide +kernel⟩, List.mem_of_getElem? (i := 1123) (by decide +kernel), List.mem_of_getElem? (i := 1537) (by decide +kernel), List.mem_of_getElem? (i := 1538) (by decide +kernel)⟩
theorem lw_p79 : lw_okq (⟨"UnsaidRoomModel", "canSpeak", "(I)Z"⟩, 57) := ⟨⟨by decide +kernel, by decide +kernel⟩, List.mem_of_getElem? (i := 1123) (by decide +kernel), List.mem_of_getElem? (i := 1548) (by decide +kernel), List.mem_of_getElem? (i := 1549) (by decide +kernel)⟩
def lw_privs_5 : List (MethodName × Nat) := [(⟨"UnsaidRoomModel", "isPerson", "(I)Z"⟩, 57), (⟨"UnsaidRoomModel", "goesOf", "(I)I"⟩, 57), (⟨"UnsaidRoomModel", "isInside", "(I)Z"⟩, 57), (⟨"UnsaidRoomModel", "open", "()I"⟩, 57), (⟨"UnsaidRoomModel", "unsaids", "()I"⟩, 57), (⟨"UnsaidRoomModel", "keeps", "()V"⟩, 57), (⟨"UnsaidRoomModel", "canShow", "(II)Z"⟩, 57), (⟨"UnsaidRoomModel", "isFit", "(I)Z"⟩, 57), (⟨"UnsaidRoomModel", "hostOf", "(I)I"⟩, 57), (⟨"UnsaidRoomModel", "shows", "(II)I"⟩, 57), (⟨"UnsaidRoomModel", "stayOf", "(III)I"⟩, 57), (⟨"UnsaidRoomModel", "worked", "(I)I"⟩, 57), (⟨"UnsaidRoomModel", "opens", "(I)V"⟩, 57), (⟨"UnsaidRoomModel", "sums", "(I)V"⟩, 57), (⟨"UnsaidRoomModel", "tests", "(I)V"⟩, 57), (⟨"UnsaidRoomModel", "canSpeak", "(I)Z"⟩, 57)]
theorem lw_r5 : ∀ q ∈ lw_privs_5, lw_okq q := List.forall_mem_cons.mpr ⟨lw_p64, List.forall_mem_cons.mpr ⟨lw_p65, List.forall_mem_cons.mpr ⟨lw_p66, List.forall_mem_cons.mpr ⟨lw_p67, List.forall_mem_cons.mpr ⟨lw_p68, List.forall_mem_cons.mpr ⟨lw_p69, List.forall_mem_cons.mpr ⟨lw_p70, List.forall_mem_cons.mpr ⟨lw_p71, List.forall_mem_cons.mpr ⟨lw_p72, List.forall_mem_cons.mpr ⟨lw_p73, List.forall_mem_cons.mpr ⟨lw_p74, List.forall_mem_cons.mpr ⟨lw_p75, List.forall_mem_cons.mpr ⟨lw_p76, List.forall_mem_cons.mpr ⟨lw_p77, List.forall_mem_cons.mpr ⟨lw_p78, List.forall_mem_cons.mpr ⟨lw_p79, fun _ h => absurd h List.not_mem_nil⟩⟩⟩⟩⟩⟩⟩⟩⟩⟩⟩⟩⟩⟩⟩⟩
theorem lw_p80 : lw_okq (⟨"UnsaidRoomModel", "speaks", "(I)V"⟩, 57) := ⟨⟨by decide +kernel, by decide +kernel⟩, List.mem_of_getElem? (i := 1123) (by decide +kernel), List.mem_of_getElem? (i := 1552) (by decide +kernel), List.mem_of_getElem? (i := 1553) (by decide +kernel)⟩
theorem lw_p81 : lw_okq (⟨"UnsaidRoomModel", "canBurn", "(I)Z"⟩, 57) := ⟨⟨by decide +kernel, by decide +kernel⟩, List.mem_of_getElem? (i := 1123) (by decide +kernel), List.mem_of_getElem? (i := 1560) (by decide +kernel), List.mem_of_getElem? (i := 1561) (by decide +kernel)⟩
theorem lw_p82 : lw_okq (⟨"UnsaidRoomModel", "isOpen", "(I)Z"⟩, 57) := ⟨⟨by decide +kernel, by decide +kernel⟩, List.mem_of_getElem? (i := 1123) (by decide +kernel), List.mem_of_getElem? (i := 1564) (by decide +kernel), List.mem_of_getElem? (i := 1565) (by decide +kernel)⟩
theorem lw_p83 : lw_okq (⟨"UnsaidRoomModel", "burntBy", "(I)I"⟩, 57) := ⟨⟨by decide +kernel, by decide +kernel⟩, List.mem_of_getElem? (i := 1123) (by decide +kernel), List.mem_of_getElem? (i := 1568) (by decide +kernel), List.mem_of_getElem? (i := 1569) (by decide +kernel)⟩
theorem lw_p84 : lw_okq (⟨"UnsaidRoomModel", "spreads", "(II)I"⟩, 57) := ⟨⟨by decide +kernel, by decide +kernel⟩, List.mem_of_getElem? (i := 1123) (by decide +kernel), List.mem_of_getElem? (i := 1572) (by decide +kernel), List.mem_of_getElem? (i := 1573) (by decide +kernel)⟩
theorem lw_p85 : lw_okq (⟨"UnsaidRoomModel", "passes", "()I"⟩, 57) := ⟨⟨by decide +kernel, by decide +kernel⟩, List.mem_of_getElem? (i := 1123) (by decide +kernel), List.mem_of_getElem? (i := 1583) (by decide +kernel), List.mem_of_getElem? (i := 1584) (by decide +kernel)⟩
theorem lw_p86 : lw_okq (⟨"UnsaidRoomModel", "isDone", "(I)Z"⟩, 57) := ⟨⟨by decide +kernel, by decide +kernel⟩, List.mem_of_getElem? (i := 1123) (by decide +kernel), List.mem_of_getElem? (i := 1598) (by decide +kernel), List.mem_of_getElem? (i := 1599) (by decide +kernel)⟩
theorem lw_p87 : lw_okq (⟨"UnsaidRoomModel", "allBeen", "()I"⟩, 57) := ⟨⟨by decide +kernel, by decide +kernel⟩, List.mem_of_getElem? (i := 1123) (by decide +kernel), List.mem_of_getElem? (i := 1602) (by decide +kernel), List.mem_of_getElem? (i := 1603) (by decide +kernel)⟩
theorem lw_p88 : lw_okq (⟨"UnsaidRoomModel", "isUnsaid", "(I)Z"⟩, 57) := ⟨⟨by decide +kernel, by decide +kernel⟩, List.mem_of_getElem? (i := 1123) (by decide +kernel), List.mem_of_getElem? (i := 1610) (by decide +kernel), List.mem_of_getElem? (i := 1611) (by decide +kernel)⟩
theorem lw_p89 : lw_okq (⟨"UnsaidRoomModel", "freesOf", "(I)I"⟩, 57) := ⟨⟨by decide +kernel, by decide +kernel⟩, List.mem_of_getElem? (i := 1123) (by decide +kernel), List.mem_of_getElem? (i := 1618) (by decide +kernel), List.mem_of_getElem? (i := 1619) (by decide +kernel)⟩
theorem lw_p90 : lw_okq (⟨"UnsaidRoomModel", "insiders", "()I"⟩, 57) := ⟨⟨by decide +kernel, by decide +kernel⟩, List.mem_of_getElem? (i := 1123) (by decide +kernel), List.mem_of_getElem? (i := 1634) (by decide +kernel), List.mem_of_getElem? (i := 1635) (by decide +kernel)⟩
theorem lw_p91 : lw_okq (⟨"UnsaidRoomModel", "mayOf", "(I)I"⟩, 57) := ⟨⟨by decide +kernel, by decide +kernel⟩, List.mem_of_getElem? (i := 1123) (by decide +kernel), List.mem_of_getElem? (i := 1642) (by decide +kernel), List.mem_of_getElem? (i := 1643) (by decide +kernel)⟩
theorem lw_p92 : lw_okq (⟨"UnsaidRoomModel", "pieces", "(I)I"⟩, 57) := ⟨⟨by decide +kernel, by decide +kernel⟩, List.mem_of_getElem? (i := 1123) (by decide +kernel), List.mem_of_getElem? (i := 1670) (by decide +kernel), List.mem_of_getElem? (i := 1671) (by decide +kernel)⟩
theorem lw_p93 : lw_okq (⟨"UnsaidRoomModel", "unsaidBy", "(I)I"⟩, 57) := ⟨⟨by decide +kernel, by decide +kernel⟩, List.mem_of_getElem? (i := 1123) (by decide +kernel), List.mem_of_getElem? (i := 1682) (by decide +kernel), List.mem_of_getElem? (i := 1683) (by decide +kernel)⟩
theorem lw_p94 : lw_okq (⟨"UnsaidRoomModel", "queues", "(IIIIII)V"⟩, 57) := ⟨⟨by decide +kernel, by decide +kernel⟩, List.mem_of_getElem? (i := 1123) (by decide +kernel), List.mem_of_getElem? (i := 1694) (by decide +kernel), List.mem_of_getElem? (i := 1695) (by decide +kernel)⟩
theorem lw_p95 : lw_okq (⟨"UnsaidRoomModel", "laysStays", "()V"⟩, 57) := ⟨⟨by decide +kernel, by decide +kernel⟩, List.mem_of_getElem? (i := 1123) (by decide +kernel), List.mem_of_getElem? (i := 1722) (by decide +kernel), List.mem_of_getElem? (i := 1723) (by decide +kernel)⟩
def lw_privs_6 : List (MethodName × Nat) := [(⟨"UnsaidRoomModel", "speaks", "(I)V"⟩, 57), (⟨"UnsaidRoomModel", "canBurn", "(I)Z"⟩, 57), (⟨"UnsaidRoomModel", "isOpen", "(I)Z"⟩, 57), (⟨"UnsaidRoomModel", "burntBy", "(I)I"⟩, 57), (⟨"UnsaidRoomModel", "spreads", "(II)I"⟩, 57), (⟨"UnsaidRoomModel", "passes", "()I"⟩, 57), (⟨"UnsaidRoomModel", "isDone", "(I)Z"⟩, 57), (⟨"UnsaidRoomModel", "allBeen", "()I"⟩, 57), (⟨"UnsaidRoomModel", "isUnsaid", "(I)Z"⟩, 57), (⟨"UnsaidRoomModel", "freesOf", "(I)I"⟩, 57), (⟨"UnsaidRoomModel", "insiders", "()I"⟩, 57), (⟨"UnsaidRoomModel", "mayOf", "(I)I"⟩, 57), (⟨"UnsaidRoomModel", "pieces", "(I)I"⟩, 57), (⟨"UnsaidRoomModel", "unsaidBy", "(I)I"⟩, 57), (⟨"UnsaidRoomModel", "queues", "(IIIIII)V"⟩, 57), (⟨"UnsaidRoomModel", "laysStays", "()V"⟩, 57)]
theorem lw_r6 : ∀ q ∈ lw_privs_6, lw_okq q := List.forall_mem_cons.mpr ⟨lw_p80, List.forall_mem_cons.mpr ⟨lw_p81, List.forall_mem_cons.mpr ⟨lw_p82, List.forall_mem_cons.mpr ⟨lw_p83, List.forall_mem_cons.mpr ⟨lw_p84, List.forall_mem_cons.mpr ⟨lw_p85, List.forall_mem_cons.mpr ⟨lw_p86, List.forall_mem_cons.mpr ⟨lw_p87, List.forall_mem_cons.mpr ⟨lw_p88, List.forall_mem_cons.mpr ⟨lw_p89, List.forall_mem_cons.mpr ⟨lw_p90, List.forall_mem_cons.mpr ⟨lw_p91, List.forall_mem_cons.mpr ⟨lw_p92, List.forall_mem_cons.mpr ⟨lw_p93, List.forall_mem_cons.mpr ⟨lw_p94, List.forall_mem_cons.mpr ⟨lw_p95, fun _ h => absurd h List.not_mem_nil⟩⟩⟩⟩⟩⟩⟩⟩⟩⟩⟩⟩⟩⟩⟩⟩
theorem lw_p96 : lw_okq (⟨"UnsaidRoomModel", "isAsSeen", "(I)Z"⟩, 57) := ⟨⟨by decide +kernel, by decide +kernel⟩, List.mem_of_getElem? (i := 1123) (by decide +kernel), List.mem_of_getElem? (i := 1726) (by decide +kernel), List.mem_of_getElem? (i := 1727) (by decide +kernel)⟩
theorem lw_p97 : lw_okq (⟨"UnsaidRoomModel", "livesMinute", "()V"⟩, 57) := ⟨⟨by decide +kernel, by decide +kernel⟩, List.mem_of_getElem? (i := 1123) (by decide +kernel), List.mem_of_getElem? (i := 1753) (by decide +kernel), List.mem_of_getElem? (i := 1754) (by decide +kernel)⟩
theorem lw_p98 : lw_okq (⟨"UnsaidRoomModel", "draws", "(I)I"⟩, 57) := ⟨⟨by decide +kernel, by decide +kernel⟩, List.mem_of_getElem? (i := 1123) (by decide +kernel), List.mem_of_getElem? (i := 1757) (by decide +kernel), List.mem_of_getElem? (i := 1758) (by decide +kernel)⟩
theorem lw_p99 : lw_okq (⟨"UnsaidRoomModel", "laysSeen", "(II)V"⟩, 57) := ⟨⟨by decide +kernel, by decide +kernel⟩, List.mem_of_getElem? (i := 1123) (by decide +kernel), List.mem_of_getElem? (i := 1769) (by decide +kernel), List.mem_of_getElem? (i := 1770) (by decide +kernel)⟩
def lw_privs_7 : List (MethodName × Nat) := [(⟨"UnsaidRoomModel", "isAsSeen", "(I)Z"⟩, 57), (⟨"UnsaidRoomModel", "livesMinute", "()V"⟩, 57), (⟨"UnsaidRoomModel", "draws", "(I)I"⟩, 57), (⟨"UnsaidRoomModel", "laysSeen", "(II)V"⟩, 57)]
theorem lw_r7 : ∀ q ∈ lw_privs_7, lw_okq q := List.forall_mem_cons.mpr ⟨lw_p96, List.forall_mem_cons.mpr ⟨lw_p97, List.forall_mem_cons.mpr ⟨lw_p98, List.forall_mem_cons.mpr ⟨lw_p99, fun _ h => absurd h List.not_mem_nil⟩⟩⟩⟩
def lw_privs : List (MethodName × Nat) := lw_privs_1 ++ (lw_privs_2 ++ (lw_privs_3 ++ (lw_privs_4 ++ (lw_privs_5 ++ (lw_privs_6 ++ (lw_privs_7))))))
def lw_tbl : List Cond := k2_sels lw_privs ++ tables_1
theorem lw_privs_ok : ∀ q ∈ lw_privs, lw_okq q := by
  show ∀ q ∈ lw_privs_1 ++ (lw_privs_2 ++ (lw_privs_3 ++ (lw_privs_4 ++ (lw_privs_5 ++ (lw_privs_6 ++ (lw_privs_7)))))), lw_okq q
  exact List.forall_mem_append.mpr ⟨lw_r1, List.forall_mem_append.mpr ⟨lw_r2, List.forall_mem_append.mpr ⟨lw_r3, List.forall_mem_append.mpr ⟨lw_r4, List.forall_mem_append.mpr ⟨lw_r5, List.forall_mem_append.mpr ⟨lw_r6, lw_r7⟩⟩⟩⟩⟩⟩
-- ===== end of PART A; then your names; then what follows =====
end
section
/-! THE PURE MACHINE: memory as shapes and three tables; a step as data; runs by fuel; runs without fuel, and their unfolding -/
abbrev ur_M : Type := List (Nat ⊕ (Nat × Nat)) × (Nat → Nat → Int32) × (Nat → Nat → Int64) × (Nat → Nat → Option Nat)
abbrev ur_S : Type := Nat × List (Option Value) × List Value × ur_M
abbrev ur_V : Type := Int32 × ur_M
abbrev ur_A : Type := (List (Bool × ur_S) × ur_S) ⊕ (Option ur_V) ⊕ (Nat × List Value × ur_M × (Int32 → ur_M → ur_S)) ⊕ (Option Int32 × (Int32 → ur_S)) ⊕ (Option Int64 × (Int64 → ur_S)) ⊕ (Option Nat × (Nat → ur_S)) ⊕ (Option ur_M × (ur_M → ur_S))
abbrev ur_E : Type := Nat × Instr × Nat × Nat × Int32
-- rows of tables
def ur_u {α : Type} (f : Nat → Nat → α) (a k : Nat) (v : α) : Nat → Nat → α := fun b j => if b = a then (if j = k then v else f a j) else f b j
def ur_row {α : Type} (f : Nat → Nat → α) (a : Nat) (g : Nat → α) : Nat → Nat → α := fun b => if b = a then g else f b
def ur_inb (i : Int32) (n : Nat) : Bool := !(decide (i < 0) || decide (n ≤ i.toNatClampNeg))
def ur_isO (m : ur_M) (a ci : Nat) : Bool := match m.1[a]? with
  | some (.inl c) => c == ci
  | _ => false
def ur_isA (m : ur_M) (a t : Nat) : Option Nat := match m.1[a]? with
  | some (.inr (t', n)) => bif t' == t then some n else none
  | _ => none
-- old cells: strings and their bytes
def ur_txt : List (List Nat) := [[114, 111, 111, 109, 32, 117, 110, 115, 97, 105, 100, 32, 104, 111, 108, 100, 115, 32, 100, 111, 111, 114, 32, 112, 101, 114, 115, 111, 110, 32, 97, 103, 101, 32, 105, 110, 32, 115, 116, 97, 121, 115, 32, 119, 97, 108, 107, 32, 115, 104, 111, 119, 32, 115, 112, 101, 97, 107, 32, 98, 117, 114, 110, 32, 109, 105, 110, 117, 116, 101, 32, 103, 117, 101, 115, 116, 32, 119, 105, 102, 101, 32, 99, 104, 105, 108, 100, 32, 116, 97, 120, 109, 97, 110, 32, 110, 111, 116, 32, 97, 110, 100, 32, 111, 114, 32], [40, 41, 60, 61, 43, 45, 42, 59], [109, 117, 99, 104, 32, 116, 105, 109, 101, 115, 32, 121, 101, 97, 114, 115, 32, 110, 111, 100, 115, 32]]
def ur_base : Nat := 1000000
-- reads of fields
def ur_fI (m : ur_M) (a ci k : Nat) : Option Int32 := bif ci == 20 then (bif decide (ur_base ≤ a ∧ a < ur_base + 3) then some 0 else none) else bif ur_isO m a ci then some (m.2.1 a k) else none
def ur_fL (m : ur_M) (a ci k : Nat) : Option Int64 := bif ur_isO m a ci then some (m.2.2.1 a k) else none
def ur_fR (m : ur_M) (a ci k : Nat) : Option Nat := bif ci == 20 then (bif decide (ur_base ≤ a ∧ a < ur_base + 3) then some (a + 10) else none) else bif ur_isO m a ci then m.2.2.2 a k else none
-- writes of fields
def ur_pI (m : ur_M) (a ci k : Nat) (v : Int32) : Option ur_M := bif ur_isO m a ci then some (m.1, ur_u m.2.1 a k v, m.2.2) else none
def ur_pZ (m : ur_M) (a ci k : Nat) (v : Int32) : Option ur_M := bif v == 0 || v == 1 then ur_pI m a ci k v else none
def ur_pL (m : ur_M) (a ci k : Nat) (v : Int64) : Option ur_M := bif ur_isO m a ci then some (m.1, m.2.1, ur_u m.2.2.1 a k v, m.2.2.2) else none
def ur_pR (m : ur_M) (a ci k : Nat) (v : Nat) : Option ur_M := bif ur_isO m a ci then some (m.1, m.2.1, m.2.2.1, ur_u m.2.2.2 a k (some v)) else none
-- arrays: 0 int, 1 long, 2 boolean, 3 char, 4 and 5 of references
def ur_len (m : ur_M) (a : Nat) : Option Int32 := match m.1[a]? with
  | some (.inr (_, n)) => some (Int32.ofNat n)
  | some (.inl _) => none
  | none => match ur_txt[a - (ur_base + 10)]? with
    | some t => bif decide (ur_base + 10 ≤ a) then some (Int32.ofNat t.length) else none
    | none => none
def ur_aI (m : ur_M) (a t : Nat) (i : Int32) : Option Int32 := match ur_isA m a t with
  | some n => bif ur_inb i n then some (m.2.1 a i.toNatClampNeg) else none
  | none => none
def ur_aB (m : ur_M) (a : Nat) (i : Int32) : Option Int32 := bif decide (a < ur_base) then ur_aI m a 2 i else match ur_txt[a - (ur_base + 10)]? with
  | some t => bif decide (ur_base + 10 ≤ a) && ur_inb i t.length then some ((nI (t.getD i.toNatClampNeg 0)).toInt8.toInt32) else none
  | none => none
def ur_aL (m : ur_M) (a : Nat) (i : Int32) : Option Int64 := match ur_isA m a 1 with
  | some n => bif ur_inb i n then some (m.2.2.1 a i.toNatClampNeg) else none
  | none => none
def ur_aR (m : ur_M) (a : Nat) (i : Int32) : Option Nat := match m.1[a]? with
  | some (.inr (t, n)) => bif (t == 4 || t == 5) && ur_inb i n then m.2.2.2 a i.toNatClampNeg else none
  | _ => none
def ur_wI (m : ur_M) (a t : Nat) (i v : Int32) : Option ur_M := match ur_isA m a t with
  | some n => bif ur_inb i n then some (m.1, ur_u m.2.1 a i.toNatClampNeg v, m.2.2) else none
  | none => none
def ur_wL (m : ur_M) (a : Nat) (i : Int32) (v : Int64) : Option ur_M := match ur_isA m a 1 with
  | some n => bif ur_inb i n then some (m.1, m.2.1, ur_u m.2.2.1 a i.toNatClampNeg v, m.2.2.2) else none
  | none => none
def ur_wR (m : ur_M) (a : Nat) (i : Int32) (v : Nat) : Option ur_M := match m.1[a]? with
  | some (.inr (t, n)) => bif ((t == 4 && ur_isO m v 5) || (t == 5 && ur_isO m v 4)) && ur_inb i n then some (m.1, m.2.1, m.2.2.1, ur_u m.2.2.2 a i.toNatClampNeg (some v)) else none
  | _ => none
/-- System.arraycopy of ints -/
def ur_cpy (m : ur_M) (a : Nat) (i : Int32) (b : Nat) (j n : Int32) : Option ur_M := match ur_isA m a 0, ur_isA m b 0 with
  | some p, some q => bif (decide (0 ≤ i) && decide (0 ≤ j)) && (decide (0 ≤ n) && (decide (i.toNatClampNeg + n.toNatClampNeg ≤ p) && decide (j.toNatClampNeg + n.toNatClampNeg ≤ q))) then some (m.1, ur_row m.2.1 b (va_cpy (m.2.1 a) (m.2.1 b) i.toNatClampNeg j.toNatClampNeg n.toNatClampNeg), m.2.2) else none
  | _, _ => none
-- new cells
def ur_nO (m : ur_M) (ci : Nat) : ur_M := (m.1 ++ [.inl ci], ur_row m.2.1 m.1.length (fun _ => 0), ur_row m.2.2.1 m.1.length (fun _ => 0), ur_row m.2.2.2 m.1.length (fun _ => none))
def ur_nA (m : ur_M) (t : Nat) (n : Int32) : Option ur_M := bif decide (0 ≤ n) && decide (n ≤ 65536) then some (m.1 ++ [.inr (t, n.toNatClampNeg)], ur_row m.2.1 m.1.length (fun _ => 0), ur_row m.2.2.1 m.1.length (fun _ => 0), ur_row m.2.2.2 m.1.length (fun _ => none)) else none
-- locals
def ur_ld (ls : List (Option Value)) (j : Nat) : Option Value := match ls[j]? with
  | some o => o
  | none => none
def ur_clr (ls : List (Option Value)) (j : Nat) : List (Option Value) := match j with
  | 0 => ls
  | i + 1 => match ls[i]? with
    | some (some (.long _)) => ls.set i none
    | _ => ls
def ur_st1 (ls : List (Option Value)) (j : Nat) (v : Value) : List (Option Value) := (ur_clr ls j).set j (some v)
def ur_st2 (ls : List (Option Value)) (j : Nat) (v : Value) : List (Option Value) := ((ur_clr ls j).set j (some v)).set (j + 1) none
def ur_slots : List Value → List (Option Value)
  | [] => []
  | .long v :: r => some (.long v) :: none :: ur_slots r
  | v :: r => some v :: ur_slots r
def ur_pad (n : Nat) (l : List (Option Value)) : List (Option Value) := l ++ List.replicate (n - l.length) none
-- acts
abbrev ur_nx (pc : Nat) (ls : List (Option Value)) (st : List Value) (m : ur_M) : Option ur_A := some (.inl ([], (pc, ls, st, m)))
abbrev ur_br (c : Bool) (s1 s2 : ur_S) : Option ur_A := some (.inl ([(c, s1)], s2))
abbrev ur_rI (o : Option Int32) (f : Int32 → ur_S) : Option ur_A := some (.inr (.inr (.inr (.inl (o, f)))))
abbrev ur_rL (o : Option Int64) (f : Int64 → ur_S) : Option ur_A := some (.inr (.inr (.inr (.inr (.inl (o, f))))))
abbrev ur_rR (o : Option Nat) (f : Nat → ur_S) : Option ur_A := some (.inr (.inr (.inr (.inr (.inr (.inl (o, f)))))))
abbrev ur_rM (o : Option ur_M) (f : ur_M → ur_S) : Option ur_A := some (.inr (.inr (.inr (.inr (.inr (.inr (o, f)))))))
def ur_bi (f : Int32 → Int32 → Int32) (pc : Nat) (ls : List (Option Value)) (st : List Value) (m : ur_M) : Option ur_A := match st with
  | .int b :: .int a :: r => ur_nx (pc + 1) ls (.int (f a b) :: r) m
  | _ => none
def ur_bl (f : Int64 → Int64 → Int64) (pc : Nat) (ls : List (Option Value)) (st : List Value) (m : ur_M) : Option ur_A := match st with
  | .long b :: .long a :: r => ur_nx (pc + 1) ls (.long (f a b) :: r) m
  | _ => none
def ur_i1 (f : Int32 → Value) (pc : Nat) (ls : List (Option Value)) (st : List Value) (m : ur_M) : Option ur_A := match st with
  | .int a :: r => ur_nx (pc + 1) ls (f a :: r) m
  | _ => none
def ur_ldi (j n pc : Nat) (ls : List (Option Value)) (st : List Value) (m : ur_M) : Option ur_A := match ur_ld ls j with
  | some (.int v) => ur_nx (pc + n) ls (.int v :: st) m
  | _ => none
def ur_ldl (j n pc : Nat) (ls : List (Option Value)) (st : List Value) (m : ur_M) : Option ur_A := match ur_ld ls j with
  | some (.long v) => ur_nx (pc + n) ls (.long v :: st) m
  | _ => none
def ur_lda (j n pc : Nat) (ls : List (Option Value)) (st : List Value) (m : ur_M) : Option ur_A := match ur_ld ls j with
  | some (.ref v) => ur_nx (pc + n) ls (.ref v :: st) m
  | _ => none
def ur_sti (j n pc : Nat) (ls : List (Option Value)) (st : List Value) (m : ur_M) : Option ur_A := match st with
  | .int v :: r => bif Nat.blt j ls.length then ur_nx (pc + n) (ur_st1 ls j (.int v)) r m else none
  | _ => none
def ur_sta (j n pc : Nat) (ls : List (Option Value)) (st : List Value) (m : ur_M) : Option ur_A := match st with
  | .ref v :: r => bif Nat.blt j ls.length then ur_nx (pc + n) (ur_st1 ls j (.ref v)) r m else none
  | _ => none
def ur_stl (j n pc : Nat) (ls : List (Option Value)) (st : List Value) (m : ur_M) : Option ur_A := match st with
  | .long v :: r => bif Nat.blt (j + 1) ls.length then ur_nx (pc + n) (ur_st2 ls j (.long v)) r m else none
  | _ => none
def ur_cnd (c : ClassFile.Cond) (a b : Int32) : Bool := match c with
  | .eq => decide (a = b)
  | .ne => decide (a ≠ b)
  | .lt => decide (a < b)
  | .ge => decide (b ≤ a)
  | .gt => decide (b < a)
  | .le => decide (a ≤ b)
def ur_if1 (c : ClassFile.Cond) (x pc : Nat) (ls : List (Option Value)) (st : List Value) (m : ur_M) : Option ur_A := match st with
  | .int a :: r => ur_br (ur_cnd c a 0) (x, ls, r, m) (pc + 3, ls, r, m)
  | _ => none
def ur_if2 (c : ClassFile.Cond) (x pc : Nat) (ls : List (Option Value)) (st : List Value) (m : ur_M) : Option ur_A := match st with
  | .int b :: .int a :: r => ur_br (ur_cnd c a b) (x, ls, r, m) (pc + 3, ls, r, m)
  | _ => none
def ur_getf (x pc : Nat) (ls : List (Option Value)) (st : List Value) (m : ur_M) : Option ur_A := match st with
  | .ref a :: r => match x % 4 with
    | 2 => ur_rL (ur_fL m a (x / 256) (x / 4 % 64)) (fun v => (pc + 3, ls, .long v :: r, m))
    | 3 => ur_rR (ur_fR m a (x / 256) (x / 4 % 64)) (fun v => (pc + 3, ls, .ref v :: r, m))
    | _ => ur_rI (ur_fI m a (x / 256) (x / 4 % 64)) (fun v => (pc + 3, ls, .int v :: r, m))
  | _ => none
def ur_putf (x pc : Nat) (ls : List (Option Value)) (st : List Value) (m : ur_M) : Option ur_A := match x % 4 with
  | 0 => match st with
    | .int v :: .ref a :: r => ur_rM (ur_pI m a (x / 256) (x / 4 % 64) v) (fun m => (pc + 3, ls, r, m))
    | _ => none
  | 1 => match st with
    | .int v :: .ref a :: r => ur_rM (ur_pZ m a (x / 256) (x / 4 % 64) v) (fun m => (pc + 3, ls, r, m))
    | _ => none
  | 2 => match st with
    | .long v :: .ref a :: r => ur_rM (ur_pL m a (x / 256) (x / 4 % 64) v) (fun m => (pc + 3, ls, r, m))
    | _ => none
  | _ => match st with
    | .ref v :: .ref a :: r => ur_rM (ur_pR m a (x / 256) (x / 4 % 64) v) (fun m => (pc + 3, ls, r, m))
    | _ => none
def ur_ald (f : ur_M → Nat → Int32 → Option Int32) (pc : Nat) (ls : List (Option Value)) (st : List Value) (m : ur_M) : Option ur_A := match st with
  | .int i :: .ref a :: r => ur_rI (f m a i) (fun v => (pc + 1, ls, .int v :: r, m))
  | _ => none
def ur_ast (f : ur_M → Nat → Int32 → Int32 → Option ur_M) (pc : Nat) (ls : List (Option Value)) (st : List Value) (m : ur_M) : Option ur_A := match st with
  | .int v :: .int i :: .ref a :: r => ur_rM (f m a i v) (fun m => (pc + 1, ls, r, m))
  | _ => none
/-- a call: x is the method's number, the number of its arguments and whether it answers; 2000 and on: arraycopy; Object.<init> -/
def ur_inv (x pc : Nat) (ls : List (Option Value)) (st : List Value) (m : ur_M) : Option ur_A := bif x == 100000 then (match st with
    | .int n :: .int j :: .ref b :: .int i :: .ref a :: r => ur_rM (ur_cpy m a i b j n) (fun m => (pc + 3, ls, r, m))
    | _ => none)
  else bif x == 100001 then (match st with
    | .ref _ :: r => ur_nx (pc + 3) ls r m
    | _ => none)
  else some (.inr (.inr (.inl (x / 32, (st.take (x / 2 % 16)).reverse, m, fun v m => (pc + 3, ls, bif x % 2 == 0 then st.drop (x / 2 % 16) else .int v :: st.drop (x / 2 % 16), m)))))
def ur_atc (a : ArrayType) : Option Nat := match a with
  | .int => some 0
  | .long => some 1
  | .boolean => some 2
  | .char => some 3
  | _ => none
/-- one instruction: i of length n at pc, x its operand as the tables resolve it, v its constant, sw the targets of a switch, z whether the method answers a boolean -/
def ur_one (z : Bool) (sw : List (Int32 × Nat) × Nat) (i : Instr) (n x : Nat) (v : Int32) (pc : Nat) (ls : List (Option Value)) (st : List Value) (m : ur_M) : Option ur_A := match i with
  | .iconst _ => ur_nx (pc + n) ls (.int v :: st) m
  | .bipush _ => ur_nx (pc + n) ls (.int v :: st) m
  | .sipush _ => ur_nx (pc + n) ls (.int v :: st) m
  | .ldc _ => bif x == 0 then ur_nx (pc + n) ls (.int v :: st) m else ur_nx (pc + n) ls (.ref x :: st) m
  | .ldc_w _ => ur_nx (pc + n) ls (.int v :: st) m
  | .ldc2_w _ => ur_nx (pc + n) ls (.long (Int64.ofNat x) :: st) m
  | .lconst _ => ur_nx (pc + n) ls (.long (Int64.ofNat x) :: st) m
  | .getstatic _ => bif x == 0 then ur_nx (pc + n) ls (.int v :: st) m else ur_nx (pc + n) ls (.ref x :: st) m
  | .iload_n j => ur_ldi j n pc ls st m
  | .iload j => ur_ldi j n pc ls st m
  | .lload_n j => ur_ldl j n pc ls st m
  | .lload j => ur_ldl j n pc ls st m
  | .aload_n j => ur_lda j n pc ls st m
  | .aload j => ur_lda j n pc ls st m
  | .istore_n j => ur_sti j n pc ls st m
  | .istore j => ur_sti j n pc ls st m
  | .lstore_n j => ur_stl j n pc ls st m
  | .lstore j => ur_stl j n pc ls st m
  | .astore_n j => ur_sta j n pc ls st m
  | .astore j => ur_sta j n pc ls st m
  | .iinc j _ => match ur_ld ls j with
    | some (.int a) => bif Nat.blt j ls.length then ur_nx (pc + n) (ur_st1 ls j (.int (a + v))) st m else none
    | _ => none
  | .iadd => ur_bi (fun a b => a + b) pc ls st m
  | .isub => ur_bi (fun a b => a - b) pc ls st m
  | .imul => ur_bi (fun a b => a * b) pc ls st m
  | .iand => ur_bi (fun a b => a &&& b) pc ls st m
  | .ior => ur_bi (fun a b => a ||| b) pc ls st m
  | .ixor => ur_bi (fun a b => a ^^^ b) pc ls st m
  | .ishl => ur_bi (fun a b => a <<< (b &&& 31)) pc ls st m
  | .ishr => ur_bi (fun a b => a >>> (b &&& 31)) pc ls st m
  | .iushr => ur_bi (fun a b => (a.toUInt32 >>> (b.toUInt32 &&& Int32.toUInt32 31)).toInt32) pc ls st m
  | .idiv => match st with
    | .int b :: .int a :: r => ur_rI (bif b == 0 then none else some (a / b)) (fun v => (pc + 1, ls, .int v :: r, m))
    | _ => none
  | .irem => match st with
    | .int b :: .int a :: r => ur_rI (bif b == 0 then none else some (a - a / b * b)) (fun v => (pc + 1, ls, .int v :: r, m))
    | _ => none
  | .ineg => ur_i1 (fun a => .int (-a)) pc ls st m
  | .i2l => ur_i1 (fun a => .long a.toInt64) pc ls st m
  | .i2c => ur_i1 (fun a => .int (a.toUInt32 % 65536).toInt32) pc ls st m
  | .l2i => match st with
    | .long a :: r => ur_nx (pc + 1) ls (.int a.toInt32 :: r) m
    | _ => none
  | .ladd => ur_bl (fun a b => a + b) pc ls st m
  | .lsub => ur_bl (fun a b => a - b) pc ls st m
  | .lmul => ur_bl (fun a b => a * b) pc ls st m
  | .land => ur_bl (fun a b => a &&& b) pc ls st m
  | .lor => ur_bl (fun a b => a ||| b) pc ls st m
  | .ldiv => match st with
    | .long b :: .long a :: r => ur_rL (bif b == 0 then none else some (a / b)) (fun v => (pc + 1, ls, .long v :: r, m))
    | _ => none
  | .lrem => match st with
    | .long b :: .long a :: r => ur_rL (bif b == 0 then none else some (a - a / b * b)) (fun v => (pc + 1, ls, .long v :: r, m))
    | _ => none
  | .lushr => match st with
    | .int b :: .long a :: r => ur_nx (pc + 1) ls (.long (a.toUInt64 >>> (b.toInt64.toUInt64 &&& Int64.toUInt64 63)).toInt64 :: r) m
    | _ => none
  | .lcmp => match st with
    | .long b :: .long a :: r => ur_nx (pc + 1) ls (.int (lg_cmp a b) :: r) m
    | _ => none
  | .dup => match st with
    | .int a :: r => ur_nx (pc + 1) ls (.int a :: .int a :: r) m
    | .ref a :: r => ur_nx (pc + 1) ls (.ref a :: .ref a :: r) m
    | _ => none
  | .dup2 => match st with
    | .int b :: .ref a :: r => ur_nx (pc + 1) ls (.int b :: .ref a :: .int b :: .ref a :: r) m
    | _ => none
  | .pop => match st with
    | .int _ :: r => ur_nx (pc + 1) ls r m
    | .ref _ :: r => ur_nx (pc + 1) ls r m
    | _ => none
  | .goto _ => ur_nx x ls st m
  | .ifCond c _ => ur_if1 c x pc ls st m
  | .if_icmp c _ => ur_if2 c x pc ls st m
  | .tableswitch _ _ _ _ => match st with
    | .int a :: r => some (.inl (sw.1.map (fun q => (decide (a = q.1), (q.2, ls, r, m))), (sw.2, ls, r, m)))
    | _ => none
  | .lookupswitch _ _ => match st with
    | .int a :: r => some (.inl (sw.1.map (fun q => (decide (a = q.1), (q.2, ls, r, m))), (sw.2, ls, r, m)))
    | _ => none
  | .getfield _ => ur_getf x pc ls st m
  | .putfield _ => ur_putf x pc ls st m
  | .iaload => ur_ald (fun m a i => ur_aI m a 0 i) pc ls st m
  | .baload => ur_ald ur_aB pc ls st m
  | .caload => ur_ald (fun m a i => ur_aI m a 3 i) pc ls st m
  | .laload => match st with
    | .int i :: .ref a :: r => ur_rL (ur_aL m a i) (fun v => (pc + 1, ls, .long v :: r, m))
    | _ => none
  | .aaload => match st with
    | .int i :: .ref a :: r => ur_rR (ur_aR m a i) (fun v => (pc + 1, ls, .ref v :: r, m))
    | _ => none
  | .iastore => ur_ast (fun m a i v => ur_wI m a 0 i v) pc ls st m
  | .bastore => ur_ast (fun m a i v => ur_wI m a 2 i (vp_nar .boolean v)) pc ls st m
  | .castore => ur_ast (fun m a i v => ur_wI m a 3 i (vp_nar .char v)) pc ls st m
  | .lastore => match st with
    | .long v :: .int i :: .ref a :: r => ur_rM (ur_wL m a i v) (fun m => (pc + 1, ls, r, m))
    | _ => none
  | .aastore => match st with
    | .ref v :: .int i :: .ref a :: r => ur_rM (ur_wR m a i v) (fun m => (pc + 1, ls, r, m))
    | _ => none
  | .arraylength => match st with
    | .ref a :: r => ur_rI (ur_len m a) (fun v => (pc + 1, ls, .int v :: r, m))
    | _ => none
  | .newarray t => match ur_atc t, st with
    | some t, .int k :: r => ur_rM (ur_nA m t k) (fun m' => (pc + 2, ls, .ref m.1.length :: r, m'))
    | _, _ => none
  | .anewarray _ => match st with
    | .int k :: r => ur_rM (ur_nA m x k) (fun m' => (pc + 3, ls, .ref m.1.length :: r, m'))
    | _ => none
  | .new _ => ur_nx (pc + 3) ls (.ref m.1.length :: st) (ur_nO m x)
  | .invokevirtual _ => ur_inv x pc ls st m
  | .invokestatic _ => ur_inv x pc ls st m
  | .invokespecial _ => ur_inv x pc ls st m
  | .ireturn => match st with
    | [.int a] => some (.inr (.inl (bif !z || (a == 0 || a == 1) then some (a, m) else none)))
    | _ => none
  | .return_ => match st with
    | [] => some (.inr (.inl (some (0, m))))
    | _ => none
  | _ => none
/-- what an act comes to, by a going on and by a calling -/
def ur_do (self : ur_S → Option ur_V) (call : Nat → List Value → ur_M → Option ur_V) (o : Option ur_A) : Option ur_V := match o with
  | none => none
  | some (.inl (bs, s)) => bs.foldr (fun q r => bif q.1 then self q.2 else r) (self s)
  | some (.inr (.inl r)) => r
  | some (.inr (.inr (.inl (y, as, m, f)))) => (call y as m).bind fun r => self (f r.1 r.2)
  | some (.inr (.inr (.inr (.inl (o, f))))) => o.bind fun v => self (f v)
  | some (.inr (.inr (.inr (.inr (.inl (o, f)))))) => o.bind fun v => self (f v)
  | some (.inr (.inr (.inr (.inr (.inr (.inl (o, f))))))) => o.bind fun v => self (f v)
  | some (.inr (.inr (.inr (.inr (.inr (.inr (o, f))))))) => o.bind fun v => self (f v)
def ur_lk : List ur_E → Nat → Option (Instr × Nat × Nat × Int32)
  | [], _ => none
  | e :: r, pc => bif Nat.beq e.1 pc then some e.2 else ur_lk r pc
/-- a method as the machine takes it: its rows, the targets of its switches by pc, its locals, whether it answers a boolean, the class of its receiver (30: none, 20: a text) -/
abbrev ur_P : Type := List ur_E × (Nat → List (Int32 × Nat) × Nat) × Nat × Bool × Nat
def ur_stp (P : ur_P) (s : ur_S) : Option ur_A := match ur_lk P.1 s.1 with
  | some (i, n, x, v) => ur_one P.2.2.2.1 (P.2.1 s.1) i n x v s.1 s.2.1 s.2.2.1 s.2.2.2
  | none => none
def ur_rcv (P : ur_P) (as : List Value) (m : ur_M) : Bool := bif P.2.2.2.2 == 30 then true else match as with
  | .ref a :: _ => bif P.2.2.2.2 == 20 then decide (ur_base ≤ a ∧ a < ur_base + 3) else ur_isO m a P.2.2.2.2
  | _ => false
def ur_ent (P : ur_P) (as : List Value) (m : ur_M) : ur_S := (0, ur_pad P.2.2.1 (ur_slots as), [], m)
def ur_ex (G : Nat → ur_P) : Nat → Nat → Nat → ur_S → Option ur_V
  | 0, _, _, _ => none
  | n + 1, d, k, s => ur_do (ur_ex G n d k) (fun y as m => match d with
    | 0 => none
    | d + 1 => bif ur_rcv (G y) as m && Nat.ble (ur_slots as).length (G y).2.2.1 then ur_ex G n d y (ur_ent (G y) as m) else none) (ur_stp (G k) s)
end
section
/-! RUNS WITHOUT FUEL -/
theorem ur_fold_mono {self self' : ur_S → Option ur_V} (h : ∀ s r, self s = some r → self' s = some r) (bs : List (Bool × ur_S)) (s : ur_S) (r : ur_V) : bs.foldr (fun q r => bif q.1 then self q.2 else r) (self s) = some r → bs.foldr (fun q r => bif q.1 then self' q.2 else r) (self' s) = some r := by
  induction bs with
  | nil => exact h s r
  | cons q bs ih =>
    simp only [List.foldr_cons]
    cases q.1 with
    | true => exact h q.2 r
    | false => exact ih
theorem ur_bind_mono {α : Type} {o o' : Option α} {f f' : α → Option ur_V} {r : ur_V} (ho : ∀ v, o = some v → o' = some v) (hf : ∀ v r, f v = some r → f' v = some r) (h : o.bind f = some r) : o'.bind f' = some r := by
  obtain ⟨v, h1, h2⟩ := Option.bind_eq_some_iff.mp h
  exact Option.bind_eq_some_iff.mpr ⟨v, ho v h1, hf v r h2⟩
theorem ur_do_mono {self self' : ur_S → Option ur_V} {call call' : Nat → List Value → ur_M → Option ur_V} (h : ∀ s r, self s = some r → self' s = some r) (hc : ∀ y as m r, call y as m = some r → call' y as m = some r) (o : Option ur_A) (r : ur_V) : ur_do self call o = some r → ur_do self' call' o = some r := by
  match o with
  | none => exact id
  | some (.inl (bs, s)) => exact ur_fold_mono h bs s r
  | some (.inr (.inl r)) => exact id
  | some (.inr (.inr (.inl (y, as, m, f)))) => exact ur_bind_mono (fun v => hc y as m v) (fun v r => h _ r)
  | some (.inr (.inr (.inr (.inl (o, f))))) => exact ur_bind_mono (fun _ => id) (fun v r => h _ r)
  | some (.inr (.inr (.inr (.inr (.inl (o, f)))))) => exact ur_bind_mono (fun _ => id) (fun v r => h _ r)
  | some (.inr (.inr (.inr (.inr (.inr (.inl (o, f))))))) => exact ur_bind_mono (fun _ => id) (fun v r => h _ r)
  | some (.inr (.inr (.inr (.inr (.inr (.inr (o, f))))))) => exact ur_bind_mono (fun _ => id) (fun v r => h _ r)
/-- the call, by fuel -/
def ur_exc (G : Nat → ur_P) (n d y : Nat) (as : List Value) (m : ur_M) : Option ur_V := match d with
  | 0 => none
  | d + 1 => bif ur_rcv (G y) as m && Nat.ble (ur_slots as).length (G y).2.2.1 then ur_ex G n d y (ur_ent (G y) as m) else none
theorem ur_ex_s (G : Nat → ur_P) (n d k : Nat) (s : ur_S) : ur_ex G (n + 1) d k s = ur_do (ur_ex G n d k) (ur_exc G n d) (ur_stp (G k) s) := by
  show ur_do _ _ _ = _
  congr 1
theorem ur_exc_mono {G : Nat → ur_P} {n n' d y : Nat} {as : List Value} {m : ur_M} {r : ur_V} (h : ∀ d k s r, ur_ex G n d k s = some r → ur_ex G n' d k s = some r) : ur_exc G n d y as m = some r → ur_exc G n' d y as m = some r := by
  cases d with
  | zero => exact id
  | succ d =>
    simp only [ur_exc]
    cases (ur_rcv (G y) as m && Nat.ble (ur_slots as).length (G y).2.2.1) with
    | true => exact h d y _ r
    | false => exact id
theorem ur_ex_mono1 (G : Nat → ur_P) : ∀ n d k s r, ur_ex G n d k s = some r → ur_ex G (n + 1) d k s = some r
  | 0, _, _, _, _, h => by simp [ur_ex] at h
  | n + 1, d, k, s, r, h => by
    rw [ur_ex_s] at h
    rw [ur_ex_s]
    exact ur_do_mono (fun s r => ur_ex_mono1 G n d k s r) (fun y as m r => ur_exc_mono (fun d k s r => ur_ex_mono1 G n d k s r)) _ r h
theorem ur_ex_mono {G : Nat → ur_P} {n n' d k : Nat} {s : ur_S} {r : ur_V} (hn : n ≤ n') (h : ur_ex G n d k s = some r) : ur_ex G n' d k s = some r := by
  induction hn with
  | refl => exact h
  | step _ ih => exact ur_ex_mono1 G _ d k s r ih
theorem ur_ex_dmono (G : Nat → ur_P) : ∀ n d k s r, ur_ex G n d k s = some r → ur_ex G n (d + 1) k s = some r
  | 0, _, _, _, _, h => by simp [ur_ex] at h
  | n + 1, d, k, s, r, h => by
    rw [ur_ex_s] at h
    rw [ur_ex_s]
    refine ur_do_mono (fun s r => ur_ex_dmono G n d k s r) (fun y as m r => ?_) _ r h
    cases d with
    | zero => intro h; simp [ur_exc] at h
    | succ d =>
      simp only [ur_exc]
      cases (ur_rcv (G y) as m && Nat.ble (ur_slots as).length (G y).2.2.1) with
      | true => exact ur_ex_dmono G n d y _ r
      | false => exact id
theorem ur_det {G : Nat → ur_P} {n n' d k : Nat} {s : ur_S} {r r' : ur_V} (h : ur_ex G n d k s = some r) (h' : ur_ex G n' d k s = some r') : r = r' := by
  have a := ur_ex_mono (Nat.le_max_left n n') h
  have b := ur_ex_mono (Nat.le_max_right n n') h'
  rw [a] at b
  exact Option.some.inj b
noncomputable def ur_at (G : Nat → ur_P) (d k : Nat) (s : ur_S) : Option ur_V := @dite _ (∃ r n, ur_ex G n d k s = some r) (Classical.propDecidable _) (fun h => some (Classical.choose h)) (fun _ => none)
theorem ur_at_iff {G : Nat → ur_P} {d k : Nat} {s : ur_S} {r : ur_V} : ur_at G d k s = some r ↔ ∃ n, ur_ex G n d k s = some r := by
  unfold ur_at
  constructor
  · intro h
    split at h
    next he =>
      have := Classical.choose_spec he
      rw [Option.some.inj h] at this
      exact this
    next => cases h
  · intro h
    split
    next he =>
      obtain ⟨n, hn⟩ := Classical.choose_spec he
      obtain ⟨n', hn'⟩ := h
      rw [ur_det hn hn']
    next he => exact absurd ⟨r, h⟩ he
noncomputable def ur_call (G : Nat → ur_P) (d y : Nat) (as : List Value) (m : ur_M) : Option ur_V := match d with
  | 0 => none
  | d + 1 => bif ur_rcv (G y) as m && Nat.ble (ur_slots as).length (G y).2.2.1 then ur_at G d y (ur_ent (G y) as m) else none
theorem ur_call_iff {G : Nat → ur_P} {d y : Nat} {as : List Value} {m : ur_M} {r : ur_V} : ur_call G d y as m = some r ↔ ∃ n, ur_exc G n d y as m = some r := by
  cases d with
  | zero => simp [ur_call, ur_exc]
  | succ d =>
    simp only [ur_call, ur_exc]
    cases (ur_rcv (G y) as m && Nat.ble (ur_slots as).length (G y).2.2.1) with
    | true => exact ur_at_iff
    | false => simp
theorem ur_do_some {G : Nat → ur_P} {d k : Nat} {r : ur_V} (o : Option ur_A) (h : ur_do (ur_at G d k) (ur_call G d) o = some r) : ∃ n, ur_do (ur_ex G n d k) (ur_exc G n d) o = some r := by
  match o, h with
  | some (.inl (bs, s)), h =>
    revert h
    show bs.foldr (fun q r => bif q.1 then ur_at G d k q.2 else r) (ur_at G d k s) = some r → ∃ n, bs.foldr (fun q r => bif q.1 then ur_ex G n d k q.2 else r) (ur_ex G n d k s) = some r
    induction bs with
    | nil => exact fun h => ur_at_iff.mp h
    | cons q bs ih =>
      simp only [List.foldr_cons]
      cases q.1 with
      | true => exact fun h => ur_at_iff.mp h
      | false => exact ih
  | some (.inr (.inl x)), h => exact ⟨0, h⟩
  | some (.inr (.inr (.inl (y, as, m, f)))), h =>
    obtain ⟨v, h1, h2⟩ := Option.bind_eq_some_iff.mp h
    obtain ⟨n1, h1⟩ := ur_call_iff.mp h1
    obtain ⟨n2, h2⟩ := ur_at_iff.mp h2
    refine ⟨max n1 n2, Option.bind_eq_some_iff.mpr ⟨v, ?_, ur_ex_mono (Nat.le_max_right n1 n2) h2⟩⟩
    exact ur_exc_mono (fun d k s r h => ur_ex_mono (Nat.le_max_left n1 n2) h) h1
  | some (.inr (.inr (.inr (.inl (o, f))))), h =>
    obtain ⟨v, h1, h2⟩ := Option.bind_eq_some_iff.mp h
    obtain ⟨n2, h2⟩ := ur_at_iff.mp h2
    exact ⟨n2, Option.bind_eq_some_iff.mpr ⟨v, h1, h2⟩⟩
  | some (.inr (.inr (.inr (.inr (.inl (o, f)))))), h =>
    obtain ⟨v, h1, h2⟩ := Option.bind_eq_some_iff.mp h
    obtain ⟨n2, h2⟩ := ur_at_iff.mp h2
    exact ⟨n2, Option.bind_eq_some_iff.mpr ⟨v, h1, h2⟩⟩
  | some (.inr (.inr (.inr (.inr (.inr (.inl (o, f))))))), h =>
    obtain ⟨v, h1, h2⟩ := Option.bind_eq_some_iff.mp h
    obtain ⟨n2, h2⟩ := ur_at_iff.mp h2
    exact ⟨n2, Option.bind_eq_some_iff.mpr ⟨v, h1, h2⟩⟩
  | some (.inr (.inr (.inr (.inr (.inr (.inr (o, f))))))), h =>
    obtain ⟨v, h1, h2⟩ := Option.bind_eq_some_iff.mp h
    obtain ⟨n2, h2⟩ := ur_at_iff.mp h2
    exact ⟨n2, Option.bind_eq_some_iff.mpr ⟨v, h1, h2⟩⟩
theorem ur_at_eq (G : Nat → ur_P) (d k : Nat) (s : ur_S) : ur_at G d k s = ur_do (ur_at G d k) (ur_call G d) (ur_stp (G k) s) := by
  apply Option.ext
  intro r
  constructor
  · intro h
    obtain ⟨n, hn⟩ := ur_at_iff.mp h
    cases n with
    | zero => simp [ur_ex] at hn
    | succ n =>
      rw [ur_ex_s] at hn
      exact ur_do_mono (fun s r h => ur_at_iff.mpr ⟨n, h⟩) (fun y as m r h => ur_call_iff.mpr ⟨n, h⟩) _ r hn
  · intro h
    obtain ⟨n, hn⟩ := ur_do_some _ h
    exact ur_at_iff.mpr ⟨n + 1, by rw [ur_ex_s]; exact hn⟩
/-- steps on and on, up to N of them, up to a place where one stops -/
noncomputable def ur_bk (G : Nat → ur_P) (stop : Nat → Bool) (d k : Nat) : Nat → ur_S → Option ur_V
  | 0, s => ur_at G d k s
  | N + 1, s => bif stop s.1 then ur_at G d k s else ur_do (ur_bk G stop d k N) (ur_call G d) (ur_stp (G k) s)
theorem ur_bk_at (G : Nat → ur_P) (stop : Nat → Bool) (d k : Nat) : ∀ N, ur_bk G stop d k N = ur_at G d k
  | 0 => rfl
  | N + 1 => by
    funext s
    simp only [ur_bk]
    rw [ur_bk_at G stop d k N, ← ur_at_eq]
    cases stop s.1 <;> rfl
theorem ur_go (G : Nat → ur_P) (stop : Nat → Bool) (N d k : Nat) (s : ur_S) : ur_at G d k s = ur_do (ur_bk G stop d k N) (ur_call G d) (ur_stp (G k) s) := by
  rw [ur_bk_at]
  exact ur_at_eq G d k s
theorem ur_at_dmono {G : Nat → ur_P} {d k : Nat} {s : ur_S} {r : ur_V} (h : ur_at G d k s = some r) : ur_at G (d + 1) k s = some r := by
  obtain ⟨n, hn⟩ := ur_at_iff.mp h
  exact ur_at_iff.mpr ⟨n, ur_ex_dmono G n d k s r hn⟩
theorem ur_call_s (G : Nat → ur_P) (d y : Nat) (as : List Value) (m : ur_M) (h1 : ur_rcv (G y) as m = true) (h2 : Nat.ble (ur_slots as).length (G y).2.2.1 = true) : ur_call G (d + 1) y as m = ur_at G d y (ur_ent (G y) as m) := by
  simp only [ur_call, h1, h2]
  rfl
end
