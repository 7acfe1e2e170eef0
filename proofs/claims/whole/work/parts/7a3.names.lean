-- ===== PART A: goes FIRST, ahead of the names: the tables' words, and 'selects' of the private methods out of them =====
/-- a private method of a class that the tables say can be made, by its rows of tables_1 -/
def lw_okq (q : MethodName × Nat) : Prop := (q.1.cls ≠ "java/lang/invoke/MethodHandle" ∧ q.1.cls ≠ "java/lang/invoke/VarHandle") ∧ Cond.instantiable q.1.cls q.2 ∈ tables_1 ∧ Cond.privateMethod q.1 ∈ tables_1 ∧ Cond.instanceMethod q.1 ∈ tables_1
theorem lw_p0 : lw_okq (⟨"StewardHeaps", "refuses", "(IZ)Z"⟩, 13) := ⟨⟨by decide +kernel, by decide +kernel⟩, List.mem_of_getElem? (i := 25) (by decide +kernel), List.mem_of_getElem? (i := 373) (by decide +kernel), List.mem_of_getElem? (i := 374) (by decide +kernel)⟩
theorem lw_p1 : lw_okq (⟨"StewardHeaps$Reade\x72", "readLine", "()Z"⟩, 7) := ⟨⟨by decide +kernel, by decide +kernel⟩, List.mem_of_getElem? (i := 33) (by decide +kernel), List.mem_of_getElem? (i := 407) (by decide +kernel), List.mem_of_getElem? (i := 408) (by decide +kernel)⟩
theorem lw_p2 : lw_okq (⟨"StewardHeaps$Reade\x72", "readStore", "()Z"⟩, 7) := ⟨⟨by decide +kernel, by decide +kernel⟩, List.mem_of_getElem? (i := 33) (by decide +kernel), List.mem_of_getElem? (i := 464) (by decide +kernel), List.mem_of_getElem? (i := 465) (by decide +kernel)⟩
theorem lw_p3 : lw_okq (⟨"StewardHeaps$Reade\x72", "readWord", "(Ljava/lang/String;)Z"⟩, 7) := ⟨⟨by decide +kernel, by decide +kernel⟩, List.mem_of_getElem? (i := 33) (by decide +kernel), List.mem_of_getElem? (i := 470) (by decide +kernel), List.mem_of_getElem? (i := 471) (by decide +kernel)⟩
theorem lw_p4 : lw_okq (⟨"StewardHeaps$Reade\x72", "fail", "(I)Z"⟩, 7) := ⟨⟨by decide +kernel, by decide +kernel⟩, List.mem_of_getElem? (i := 33) (by decide +kernel), List.mem_of_getElem? (i := 474) (by decide +kernel), List.mem_of_getElem? (i := 475) (by decide +kernel)⟩
theorem lw_p5 : lw_okq (⟨"StewardHeaps$Reade\x72", "readWhole", "(II)Z"⟩, 7) := ⟨⟨by decide +kernel, by decide +kernel⟩, List.mem_of_getElem? (i := 33) (by decide +kernel), List.mem_of_getElem? (i := 478) (by decide +kernel), List.mem_of_getElem? (i := 479) (by decide +kernel)⟩
theorem lw_p6 : lw_okq (⟨"StewardHeaps$Reade\x72", "opensLine", "(Z)Z"⟩, 7) := ⟨⟨by decide +kernel, by decide +kernel⟩, List.mem_of_getElem? (i := 33) (by decide +kernel), List.mem_of_getElem? (i := 488) (by decide +kernel), List.mem_of_getElem? (i := 489) (by decide +kernel)⟩
theorem lw_p7 : lw_okq (⟨"StewardHeaps$Reade\x72", "readCella\x72", "()Z"⟩, 7) := ⟨⟨by decide +kernel, by decide +kernel⟩, List.mem_of_getElem? (i := 33) (by decide +kernel), List.mem_of_getElem? (i := 492) (by decide +kernel), List.mem_of_getElem? (i := 493) (by decide +kernel)⟩
theorem lw_p8 : lw_okq (⟨"StewardHeaps$Reade\x72", "isName", "()Z"⟩, 7) := ⟨⟨by decide +kernel, by decide +kernel⟩, List.mem_of_getElem? (i := 33) (by decide +kernel), List.mem_of_getElem? (i := 496) (by decide +kernel), List.mem_of_getElem? (i := 497) (by decide +kernel)⟩
theorem lw_p9 : lw_okq (⟨"StewardHeaps$Reade\x72", "findNamed", "()I"⟩, 7) := ⟨⟨by decide +kernel, by decide +kernel⟩, List.mem_of_getElem? (i := 33) (by decide +kernel), List.mem_of_getElem? (i := 502) (by decide +kernel), List.mem_of_getElem? (i := 503) (by decide +kernel)⟩
theorem lw_p10 : lw_okq (⟨"StewardHeaps$Reade\x72", "lawHere", "()I"⟩, 7) := ⟨⟨by decide +kernel, by decide +kernel⟩, List.mem_of_getElem? (i := 33) (by decide +kernel), List.mem_of_getElem? (i := 514) (by decide +kernel), List.mem_of_getElem? (i := 515) (by decide +kernel)⟩
theorem lw_p11 : lw_okq (⟨"StewardHeaps$Reade\x72", "readHeaps", "(LStewardHeaps$Heaps;)Z"⟩, 7) := ⟨⟨by decide +kernel, by decide +kernel⟩, List.mem_of_getElem? (i := 33) (by decide +kernel), List.mem_of_getElem? (i := 522) (by decide +kernel), List.mem_of_getElem? (i := 523) (by decide +kernel)⟩
theorem lw_p12 : lw_okq (⟨"StewardHeaps$Reade\x72", "readUnsure", "()Z"⟩, 7) := ⟨⟨by decide +kernel, by decide +kernel⟩, List.mem_of_getElem? (i := 33) (by decide +kernel), List.mem_of_getElem? (i := 534) (by decide +kernel), List.mem_of_getElem? (i := 535) (by decide +kernel)⟩
theorem lw_p13 : lw_okq (⟨"StewardHeaps$Reade\x72", "readNamed", "()Z"⟩, 7) := ⟨⟨by decide +kernel, by decide +kernel⟩, List.mem_of_getElem? (i := 33) (by decide +kernel), List.mem_of_getElem? (i := 538) (by decide +kernel), List.mem_of_getElem? (i := 539) (by decide +kernel)⟩
theorem lw_p14 : lw_okq (⟨"StewardHeaps$Reade\x72", "readSeen", "()Z"⟩, 7) := ⟨⟨by decide +kernel, by decide +kernel⟩, List.mem_of_getElem? (i := 33) (by decide +kernel), List.mem_of_getElem? (i := 546) (by decide +kernel), List.mem_of_getElem? (i := 547) (by decide +kernel)⟩
theorem lw_p15 : lw_okq (⟨"StewardHeaps$Guesses", "isSo", "(LStewardHeaps$Told;IILStewardHeaps$Walk;)Z"⟩, 6) := ⟨⟨by decide +kernel, by decide +kernel⟩, List.mem_of_getElem? (i := 234) (by decide +kernel), List.mem_of_getElem? (i := 580) (by decide +kernel), List.mem_of_getElem? (i := 581) (by decide +kernel)⟩
def lw_privs_1 : List (MethodName × Nat) := [(⟨"StewardHeaps", "refuses", "(IZ)Z"⟩, 13), (⟨"StewardHeaps$Reade\x72", "readLine", "()Z"⟩, 7), (⟨"StewardHeaps$Reade\x72", "readStore", "()Z"⟩, 7), (⟨"StewardHeaps$Reade\x72", "readWord", "(Ljava/lang/String;)Z"⟩, 7), (⟨"StewardHeaps$Reade\x72", "fail", "(I)Z"⟩, 7), (⟨"StewardHeaps$Reade\x72", "readWhole", "(II)Z"⟩, 7), (⟨"StewardHeaps$Reade\x72", "opensLine", "(Z)Z"⟩, 7), (⟨"StewardHeaps$Reade\x72", "readCella\x72", "()Z"⟩, 7), (⟨"StewardHeaps$Reade\x72", "isName", "()Z"⟩, 7), (⟨"StewardHeaps$Reade\x72", "findNamed", "()I"⟩, 7), (⟨"StewardHeaps$Reade\x72", "lawHere", "()I"⟩, 7), (⟨"StewardHeaps$Reade\x72", "readHeaps", "(LStewardHeaps$Heaps;)Z"⟩, 7), (⟨"StewardHeaps$Reade\x72", "readUnsure", "()Z"⟩, 7), (⟨"StewardHeaps$Reade\x72", "readNamed", "()Z"⟩, 7), (⟨"StewardHeaps$Reade\x72", "readSeen", "()Z"⟩, 7), (⟨"StewardHeaps$Guesses", "isSo", "(LStewardHeaps$Told;IILStewardHeaps$Walk;)Z"⟩, 6)]
theorem lw_r1 : ∀ q ∈ lw_privs_1, lw_okq q := List.forall_mem_cons.mpr ⟨lw_p0, List.forall_mem_cons.mpr ⟨lw_p1, List.forall_mem_cons.mpr ⟨lw_p2, List.forall_mem_cons.mpr ⟨lw_p3, List.forall_mem_cons.mpr ⟨lw_p4, List.forall_mem_cons.mpr ⟨lw_p5, List.forall_mem_cons.mpr ⟨lw_p6, List.forall_mem_cons.mpr ⟨lw_p7, List.forall_mem_cons.mpr ⟨lw_p8, List.forall_mem_cons.mpr ⟨lw_p9, List.forall_mem_cons.mpr ⟨lw_p10, List.forall_mem_cons.mpr ⟨lw_p11, List.forall_mem_cons.mpr ⟨lw_p12, List.forall_mem_cons.mpr ⟨lw_p13, List.forall_mem_cons.mpr ⟨lw_p14, List.forall_mem_cons.mpr ⟨lw_p15, fun _ h => absurd h List.not_mem_nil⟩⟩⟩⟩⟩⟩⟩⟩⟩⟩⟩⟩⟩⟩⟩⟩
theorem lw_p16 : lw_okq (⟨"StewardHeaps$Heaps", "takeOfEach", "()I"⟩, 3) := ⟨⟨by decide +kernel, by decide +kernel⟩, List.mem_of_getElem? (i := 82) (by decide +kernel), List.mem_of_getElem? (i := 603) (by decide +kernel), List.mem_of_getElem? (i := 604) (by decide +kernel)⟩
theorem lw_p17 : lw_okq (⟨"StewardHeaps$Heaps", "takeOfEachHeight", "()I"⟩, 3) := ⟨⟨by decide +kernel, by decide +kernel⟩, List.mem_of_getElem? (i := 82) (by decide +kernel), List.mem_of_getElem? (i := 608) (by decide +kernel), List.mem_of_getElem? (i := 609) (by decide +kernel)⟩
theorem lw_p18 : lw_okq (⟨"StewardHeaps$Heaps", "give", "(I)V"⟩, 3) := ⟨⟨by decide +kernel, by decide +kernel⟩, List.mem_of_getElem? (i := 82) (by decide +kernel), List.mem_of_getElem? (i := 616) (by decide +kernel), List.mem_of_getElem? (i := 617) (by decide +kernel)⟩
theorem lw_p19 : lw_okq (⟨"StewardHeaps$Guesses", "note", "(IIZZ)V"⟩, 6) := ⟨⟨by decide +kernel, by decide +kernel⟩, List.mem_of_getElem? (i := 234) (by decide +kernel), List.mem_of_getElem? (i := 629) (by decide +kernel), List.mem_of_getElem? (i := 630) (by decide +kernel)⟩
theorem lw_p20 : lw_okq (⟨"StewardHeaps$Guesses", "mayBe", "(II)Z"⟩, 6) := ⟨⟨by decide +kernel, by decide +kernel⟩, List.mem_of_getElem? (i := 234) (by decide +kernel), List.mem_of_getElem? (i := 633) (by decide +kernel), List.mem_of_getElem? (i := 634) (by decide +kernel)⟩
theorem lw_p21 : lw_okq (⟨"StewardHeaps", "hasCella\x72", "(I)Z"⟩, 13) := ⟨⟨by decide +kernel, by decide +kernel⟩, List.mem_of_getElem? (i := 25) (by decide +kernel), List.mem_of_getElem? (i := 649) (by decide +kernel), List.mem_of_getElem? (i := 650) (by decide +kernel)⟩
theorem lw_p22 : lw_okq (⟨"StewardHeaps", "hasHeap", "(II)Z"⟩, 13) := ⟨⟨by decide +kernel, by decide +kernel⟩, List.mem_of_getElem? (i := 25) (by decide +kernel), List.mem_of_getElem? (i := 666) (by decide +kernel), List.mem_of_getElem? (i := 667) (by decide +kernel)⟩
theorem lw_p23 : lw_okq (⟨"StewardHeaps", "refusesCella\x72", "(I)Z"⟩, 13) := ⟨⟨by decide +kernel, by decide +kernel⟩, List.mem_of_getElem? (i := 25) (by decide +kernel), List.mem_of_getElem? (i := 674) (by decide +kernel), List.mem_of_getElem? (i := 675) (by decide +kernel)⟩
theorem lw_p24 : lw_okq (⟨"StewardHeaps", "staysSame", "(I)Z"⟩, 13) := ⟨⟨by decide +kernel, by decide +kernel⟩, List.mem_of_getElem? (i := 25) (by decide +kernel), List.mem_of_getElem? (i := 678) (by decide +kernel), List.mem_of_getElem? (i := 679) (by decide +kernel)⟩
theorem lw_p25 : lw_okq (⟨"StewardHeaps", "begin", "(LStewardHeaps$Walk;I)V"⟩, 13) := ⟨⟨by decide +kernel, by decide +kernel⟩, List.mem_of_getElem? (i := 25) (by decide +kernel), List.mem_of_getElem? (i := 682) (by decide +kernel), List.mem_of_getElem? (i := 683) (by decide +kernel)⟩
theorem lw_p26 : lw_okq (⟨"StewardHeaps", "refusesNumbe\x72", "(II)Z"⟩, 13) := ⟨⟨by decide +kernel, by decide +kernel⟩, List.mem_of_getElem? (i := 25) (by decide +kernel), List.mem_of_getElem? (i := 692) (by decide +kernel), List.mem_of_getElem? (i := 693) (by decide +kernel)⟩
theorem lw_p27 : lw_okq (⟨"StewardHeaps", "behind", "(II)LStewardHeaps$Heaps;"⟩, 13) := ⟨⟨by decide +kernel, by decide +kernel⟩, List.mem_of_getElem? (i := 25) (by decide +kernel), List.mem_of_getElem? (i := 696) (by decide +kernel), List.mem_of_getElem? (i := 697) (by decide +kernel)⟩
theorem lw_p28 : lw_okq (⟨"StewardHeaps", "roundLength", "(I)I"⟩, 13) := ⟨⟨by decide +kernel, by decide +kernel⟩, List.mem_of_getElem? (i := 25) (by decide +kernel), List.mem_of_getElem? (i := 717) (by decide +kernel), List.mem_of_getElem? (i := 718) (by decide +kernel)⟩
theorem lw_p29 : lw_okq (⟨"StewardHeaps", "firstOfRound", "(II)I"⟩, 13) := ⟨⟨by decide +kernel, by decide +kernel⟩, List.mem_of_getElem? (i := 25) (by decide +kernel), List.mem_of_getElem? (i := 725) (by decide +kernel), List.mem_of_getElem? (i := 726) (by decide +kernel)⟩
theorem lw_p30 : lw_okq (⟨"StewardHeaps$Shapes", "countPrimes", "(II)V"⟩, 1) := ⟨⟨by decide +kernel, by decide +kernel⟩, List.mem_of_getElem? (i := 294) (by decide +kernel), List.mem_of_getElem? (i := 792) (by decide +kernel), List.mem_of_getElem? (i := 793) (by decide +kernel)⟩
theorem lw_p31 : lw_okq (⟨"StewardHeaps", "refusesStore", "()Z"⟩, 13) := ⟨⟨by decide +kernel, by decide +kernel⟩, List.mem_of_getElem? (i := 25) (by decide +kernel), List.mem_of_getElem? (i := 836) (by decide +kernel), List.mem_of_getElem? (i := 837) (by decide +kernel)⟩
def lw_privs_2 : List (MethodName × Nat) := [(⟨"StewardHeaps$Heaps", "takeOfEach", "()I"⟩, 3), (⟨"StewardHeaps$Heaps", "takeOfEachHeight", "()I"⟩, 3), (⟨"StewardHeaps$Heaps", "give", "(I)V"⟩, 3), (⟨"StewardHeaps$Guesses", "note", "(IIZZ)V"⟩, 6), (⟨"StewardHeaps$Guesses", "mayBe", "(II)Z"⟩, 6), (⟨"StewardHeaps", "hasCella\x72", "(I)Z"⟩, 13), (⟨"StewardHeaps", "hasHeap", "(II)Z"⟩, 13), (⟨"StewardHeaps", "refusesCella\x72", "(I)Z"⟩, 13), (⟨"StewardHeaps", "staysSame", "(I)Z"⟩, 13), (⟨"StewardHeaps", "begin", "(LStewardHeaps$Walk;I)V"⟩, 13), (⟨"StewardHeaps", "refusesNumbe\x72", "(II)Z"⟩, 13), (⟨"StewardHeaps", "behind", "(II)LStewardHeaps$Heaps;"⟩, 13), (⟨"StewardHeaps", "roundLength", "(I)I"⟩, 13), (⟨"StewardHeaps", "firstOfRound", "(II)I"⟩, 13), (⟨"StewardHeaps$Shapes", "countPrimes", "(II)V"⟩, 1), (⟨"StewardHeaps", "refusesStore", "()Z"⟩, 13)]
theorem lw_r2 : ∀ q ∈ lw_privs_2, lw_okq q := List.forall_mem_cons.mpr ⟨lw_p16, List.forall_mem_cons.mpr ⟨lw_p17, List.forall_mem_cons.mpr ⟨lw_p18, List.forall_mem_cons.mpr ⟨lw_p19, List.forall_mem_cons.mpr ⟨lw_p20, List.forall_mem_cons.mpr ⟨lw_p21, List.forall_mem_cons.mpr ⟨lw_p22, List.forall_mem_cons.mpr ⟨lw_p23, List.forall_mem_cons.mpr ⟨lw_p24, List.forall_mem_cons.mpr ⟨lw_p25, List.forall_mem_cons.mpr ⟨lw_p26, List.forall_mem_cons.mpr ⟨lw_p27, List.forall_mem_cons.mpr ⟨lw_p28, List.forall_mem_cons.mpr ⟨lw_p29, List.forall_mem_cons.mpr ⟨lw_p30, List.forall_mem_cons.mpr ⟨lw_p31, fun _ h => absurd h List.not_mem_nil⟩⟩⟩⟩⟩⟩⟩⟩⟩⟩⟩⟩⟩⟩⟩⟩
theorem lw_p32 : lw_okq (⟨"StewardHeaps", "hasStore", "()Z"⟩, 13) := ⟨⟨by decide +kernel, by decide +kernel⟩, List.mem_of_getElem? (i := 25) (by decide +kernel), List.mem_of_getElem? (i := 840) (by decide +kernel), List.mem_of_getElem? (i := 841) (by decide +kernel)⟩
theorem lw_p33 : lw_okq (⟨"StewardHeaps$Sums", "clearRow", "(I)V"⟩, 2) := ⟨⟨by decide +kernel, by decide +kernel⟩, List.mem_of_getElem? (i := 304) (by decide +kernel), List.mem_of_getElem? (i := 848) (by decide +kernel), List.mem_of_getElem? (i := 849) (by decide +kernel)⟩
theorem lw_p34 : lw_okq (⟨"StewardHeaps$Sums", "rowAt", "(I)I"⟩, 2) := ⟨⟨by decide +kernel, by decide +kernel⟩, List.mem_of_getElem? (i := 304) (by decide +kernel), List.mem_of_getElem? (i := 852) (by decide +kernel), List.mem_of_getElem? (i := 853) (by decide +kernel)⟩
theorem lw_p35 : lw_okq (⟨"StewardHeaps$Sums", "fillFewest", "(LStewardHeaps$Heaps;)V"⟩, 2) := ⟨⟨by decide +kernel, by decide +kernel⟩, List.mem_of_getElem? (i := 304) (by decide +kernel), List.mem_of_getElem? (i := 919) (by decide +kernel), List.mem_of_getElem? (i := 920) (by decide +kernel)⟩
theorem lw_p36 : lw_okq (⟨"java/lang/Throwable", "fillInStackTrace", "(I)Ljava/lang/Throwable;"⟩, 6) := ⟨⟨by decide +kernel, by decide +kernel⟩, List.mem_of_getElem? (i := 1142) (by decide +kernel), List.mem_of_getElem? (i := 1140) (by decide +kernel), List.mem_of_getElem? (i := 1141) (by decide +kernel)⟩
theorem lw_p37 : lw_okq (⟨"StewardHeapsModel", "anew", "()V"⟩, 42) := ⟨⟨by decide +kernel, by decide +kernel⟩, List.mem_of_getElem? (i := 1167) (by decide +kernel), List.mem_of_getElem? (i := 1312) (by decide +kernel), List.mem_of_getElem? (i := 1313) (by decide +kernel)⟩
theorem lw_p38 : lw_okq (⟨"StewardHeapsModel", "no", "(I)I"⟩, 42) := ⟨⟨by decide +kernel, by decide +kernel⟩, List.mem_of_getElem? (i := 1167) (by decide +kernel), List.mem_of_getElem? (i := 1319) (by decide +kernel), List.mem_of_getElem? (i := 1320) (by decide +kernel)⟩
theorem lw_p39 : lw_okq (⟨"StewardHeapsModel", "next", "()V"⟩, 42) := ⟨⟨by decide +kernel, by decide +kernel⟩, List.mem_of_getElem? (i := 1167) (by decide +kernel), List.mem_of_getElem? (i := 1323) (by decide +kernel), List.mem_of_getElem? (i := 1324) (by decide +kernel)⟩
theorem lw_p40 : lw_okq (⟨"StewardHeapsModel", "see", "(I)I"⟩, 42) := ⟨⟨by decide +kernel, by decide +kernel⟩, List.mem_of_getElem? (i := 1167) (by decide +kernel), List.mem_of_getElem? (i := 1327) (by decide +kernel), List.mem_of_getElem? (i := 1328) (by decide +kernel)⟩
theorem lw_p41 : lw_okq (⟨"StewardHeapsModel", "readLine", "()V"⟩, 42) := ⟨⟨by decide +kernel, by decide +kernel⟩, List.mem_of_getElem? (i := 1167) (by decide +kernel), List.mem_of_getElem? (i := 1337) (by decide +kernel), List.mem_of_getElem? (i := 1338) (by decide +kernel)⟩
theorem lw_p42 : lw_okq (⟨"StewardHeapsModel", "isWord", "(Ljava/lang/String;)Z"⟩, 42) := ⟨⟨by decide +kernel, by decide +kernel⟩, List.mem_of_getElem? (i := 1167) (by decide +kernel), List.mem_of_getElem? (i := 1342) (by decide +kernel), List.mem_of_getElem? (i := 1343) (by decide +kernel)⟩
theorem lw_p43 : lw_okq (⟨"StewardHeapsModel", "storeLine", "()V"⟩, 42) := ⟨⟨by decide +kernel, by decide +kernel⟩, List.mem_of_getElem? (i := 1167) (by decide +kernel), List.mem_of_getElem? (i := 1348) (by decide +kernel), List.mem_of_getElem? (i := 1349) (by decide +kernel)⟩
theorem lw_p44 : lw_okq (⟨"StewardHeapsModel", "wrong", "(II)V"⟩, 42) := ⟨⟨by decide +kernel, by decide +kernel⟩, List.mem_of_getElem? (i := 1167) (by decide +kernel), List.mem_of_getElem? (i := 1352) (by decide +kernel), List.mem_of_getElem? (i := 1353) (by decide +kernel)⟩
theorem lw_p45 : lw_okq (⟨"StewardHeapsModel", "afte\x72", "(Ljava/lang/String;II)I"⟩, 42) := ⟨⟨by decide +kernel, by decide +kernel⟩, List.mem_of_getElem? (i := 1167) (by decide +kernel), List.mem_of_getElem? (i := 1357) (by decide +kernel), List.mem_of_getElem? (i := 1358) (by decide +kernel)⟩
theorem lw_p46 : lw_okq (⟨"StewardHeapsModel", "must", "(Ljava/lang/String;)V"⟩, 42) := ⟨⟨by decide +kernel, by decide +kernel⟩, List.mem_of_getElem? (i := 1167) (by decide +kernel), List.mem_of_getElem? (i := 1361) (by decide +kernel), List.mem_of_getElem? (i := 1362) (by decide +kernel)⟩
theorem lw_p47 : lw_okq (⟨"StewardHeapsModel", "takesWord", "(Ljava/lang/String;)Z"⟩, 42) := ⟨⟨by decide +kernel, by decide +kernel⟩, List.mem_of_getElem? (i := 1167) (by decide +kernel), List.mem_of_getElem? (i := 1365) (by decide +kernel), List.mem_of_getElem? (i := 1366) (by decide +kernel)⟩
def lw_privs_3 : List (MethodName × Nat) := [(⟨"StewardHeaps", "hasStore", "()Z"⟩, 13), (⟨"StewardHeaps$Sums", "clearRow", "(I)V"⟩, 2), (⟨"StewardHeaps$Sums", "rowAt", "(I)I"⟩, 2), (⟨"StewardHeaps$Sums", "fillFewest", "(LStewardHeaps$Heaps;)V"⟩, 2), (⟨"java/lang/Throwable", "fillInStackTrace", "(I)Ljava/lang/Throwable;"⟩, 6), (⟨"StewardHeapsModel", "anew", "()V"⟩, 42), (⟨"StewardHeapsModel", "no", "(I)I"⟩, 42), (⟨"StewardHeapsModel", "next", "()V"⟩, 42), (⟨"StewardHeapsModel", "see", "(I)I"⟩, 42), (⟨"StewardHeapsModel", "readLine", "()V"⟩, 42), (⟨"StewardHeapsModel", "isWord", "(Ljava/lang/String;)Z"⟩, 42), (⟨"StewardHeapsModel", "storeLine", "()V"⟩, 42), (⟨"StewardHeapsModel", "wrong", "(II)V"⟩, 42), (⟨"StewardHeapsModel", "afte\x72", "(Ljava/lang/String;II)I"⟩, 42), (⟨"StewardHeapsModel", "must", "(Ljava/lang/String;)V"⟩, 42), (⟨"StewardHeapsModel", "takesWord", "(Ljava/lang/String;)Z"⟩, 42)]
theorem lw_r3 : ∀ q ∈ lw_privs_3, lw_okq q := List.forall_mem_cons.mpr ⟨lw_p32, List.forall_mem_cons.mpr ⟨lw_p33, List.forall_mem_cons.mpr ⟨lw_p34, List.forall_mem_cons.mpr ⟨lw_p35, List.forall_mem_cons.mpr ⟨lw_p36, List.forall_mem_cons.mpr ⟨lw_p37, List.forall_mem_cons.mpr ⟨lw_p38, List.forall_mem_cons.mpr ⟨lw_p39, List.forall_mem_cons.mpr ⟨lw_p40, List.forall_mem_cons.mpr ⟨lw_p41, List.forall_mem_cons.mpr ⟨lw_p42, List.forall_mem_cons.mpr ⟨lw_p43, List.forall_mem_cons.mpr ⟨lw_p44, List.forall_mem_cons.mpr ⟨lw_p45, List.forall_mem_cons.mpr ⟨lw_p46, List.forall_mem_cons.mpr ⟨lw_p47, fun _ h => absurd h List.not_mem_nil⟩⟩⟩⟩⟩⟩⟩⟩⟩⟩⟩⟩⟩⟩⟩⟩
theorem lw_p48 : lw_okq (⟨"StewardHeapsModel", "numbe\x72", "(II)I"⟩, 42) := ⟨⟨by decide +kernel, by decide +kernel⟩, List.mem_of_getElem? (i := 1167) (by decide +kernel), List.mem_of_getElem? (i := 1369) (by decide +kernel), List.mem_of_getElem? (i := 1370) (by decide +kernel)⟩
theorem lw_p49 : lw_okq (⟨"StewardHeapsModel", "numberHere", "(II)I"⟩, 42) := ⟨⟨by decide +kernel, by decide +kernel⟩, List.mem_of_getElem? (i := 1167) (by decide +kernel), List.mem_of_getElem? (i := 1373) (by decide +kernel), List.mem_of_getElem? (i := 1374) (by decide +kernel)⟩
theorem lw_p50 : lw_okq (⟨"StewardHeapsModel", "pass", "()V"⟩, 42) := ⟨⟨by decide +kernel, by decide +kernel⟩, List.mem_of_getElem? (i := 1167) (by decide +kernel), List.mem_of_getElem? (i := 1377) (by decide +kernel), List.mem_of_getElem? (i := 1378) (by decide +kernel)⟩
theorem lw_p51 : lw_okq (⟨"StewardHeapsModel", "begins", "(Ljava/lang/String;Z)Z"⟩, 42) := ⟨⟨by decide +kernel, by decide +kernel⟩, List.mem_of_getElem? (i := 1167) (by decide +kernel), List.mem_of_getElem? (i := 1383) (by decide +kernel), List.mem_of_getElem? (i := 1384) (by decide +kernel)⟩
theorem lw_p52 : lw_okq (⟨"StewardHeapsModel", "cellarLine", "()V"⟩, 42) := ⟨⟨by decide +kernel, by decide +kernel⟩, List.mem_of_getElem? (i := 1167) (by decide +kernel), List.mem_of_getElem? (i := 1387) (by decide +kernel), List.mem_of_getElem? (i := 1388) (by decide +kernel)⟩
theorem lw_p53 : lw_okq (⟨"StewardHeapsModel", "newName", "(I)V"⟩, 42) := ⟨⟨by decide +kernel, by decide +kernel⟩, List.mem_of_getElem? (i := 1167) (by decide +kernel), List.mem_of_getElem? (i := 1391) (by decide +kernel), List.mem_of_getElem? (i := 1392) (by decide +kernel)⟩
theorem lw_p54 : lw_okq (⟨"StewardHeapsModel", "mustName", "()V"⟩, 42) := ⟨⟨by decide +kernel, by decide +kernel⟩, List.mem_of_getElem? (i := 1167) (by decide +kernel), List.mem_of_getElem? (i := 1395) (by decide +kernel), List.mem_of_getElem? (i := 1396) (by decide +kernel)⟩
theorem lw_p55 : lw_okq (⟨"StewardHeapsModel", "find", "()I"⟩, 42) := ⟨⟨by decide +kernel, by decide +kernel⟩, List.mem_of_getElem? (i := 1167) (by decide +kernel), List.mem_of_getElem? (i := 1401) (by decide +kernel), List.mem_of_getElem? (i := 1402) (by decide +kernel)⟩
theorem lw_p56 : lw_okq (⟨"StewardHeapsModel", "unsureLine", "()V"⟩, 42) := ⟨⟨by decide +kernel, by decide +kernel⟩, List.mem_of_getElem? (i := 1167) (by decide +kernel), List.mem_of_getElem? (i := 1412) (by decide +kernel), List.mem_of_getElem? (i := 1413) (by decide +kernel)⟩
theorem lw_p57 : lw_okq (⟨"StewardHeapsModel", "cellarHere", "()I"⟩, 42) := ⟨⟨by decide +kernel, by decide +kernel⟩, List.mem_of_getElem? (i := 1167) (by decide +kernel), List.mem_of_getElem? (i := 1416) (by decide +kernel), List.mem_of_getElem? (i := 1417) (by decide +kernel)⟩
theorem lw_p58 : lw_okq (⟨"StewardHeapsModel", "seenLine", "()V"⟩, 42) := ⟨⟨by decide +kernel, by decide +kernel⟩, List.mem_of_getElem? (i := 1167) (by decide +kernel), List.mem_of_getElem? (i := 1420) (by decide +kernel), List.mem_of_getElem? (i := 1421) (by decide +kernel)⟩
theorem lw_p59 : lw_okq (⟨"StewardHeapsModel", "isCella\x72", "(I)Z"⟩, 42) := ⟨⟨by decide +kernel, by decide +kernel⟩, List.mem_of_getElem? (i := 1167) (by decide +kernel), List.mem_of_getElem? (i := 1441) (by decide +kernel), List.mem_of_getElem? (i := 1442) (by decide +kernel)⟩
theorem lw_p60 : lw_okq (⟨"StewardHeapsModel", "isStill", "(I)Z"⟩, 42) := ⟨⟨by decide +kernel, by decide +kernel⟩, List.mem_of_getElem? (i := 1167) (by decide +kernel), List.mem_of_getElem? (i := 1459) (by decide +kernel), List.mem_of_getElem? (i := 1460) (by decide +kernel)⟩
theorem lw_p61 : lw_okq (⟨"StewardHeapsModel", "nightsOn", "(II)V"⟩, 42) := ⟨⟨by decide +kernel, by decide +kernel⟩, List.mem_of_getElem? (i := 1167) (by decide +kernel), List.mem_of_getElem? (i := 1463) (by decide +kernel), List.mem_of_getElem? (i := 1464) (by decide +kernel)⟩
theorem lw_p62 : lw_okq (⟨"StewardHeapsModel", "begin", "(I)V"⟩, 42) := ⟨⟨by decide +kernel, by decide +kernel⟩, List.mem_of_getElem? (i := 1167) (by decide +kernel), List.mem_of_getElem? (i := 1467) (by decide +kernel), List.mem_of_getElem? (i := 1468) (by decide +kernel)⟩
theorem lw_p63 : lw_okq (⟨"StewardHeapsModel", "nightOf", "([III)V"⟩, 42) := ⟨⟨by decide +kernel, by decide +kernel⟩, List.mem_of_getElem? (i := 1167) (by decide +kernel), List.mem_of_getElem? (i := 1471) (by decide +kernel), List.mem_of_getElem? (i := 1472) (by decide +kernel)⟩
def lw_privs_4 : List (MethodName × Nat) := [(⟨"StewardHeapsModel", "numbe\x72", "(II)I"⟩, 42), (⟨"StewardHeapsModel", "numberHere", "(II)I"⟩, 42), (⟨"StewardHeapsModel", "pass", "()V"⟩, 42), (⟨"StewardHeapsModel", "begins", "(Ljava/lang/String;Z)Z"⟩, 42), (⟨"StewardHeapsModel", "cellarLine", "()V"⟩, 42), (⟨"StewardHeapsModel", "newName", "(I)V"⟩, 42), (⟨"StewardHeapsModel", "mustName", "()V"⟩, 42), (⟨"StewardHeapsModel", "find", "()I"⟩, 42), (⟨"StewardHeapsModel", "unsureLine", "()V"⟩, 42), (⟨"StewardHeapsModel", "cellarHere", "()I"⟩, 42), (⟨"StewardHeapsModel", "seenLine", "()V"⟩, 42), (⟨"StewardHeapsModel", "isCella\x72", "(I)Z"⟩, 42), (⟨"StewardHeapsModel", "isStill", "(I)Z"⟩, 42), (⟨"StewardHeapsModel", "nightsOn", "(II)V"⟩, 42), (⟨"StewardHeapsModel", "begin", "(I)V"⟩, 42), (⟨"StewardHeapsModel", "nightOf", "([III)V"⟩, 42)]
theorem lw_r4 : ∀ q ∈ lw_privs_4, lw_okq q := List.forall_mem_cons.mpr ⟨lw_p48, List.forall_mem_cons.mpr ⟨lw_p49, List.forall_mem_cons.mpr ⟨lw_p50, List.forall_mem_cons.mpr ⟨lw_p51, List.forall_mem_cons.mpr ⟨lw_p52, List.forall_mem_cons.mpr ⟨lw_p53, List.forall_mem_cons.mpr ⟨lw_p54, List.forall_mem_cons.mpr ⟨lw_p55, List.forall_mem_cons.mpr ⟨lw_p56, List.forall_mem_cons.mpr ⟨lw_p57, List.forall_mem_cons.mpr ⟨lw_p58, List.forall_mem_cons.mpr ⟨lw_p59, List.forall_mem_cons.mpr ⟨lw_p60, List.forall_mem_cons.mpr ⟨lw_p61, List.forall_mem_cons.mpr ⟨lw_p62, List.forall_mem_cons.mpr ⟨lw_p63, fun _ h => absurd h List.not_mem_nil⟩⟩⟩⟩⟩⟩⟩⟩⟩⟩⟩⟩⟩⟩⟩⟩
theorem lw_p64 : lw_okq (⟨"StewardHeapsModel", "giveOf", "([II)V"⟩, 42) := ⟨⟨by decide +kernel, by decide +kernel⟩, List.mem_of_getElem? (i := 1167) (by decide +kernel), List.mem_of_getElem? (i := 1475) (by decide +kernel), List.mem_of_getElem? (i := 1476) (by decide +kernel)⟩
theorem lw_p65 : lw_okq (⟨"StewardHeapsModel", "aheadWhy", "(II)I"⟩, 42) := ⟨⟨by decide +kernel, by decide +kernel⟩, List.mem_of_getElem? (i := 1167) (by decide +kernel), List.mem_of_getElem? (i := 1492) (by decide +kernel), List.mem_of_getElem? (i := 1493) (by decide +kernel)⟩
theorem lw_p66 : lw_okq (⟨"StewardHeapsModel", "why", "(ZZ)I"⟩, 42) := ⟨⟨by decide +kernel, by decide +kernel⟩, List.mem_of_getElem? (i := 1167) (by decide +kernel), List.mem_of_getElem? (i := 1496) (by decide +kernel), List.mem_of_getElem? (i := 1497) (by decide +kernel)⟩
theorem lw_p67 : lw_okq (⟨"StewardHeapsModel", "goRound", "(I)V"⟩, 42) := ⟨⟨by decide +kernel, by decide +kernel⟩, List.mem_of_getElem? (i := 1167) (by decide +kernel), List.mem_of_getElem? (i := 1516) (by decide +kernel), List.mem_of_getElem? (i := 1517) (by decide +kernel)⟩
theorem lw_p68 : lw_okq (⟨"StewardHeapsModel", "areTwo", "(II)Z"⟩, 42) := ⟨⟨by decide +kernel, by decide +kernel⟩, List.mem_of_getElem? (i := 1167) (by decide +kernel), List.mem_of_getElem? (i := 1533) (by decide +kernel), List.mem_of_getElem? (i := 1534) (by decide +kernel)⟩
theorem lw_p69 : lw_okq (⟨"StewardHeapsModel", "columnOf", "(II)I"⟩, 42) := ⟨⟨by decide +kernel, by decide +kernel⟩, List.mem_of_getElem? (i := 1167) (by decide +kernel), List.mem_of_getElem? (i := 1541) (by decide +kernel), List.mem_of_getElem? (i := 1542) (by decide +kernel)⟩
theorem lw_p70 : lw_okq (⟨"StewardHeapsModel", "hookOf", "(III)I"⟩, 42) := ⟨⟨by decide +kernel, by decide +kernel⟩, List.mem_of_getElem? (i := 1167) (by decide +kernel), List.mem_of_getElem? (i := 1561) (by decide +kernel), List.mem_of_getElem? (i := 1562) (by decide +kernel)⟩
theorem lw_p71 : lw_okq (⟨"StewardHeapsModel", "facto\x72", "(II)V"⟩, 42) := ⟨⟨by decide +kernel, by decide +kernel⟩, List.mem_of_getElem? (i := 1167) (by decide +kernel), List.mem_of_getElem? (i := 1569) (by decide +kernel), List.mem_of_getElem? (i := 1570) (by decide +kernel)⟩
theorem lw_p72 : lw_okq (⟨"StewardHeapsModel", "isNew", "(II)Z"⟩, 42) := ⟨⟨by decide +kernel, by decide +kernel⟩, List.mem_of_getElem? (i := 1167) (by decide +kernel), List.mem_of_getElem? (i := 1585) (by decide +kernel), List.mem_of_getElem? (i := 1586) (by decide +kernel)⟩
theorem lw_p73 : lw_okq (⟨"StewardHeapsModel", "laySource", "(II)V"⟩, 42) := ⟨⟨by decide +kernel, by decide +kernel⟩, List.mem_of_getElem? (i := 1167) (by decide +kernel), List.mem_of_getElem? (i := 1593) (by decide +kernel), List.mem_of_getElem? (i := 1594) (by decide +kernel)⟩
theorem lw_p74 : lw_okq (⟨"StewardHeapsModel", "numberWhy", "(II)I"⟩, 42) := ⟨⟨by decide +kernel, by decide +kernel⟩, List.mem_of_getElem? (i := 1167) (by decide +kernel), List.mem_of_getElem? (i := 1601) (by decide +kernel), List.mem_of_getElem? (i := 1602) (by decide +kernel)⟩
theorem lw_p75 : lw_okq (⟨"StewardHeapsModel", "layWays", "()V"⟩, 42) := ⟨⟨by decide +kernel, by decide +kernel⟩, List.mem_of_getElem? (i := 1167) (by decide +kernel), List.mem_of_getElem? (i := 1605) (by decide +kernel), List.mem_of_getElem? (i := 1606) (by decide +kernel)⟩
theorem lw_p76 : lw_okq (⟨"StewardHeapsModel", "eatSum", "(I)I"⟩, 42) := ⟨⟨by decide +kernel, by decide +kernel⟩, List.mem_of_getElem? (i := 1167) (by decide +kernel), List.mem_of_getElem? (i := 1621) (by decide +kernel), List.mem_of_getElem? (i := 1622) (by decide +kernel)⟩
theorem lw_p77 : lw_okq (⟨"StewardHeapsModel", "eatHeap", "(I)I"⟩, 42) := ⟨⟨by decide +kernel, by decide +kernel⟩, List.mem_of_getElem? (i := 1167) (by decide +kernel), List.mem_of_getElem? (i := 1629) (by decide +kernel), List.mem_of_getElem? (i := 1630) (by decide +kernel)⟩
theorem lw_p78 : lw_okq (⟨"StewardHeapsModel", "eatFrom", "(II)I"⟩, 42) := ⟨⟨by decide +kernel, by decide +kernel⟩, List.mem_of_getElem? (i := 1167) (by decide +kernel), List.mem_of_getElem? (i := 1633) (by decide +kernel), List.mem_of_getElem? (i := 1634) (by decide +kernel)⟩
theorem lw_p79 : lw_okq (⟨"StewardHeapsModel", "laySums", "(I)V"⟩, 42) := ⟨⟨by decide +kernel, by decide +kernel⟩, List.mem_of_getElem? (i := 1167) (by decide +kernel), List.mem_of_getElem? (i := 1653) (by decide +kernel), List.mem_of_getElem? (i := 1654) (by decide +kernel)⟩
def lw_privs_5 : List (MethodName × Nat) := [(⟨"StewardHeapsModel", "giveOf", "([II)V"⟩, 42), (⟨"StewardHeapsModel", "aheadWhy", "(II)I"⟩, 42), (⟨"StewardHeapsModel", "why", "(ZZ)I"⟩, 42), (⟨"StewardHeapsModel", "goRound", "(I)V"⟩, 42), (⟨"StewardHeapsModel", "areTwo", "(II)Z"⟩, 42), (⟨"StewardHeapsModel", "columnOf", "(II)I"⟩, 42), (⟨"StewardHeapsModel", "hookOf", "(III)I"⟩, 42), (⟨"StewardHeapsModel", "facto\x72", "(II)V"⟩, 42), (⟨"StewardHeapsModel", "isNew", "(II)Z"⟩, 42), (⟨"StewardHeapsModel", "laySource", "(II)V"⟩, 42), (⟨"StewardHeapsModel", "numberWhy", "(II)I"⟩, 42), (⟨"StewardHeapsModel", "layWays", "()V"⟩, 42), (⟨"StewardHeapsModel", "eatSum", "(I)I"⟩, 42), (⟨"StewardHeapsModel", "eatHeap", "(I)I"⟩, 42), (⟨"StewardHeapsModel", "eatFrom", "(II)I"⟩, 42), (⟨"StewardHeapsModel", "laySums", "(I)V"⟩, 42)]
theorem lw_r5 : ∀ q ∈ lw_privs_5, lw_okq q := List.forall_mem_cons.mpr ⟨lw_p64, List.forall_mem_cons.mpr ⟨lw_p65, List.forall_mem_cons.mpr ⟨lw_p66, List.forall_mem_cons.mpr ⟨lw_p67, List.forall_mem_cons.mpr ⟨lw_p68, List.forall_mem_cons.mpr ⟨lw_p69, List.forall_mem_cons.mpr ⟨lw_p70, List.forall_mem_cons.mpr ⟨lw_p71, List.forall_mem_cons.mpr ⟨lw_p72, List.forall_mem_cons.mpr ⟨lw_p73, List.forall_mem_cons.mpr ⟨lw_p74, List.forall_mem_cons.mpr ⟨lw_p75, List.forall_mem_cons.mpr ⟨lw_p76, List.forall_mem_cons.mpr ⟨lw_p77, List.forall_mem_cons.mpr ⟨lw_p78, List.forall_mem_cons.mpr ⟨lw_p79, fun _ h => absurd h List.not_mem_nil⟩⟩⟩⟩⟩⟩⟩⟩⟩⟩⟩⟩⟩⟩⟩⟩
theorem lw_p80 : lw_okq (⟨"StewardHeapsModel", "seekSets", "(I)I"⟩, 42) := ⟨⟨by decide +kernel, by decide +kernel⟩, List.mem_of_getElem? (i := 1167) (by decide +kernel), List.mem_of_getElem? (i := 1665) (by decide +kernel), List.mem_of_getElem? (i := 1666) (by decide +kernel)⟩
theorem lw_p81 : lw_okq (⟨"StewardHeapsModel", "wrongBy", "(I)I"⟩, 42) := ⟨⟨by decide +kernel, by decide +kernel⟩, List.mem_of_getElem? (i := 1167) (by decide +kernel), List.mem_of_getElem? (i := 1669) (by decide +kernel), List.mem_of_getElem? (i := 1670) (by decide +kernel)⟩
theorem lw_p82 : lw_okq (⟨"StewardHeapsModel", "askOf", "()I"⟩, 42) := ⟨⟨by decide +kernel, by decide +kernel⟩, List.mem_of_getElem? (i := 1167) (by decide +kernel), List.mem_of_getElem? (i := 1692) (by decide +kernel), List.mem_of_getElem? (i := 1693) (by decide +kernel)⟩
theorem lw_p83 : lw_okq (⟨"StewardHeapsModel", "leavesOf", "(I)I"⟩, 42) := ⟨⟨by decide +kernel, by decide +kernel⟩, List.mem_of_getElem? (i := 1167) (by decide +kernel), List.mem_of_getElem? (i := 1696) (by decide +kernel), List.mem_of_getElem? (i := 1697) (by decide +kernel)⟩
theorem lw_p84 : lw_okq (⟨"StewardHeapsModel", "seekRests", "(I)I"⟩, 42) := ⟨⟨by decide +kernel, by decide +kernel⟩, List.mem_of_getElem? (i := 1167) (by decide +kernel), List.mem_of_getElem? (i := 1722) (by decide +kernel), List.mem_of_getElem? (i := 1723) (by decide +kernel)⟩
theorem lw_p85 : lw_okq (⟨"StewardHeapsModel", "trySleep", "(III)V"⟩, 42) := ⟨⟨by decide +kernel, by decide +kernel⟩, List.mem_of_getElem? (i := 1167) (by decide +kernel), List.mem_of_getElem? (i := 1734) (by decide +kernel), List.mem_of_getElem? (i := 1735) (by decide +kernel)⟩
theorem lw_p86 : lw_okq (⟨"StewardHeapsModel", "note", "()V"⟩, 42) := ⟨⟨by decide +kernel, by decide +kernel⟩, List.mem_of_getElem? (i := 1167) (by decide +kernel), List.mem_of_getElem? (i := 1755) (by decide +kernel), List.mem_of_getElem? (i := 1756) (by decide +kernel)⟩
theorem lw_p87 : lw_okq (⟨"StewardHeapsModel", "isHeap", "(II)Z"⟩, 42) := ⟨⟨by decide +kernel, by decide +kernel⟩, List.mem_of_getElem? (i := 1167) (by decide +kernel), List.mem_of_getElem? (i := 1767) (by decide +kernel), List.mem_of_getElem? (i := 1768) (by decide +kernel)⟩
theorem lw_p88 : lw_okq (⟨"StewardHeapsModel", "isNot", "(I)Z"⟩, 42) := ⟨⟨by decide +kernel, by decide +kernel⟩, List.mem_of_getElem? (i := 1167) (by decide +kernel), List.mem_of_getElem? (i := 1779) (by decide +kernel), List.mem_of_getElem? (i := 1780) (by decide +kernel)⟩
theorem lw_p89 : lw_okq (⟨"StewardHeapsModel", "allStones", "()I"⟩, 42) := ⟨⟨by decide +kernel, by decide +kernel⟩, List.mem_of_getElem? (i := 1167) (by decide +kernel), List.mem_of_getElem? (i := 1799) (by decide +kernel), List.mem_of_getElem? (i := 1800) (by decide +kernel)⟩
def lw_privs_6 : List (MethodName × Nat) := [(⟨"StewardHeapsModel", "seekSets", "(I)I"⟩, 42), (⟨"StewardHeapsModel", "wrongBy", "(I)I"⟩, 42), (⟨"StewardHeapsModel", "askOf", "()I"⟩, 42), (⟨"StewardHeapsModel", "leavesOf", "(I)I"⟩, 42), (⟨"StewardHeapsModel", "seekRests", "(I)I"⟩, 42), (⟨"StewardHeapsModel", "trySleep", "(III)V"⟩, 42), (⟨"StewardHeapsModel", "note", "()V"⟩, 42), (⟨"StewardHeapsModel", "isHeap", "(II)Z"⟩, 42), (⟨"StewardHeapsModel", "isNot", "(I)Z"⟩, 42), (⟨"StewardHeapsModel", "allStones", "()I"⟩, 42)]
theorem lw_r6 : ∀ q ∈ lw_privs_6, lw_okq q := List.forall_mem_cons.mpr ⟨lw_p80, List.forall_mem_cons.mpr ⟨lw_p81, List.forall_mem_cons.mpr ⟨lw_p82, List.forall_mem_cons.mpr ⟨lw_p83, List.forall_mem_cons.mpr ⟨lw_p84, List.forall_mem_cons.mpr ⟨lw_p85, List.forall_mem_cons.mpr ⟨lw_p86, List.forall_mem_cons.mpr ⟨lw_p87, List.forall_mem_cons.mpr ⟨lw_p88, List.forall_mem_cons.mpr ⟨lw_p89, fun _ h => absurd h List.not_mem_nil⟩⟩⟩⟩⟩⟩⟩⟩⟩⟩
def lw_privs : List (MethodName × Nat) := lw_privs_1 ++ (lw_privs_2 ++ (lw_privs_3 ++ (lw_privs_4 ++ (lw_privs_5 ++ (lw_privs_6)))))
def lw_tbl : List Cond := k2_sels lw_privs ++ tables_1
theorem lw_privs_ok : ∀ q ∈ lw_privs, lw_okq q := by
  show ∀ q ∈ lw_privs_1 ++ (lw_privs_2 ++ (lw_privs_3 ++ (lw_privs_4 ++ (lw_privs_5 ++ (lw_privs_6))))), lw_okq q
  exact List.forall_mem_append.mpr ⟨lw_r1, List.forall_mem_append.mpr ⟨lw_r2, List.forall_mem_append.mpr ⟨lw_r3, List.forall_mem_append.mpr ⟨lw_r4, List.forall_mem_append.mpr ⟨lw_r5, lw_r6⟩⟩⟩⟩⟩
def RX0 : String := "StewardHeaps$Cellars"
def TX0 : u_T := fun k => match k with
  | 0 => ("StewardHeaps$Cellars", "rows", "[LStewardHeaps$Heaps;", true)
  | _ => ("StewardHeaps$Cellars", "nights", "I", false)
def tyX0 : Nat → FieldType := fun k => match k with
  | 0 => .array (.object "StewardHeaps$Heaps")
  | _ => .int
theorem nmX0 : ∀ a, a < 2 → ∀ b, b < 2 → a ≠ b → (TX0 a).2.1 ≠ (TX0 b).2.1 := by decide +kernel
theorem tyX0_ok : ∀ k, k < 2 → parseFieldDescriptor (TX0 k).2.2.1 = some (tyX0 k) := by decide +kernel
abbrev cX0_init : ByteArray := prog_2_method_1_code
def yX0_init : MethodName := ⟨RX0, "<init>", "()V"⟩
abbrev cX0_clear : ByteArray := prog_2_method_2_code
def yX0_clear : MethodName := ⟨RX0, "clea\x72", "()V"⟩
abbrev cX0_copyFrom : ByteArray := prog_2_method_3_code
def yX0_copyFrom : MethodName := ⟨RX0, "copyFrom", "(LStewardHeaps$Cellars;)V"⟩
abbrev cX0_allStones : ByteArray := prog_2_method_4_code
def yX0_allStones : MethodName := ⟨RX0, "allStones", "()I"⟩
def RX1 : String := "StewardHeaps$Chance"
def TX1 : u_T := fun k => match k with
  | _ => ("", "", "", false)
def tyX1 : Nat → FieldType := fun k => match k with
  | _ => .int
theorem nmX1 : ∀ a, a < 0 → ∀ b, b < 0 → a ≠ b → (TX1 a).2.1 ≠ (TX1 b).2.1 := by decide +kernel
theorem tyX1_ok : ∀ k, k < 0 → parseFieldDescriptor (TX1 k).2.2.1 = some (tyX1 k) := by decide +kernel
abbrev cX1_oddsWeighed : ByteArray := prog_3_method_2_code
def yX1_oddsWeighed : MethodName := ⟨RX1, "oddsWeighed", "(LStewardHeaps$Walk;III)J"⟩
abbrev cX1_heapsWeighed : ByteArray := prog_3_method_3_code
def yX1_heapsWeighed : MethodName := ⟨RX1, "heapsWeighed", "(LStewardHeaps$Walk;II)J"⟩
abbrev cX1_weight : ByteArray := prog_3_method_4_code
def yX1_weight : MethodName := ⟨RX1, "weight", "(III)J"⟩
abbrev cX1_choices : ByteArray := prog_3_method_5_code
def yX1_choices : MethodName := ⟨RX1, "choices", "(II)J"⟩
abbrev cX1_power : ByteArray := prog_3_method_6_code
def yX1_power : MethodName := ⟨RX1, "powe\x72", "(II)J"⟩
abbrev cX1_lowestTerms : ByteArray := prog_3_method_7_code
def yX1_lowestTerms : MethodName := ⟨RX1, "lowestTerms", "(JJZ)J"⟩
abbrev cX1_commonDivisor : ByteArray := prog_3_method_8_code
def yX1_commonDivisor : MethodName := ⟨RX1, "commonDiviso\x72", "(JJ)J"⟩
def RX2 : String := "StewardHeaps$Guesses"
def TX2 : u_T := fun k => match k with
  | 0 => ("StewardHeaps$Guesses", "sets", "[I", true)
  | 1 => ("StewardHeaps$Guesses", "count", "I", false)
  | 2 => ("StewardHeaps$Guesses", "firstNotSo", "I", false)
  | 3 => ("StewardHeaps$Guesses", "may", "[I", true)
  | 4 => ("StewardHeaps$Guesses", "first", "LStewardHeaps$Heaps;", true)
  | _ => ("StewardHeaps$Guesses", "sureOnesSo", "Z", false)
def tyX2 : Nat → FieldType := fun k => match k with
  | 0 => .array .int
  | 1 => .int
  | 2 => .int
  | 3 => .array .int
  | 4 => .object "StewardHeaps$Heaps"
  | _ => .boolean
theorem nmX2 : ∀ a, a < 6 → ∀ b, b < 6 → a ≠ b → (TX2 a).2.1 ≠ (TX2 b).2.1 := by decide +kernel
theorem tyX2_ok : ∀ k, k < 6 → parseFieldDescriptor (TX2 k).2.2.1 = some (tyX2 k) := by decide +kernel
abbrev cX2_init : ByteArray := prog_4_method_1_code
def yX2_init : MethodName := ⟨RX2, "<init>", "()V"⟩
abbrev cX2_work : ByteArray := prog_4_method_2_code
def yX2_work : MethodName := ⟨RX2, "work", "(LStewardHeaps$Told;LStewardHeaps$Walk;)V"⟩
abbrev cX2_note : ByteArray := prog_4_method_3_code
def yX2_note : MethodName := ⟨RX2, "note", "(IIZZ)V"⟩
abbrev cX2_isSo : ByteArray := prog_4_method_4_code
def yX2_isSo : MethodName := ⟨RX2, "isSo", "(LStewardHeaps$Told;IILStewardHeaps$Walk;)Z"⟩
abbrev cX2_mayBe : ByteArray := prog_4_method_5_code
def yX2_mayBe : MethodName := ⟨RX2, "mayBe", "(II)Z"⟩
abbrev cX2_inSome : ByteArray := prog_4_method_6_code
def yX2_inSome : MethodName := ⟨RX2, "inSome", "()I"⟩
abbrev cX2_inAll : ByteArray := prog_4_method_7_code
def yX2_inAll : MethodName := ⟨RX2, "inAll", "()I"⟩
abbrev cX2_leftAtMost : ByteArray := prog_4_method_8_code
def yX2_leftAtMost : MethodName := ⟨RX2, "leftAtMost", "(I)I"⟩
abbrev cX2_bestAsked : ByteArray := prog_4_method_9_code
def yX2_bestAsked : MethodName := ⟨RX2, "bestAsked", "(I)I"⟩
def RX3 : String := "StewardHeaps$Heaps"
def TX3 : u_T := fun k => match k with
  | 0 => ("StewardHeaps$Heaps", "heights", "[I", true)
  | 1 => ("StewardHeaps$Heaps", "count", "I", false)
  | _ => ("StewardHeaps$Heaps", "kept", "I", false)
def tyX3 : Nat → FieldType := fun k => match k with
  | 0 => .array .int
  | 1 => .int
  | _ => .int
theorem nmX3 : ∀ a, a < 3 → ∀ b, b < 3 → a ≠ b → (TX3 a).2.1 ≠ (TX3 b).2.1 := by decide +kernel
theorem tyX3_ok : ∀ k, k < 3 → parseFieldDescriptor (TX3 k).2.2.1 = some (tyX3 k) := by decide +kernel
abbrev cX3_init : ByteArray := prog_5_method_1_code
def yX3_init : MethodName := ⟨RX3, "<init>", "()V"⟩
abbrev cX3_clear : ByteArray := prog_5_method_2_code
def yX3_clear : MethodName := ⟨RX3, "clea\x72", "()V"⟩
abbrev cX3_copyFrom : ByteArray := prog_5_method_3_code
def yX3_copyFrom : MethodName := ⟨RX3, "copyFrom", "(LStewardHeaps$Heaps;)V"⟩
abbrev cX3_isAsHigh : ByteArray := prog_5_method_4_code
def yX3_isAsHigh : MethodName := ⟨RX3, "isAsHigh", "(LStewardHeaps$Heaps;)Z"⟩
abbrev cX3_isSame : ByteArray := prog_5_method_5_code
def yX3_isSame : MethodName := ⟨RX3, "isSame", "(LStewardHeaps$Heaps;)Z"⟩
abbrev cX3_heightAt : ByteArray := prog_5_method_6_code
def yX3_heightAt : MethodName := ⟨RX3, "heightAt", "(I)I"⟩
abbrev cX3_higherThan : ByteArray := prog_5_method_7_code
def yX3_higherThan : MethodName := ⟨RX3, "higherThan", "(I)I"⟩
abbrev cX3_inHeaps : ByteArray := prog_5_method_8_code
def yX3_inHeaps : MethodName := ⟨RX3, "inHeaps", "()I"⟩
abbrev cX3_stones : ByteArray := prog_5_method_9_code
def yX3_stones : MethodName := ⟨RX3, "stones", "()I"⟩
abbrev cX3_lay : ByteArray := prog_5_method_10_code
def yX3_lay : MethodName := ⟨RX3, "lay", "(I)V"⟩
abbrev cX3_lift : ByteArray := prog_5_method_11_code
def yX3_lift : MethodName := ⟨RX3, "lift", "(I)I"⟩
abbrev cX3_pass : ByteArray := prog_5_method_12_code
def yX3_pass : MethodName := ⟨RX3, "pass", "(II)V"⟩
abbrev cX3_takeOfEach : ByteArray := prog_5_method_13_code
def yX3_takeOfEach : MethodName := ⟨RX3, "takeOfEach", "()I"⟩
abbrev cX3_takeOfEachHeight : ByteArray := prog_5_method_14_code
def yX3_takeOfEachHeight : MethodName := ⟨RX3, "takeOfEachHeight", "()I"⟩
abbrev cX3_give : ByteArray := prog_5_method_15_code
def yX3_give : MethodName := ⟨RX3, "give", "(I)V"⟩
def RX4 : String := "StewardHeaps$Past"
def TX4 : u_T := fun k => match k with
  | 0 => ("StewardHeaps$Past", "kept", "[LStewardHeaps$Cellars;", true)
  | 1 => ("StewardHeaps$Past", "pictures", "[LStewardHeaps$Cellars;", true)
  | 2 => ("StewardHeaps$Past", "acts", "I", false)
  | 3 => ("StewardHeaps$Past", "images", "I", false)
  | _ => ("StewardHeaps$Past", "oldest", "I", false)
def tyX4 : Nat → FieldType := fun k => match k with
  | 0 => .array (.object "StewardHeaps$Cellars")
  | 1 => .array (.object "StewardHeaps$Cellars")
  | 2 => .int
  | 3 => .int
  | _ => .int
theorem nmX4 : ∀ a, a < 5 → ∀ b, b < 5 → a ≠ b → (TX4 a).2.1 ≠ (TX4 b).2.1 := by decide +kernel
theorem tyX4_ok : ∀ k, k < 5 → parseFieldDescriptor (TX4 k).2.2.1 = some (tyX4 k) := by decide +kernel
abbrev cX4_init : ByteArray := prog_6_method_1_code
def yX4_init : MethodName := ⟨RX4, "<init>", "()V"⟩
abbrev cX4_forget : ByteArray := prog_6_method_2_code
def yX4_forget : MethodName := ⟨RX4, "forget", "()V"⟩
abbrev cX4_keep : ByteArray := prog_6_method_3_code
def yX4_keep : MethodName := ⟨RX4, "keep", "(LStewardHeaps$Cellars;)LStewardHeaps$Cellars;"⟩
abbrev cX4_returnTo : ByteArray := prog_6_method_4_code
def yX4_returnTo : MethodName := ⟨RX4, "returnTo", "(LStewardHeaps$Cellars;)V"⟩
abbrev cX4_keepImage : ByteArray := prog_6_method_5_code
def yX4_keepImage : MethodName := ⟨RX4, "keepImage", "(LStewardHeaps$Cellars;)I"⟩
abbrev cX4_returnToImage : ByteArray := prog_6_method_6_code
def yX4_returnToImage : MethodName := ⟨RX4, "returnToImage", "(ILStewardHeaps$Cellars;)V"⟩
def RX5 : String := "StewardHeaps$Reade\x72"
def TX5 : u_T := fun k => match k with
  | 0 => ("StewardHeaps$Reade\x72", "tape", "LStewardHeaps$Tape;", true)
  | 1 => ("StewardHeaps$Reade\x72", "namePlaces", "[I", true)
  | 2 => ("StewardHeaps$Reade\x72", "nameLengths", "[I", true)
  | 3 => ("StewardHeaps$Reade\x72", "told", "LStewardHeaps$Told;", false)
  | 4 => ("StewardHeaps$Reade\x72", "numbe\x72", "I", false)
  | 5 => ("StewardHeaps$Reade\x72", "named", "I", false)
  | _ => ("StewardHeaps$Reade\x72", "fault", "I", false)
def tyX5 : Nat → FieldType := fun k => match k with
  | 0 => .object "StewardHeaps$Tape"
  | 1 => .array .int
  | 2 => .array .int
  | 3 => .object "StewardHeaps$Told"
  | 4 => .int
  | 5 => .int
  | _ => .int
theorem nmX5 : ∀ a, a < 7 → ∀ b, b < 7 → a ≠ b → (TX5 a).2.1 ≠ (TX5 b).2.1 := by decide +kernel
theorem tyX5_ok : ∀ k, k < 7 → parseFieldDescriptor (TX5 k).2.2.1 = some (tyX5 k) := by decide +kernel
abbrev cX5_init : ByteArray := prog_7_method_1_code
def yX5_init : MethodName := ⟨RX5, "<init>", "()V"⟩
abbrev cX5_read : ByteArray := prog_7_method_2_code
def yX5_read : MethodName := ⟨RX5, "read", "(I)I"⟩
abbrev cX5_handOver : ByteArray := prog_7_method_3_code
def yX5_handOver : MethodName := ⟨RX5, "handOve\x72", "(LStewardHeaps$Told;)LStewardHeaps$Told;"⟩
abbrev cX5_fail : ByteArray := prog_7_method_4_code
def yX5_fail : MethodName := ⟨RX5, "fail", "(I)Z"⟩
abbrev cX5_readLine : ByteArray := prog_7_method_5_code
def yX5_readLine : MethodName := ⟨RX5, "readLine", "()Z"⟩
abbrev cX5_opensLine : ByteArray := prog_7_method_6_code
def yX5_opensLine : MethodName := ⟨RX5, "opensLine", "(Z)Z"⟩
abbrev cX5_readStore : ByteArray := prog_7_method_7_code
def yX5_readStore : MethodName := ⟨RX5, "readStore", "()Z"⟩
abbrev cX5_readCellar : ByteArray := prog_7_method_8_code
def yX5_readCellar : MethodName := ⟨RX5, "readCella\x72", "()Z"⟩
abbrev cX5_readHeaps : ByteArray := prog_7_method_9_code
def yX5_readHeaps : MethodName := ⟨RX5, "readHeaps", "(LStewardHeaps$Heaps;)Z"⟩
abbrev cX5_readUnsure : ByteArray := prog_7_method_10_code
def yX5_readUnsure : MethodName := ⟨RX5, "readUnsure", "()Z"⟩
abbrev cX5_readSeen : ByteArray := prog_7_method_11_code
def yX5_readSeen : MethodName := ⟨RX5, "readSeen", "()Z"⟩
abbrev cX5_isName : ByteArray := prog_7_method_12_code
def yX5_isName : MethodName := ⟨RX5, "isName", "()Z"⟩
abbrev cX5_findNamed : ByteArray := prog_7_method_13_code
def yX5_findNamed : MethodName := ⟨RX5, "findNamed", "()I"⟩
abbrev cX5_readNamed : ByteArray := prog_7_method_14_code
def yX5_readNamed : MethodName := ⟨RX5, "readNamed", "()Z"⟩
abbrev cX5_lawHere : ByteArray := prog_7_method_15_code
def yX5_lawHere : MethodName := ⟨RX5, "lawHere", "()I"⟩
abbrev cX5_readWord : ByteArray := prog_7_method_16_code
def yX5_readWord : MethodName := ⟨RX5, "readWord", "(Ljava/lang/String;)Z"⟩
abbrev cX5_readWhole : ByteArray := prog_7_method_17_code
def yX5_readWhole : MethodName := ⟨RX5, "readWhole", "(II)Z"⟩
def RX6 : String := "StewardHeaps$Shapes"
def TX6 : u_T := fun k => match k with
  | _ => ("StewardHeaps$Shapes", "powers", "[I", true)
def tyX6 : Nat → FieldType := fun k => match k with
  | _ => .array .int
theorem nmX6 : ∀ a, a < 1 → ∀ b, b < 1 → a ≠ b → (TX6 a).2.1 ≠ (TX6 b).2.1 := by decide +kernel
theorem tyX6_ok : ∀ k, k < 1 → parseFieldDescriptor (TX6 k).2.2.1 = some (tyX6 k) := by decide +kernel
abbrev cX6_init : ByteArray := prog_8_method_1_code
def yX6_init : MethodName := ⟨RX6, "<init>", "()V"⟩
abbrev cX6_longestSquare : ByteArray := prog_8_method_2_code
def yX6_longestSquare : MethodName := ⟨RX6, "longestSquare", "(LStewardHeaps$Heaps;)I"⟩
abbrev cX6_unlikeHeights : ByteArray := prog_8_method_3_code
def yX6_unlikeHeights : MethodName := ⟨RX6, "unlikeHeights", "(LStewardHeaps$Heaps;)I"⟩
abbrev cX6_isFirstOfHeight : ByteArray := prog_8_method_4_code
def yX6_isFirstOfHeight : MethodName := ⟨RX6, "isFirstOfHeight", "(LStewardHeaps$Heaps;I)Z"⟩
abbrev cX6_hookOf : ByteArray := prog_8_method_5_code
def yX6_hookOf : MethodName := ⟨RX6, "hookOf", "(LStewardHeaps$Heaps;II)I"⟩
abbrev cX6_countOrders : ByteArray := prog_8_method_6_code
def yX6_countOrders : MethodName := ⟨RX6, "countOrders", "(LStewardHeaps$Heaps;)J"⟩
abbrev cX6_countPrimes : ByteArray := prog_8_method_7_code
def yX6_countPrimes : MethodName := ⟨RX6, "countPrimes", "(II)V"⟩
abbrev cX6_inBoth : ByteArray := prog_8_method_8_code
def yX6_inBoth : MethodName := ⟨RX6, "inBoth", "(LStewardHeaps$Heaps;LStewardHeaps$Heaps;)I"⟩
abbrev cX6_areMirrors : ByteArray := prog_8_method_9_code
def yX6_areMirrors : MethodName := ⟨RX6, "areMirrors", "(LStewardHeaps$Heaps;LStewardHeaps$Heaps;)Z"⟩
abbrev cX6_canBeNew : ByteArray := prog_8_method_10_code
def yX6_canBeNew : MethodName := ⟨RX6, "canBeNew", "(LStewardHeaps$Heaps;I)Z"⟩
abbrev cX6_countSources : ByteArray := prog_8_method_11_code
def yX6_countSources : MethodName := ⟨RX6, "countSources", "(LStewardHeaps$Heaps;)I"⟩
abbrev cX6_sourceHeight : ByteArray := prog_8_method_12_code
def yX6_sourceHeight : MethodName := ⟨RX6, "sourceHeight", "(LStewardHeaps$Heaps;II)I"⟩
abbrev cX6_heightBefore : ByteArray := prog_8_method_13_code
def yX6_heightBefore : MethodName := ⟨RX6, "heightBefore", "(LStewardHeaps$Heaps;II)I"⟩
def RX7 : String := "StewardHeaps$Sums"
def TX7 : u_T := fun k => match k with
  | 0 => ("StewardHeaps$Sums", "row", "[I", true)
  | _ => ("StewardHeaps$Sums", "carried", "LStewardHeaps$Heaps;", true)
def tyX7 : Nat → FieldType := fun k => match k with
  | 0 => .array .int
  | _ => .object "StewardHeaps$Heaps"
theorem nmX7 : ∀ a, a < 2 → ∀ b, b < 2 → a ≠ b → (TX7 a).2.1 ≠ (TX7 b).2.1 := by decide +kernel
theorem tyX7_ok : ∀ k, k < 2 → parseFieldDescriptor (TX7 k).2.2.1 = some (tyX7 k) := by decide +kernel
abbrev cX7_init : ByteArray := prog_9_method_1_code
def yX7_init : MethodName := ⟨RX7, "<init>", "()V"⟩
abbrev cX7_countWays : ByteArray := prog_9_method_2_code
def yX7_countWays : MethodName := ⟨RX7, "countWays", "(II)I"⟩
abbrev cX7_countUnlikeWays : ByteArray := prog_9_method_3_code
def yX7_countUnlikeWays : MethodName := ⟨RX7, "countUnlikeWays", "(I)I"⟩
abbrev cX7_clearRow : ByteArray := prog_9_method_4_code
def yX7_clearRow : MethodName := ⟨RX7, "clearRow", "(I)V"⟩
abbrev cX7_rowAt : ByteArray := prog_9_method_5_code
def yX7_rowAt : MethodName := ⟨RX7, "rowAt", "(I)I"⟩
abbrev cX7_eatersBalance : ByteArray := prog_9_method_6_code
def yX7_eatersBalance : MethodName := ⟨RX7, "eatersBalance", "(LStewardHeaps$Heaps;)I"⟩
abbrev cX7_winningBite : ByteArray := prog_9_method_7_code
def yX7_winningBite : MethodName := ⟨RX7, "winningBite", "(LStewardHeaps$Heaps;I)I"⟩
abbrev cX7_leastCarried : ByteArray := prog_9_method_8_code
def yX7_leastCarried : MethodName := ⟨RX7, "leastCarried", "(LStewardHeaps$Heaps;)I"⟩
abbrev cX7_fewestLaidOver : ByteArray := prog_9_method_9_code
def yX7_fewestLaidOver : MethodName := ⟨RX7, "fewestLaidOve\x72", "(LStewardHeaps$Heaps;)I"⟩
abbrev cX7_fewestThatMake : ByteArray := prog_9_method_10_code
def yX7_fewestThatMake : MethodName := ⟨RX7, "fewestThatMake", "(LStewardHeaps$Heaps;I)I"⟩
abbrev cX7_lighterPart : ByteArray := prog_9_method_11_code
def yX7_lighterPart : MethodName := ⟨RX7, "lighterPart", "(LStewardHeaps$Heaps;)I"⟩
abbrev cX7_fillFewest : ByteArray := prog_9_method_12_code
def yX7_fillFewest : MethodName := ⟨RX7, "fillFewest", "(LStewardHeaps$Heaps;)V"⟩
def RX8 : String := "StewardHeaps$Tape"
def TX8 : u_T := fun k => match k with
  | 0 => ("StewardHeaps$Tape", "bytes", "[B", true)
  | 1 => ("StewardHeaps$Tape", "size", "I", false)
  | 2 => ("StewardHeaps$Tape", "place", "I", false)
  | 3 => ("StewardHeaps$Tape", "kind", "I", false)
  | 4 => ("StewardHeaps$Tape", "end", "I", false)
  | _ => ("StewardHeaps$Tape", "afte\x72", "I", false)
def tyX8 : Nat → FieldType := fun k => match k with
  | 0 => .array .byte
  | 1 => .int
  | 2 => .int
  | 3 => .int
  | 4 => .int
  | _ => .int
theorem nmX8 : ∀ a, a < 6 → ∀ b, b < 6 → a ≠ b → (TX8 a).2.1 ≠ (TX8 b).2.1 := by decide +kernel
theorem tyX8_ok : ∀ k, k < 6 → parseFieldDescriptor (TX8 k).2.2.1 = some (tyX8 k) := by decide +kernel
abbrev cX8_init : ByteArray := prog_10_method_1_code
def yX8_init : MethodName := ⟨RX8, "<init>", "()V"⟩
abbrev cX8_append : ByteArray := prog_10_method_2_code
def yX8_append : MethodName := ⟨RX8, "append", "(I)V"⟩
abbrev cX8_start : ByteArray := prog_10_method_3_code
def yX8_start : MethodName := ⟨RX8, "start", "(I)V"⟩
abbrev cX8_step : ByteArray := prog_10_method_4_code
def yX8_step : MethodName := ⟨RX8, "step", "()V"⟩
abbrev cX8_kindOf : ByteArray := prog_10_method_5_code
def yX8_kindOf : MethodName := ⟨RX8, "kindOf", "(I)I"⟩
abbrev cX8_whole : ByteArray := prog_10_method_6_code
def yX8_whole : MethodName := ⟨RX8, "whole", "()I"⟩
abbrev cX8_length : ByteArray := prog_10_method_7_code
def yX8_length : MethodName := ⟨RX8, "length", "()I"⟩
abbrev cX8_isWord : ByteArray := prog_10_method_8_code
def yX8_isWord : MethodName := ⟨RX8, "isWord", "(Ljava/lang/String;)Z"⟩
abbrev cX8_isWordAt : ByteArray := prog_10_method_9_code
def yX8_isWordAt : MethodName := ⟨RX8, "isWordAt", "(II)Z"⟩
def RX9 : String := "StewardHeaps$Told"
def TX9 : u_T := fun k => match k with
  | 0 => ("StewardHeaps$Told", "start", "LStewardHeaps$Cellars;", true)
  | 1 => ("StewardHeaps$Told", "laws", "[I", true)
  | 2 => ("StewardHeaps$Told", "unsureCellars", "[I", true)
  | 3 => ("StewardHeaps$Told", "unsureStones", "[I", true)
  | 4 => ("StewardHeaps$Told", "seenCellars", "[I", true)
  | 5 => ("StewardHeaps$Told", "seenNights", "[I", true)
  | 6 => ("StewardHeaps$Told", "seenHeaps", "[I", true)
  | 7 => ("StewardHeaps$Told", "hold", "I", false)
  | 8 => ("StewardHeaps$Told", "sleeps", "I", false)
  | 9 => ("StewardHeaps$Told", "cellars", "I", false)
  | 10 => ("StewardHeaps$Told", "unsure", "I", false)
  | _ => ("StewardHeaps$Told", "seen", "I", false)
def tyX9 : Nat → FieldType := fun k => match k with
  | 0 => .object "StewardHeaps$Cellars"
  | 1 => .array .int
  | 2 => .array .int
  | 3 => .array .int
  | 4 => .array .int
  | 5 => .array .int
  | 6 => .array .int
  | 7 => .int
  | 8 => .int
  | 9 => .int
  | 10 => .int
  | _ => .int
theorem nmX9 : ∀ a, a < 12 → ∀ b, b < 12 → a ≠ b → (TX9 a).2.1 ≠ (TX9 b).2.1 := by decide +kernel
theorem tyX9_ok : ∀ k, k < 12 → parseFieldDescriptor (TX9 k).2.2.1 = some (tyX9 k) := by decide +kernel
abbrev cX9_init : ByteArray := prog_11_method_1_code
def yX9_init : MethodName := ⟨RX9, "<init>", "()V"⟩
abbrev cX9_clear : ByteArray := prog_11_method_2_code
def yX9_clear : MethodName := ⟨RX9, "clea\x72", "()V"⟩
abbrev cX9_unsurePlace : ByteArray := prog_11_method_3_code
def yX9_unsurePlace : MethodName := ⟨RX9, "unsurePlace", "(I)I"⟩
abbrev cX9_sawNight : ByteArray := prog_11_method_4_code
def yX9_sawNight : MethodName := ⟨RX9, "sawNight", "(II)Z"⟩
def RX10 : String := "StewardHeaps$Walk"
def TX10 : u_T := fun k => match k with
  | 0 => ("StewardHeaps$Walk", "heaps", "LStewardHeaps$Heaps;", true)
  | 1 => ("StewardHeaps$Walk", "mark", "LStewardHeaps$Heaps;", true)
  | 2 => ("StewardHeaps$Walk", "law", "I", false)
  | 3 => ("StewardHeaps$Walk", "hold", "I", false)
  | 4 => ("StewardHeaps$Walk", "sinceMark", "I", false)
  | _ => ("StewardHeaps$Walk", "nextMark", "I", false)
def tyX10 : Nat → FieldType := fun k => match k with
  | 0 => .object "StewardHeaps$Heaps"
  | 1 => .object "StewardHeaps$Heaps"
  | 2 => .int
  | 3 => .int
  | 4 => .int
  | _ => .int
theorem nmX10 : ∀ a, a < 6 → ∀ b, b < 6 → a ≠ b → (TX10 a).2.1 ≠ (TX10 b).2.1 := by decide +kernel
theorem tyX10_ok : ∀ k, k < 6 → parseFieldDescriptor (TX10 k).2.2.1 = some (tyX10 k) := by decide +kernel
abbrev cX10_init : ByteArray := prog_12_method_1_code
def yX10_init : MethodName := ⟨RX10, "<init>", "()V"⟩
abbrev cX10_begin : ByteArray := prog_12_method_2_code
def yX10_begin : MethodName := ⟨RX10, "begin", "(LStewardHeaps$Heaps;II)V"⟩
abbrev cX10_step : ByteArray := prog_12_method_3_code
def yX10_step : MethodName := ⟨RX10, "step", "()Z"⟩
abbrev cX10_goOn : ByteArray := prog_12_method_4_code
def yX10_goOn : MethodName := ⟨RX10, "goOn", "(I)V"⟩
abbrev cX10_findRound : ByteArray := prog_12_method_5_code
def yX10_findRound : MethodName := ⟨RX10, "findRound", "()I"⟩
def RX11 : String := "StewardHeaps"
def TX11 : u_T := fun k => match k with
  | 0 => ("StewardHeaps", "reade\x72", "LStewardHeaps$Reader;", true)
  | 1 => ("StewardHeaps", "tape", "LStewardHeaps$Tape;", true)
  | 2 => ("StewardHeaps", "now", "LStewardHeaps$Cellars;", true)
  | 3 => ("StewardHeaps", "past", "LStewardHeaps$Past;", true)
  | 4 => ("StewardHeaps", "guesses", "LStewardHeaps$Guesses;", true)
  | 5 => ("StewardHeaps", "walk", "LStewardHeaps$Walk;", true)
  | 6 => ("StewardHeaps", "otherWalk", "LStewardHeaps$Walk;", true)
  | 7 => ("StewardHeaps", "shapes", "LStewardHeaps$Shapes;", true)
  | 8 => ("StewardHeaps", "sums", "LStewardHeaps$Sums;", true)
  | 9 => ("StewardHeaps", "told", "LStewardHeaps$Told;", false)
  | 10 => ("StewardHeaps", "lastTrouble", "I", false)
  | 11 => ("StewardHeaps", "lastFault", "I", false)
  | _ => ("StewardHeaps", "lastPlace", "I", false)
def tyX11 : Nat → FieldType := fun k => match k with
  | 0 => .object "StewardHeaps$Reade\x72"
  | 1 => .object "StewardHeaps$Tape"
  | 2 => .object "StewardHeaps$Cellars"
  | 3 => .object "StewardHeaps$Past"
  | 4 => .object "StewardHeaps$Guesses"
  | 5 => .object "StewardHeaps$Walk"
  | 6 => .object "StewardHeaps$Walk"
  | 7 => .object "StewardHeaps$Shapes"
  | 8 => .object "StewardHeaps$Sums"
  | 9 => .object "StewardHeaps$Told"
  | 10 => .int
  | 11 => .int
  | _ => .int
theorem nmX11 : ∀ a, a < 13 → ∀ b, b < 13 → a ≠ b → (TX11 a).2.1 ≠ (TX11 b).2.1 := by decide +kernel
theorem tyX11_ok : ∀ k, k < 13 → parseFieldDescriptor (TX11 k).2.2.1 = some (tyX11 k) := by decide +kernel
abbrev cX11_init : ByteArray := prog_1_method_1_code
def yX11_init : MethodName := ⟨RX11, "<init>", "()V"⟩
abbrev cX11_feed : ByteArray := prog_1_method_2_code
def yX11_feed : MethodName := ⟨RX11, "feed", "(IIIII)I"⟩
abbrev cX11_store : ByteArray := prog_1_method_3_code
def yX11_store : MethodName := ⟨RX11, "store", "(I)I"⟩
abbrev cX11_fault : ByteArray := prog_1_method_4_code
def yX11_fault : MethodName := ⟨RX11, "fault", "()I"⟩
abbrev cX11_where : ByteArray := prog_1_method_5_code
def yX11_where : MethodName := ⟨RX11, "where", "()I"⟩
abbrev cX11_cellar : ByteArray := prog_1_method_6_code
def yX11_cellar : MethodName := ⟨RX11, "cella\x72", "(II)I"⟩
abbrev cX11_heap : ByteArray := prog_1_method_7_code
def yX11_heap : MethodName := ⟨RX11, "heap", "(II)I"⟩
abbrev cX11_still : ByteArray := prog_1_method_8_code
def yX11_still : MethodName := ⟨RX11, "still", "(I)I"⟩
abbrev cX11_heaps : ByteArray := prog_1_method_9_code
def yX11_heaps : MethodName := ⟨RX11, "heaps", "(II)I"⟩
abbrev cX11_greatest : ByteArray := prog_1_method_10_code
def yX11_greatest : MethodName := ⟨RX11, "greatest", "(II)I"⟩
abbrev cX11_heapIn : ByteArray := prog_1_method_11_code
def yX11_heapIn : MethodName := ⟨RX11, "heapIn", "(III)I"⟩
abbrev cX11_held : ByteArray := prog_1_method_12_code
def yX11_held : MethodName := ⟨RX11, "held", "(II)I"⟩
abbrev cX11_settles : ByteArray := prog_1_method_13_code
def yX11_settles : MethodName := ⟨RX11, "settles", "(I)I"⟩
abbrev cX11_round : ByteArray := prog_1_method_14_code
def yX11_round : MethodName := ⟨RX11, "round", "(I)I"⟩
abbrev cX11_fewest : ByteArray := prog_1_method_15_code
def yX11_fewest : MethodName := ⟨RX11, "fewest", "(I)I"⟩
abbrev cX11_alike : ByteArray := prog_1_method_16_code
def yX11_alike : MethodName := ⟨RX11, "alike", "(II)I"⟩
abbrev cX11_column : ByteArray := prog_1_method_17_code
def yX11_column : MethodName := ⟨RX11, "column", "(II)I"⟩
abbrev cX11_square : ByteArray := prog_1_method_18_code
def yX11_square : MethodName := ⟨RX11, "square", "(I)I"⟩
abbrev cX11_corners : ByteArray := prog_1_method_19_code
def yX11_corners : MethodName := ⟨RX11, "corners", "(I)I"⟩
abbrev cX11_rank : ByteArray := prog_1_method_20_code
def yX11_rank : MethodName := ⟨RX11, "rank", "(I)I"⟩
abbrev cX11_hook : ByteArray := prog_1_method_21_code
def yX11_hook : MethodName := ⟨RX11, "hook", "(III)I"⟩
abbrev cX11_orders : ByteArray := prog_1_method_22_code
def yX11_orders : MethodName := ⟨RX11, "orders", "(I)J"⟩
abbrev cX11_common : ByteArray := prog_1_method_23_code
def yX11_common : MethodName := ⟨RX11, "common", "(II)I"⟩
abbrev cX11_mirrors : ByteArray := prog_1_method_24_code
def yX11_mirrors : MethodName := ⟨RX11, "mirrors", "(II)I"⟩
abbrev cX11_sources : ByteArray := prog_1_method_25_code
def yX11_sources : MethodName := ⟨RX11, "sources", "(I)I"⟩
abbrev cX11_source : ByteArray := prog_1_method_26_code
def yX11_source : MethodName := ⟨RX11, "source", "(III)I"⟩
abbrev cX11_ways : ByteArray := prog_1_method_27_code
def yX11_ways : MethodName := ⟨RX11, "ways", "(I)I"⟩
abbrev cX11_waysBy : ByteArray := prog_1_method_28_code
def yX11_waysBy : MethodName := ⟨RX11, "waysBy", "(II)I"⟩
abbrev cX11_waysUnlike : ByteArray := prog_1_method_29_code
def yX11_waysUnlike : MethodName := ⟨RX11, "waysUnlike", "(I)I"⟩
abbrev cX11_eats : ByteArray := prog_1_method_30_code
def yX11_eats : MethodName := ⟨RX11, "eats", "(I)I"⟩
abbrev cX11_eatsOf : ByteArray := prog_1_method_31_code
def yX11_eatsOf : MethodName := ⟨RX11, "eatsOf", "(I)I"⟩
abbrev cX11_eatsMany : ByteArray := prog_1_method_32_code
def yX11_eatsMany : MethodName := ⟨RX11, "eatsMany", "(I)I"⟩
abbrev cX11_carry : ByteArray := prog_1_method_33_code
def yX11_carry : MethodName := ⟨RX11, "carry", "(I)I"⟩
abbrev cX11_level : ByteArray := prog_1_method_34_code
def yX11_level : MethodName := ⟨RX11, "level", "(I)I"⟩
abbrev cX11_makes : ByteArray := prog_1_method_35_code
def yX11_makes : MethodName := ⟨RX11, "makes", "(II)I"⟩
abbrev cX11_half : ByteArray := prog_1_method_36_code
def yX11_half : MethodName := ⟨RX11, "half", "(I)I"⟩
abbrev cX11_fits : ByteArray := prog_1_method_37_code
def yX11_fits : MethodName := ⟨RX11, "fits", "()I"⟩
abbrev cX11_fitAt : ByteArray := prog_1_method_38_code
def yX11_fitAt : MethodName := ⟨RX11, "fitAt", "(I)I"⟩
abbrev cX11_could : ByteArray := prog_1_method_39_code
def yX11_could : MethodName := ⟨RX11, "could", "()I"⟩
abbrev cX11_surely : ByteArray := prog_1_method_40_code
def yX11_surely : MethodName := ⟨RX11, "surely", "()I"⟩
abbrev cX11_ask : ByteArray := prog_1_method_41_code
def yX11_ask : MethodName := ⟨RX11, "ask", "()I"⟩
abbrev cX11_askLeaves : ByteArray := prog_1_method_42_code
def yX11_askLeaves : MethodName := ⟨RX11, "askLeaves", "()I"⟩
abbrev cX11_judge : ByteArray := prog_1_method_43_code
def yX11_judge : MethodName := ⟨RX11, "judge", "()I"⟩
abbrev cX11_comes : ByteArray := prog_1_method_44_code
def yX11_comes : MethodName := ⟨RX11, "comes", "(IZZZ)I"⟩
abbrev cX11_rests : ByteArray := prog_1_method_45_code
def yX11_rests : MethodName := ⟨RX11, "rests", "(I)I"⟩
abbrev cX11_rest : ByteArray := prog_1_method_46_code
def yX11_rest : MethodName := ⟨RX11, "rest", "(I)I"⟩
abbrev cX11_odds : ByteArray := prog_1_method_47_code
def yX11_odds : MethodName := ⟨RX11, "odds", "(IIIZ)J"⟩
abbrev cX11_mean : ByteArray := prog_1_method_48_code
def yX11_mean : MethodName := ⟨RX11, "mean", "(IIZ)J"⟩
abbrev cX11_drawn : ByteArray := prog_1_method_49_code
def yX11_drawn : MethodName := ⟨RX11, "drawn", "(III)I"⟩
abbrev cX11_night : ByteArray := prog_1_method_50_code
def yX11_night : MethodName := ⟨RX11, "night", "()I"⟩
abbrev cX11_add : ByteArray := prog_1_method_51_code
def yX11_add : MethodName := ⟨RX11, "add", "(II)I"⟩
abbrev cX11_take : ByteArray := prog_1_method_52_code
def yX11_take : MethodName := ⟨RX11, "take", "(II)I"⟩
abbrev cX11_join : ByteArray := prog_1_method_53_code
def yX11_join : MethodName := ⟨RX11, "join", "(III)I"⟩
abbrev cX11_undo : ByteArray := prog_1_method_54_code
def yX11_undo : MethodName := ⟨RX11, "undo", "()Z"⟩
abbrev cX11_image : ByteArray := prog_1_method_55_code
def yX11_image : MethodName := ⟨RX11, "image", "()I"⟩
abbrev cX11_back : ByteArray := prog_1_method_56_code
def yX11_back : MethodName := ⟨RX11, "back", "(I)Z"⟩
abbrev cX11_led : ByteArray := prog_1_method_57_code
def yX11_led : MethodName := ⟨RX11, "led", "(I)I"⟩
abbrev cX11_size : ByteArray := prog_1_method_58_code
def yX11_size : MethodName := ⟨RX11, "size", "(I)I"⟩
abbrev cX11_trouble : ByteArray := prog_1_method_59_code
def yX11_trouble : MethodName := ⟨RX11, "trouble", "()I"⟩
abbrev cX11_refuses : ByteArray := prog_1_method_60_code
def yX11_refuses : MethodName := ⟨RX11, "refuses", "(IZ)Z"⟩
abbrev cX11_refusesStore : ByteArray := prog_1_method_61_code
def yX11_refusesStore : MethodName := ⟨RX11, "refusesStore", "()Z"⟩
abbrev cX11_refusesCellar : ByteArray := prog_1_method_62_code
def yX11_refusesCellar : MethodName := ⟨RX11, "refusesCella\x72", "(I)Z"⟩
abbrev cX11_refusesNumber : ByteArray := prog_1_method_63_code
def yX11_refusesNumber : MethodName := ⟨RX11, "refusesNumbe\x72", "(II)Z"⟩
abbrev cX11_hasStore : ByteArray := prog_1_method_64_code
def yX11_hasStore : MethodName := ⟨RX11, "hasStore", "()Z"⟩
abbrev cX11_hasCellar : ByteArray := prog_1_method_65_code
def yX11_hasCellar : MethodName := ⟨RX11, "hasCella\x72", "(I)Z"⟩
abbrev cX11_hasHeap : ByteArray := prog_1_method_66_code
def yX11_hasHeap : MethodName := ⟨RX11, "hasHeap", "(II)Z"⟩
abbrev cX11_begin : ByteArray := prog_1_method_67_code
def yX11_begin : MethodName := ⟨RX11, "begin", "(LStewardHeaps$Walk;I)V"⟩
abbrev cX11_behind : ByteArray := prog_1_method_68_code
def yX11_behind : MethodName := ⟨RX11, "behind", "(II)LStewardHeaps$Heaps;"⟩
abbrev cX11_staysSame : ByteArray := prog_1_method_69_code
def yX11_staysSame : MethodName := ⟨RX11, "staysSame", "(I)Z"⟩
abbrev cX11_roundLength : ByteArray := prog_1_method_70_code
def yX11_roundLength : MethodName := ⟨RX11, "roundLength", "(I)I"⟩
abbrev cX11_firstOfRound : ByteArray := prog_1_method_71_code
def yX11_firstOfRound : MethodName := ⟨RX11, "firstOfRound", "(II)I"⟩
abbrev cX11_stewardHas : ByteArray := prog_1_method_72_code
def yX11_stewardHas : MethodName := ⟨RX11, "stewardHas", "(IZZ)I"⟩
abbrev cX11_mouseHas : ByteArray := prog_1_method_73_code
def yX11_mouseHas : MethodName := ⟨RX11, "mouseHas", "(ZZ)I"⟩
abbrev cX11_isRest : ByteArray := prog_1_method_74_code
def yX11_isRest : MethodName := ⟨RX11, "isRest", "(IZZ)Z"⟩
def RX12 : String := "StewardHeapsModel"
def TX12 : u_T := fun k => match k with
  | 0 => ("StewardHeapsModel", "thrown", "I", false)
  | 1 => ("StewardHeapsModel", "tape", "[I", true)
  | 2 => ("StewardHeapsModel", "taped", "I", false)
  | 3 => ("StewardHeapsModel", "size", "I", false)
  | 4 => ("StewardHeapsModel", "at", "I", false)
  | 5 => ("StewardHeapsModel", "end", "I", false)
  | 6 => ("StewardHeapsModel", "token", "I", false)
  | 7 => ("StewardHeapsModel", "whole", "I", false)
  | 8 => ("StewardHeapsModel", "nameSize", "I", false)
  | 9 => ("StewardHeapsModel", "fault", "I", false)
  | 10 => ("StewardHeapsModel", "place", "I", false)
  | 11 => ("StewardHeapsModel", "trouble", "I", false)
  | 12 => ("StewardHeapsModel", "letters", "[I", true)
  | 13 => ("StewardHeapsModel", "failed", "Z", false)
  | 14 => ("StewardHeapsModel", "hasStore", "Z", false)
  | 15 => ("StewardHeapsModel", "\x72", "[I", true)
  | 16 => ("StewardHeapsModel", "fresh", "[I", true)
  | 17 => ("StewardHeapsModel", "told", "[I", true)
  | 18 => ("StewardHeapsModel", "read", "[I", true)
  | 19 => ("StewardHeapsModel", "st", "[I", true)
  | 20 => ("StewardHeapsModel", "undone", "[I", true)
  | 21 => ("StewardHeapsModel", "kept", "[I", true)
  | 22 => ("StewardHeapsModel", "undos", "I", false)
  | 23 => ("StewardHeapsModel", "images", "I", false)
  | 24 => ("StewardHeapsModel", "isTold", "Z", false)
  | 25 => ("StewardHeapsModel", "trial", "[I", true)
  | 26 => ("StewardHeapsModel", "othe\x72", "[I", true)
  | 27 => ("StewardHeapsModel", "nights", "[I", true)
  | 28 => ("StewardHeapsModel", "settled", "I", false)
  | 29 => ("StewardHeapsModel", "again", "I", false)
  | 30 => ("StewardHeapsModel", "powers", "[I", true)
  | 31 => ("StewardHeapsModel", "waysOf", "[I", true)
  | 32 => ("StewardHeapsModel", "unlike", "[I", true)
  | 33 => ("StewardHeapsModel", "few", "[I", true)
  | 34 => ("StewardHeapsModel", "often", "[I", true)
  | 35 => ("StewardHeapsModel", "setMany", "I", false)
  | 36 => ("StewardHeapsModel", "someOf", "I", false)
  | 37 => ("StewardHeapsModel", "allOf", "I", false)
  | 38 => ("StewardHeapsModel", "firstRest", "I", false)
  | 39 => ("StewardHeapsModel", "allWeight", "J", false)
  | 40 => ("StewardHeapsModel", "manyWeight", "J", false)
  | _ => ("StewardHeapsModel", "heapSum", "J", false)
def tyX12 : Nat → FieldType := fun k => match k with
  | 0 => .int
  | 1 => .array .int
  | 2 => .int
  | 3 => .int
  | 4 => .int
  | 5 => .int
  | 6 => .int
  | 7 => .int
  | 8 => .int
  | 9 => .int
  | 10 => .int
  | 11 => .int
  | 12 => .array .int
  | 13 => .boolean
  | 14 => .boolean
  | 15 => .array .int
  | 16 => .array .int
  | 17 => .array .int
  | 18 => .array .int
  | 19 => .array .int
  | 20 => .array .int
  | 21 => .array .int
  | 22 => .int
  | 23 => .int
  | 24 => .boolean
  | 25 => .array .int
  | 26 => .array .int
  | 27 => .array .int
  | 28 => .int
  | 29 => .int
  | 30 => .array .int
  | 31 => .array .int
  | 32 => .array .int
  | 33 => .array .int
  | 34 => .array .int
  | 35 => .int
  | 36 => .int
  | 37 => .int
  | 38 => .int
  | 39 => .long
  | 40 => .long
  | _ => .long
theorem nmX12 : ∀ a, a < 42 → ∀ b, b < 42 → a ≠ b → (TX12 a).2.1 ≠ (TX12 b).2.1 := by decide +kernel
theorem tyX12_ok : ∀ k, k < 42 → parseFieldDescriptor (TX12 k).2.2.1 = some (tyX12 k) := by decide +kernel
abbrev cX12_init : ByteArray := prog_14_method_1_code
def yX12_init : MethodName := ⟨RX12, "<init>", "()V"⟩
abbrev cX12_thrown : ByteArray := prog_14_method_2_code
def yX12_thrown : MethodName := ⟨RX12, "thrown", "()I"⟩
abbrev cX12_anew : ByteArray := prog_14_method_3_code
def yX12_anew : MethodName := ⟨RX12, "anew", "()V"⟩
abbrev cX12_no : ByteArray := prog_14_method_4_code
def yX12_no : MethodName := ⟨RX12, "no", "(I)I"⟩
abbrev cX12_isNot : ByteArray := prog_14_method_5_code
def yX12_isNot : MethodName := ⟨RX12, "isNot", "(I)Z"⟩
abbrev cX12_in : ByteArray := prog_14_method_6_code
def yX12_in : MethodName := ⟨RX12, "in", "(III)Z"⟩
abbrev cX12_hasBit : ByteArray := prog_14_method_7_code
def yX12_hasBit : MethodName := ⟨RX12, "hasBit", "(II)Z"⟩
abbrev cX12_copy : ByteArray := prog_14_method_8_code
def yX12_copy : MethodName := ⟨RX12, "copy", "([II[III)V"⟩
abbrev cX12_lowest : ByteArray := prog_14_method_9_code
def yX12_lowest : MethodName := ⟨RX12, "lowest", "(JJZ)J"⟩
abbrev cX12_feed : ByteArray := prog_14_method_10_code
def yX12_feed : MethodName := ⟨RX12, "feed", "(IIIII)I"⟩
abbrev cX12_see : ByteArray := prog_14_method_11_code
def yX12_see : MethodName := ⟨RX12, "see", "(I)I"⟩
abbrev cX12_isSmall : ByteArray := prog_14_method_12_code
def yX12_isSmall : MethodName := ⟨RX12, "isSmall", "(I)Z"⟩
abbrev cX12_isDigit : ByteArray := prog_14_method_13_code
def yX12_isDigit : MethodName := ⟨RX12, "isDigit", "(I)Z"⟩
abbrev cX12_next : ByteArray := prog_14_method_14_code
def yX12_next : MethodName := ⟨RX12, "next", "()V"⟩
abbrev cX12_wrong : ByteArray := prog_14_method_15_code
def yX12_wrong : MethodName := ⟨RX12, "wrong", "(II)V"⟩
abbrev cX12_isWord : ByteArray := prog_14_method_16_code
def yX12_isWord : MethodName := ⟨RX12, "isWord", "(Ljava/lang/String;)Z"⟩
abbrev cX12_takesWord : ByteArray := prog_14_method_17_code
def yX12_takesWord : MethodName := ⟨RX12, "takesWord", "(Ljava/lang/String;)Z"⟩
abbrev cX12_must : ByteArray := prog_14_method_18_code
def yX12_must : MethodName := ⟨RX12, "must", "(Ljava/lang/String;)V"⟩
abbrev cX12_mustName : ByteArray := prog_14_method_19_code
def yX12_mustName : MethodName := ⟨RX12, "mustName", "()V"⟩
abbrev cX12_find : ByteArray := prog_14_method_20_code
def yX12_find : MethodName := ⟨RX12, "find", "()I"⟩
abbrev cX12_newName : ByteArray := prog_14_method_21_code
def yX12_newName : MethodName := ⟨RX12, "newName", "(I)V"⟩
abbrev cX12_cellarHere : ByteArray := prog_14_method_22_code
def yX12_cellarHere : MethodName := ⟨RX12, "cellarHere", "()I"⟩
abbrev cX12_pass : ByteArray := prog_14_method_23_code
def yX12_pass : MethodName := ⟨RX12, "pass", "()V"⟩
abbrev cX12_numberHere : ByteArray := prog_14_method_24_code
def yX12_numberHere : MethodName := ⟨RX12, "numberHere", "(II)I"⟩
abbrev cX12_number : ByteArray := prog_14_method_25_code
def yX12_number : MethodName := ⟨RX12, "numbe\x72", "(II)I"⟩
abbrev cX12_after : ByteArray := prog_14_method_26_code
def yX12_after : MethodName := ⟨RX12, "afte\x72", "(Ljava/lang/String;II)I"⟩
abbrev cX12_store : ByteArray := prog_14_method_27_code
def yX12_store : MethodName := ⟨RX12, "store", "(I)I"⟩
abbrev cX12_begins : ByteArray := prog_14_method_28_code
def yX12_begins : MethodName := ⟨RX12, "begins", "(Ljava/lang/String;Z)Z"⟩
abbrev cX12_readLine : ByteArray := prog_14_method_29_code
def yX12_readLine : MethodName := ⟨RX12, "readLine", "()V"⟩
abbrev cX12_storeLine : ByteArray := prog_14_method_30_code
def yX12_storeLine : MethodName := ⟨RX12, "storeLine", "()V"⟩
abbrev cX12_cellarLine : ByteArray := prog_14_method_31_code
def yX12_cellarLine : MethodName := ⟨RX12, "cellarLine", "()V"⟩
abbrev cX12_unsureLine : ByteArray := prog_14_method_32_code
def yX12_unsureLine : MethodName := ⟨RX12, "unsureLine", "()V"⟩
abbrev cX12_seenLine : ByteArray := prog_14_method_33_code
def yX12_seenLine : MethodName := ⟨RX12, "seenLine", "()V"⟩
abbrev cX12_fault : ByteArray := prog_14_method_34_code
def yX12_fault : MethodName := ⟨RX12, "fault", "()I"⟩
abbrev cX12_where : ByteArray := prog_14_method_35_code
def yX12_where : MethodName := ⟨RX12, "where", "()I"⟩
abbrev cX12_isCellar : ByteArray := prog_14_method_36_code
def yX12_isCellar : MethodName := ⟨RX12, "isCella\x72", "(I)Z"⟩
abbrev cX12_areTwo : ByteArray := prog_14_method_37_code
def yX12_areTwo : MethodName := ⟨RX12, "areTwo", "(II)Z"⟩
abbrev cX12_why : ByteArray := prog_14_method_38_code
def yX12_why : MethodName := ⟨RX12, "why", "(ZZ)I"⟩
abbrev cX12_sortOf : ByteArray := prog_14_method_39_code
def yX12_sortOf : MethodName := ⟨RX12, "sortOf", "([II)V"⟩
abbrev cX12_manyOf : ByteArray := prog_14_method_40_code
def yX12_manyOf : MethodName := ⟨RX12, "manyOf", "([II)I"⟩
abbrev cX12_stonesOf : ByteArray := prog_14_method_41_code
def yX12_stonesOf : MethodName := ⟨RX12, "stonesOf", "([II)I"⟩
abbrev cX12_layOn : ByteArray := prog_14_method_42_code
def yX12_layOn : MethodName := ⟨RX12, "layOn", "([III)V"⟩
abbrev cX12_takenOf : ByteArray := prog_14_method_43_code
def yX12_takenOf : MethodName := ⟨RX12, "takenOf", "([IIZ)I"⟩
abbrev cX12_giveOf : ByteArray := prog_14_method_44_code
def yX12_giveOf : MethodName := ⟨RX12, "giveOf", "([II)V"⟩
abbrev cX12_nightOf : ByteArray := prog_14_method_45_code
def yX12_nightOf : MethodName := ⟨RX12, "nightOf", "([III)V"⟩
abbrev cX12_begin : ByteArray := prog_14_method_46_code
def yX12_begin : MethodName := ⟨RX12, "begin", "(I)V"⟩
abbrev cX12_nightsOn : ByteArray := prog_14_method_47_code
def yX12_nightsOn : MethodName := ⟨RX12, "nightsOn", "(II)V"⟩
abbrev cX12_isSame : ByteArray := prog_14_method_48_code
def yX12_isSame : MethodName := ⟨RX12, "isSame", "([II[III)Z"⟩
abbrev cX12_cellar : ByteArray := prog_14_method_49_code
def yX12_cellar : MethodName := ⟨RX12, "cella\x72", "(II)I"⟩
abbrev cX12_heap : ByteArray := prog_14_method_50_code
def yX12_heap : MethodName := ⟨RX12, "heap", "(II)I"⟩
abbrev cX12_isStill : ByteArray := prog_14_method_51_code
def yX12_isStill : MethodName := ⟨RX12, "isStill", "(I)Z"⟩
abbrev cX12_still : ByteArray := prog_14_method_52_code
def yX12_still : MethodName := ⟨RX12, "still", "(I)I"⟩
abbrev cX12_aheadWhy : ByteArray := prog_14_method_53_code
def yX12_aheadWhy : MethodName := ⟨RX12, "aheadWhy", "(II)I"⟩
abbrev cX12_heaps : ByteArray := prog_14_method_54_code
def yX12_heaps : MethodName := ⟨RX12, "heaps", "(II)I"⟩
abbrev cX12_greatest : ByteArray := prog_14_method_55_code
def yX12_greatest : MethodName := ⟨RX12, "greatest", "(II)I"⟩
abbrev cX12_heapIn : ByteArray := prog_14_method_56_code
def yX12_heapIn : MethodName := ⟨RX12, "heapIn", "(III)I"⟩
abbrev cX12_held : ByteArray := prog_14_method_57_code
def yX12_held : MethodName := ⟨RX12, "held", "(II)I"⟩
abbrev cX12_goRound : ByteArray := prog_14_method_58_code
def yX12_goRound : MethodName := ⟨RX12, "goRound", "(I)V"⟩
abbrev cX12_settles : ByteArray := prog_14_method_59_code
def yX12_settles : MethodName := ⟨RX12, "settles", "(I)I"⟩
abbrev cX12_round : ByteArray := prog_14_method_60_code
def yX12_round : MethodName := ⟨RX12, "round", "(I)I"⟩
abbrev cX12_fewest : ByteArray := prog_14_method_61_code
def yX12_fewest : MethodName := ⟨RX12, "fewest", "(I)I"⟩
abbrev cX12_alike : ByteArray := prog_14_method_62_code
def yX12_alike : MethodName := ⟨RX12, "alike", "(II)I"⟩
abbrev cX12_columnOf : ByteArray := prog_14_method_63_code
def yX12_columnOf : MethodName := ⟨RX12, "columnOf", "(II)I"⟩
abbrev cX12_column : ByteArray := prog_14_method_64_code
def yX12_column : MethodName := ⟨RX12, "column", "(II)I"⟩
abbrev cX12_square : ByteArray := prog_14_method_65_code
def yX12_square : MethodName := ⟨RX12, "square", "(I)I"⟩
abbrev cX12_corners : ByteArray := prog_14_method_66_code
def yX12_corners : MethodName := ⟨RX12, "corners", "(I)I"⟩
abbrev cX12_rank : ByteArray := prog_14_method_67_code
def yX12_rank : MethodName := ⟨RX12, "rank", "(I)I"⟩
abbrev cX12_hookOf : ByteArray := prog_14_method_68_code
def yX12_hookOf : MethodName := ⟨RX12, "hookOf", "(III)I"⟩
abbrev cX12_hook : ByteArray := prog_14_method_69_code
def yX12_hook : MethodName := ⟨RX12, "hook", "(III)I"⟩
abbrev cX12_factor : ByteArray := prog_14_method_70_code
def yX12_factor : MethodName := ⟨RX12, "facto\x72", "(II)V"⟩
abbrev cX12_orders : ByteArray := prog_14_method_71_code
def yX12_orders : MethodName := ⟨RX12, "orders", "(I)J"⟩
abbrev cX12_common : ByteArray := prog_14_method_72_code
def yX12_common : MethodName := ⟨RX12, "common", "(II)I"⟩
abbrev cX12_mirrors : ByteArray := prog_14_method_73_code
def yX12_mirrors : MethodName := ⟨RX12, "mirrors", "(II)I"⟩
abbrev cX12_isNew : ByteArray := prog_14_method_74_code
def yX12_isNew : MethodName := ⟨RX12, "isNew", "(II)Z"⟩
abbrev cX12_sources : ByteArray := prog_14_method_75_code
def yX12_sources : MethodName := ⟨RX12, "sources", "(I)I"⟩
abbrev cX12_laySource : ByteArray := prog_14_method_76_code
def yX12_laySource : MethodName := ⟨RX12, "laySource", "(II)V"⟩
abbrev cX12_source : ByteArray := prog_14_method_77_code
def yX12_source : MethodName := ⟨RX12, "source", "(III)I"⟩
abbrev cX12_layWays : ByteArray := prog_14_method_78_code
def yX12_layWays : MethodName := ⟨RX12, "layWays", "()V"⟩
abbrev cX12_numberWhy : ByteArray := prog_14_method_79_code
def yX12_numberWhy : MethodName := ⟨RX12, "numberWhy", "(II)I"⟩
abbrev cX12_ways : ByteArray := prog_14_method_80_code
def yX12_ways : MethodName := ⟨RX12, "ways", "(I)I"⟩
abbrev cX12_waysBy : ByteArray := prog_14_method_81_code
def yX12_waysBy : MethodName := ⟨RX12, "waysBy", "(II)I"⟩
abbrev cX12_waysUnlike : ByteArray := prog_14_method_82_code
def yX12_waysUnlike : MethodName := ⟨RX12, "waysUnlike", "(I)I"⟩
abbrev cX12_eatSum : ByteArray := prog_14_method_83_code
def yX12_eatSum : MethodName := ⟨RX12, "eatSum", "(I)I"⟩
abbrev cX12_eatFrom : ByteArray := prog_14_method_84_code
def yX12_eatFrom : MethodName := ⟨RX12, "eatFrom", "(II)I"⟩
abbrev cX12_eatHeap : ByteArray := prog_14_method_85_code
def yX12_eatHeap : MethodName := ⟨RX12, "eatHeap", "(I)I"⟩
abbrev cX12_eats : ByteArray := prog_14_method_86_code
def yX12_eats : MethodName := ⟨RX12, "eats", "(I)I"⟩
abbrev cX12_eatsOf : ByteArray := prog_14_method_87_code
def yX12_eatsOf : MethodName := ⟨RX12, "eatsOf", "(I)I"⟩
abbrev cX12_eatsMany : ByteArray := prog_14_method_88_code
def yX12_eatsMany : MethodName := ⟨RX12, "eatsMany", "(I)I"⟩
abbrev cX12_carry : ByteArray := prog_14_method_89_code
def yX12_carry : MethodName := ⟨RX12, "carry", "(I)I"⟩
abbrev cX12_level : ByteArray := prog_14_method_90_code
def yX12_level : MethodName := ⟨RX12, "level", "(I)I"⟩
abbrev cX12_laySums : ByteArray := prog_14_method_91_code
def yX12_laySums : MethodName := ⟨RX12, "laySums", "(I)V"⟩
abbrev cX12_makes : ByteArray := prog_14_method_92_code
def yX12_makes : MethodName := ⟨RX12, "makes", "(II)I"⟩
abbrev cX12_half : ByteArray := prog_14_method_93_code
def yX12_half : MethodName := ⟨RX12, "half", "(I)I"⟩
abbrev cX12_wrongBy : ByteArray := prog_14_method_94_code
def yX12_wrongBy : MethodName := ⟨RX12, "wrongBy", "(I)I"⟩
abbrev cX12_seekSets : ByteArray := prog_14_method_95_code
def yX12_seekSets : MethodName := ⟨RX12, "seekSets", "(I)I"⟩
abbrev cX12_fits : ByteArray := prog_14_method_96_code
def yX12_fits : MethodName := ⟨RX12, "fits", "()I"⟩
abbrev cX12_fitAt : ByteArray := prog_14_method_97_code
def yX12_fitAt : MethodName := ⟨RX12, "fitAt", "(I)I"⟩
abbrev cX12_could : ByteArray := prog_14_method_98_code
def yX12_could : MethodName := ⟨RX12, "could", "()I"⟩
abbrev cX12_surely : ByteArray := prog_14_method_99_code
def yX12_surely : MethodName := ⟨RX12, "surely", "()I"⟩
abbrev cX12_leavesOf : ByteArray := prog_14_method_100_code
def yX12_leavesOf : MethodName := ⟨RX12, "leavesOf", "(I)I"⟩
abbrev cX12_askOf : ByteArray := prog_14_method_101_code
def yX12_askOf : MethodName := ⟨RX12, "askOf", "()I"⟩
abbrev cX12_ask : ByteArray := prog_14_method_102_code
def yX12_ask : MethodName := ⟨RX12, "ask", "()I"⟩
abbrev cX12_askLeaves : ByteArray := prog_14_method_103_code
def yX12_askLeaves : MethodName := ⟨RX12, "askLeaves", "()I"⟩
abbrev cX12_judge : ByteArray := prog_14_method_104_code
def yX12_judge : MethodName := ⟨RX12, "judge", "()I"⟩
abbrev cX12_stewardHas : ByteArray := prog_14_method_105_code
def yX12_stewardHas : MethodName := ⟨RX12, "stewardHas", "(IZZ)I"⟩
abbrev cX12_mouseHas : ByteArray := prog_14_method_106_code
def yX12_mouseHas : MethodName := ⟨RX12, "mouseHas", "(ZZ)I"⟩
abbrev cX12_comes : ByteArray := prog_14_method_107_code
def yX12_comes : MethodName := ⟨RX12, "comes", "(IZZZ)I"⟩
abbrev cX12_seekRests : ByteArray := prog_14_method_108_code
def yX12_seekRests : MethodName := ⟨RX12, "seekRests", "(I)I"⟩
abbrev cX12_rests : ByteArray := prog_14_method_109_code
def yX12_rests : MethodName := ⟨RX12, "rests", "(I)I"⟩
abbrev cX12_rest : ByteArray := prog_14_method_110_code
def yX12_rest : MethodName := ⟨RX12, "rest", "(I)I"⟩
abbrev cX12_trySleep : ByteArray := prog_14_method_111_code
def yX12_trySleep : MethodName := ⟨RX12, "trySleep", "(III)V"⟩
abbrev cX12_odds : ByteArray := prog_14_method_112_code
def yX12_odds : MethodName := ⟨RX12, "odds", "(IIIZ)J"⟩
abbrev cX12_mean : ByteArray := prog_14_method_113_code
def yX12_mean : MethodName := ⟨RX12, "mean", "(IIZ)J"⟩
abbrev cX12_drawn : ByteArray := prog_14_method_114_code
def yX12_drawn : MethodName := ⟨RX12, "drawn", "(III)I"⟩
abbrev cX12_note : ByteArray := prog_14_method_115_code
def yX12_note : MethodName := ⟨RX12, "note", "()V"⟩
abbrev cX12_night : ByteArray := prog_14_method_116_code
def yX12_night : MethodName := ⟨RX12, "night", "()I"⟩
abbrev cX12_add : ByteArray := prog_14_method_117_code
def yX12_add : MethodName := ⟨RX12, "add", "(II)I"⟩
abbrev cX12_isHeap : ByteArray := prog_14_method_118_code
def yX12_isHeap : MethodName := ⟨RX12, "isHeap", "(II)Z"⟩
abbrev cX12_take : ByteArray := prog_14_method_119_code
def yX12_take : MethodName := ⟨RX12, "take", "(II)I"⟩
abbrev cX12_join : ByteArray := prog_14_method_120_code
def yX12_join : MethodName := ⟨RX12, "join", "(III)I"⟩
abbrev cX12_undo : ByteArray := prog_14_method_121_code
def yX12_undo : MethodName := ⟨RX12, "undo", "()Z"⟩
abbrev cX12_image : ByteArray := prog_14_method_122_code
def yX12_image : MethodName := ⟨RX12, "image", "()I"⟩
abbrev cX12_back : ByteArray := prog_14_method_123_code
def yX12_back : MethodName := ⟨RX12, "back", "(I)Z"⟩
abbrev cX12_led : ByteArray := prog_14_method_124_code
def yX12_led : MethodName := ⟨RX12, "led", "(I)I"⟩
abbrev cX12_allStones : ByteArray := prog_14_method_125_code
def yX12_allStones : MethodName := ⟨RX12, "allStones", "()I"⟩
abbrev cX12_size : ByteArray := prog_14_method_126_code
def yX12_size : MethodName := ⟨RX12, "size", "(I)I"⟩
abbrev cX12_trouble : ByteArray := prog_14_method_127_code
def yX12_trouble : MethodName := ⟨RX12, "trouble", "()I"⟩
def RL : String := "StewardHeapsLaw"
abbrev cL_led : ByteArray := method_3_code
def yL_led : MethodName := ⟨RL, "led", "(LStewardHeaps;I[J)I"⟩
abbrev cL_law : ByteArray := code
def yL_law : MethodName := ⟨RL, "law", "([I)Z"⟩
def RJx145de : String := "java/io/Serializable"
def RJx9f9b0 : String := "java/lang/CharSequence"
def RJxb160c : String := "java/lang/Comparable"
def RJ9 : String := "java/lang/Math"
abbrev cJ9_max_7cf53 : ByteArray := prog_19_method_65_code
def yJ9_max_7cf53 : MethodName := ⟨RJ9, "max", "(II)I"⟩
abbrev cJ9_min_7cf53 : ByteArray := prog_19_method_69_code
def yJ9_min_7cf53 : MethodName := ⟨RJ9, "min", "(II)I"⟩
def RJ0 : String := "java/lang/String"
abbrev cJ0_length_8abf5 : ByteArray := prog_21_method_54_code
def yJ0_length_8abf5 : MethodName := ⟨RJ0, "length", "()I"⟩
abbrev cJ0_charAt_5068e : ByteArray := prog_21_method_56_code
def yJ0_charAt_5068e : MethodName := ⟨RJ0, "charAt", "(I)C"⟩
abbrev cJ0_coder_7d493 : ByteArray := prog_21_method_152_code
def yJ0_coder_7d493 : MethodName := ⟨RJ0, "code\x72", "()B"⟩
abbrev cJ0_isLatin1_aae02 : ByteArray := prog_21_method_154_code
def yJ0_isLatin1_aae02 : MethodName := ⟨RJ0, "isLatin1", "()Z"⟩
abbrev cJ0_checkIndex_df160 : ByteArray := prog_21_method_155_code
def yJ0_checkIndex_df160 : MethodName := ⟨RJ0, "checkIndex", "(II)V"⟩
def RJ1 : String := "java/lang/StringLatin1"
abbrev cJ1_charAt_3b067 : ByteArray := prog_22_method_2_code
def yJ1_charAt_3b067 : MethodName := ⟨RJ1, "charAt", "([BI)C"⟩
def RJ2 : String := "java/lang/StringUTF16"
abbrev cJ2_getChar_3b067 : ByteArray := prog_23_method_5_code
def yJ2_getChar_3b067 : MethodName := ⟨RJ2, "getCha\x72", "([BI)C"⟩
abbrev cJ2_length_9d52b : ByteArray := prog_23_method_6_code
def yJ2_length_9d52b : MethodName := ⟨RJ2, "length", "([B)I"⟩
abbrev cJ2_charAt_3b067 : ByteArray := prog_23_method_83_code
def yJ2_charAt_3b067 : MethodName := ⟨RJ2, "charAt", "([BI)C"⟩
abbrev cJ2_checkIndex_2214a : ByteArray := prog_23_method_91_code
def yJ2_checkIndex_2214a : MethodName := ⟨RJ2, "checkIndex", "(I[B)V"⟩
def RJ10 : String := "java/lang/System"
def RJxfd54e : String := "java/lang/constant/Constable"
def RJx3cf43 : String := "java/lang/constant/ConstantDesc"
def RJ3 : String := "jdk/internal/util/Preconditions"
abbrev cJ3_checkIndex_8e157 : ByteArray := prog_29_method_11_code
def yJ3_checkIndex_8e157 : MethodName := ⟨RJ3, "checkIndex", "(IILjava/util/function/BiFunction;)I"⟩
