section
-- ===== PART A: goes FIRST, ahead of the names: the tables' words, and 'selects' of the private methods out of them =====
/-- a private method of a class that the tables say can be made, by its rows of tables_1 -/
def lw_okq (q : MethodName × Nat) : Prop := (q.1.cls ≠ "java/lang/invoke/MethodHandle" ∧ q.1.cls ≠ "java/lang/invoke/VarHandle") ∧ Cond.instantiable q.1.cls q.2 ∈ tables_1 ∧ Cond.privateMethod q.1 ∈ tables_1 ∧ Cond.instanceMethod q.1 ∈ tables_1
theorem lw_p0 : lw_okq (⟨"PagedMemory", "writeOut", "(LPagedMemory$Content;)I"⟩, 11) := ⟨⟨by decide +kernel, by decide +kernel⟩, List.mem_of_getElem? (i := 15) (by decide +kernel), List.mem_of_getElem? (i := 105) (by decide +kernel), List.mem_of_getElem? (i := 106) (by decide +kernel)⟩
theorem lw_p1 : lw_okq (⟨"PagedMemory", "firstPageOf", "(LPagedMemory$Content;)I"⟩, 11) := ⟨⟨by decide +kernel, by decide +kernel⟩, List.mem_of_getElem? (i := 15) (by decide +kernel), List.mem_of_getElem? (i := 109) (by decide +kernel), List.mem_of_getElem? (i := 110) (by decide +kernel)⟩
theorem lw_p2 : lw_okq (⟨"PagedMemory", "gatherCluster", "(LPagedMemory$Content;I)I"⟩, 11) := ⟨⟨by decide +kernel, by decide +kernel⟩, List.mem_of_getElem? (i := 15) (by decide +kernel), List.mem_of_getElem? (i := 113) (by decide +kernel), List.mem_of_getElem? (i := 114) (by decide +kernel)⟩
theorem lw_p3 : lw_okq (⟨"PagedMemory", "requirePage", "(II)V"⟩, 11) := ⟨⟨by decide +kernel, by decide +kernel⟩, List.mem_of_getElem? (i := 15) (by decide +kernel), List.mem_of_getElem? (i := 166) (by decide +kernel), List.mem_of_getElem? (i := 167) (by decide +kernel)⟩
theorem lw_p4 : lw_okq (⟨"PagedMemory", "requireProcess", "(I)V"⟩, 11) := ⟨⟨by decide +kernel, by decide +kernel⟩, List.mem_of_getElem? (i := 15) (by decide +kernel), List.mem_of_getElem? (i := 170) (by decide +kernel), List.mem_of_getElem? (i := 171) (by decide +kernel)⟩
theorem lw_p5 : lw_okq (⟨"java/lang/Throwable", "fillInStackTrace", "(I)Ljava/lang/Throwable;"⟩, 6) := ⟨⟨by decide +kernel, by decide +kernel⟩, List.mem_of_getElem? (i := 213) (by decide +kernel), List.mem_of_getElem? (i := 211) (by decide +kernel), List.mem_of_getElem? (i := 212) (by decide +kernel)⟩
theorem lw_p6 : lw_okq (⟨"PagedMemory", "requireFrame", "(I)V"⟩, 11) := ⟨⟨by decide +kernel, by decide +kernel⟩, List.mem_of_getElem? (i := 15) (by decide +kernel), List.mem_of_getElem? (i := 259) (by decide +kernel), List.mem_of_getElem? (i := 260) (by decide +kernel)⟩
theorem lw_p7 : lw_okq (⟨"PagedMemory", "requireRoomForProcess", "()V"⟩, 11) := ⟨⟨by decide +kernel, by decide +kernel⟩, List.mem_of_getElem? (i := 15) (by decide +kernel), List.mem_of_getElem? (i := 328) (by decide +kernel), List.mem_of_getElem? (i := 329) (by decide +kernel)⟩
theorem lw_p8 : lw_okq (⟨"PagedMemory", "createProcess", "()I"⟩, 11) := ⟨⟨by decide +kernel, by decide +kernel⟩, List.mem_of_getElem? (i := 15) (by decide +kernel), List.mem_of_getElem? (i := 333) (by decide +kernel), List.mem_of_getElem? (i := 334) (by decide +kernel)⟩
theorem lw_p9 : lw_okq (⟨"PagedMemory", "requireLive", "(I)V"⟩, 11) := ⟨⟨by decide +kernel, by decide +kernel⟩, List.mem_of_getElem? (i := 15) (by decide +kernel), List.mem_of_getElem? (i := 346) (by decide +kernel), List.mem_of_getElem? (i := 347) (by decide +kernel)⟩
theorem lw_p10 : lw_okq (⟨"PagedMemory", "refer", "(ILPagedMemory$Content;)V"⟩, 11) := ⟨⟨by decide +kernel, by decide +kernel⟩, List.mem_of_getElem? (i := 15) (by decide +kernel), List.mem_of_getElem? (i := 366) (by decide +kernel), List.mem_of_getElem? (i := 367) (by decide +kernel)⟩
theorem lw_p11 : lw_okq (⟨"PagedMemory", "dropReference", "(I)Z"⟩, 11) := ⟨⟨by decide +kernel, by decide +kernel⟩, List.mem_of_getElem? (i := 15) (by decide +kernel), List.mem_of_getElem? (i := 377) (by decide +kernel), List.mem_of_getElem? (i := 378) (by decide +kernel)⟩
theorem lw_p12 : lw_okq (⟨"PagedMemory", "requireUnmapped", "(II)V"⟩, 11) := ⟨⟨by decide +kernel, by decide +kernel⟩, List.mem_of_getElem? (i := 15) (by decide +kernel), List.mem_of_getElem? (i := 396) (by decide +kernel), List.mem_of_getElem? (i := 397) (by decide +kernel)⟩
theorem lw_p13 : lw_okq (⟨"PagedMemory", "mappedPages", "(I)I"⟩, 11) := ⟨⟨by decide +kernel, by decide +kernel⟩, List.mem_of_getElem? (i := 15) (by decide +kernel), List.mem_of_getElem? (i := 439) (by decide +kernel), List.mem_of_getElem? (i := 440) (by decide +kernel)⟩
theorem lw_p14 : lw_okq (⟨"PagedMemory", "requireSegmentContent", "(II)LPagedMemory$Content;"⟩, 11) := ⟨⟨by decide +kernel, by decide +kernel⟩, List.mem_of_getElem? (i := 15) (by decide +kernel), List.mem_of_getElem? (i := 459) (by decide +kernel), List.mem_of_getElem? (i := 460) (by decide +kernel)⟩
theorem lw_p15 : lw_okq (⟨"PagedMemory", "requireMapped", "(II)LPagedMemory$Content;"⟩, 11) := ⟨⟨by decide +kernel, by decide +kernel⟩, List.mem_of_getElem? (i := 15) (by decide +kernel), List.mem_of_getElem? (i := 473) (by decide +kernel), List.mem_of_getElem? (i := 474) (by decide +kernel)⟩
def lw_privs_1 : List (MethodName × Nat) := [(⟨"PagedMemory", "writeOut", "(LPagedMemory$Content;)I"⟩, 11), (⟨"PagedMemory", "firstPageOf", "(LPagedMemory$Content;)I"⟩, 11), (⟨"PagedMemory", "gatherCluster", "(LPagedMemory$Content;I)I"⟩, 11), (⟨"PagedMemory", "requirePage", "(II)V"⟩, 11), (⟨"PagedMemory", "requireProcess", "(I)V"⟩, 11), (⟨"java/lang/Throwable", "fillInStackTrace", "(I)Ljava/lang/Throwable;"⟩, 6), (⟨"PagedMemory", "requireFrame", "(I)V"⟩, 11), (⟨"PagedMemory", "requireRoomForProcess", "()V"⟩, 11), (⟨"PagedMemory", "createProcess", "()I"⟩, 11), (⟨"PagedMemory", "requireLive", "(I)V"⟩, 11), (⟨"PagedMemory", "refer", "(ILPagedMemory$Content;)V"⟩, 11), (⟨"PagedMemory", "dropReference", "(I)Z"⟩, 11), (⟨"PagedMemory", "requireUnmapped", "(II)V"⟩, 11), (⟨"PagedMemory", "mappedPages", "(I)I"⟩, 11), (⟨"PagedMemory", "requireSegmentContent", "(II)LPagedMemory$Content;"⟩, 11), (⟨"PagedMemory", "requireMapped", "(II)LPagedMemory$Content;"⟩, 11)]
theorem lw_r1 : ∀ q ∈ lw_privs_1, lw_okq q := List.forall_mem_cons.mpr ⟨lw_p0, List.forall_mem_cons.mpr ⟨lw_p1, List.forall_mem_cons.mpr ⟨lw_p2, List.forall_mem_cons.mpr ⟨lw_p3, List.forall_mem_cons.mpr ⟨lw_p4, List.forall_mem_cons.mpr ⟨lw_p5, List.forall_mem_cons.mpr ⟨lw_p6, List.forall_mem_cons.mpr ⟨lw_p7, List.forall_mem_cons.mpr ⟨lw_p8, List.forall_mem_cons.mpr ⟨lw_p9, List.forall_mem_cons.mpr ⟨lw_p10, List.forall_mem_cons.mpr ⟨lw_p11, List.forall_mem_cons.mpr ⟨lw_p12, List.forall_mem_cons.mpr ⟨lw_p13, List.forall_mem_cons.mpr ⟨lw_p14, List.forall_mem_cons.mpr ⟨lw_p15, fun _ h => absurd h List.not_mem_nil⟩⟩⟩⟩⟩⟩⟩⟩⟩⟩⟩⟩⟩⟩⟩⟩
theorem lw_p16 : lw_okq (⟨"PagedMemory", "requireAddressed", "(II)LPagedMemory$Content;"⟩, 11) := ⟨⟨by decide +kernel, by decide +kernel⟩, List.mem_of_getElem? (i := 15) (by decide +kernel), List.mem_of_getElem? (i := 496) (by decide +kernel), List.mem_of_getElem? (i := 497) (by decide +kernel)⟩
theorem lw_p17 : lw_okq (⟨"PagedMemory", "requireObtainableFrame", "()V"⟩, 11) := ⟨⟨by decide +kernel, by decide +kernel⟩, List.mem_of_getElem? (i := 15) (by decide +kernel), List.mem_of_getElem? (i := 501) (by decide +kernel), List.mem_of_getElem? (i := 502) (by decide +kernel)⟩
theorem lw_p18 : lw_okq (⟨"PagedMemory", "bringIn", "(LPagedMemory$Content;)V"⟩, 11) := ⟨⟨by decide +kernel, by decide +kernel⟩, List.mem_of_getElem? (i := 15) (by decide +kernel), List.mem_of_getElem? (i := 514) (by decide +kernel), List.mem_of_getElem? (i := 515) (by decide +kernel)⟩
theorem lw_p19 : lw_okq (⟨"PagedMemory", "giveFrame", "(LPagedMemory$Content;I)V"⟩, 11) := ⟨⟨by decide +kernel, by decide +kernel⟩, List.mem_of_getElem? (i := 15) (by decide +kernel), List.mem_of_getElem? (i := 518) (by decide +kernel), List.mem_of_getElem? (i := 519) (by decide +kernel)⟩
theorem lw_p20 : lw_okq (⟨"PagedMemory", "freeByClock", "()I"⟩, 11) := ⟨⟨by decide +kernel, by decide +kernel⟩, List.mem_of_getElem? (i := 15) (by decide +kernel), List.mem_of_getElem? (i := 522) (by decide +kernel), List.mem_of_getElem? (i := 523) (by decide +kernel)⟩
theorem lw_p21 : lw_okq (⟨"PagedMemory", "givesWayWhenLookedAt", "(I)Z"⟩, 11) := ⟨⟨by decide +kernel, by decide +kernel⟩, List.mem_of_getElem? (i := 15) (by decide +kernel), List.mem_of_getElem? (i := 526) (by decide +kernel), List.mem_of_getElem? (i := 527) (by decide +kernel)⟩
theorem lw_p22 : lw_okq (⟨"PagedMemory", "isOutsideWindow", "(I)Z"⟩, 11) := ⟨⟨by decide +kernel, by decide +kernel⟩, List.mem_of_getElem? (i := 15) (by decide +kernel), List.mem_of_getElem? (i := 530) (by decide +kernel), List.mem_of_getElem? (i := 531) (by decide +kernel)⟩
theorem lw_p23 : lw_okq (⟨"PagedMemory", "prefetchBehind", "(I)V"⟩, 11) := ⟨⟨by decide +kernel, by decide +kernel⟩, List.mem_of_getElem? (i := 15) (by decide +kernel), List.mem_of_getElem? (i := 546) (by decide +kernel), List.mem_of_getElem? (i := 547) (by decide +kernel)⟩
theorem lw_p24 : lw_okq (⟨"PagedMemory", "copyForPage", "(ILPagedMemory$Content;)LPagedMemory$Content;"⟩, 11) := ⟨⟨by decide +kernel, by decide +kernel⟩, List.mem_of_getElem? (i := 15) (by decide +kernel), List.mem_of_getElem? (i := 561) (by decide +kernel), List.mem_of_getElem? (i := 562) (by decide +kernel)⟩
theorem lw_p25 : lw_okq (⟨"PagedMemoryModel", "no", "(I)I"⟩, 21) := ⟨⟨by decide +kernel, by decide +kernel⟩, List.mem_of_getElem? (i := 610) (by decide +kernel), List.mem_of_getElem? (i := 688) (by decide +kernel), List.mem_of_getElem? (i := 689) (by decide +kernel)⟩
theorem lw_p26 : lw_okq (⟨"PagedMemoryModel", "used", "()I"⟩, 21) := ⟨⟨by decide +kernel, by decide +kernel⟩, List.mem_of_getElem? (i := 610) (by decide +kernel), List.mem_of_getElem? (i := 692) (by decide +kernel), List.mem_of_getElem? (i := 693) (by decide +kernel)⟩
theorem lw_p27 : lw_okq (⟨"PagedMemoryModel", "isProcess", "(I)Z"⟩, 21) := ⟨⟨by decide +kernel, by decide +kernel⟩, List.mem_of_getElem? (i := 610) (by decide +kernel), List.mem_of_getElem? (i := 711) (by decide +kernel), List.mem_of_getElem? (i := 712) (by decide +kernel)⟩
theorem lw_p28 : lw_okq (⟨"PagedMemoryModel", "clear", "(II)Z"⟩, 21) := ⟨⟨by decide +kernel, by decide +kernel⟩, List.mem_of_getElem? (i := 610) (by decide +kernel), List.mem_of_getElem? (i := 720) (by decide +kernel), List.mem_of_getElem? (i := 721) (by decide +kernel)⟩
theorem lw_p29 : lw_okq (⟨"PagedMemoryModel", "vanishes", "(I)Z"⟩, 21) := ⟨⟨by decide +kernel, by decide +kernel⟩, List.mem_of_getElem? (i := 610) (by decide +kernel), List.mem_of_getElem? (i := 724) (by decide +kernel), List.mem_of_getElem? (i := 725) (by decide +kernel)⟩
theorem lw_p30 : lw_okq (⟨"PagedMemoryModel", "references", "(I)I"⟩, 21) := ⟨⟨by decide +kernel, by decide +kernel⟩, List.mem_of_getElem? (i := 610) (by decide +kernel), List.mem_of_getElem? (i := 728) (by decide +kernel), List.mem_of_getElem? (i := 729) (by decide +kernel)⟩
theorem lw_p31 : lw_okq (⟨"PagedMemoryModel", "isInSegment", "(I)Z"⟩, 21) := ⟨⟨by decide +kernel, by decide +kernel⟩, List.mem_of_getElem? (i := 610) (by decide +kernel), List.mem_of_getElem? (i := 732) (by decide +kernel), List.mem_of_getElem? (i := 733) (by decide +kernel)⟩
def lw_privs_2 : List (MethodName × Nat) := [(⟨"PagedMemory", "requireAddressed", "(II)LPagedMemory$Content;"⟩, 11), (⟨"PagedMemory", "requireObtainableFrame", "()V"⟩, 11), (⟨"PagedMemory", "bringIn", "(LPagedMemory$Content;)V"⟩, 11), (⟨"PagedMemory", "giveFrame", "(LPagedMemory$Content;I)V"⟩, 11), (⟨"PagedMemory", "freeByClock", "()I"⟩, 11), (⟨"PagedMemory", "givesWayWhenLookedAt", "(I)Z"⟩, 11), (⟨"PagedMemory", "isOutsideWindow", "(I)Z"⟩, 11), (⟨"PagedMemory", "prefetchBehind", "(I)V"⟩, 11), (⟨"PagedMemory", "copyForPage", "(ILPagedMemory$Content;)LPagedMemory$Content;"⟩, 11), (⟨"PagedMemoryModel", "no", "(I)I"⟩, 21), (⟨"PagedMemoryModel", "used", "()I"⟩, 21), (⟨"PagedMemoryModel", "isProcess", "(I)Z"⟩, 21), (⟨"PagedMemoryModel", "clear", "(II)Z"⟩, 21), (⟨"PagedMemoryModel", "vanishes", "(I)Z"⟩, 21), (⟨"PagedMemoryModel", "references", "(I)I"⟩, 21), (⟨"PagedMemoryModel", "isInSegment", "(I)Z"⟩, 21)]
theorem lw_r2 : ∀ q ∈ lw_privs_2, lw_okq q := List.forall_mem_cons.mpr ⟨lw_p16, List.forall_mem_cons.mpr ⟨lw_p17, List.forall_mem_cons.mpr ⟨lw_p18, List.forall_mem_cons.mpr ⟨lw_p19, List.forall_mem_cons.mpr ⟨lw_p20, List.forall_mem_cons.mpr ⟨lw_p21, List.forall_mem_cons.mpr ⟨lw_p22, List.forall_mem_cons.mpr ⟨lw_p23, List.forall_mem_cons.mpr ⟨lw_p24, List.forall_mem_cons.mpr ⟨lw_p25, List.forall_mem_cons.mpr ⟨lw_p26, List.forall_mem_cons.mpr ⟨lw_p27, List.forall_mem_cons.mpr ⟨lw_p28, List.forall_mem_cons.mpr ⟨lw_p29, List.forall_mem_cons.mpr ⟨lw_p30, List.forall_mem_cons.mpr ⟨lw_p31, fun _ h => absurd h List.not_mem_nil⟩⟩⟩⟩⟩⟩⟩⟩⟩⟩⟩⟩⟩⟩⟩⟩
theorem lw_p32 : lw_okq (⟨"PagedMemoryModel", "segmentPlace", "(I)I"⟩, 21) := ⟨⟨by decide +kernel, by decide +kernel⟩, List.mem_of_getElem? (i := 610) (by decide +kernel), List.mem_of_getElem? (i := 736) (by decide +kernel), List.mem_of_getElem? (i := 737) (by decide +kernel)⟩
theorem lw_p33 : lw_okq (⟨"PagedMemoryModel", "frameWith", "(I)I"⟩, 21) := ⟨⟨by decide +kernel, by decide +kernel⟩, List.mem_of_getElem? (i := 610) (by decide +kernel), List.mem_of_getElem? (i := 740) (by decide +kernel), List.mem_of_getElem? (i := 741) (by decide +kernel)⟩
theorem lw_p34 : lw_okq (⟨"PagedMemoryModel", "slotWith", "(I)I"⟩, 21) := ⟨⟨by decide +kernel, by decide +kernel⟩, List.mem_of_getElem? (i := 610) (by decide +kernel), List.mem_of_getElem? (i := 744) (by decide +kernel), List.mem_of_getElem? (i := 745) (by decide +kernel)⟩
theorem lw_p35 : lw_okq (⟨"PagedMemoryModel", "canMap", "(IIZ)Z"⟩, 21) := ⟨⟨by decide +kernel, by decide +kernel⟩, List.mem_of_getElem? (i := 610) (by decide +kernel), List.mem_of_getElem? (i := 752) (by decide +kernel), List.mem_of_getElem? (i := 753) (by decide +kernel)⟩
theorem lw_p36 : lw_okq (⟨"PagedMemoryModel", "create", "()I"⟩, 21) := ⟨⟨by decide +kernel, by decide +kernel⟩, List.mem_of_getElem? (i := 610) (by decide +kernel), List.mem_of_getElem? (i := 759) (by decide +kernel), List.mem_of_getElem? (i := 760) (by decide +kernel)⟩
theorem lw_p37 : lw_okq (⟨"PagedMemoryModel", "mapped", "(I)I"⟩, 21) := ⟨⟨by decide +kernel, by decide +kernel⟩, List.mem_of_getElem? (i := 610) (by decide +kernel), List.mem_of_getElem? (i := 763) (by decide +kernel), List.mem_of_getElem? (i := 764) (by decide +kernel)⟩
theorem lw_p38 : lw_okq (⟨"PagedMemoryModel", "asks", "(II)Z"⟩, 21) := ⟨⟨by decide +kernel, by decide +kernel⟩, List.mem_of_getElem? (i := 610) (by decide +kernel), List.mem_of_getElem? (i := 787) (by decide +kernel), List.mem_of_getElem? (i := 788) (by decide +kernel)⟩
theorem lw_p39 : lw_okq (⟨"PagedMemoryModel", "begins", "(IIZ)Z"⟩, 21) := ⟨⟨by decide +kernel, by decide +kernel⟩, List.mem_of_getElem? (i := 610) (by decide +kernel), List.mem_of_getElem? (i := 795) (by decide +kernel), List.mem_of_getElem? (i := 796) (by decide +kernel)⟩
theorem lw_p40 : lw_okq (⟨"PagedMemoryModel", "isPossible", "(Z)Z"⟩, 21) := ⟨⟨by decide +kernel, by decide +kernel⟩, List.mem_of_getElem? (i := 610) (by decide +kernel), List.mem_of_getElem? (i := 799) (by decide +kernel), List.mem_of_getElem? (i := 800) (by decide +kernel)⟩
theorem lw_p41 : lw_okq (⟨"PagedMemoryModel", "room", "(I)I"⟩, 21) := ⟨⟨by decide +kernel, by decide +kernel⟩, List.mem_of_getElem? (i := 610) (by decide +kernel), List.mem_of_getElem? (i := 803) (by decide +kernel), List.mem_of_getElem? (i := 804) (by decide +kernel)⟩
theorem lw_p42 : lw_okq (⟨"PagedMemoryModel", "isDirty", "(I)Z"⟩, 21) := ⟨⟨by decide +kernel, by decide +kernel⟩, List.mem_of_getElem? (i := 610) (by decide +kernel), List.mem_of_getElem? (i := 807) (by decide +kernel), List.mem_of_getElem? (i := 808) (by decide +kernel)⟩
theorem lw_p43 : lw_okq (⟨"PagedMemoryModel", "bring", "(I)V"⟩, 21) := ⟨⟨by decide +kernel, by decide +kernel⟩, List.mem_of_getElem? (i := 610) (by decide +kernel), List.mem_of_getElem? (i := 811) (by decide +kernel), List.mem_of_getElem? (i := 812) (by decide +kernel)⟩
theorem lw_p44 : lw_okq (⟨"PagedMemoryModel", "take", "(II)V"⟩, 21) := ⟨⟨by decide +kernel, by decide +kernel⟩, List.mem_of_getElem? (i := 610) (by decide +kernel), List.mem_of_getElem? (i := 815) (by decide +kernel), List.mem_of_getElem? (i := 816) (by decide +kernel)⟩
theorem lw_p45 : lw_okq (⟨"PagedMemoryModel", "freed", "()I"⟩, 21) := ⟨⟨by decide +kernel, by decide +kernel⟩, List.mem_of_getElem? (i := 610) (by decide +kernel), List.mem_of_getElem? (i := 819) (by decide +kernel), List.mem_of_getElem? (i := 820) (by decide +kernel)⟩
theorem lw_p46 : lw_okq (⟨"PagedMemoryModel", "evict", "(I)V"⟩, 21) := ⟨⟨by decide +kernel, by decide +kernel⟩, List.mem_of_getElem? (i := 610) (by decide +kernel), List.mem_of_getElem? (i := 823) (by decide +kernel), List.mem_of_getElem? (i := 824) (by decide +kernel)⟩
theorem lw_p47 : lw_okq (⟨"PagedMemoryModel", "writeOut", "(I)I"⟩, 21) := ⟨⟨by decide +kernel, by decide +kernel⟩, List.mem_of_getElem? (i := 610) (by decide +kernel), List.mem_of_getElem? (i := 827) (by decide +kernel), List.mem_of_getElem? (i := 828) (by decide +kernel)⟩
def lw_privs_3 : List (MethodName × Nat) := [(⟨"PagedMemoryModel", "segmentPlace", "(I)I"⟩, 21), (⟨"PagedMemoryModel", "frameWith", "(I)I"⟩, 21), (⟨"PagedMemoryModel", "slotWith", "(I)I"⟩, 21), (⟨"PagedMemoryModel", "canMap", "(IIZ)Z"⟩, 21), (⟨"PagedMemoryModel", "create", "()I"⟩, 21), (⟨"PagedMemoryModel", "mapped", "(I)I"⟩, 21), (⟨"PagedMemoryModel", "asks", "(II)Z"⟩, 21), (⟨"PagedMemoryModel", "begins", "(IIZ)Z"⟩, 21), (⟨"PagedMemoryModel", "isPossible", "(Z)Z"⟩, 21), (⟨"PagedMemoryModel", "room", "(I)I"⟩, 21), (⟨"PagedMemoryModel", "isDirty", "(I)Z"⟩, 21), (⟨"PagedMemoryModel", "bring", "(I)V"⟩, 21), (⟨"PagedMemoryModel", "take", "(II)V"⟩, 21), (⟨"PagedMemoryModel", "freed", "()I"⟩, 21), (⟨"PagedMemoryModel", "evict", "(I)V"⟩, 21), (⟨"PagedMemoryModel", "writeOut", "(I)I"⟩, 21)]
theorem lw_r3 : ∀ q ∈ lw_privs_3, lw_okq q := List.forall_mem_cons.mpr ⟨lw_p32, List.forall_mem_cons.mpr ⟨lw_p33, List.forall_mem_cons.mpr ⟨lw_p34, List.forall_mem_cons.mpr ⟨lw_p35, List.forall_mem_cons.mpr ⟨lw_p36, List.forall_mem_cons.mpr ⟨lw_p37, List.forall_mem_cons.mpr ⟨lw_p38, List.forall_mem_cons.mpr ⟨lw_p39, List.forall_mem_cons.mpr ⟨lw_p40, List.forall_mem_cons.mpr ⟨lw_p41, List.forall_mem_cons.mpr ⟨lw_p42, List.forall_mem_cons.mpr ⟨lw_p43, List.forall_mem_cons.mpr ⟨lw_p44, List.forall_mem_cons.mpr ⟨lw_p45, List.forall_mem_cons.mpr ⟨lw_p46, List.forall_mem_cons.mpr ⟨lw_p47, fun _ h => absurd h List.not_mem_nil⟩⟩⟩⟩⟩⟩⟩⟩⟩⟩⟩⟩⟩⟩⟩⟩
theorem lw_p48 : lw_okq (⟨"PagedMemoryModel", "findCluster", "(I)I"⟩, 21) := ⟨⟨by decide +kernel, by decide +kernel⟩, List.mem_of_getElem? (i := 610) (by decide +kernel), List.mem_of_getElem? (i := 831) (by decide +kernel), List.mem_of_getElem? (i := 832) (by decide +kernel)⟩
theorem lw_p49 : lw_okq (⟨"PagedMemoryModel", "nextInSegment", "(II)I"⟩, 21) := ⟨⟨by decide +kernel, by decide +kernel⟩, List.mem_of_getElem? (i := 610) (by decide +kernel), List.mem_of_getElem? (i := 835) (by decide +kernel), List.mem_of_getElem? (i := 836) (by decide +kernel)⟩
theorem lw_p50 : lw_okq (⟨"PagedMemoryModel", "nextOfProcess", "(II)I"⟩, 21) := ⟨⟨by decide +kernel, by decide +kernel⟩, List.mem_of_getElem? (i := 610) (by decide +kernel), List.mem_of_getElem? (i := 839) (by decide +kernel), List.mem_of_getElem? (i := 840) (by decide +kernel)⟩
theorem lw_p51 : lw_okq (⟨"PagedMemoryModel", "use", "(I)V"⟩, 21) := ⟨⟨by decide +kernel, by decide +kernel⟩, List.mem_of_getElem? (i := 610) (by decide +kernel), List.mem_of_getElem? (i := 843) (by decide +kernel), List.mem_of_getElem? (i := 844) (by decide +kernel)⟩
theorem lw_p52 : lw_okq (⟨"PagedMemoryModel", "frameAt", "(I)I"⟩, 21) := ⟨⟨by decide +kernel, by decide +kernel⟩, List.mem_of_getElem? (i := 610) (by decide +kernel), List.mem_of_getElem? (i := 867) (by decide +kernel), List.mem_of_getElem? (i := 868) (by decide +kernel)⟩
theorem lw_p53 : lw_okq (⟨"PagedMemoryModel", "slotAt", "(I)I"⟩, 21) := ⟨⟨by decide +kernel, by decide +kernel⟩, List.mem_of_getElem? (i := 610) (by decide +kernel), List.mem_of_getElem? (i := 875) (by decide +kernel), List.mem_of_getElem? (i := 876) (by decide +kernel)⟩
theorem lw_p54 : lw_okq (⟨"PagedMemoryModel", "asksFrame", "(I)Z"⟩, 21) := ⟨⟨by decide +kernel, by decide +kernel⟩, List.mem_of_getElem? (i := 610) (by decide +kernel), List.mem_of_getElem? (i := 887) (by decide +kernel), List.mem_of_getElem? (i := 888) (by decide +kernel)⟩
theorem lw_p55 : lw_okq (⟨"PagedMemoryModel", "stateOf", "(I)I"⟩, 21) := ⟨⟨by decide +kernel, by decide +kernel⟩, List.mem_of_getElem? (i := 610) (by decide +kernel), List.mem_of_getElem? (i := 891) (by decide +kernel), List.mem_of_getElem? (i := 892) (by decide +kernel)⟩
theorem lw_p56 : lw_okq (⟨"PagedMemoryModel", "useOf", "(I)I"⟩, 21) := ⟨⟨by decide +kernel, by decide +kernel⟩, List.mem_of_getElem? (i := 610) (by decide +kernel), List.mem_of_getElem? (i := 899) (by decide +kernel), List.mem_of_getElem? (i := 900) (by decide +kernel)⟩
theorem lw_p57 : lw_okq (⟨"PagedMemoryModel", "slotsLeft", "()I"⟩, 21) := ⟨⟨by decide +kernel, by decide +kernel⟩, List.mem_of_getElem? (i := 610) (by decide +kernel), List.mem_of_getElem? (i := 915) (by decide +kernel), List.mem_of_getElem? (i := 916) (by decide +kernel)⟩
def lw_privs_4 : List (MethodName × Nat) := [(⟨"PagedMemoryModel", "findCluster", "(I)I"⟩, 21), (⟨"PagedMemoryModel", "nextInSegment", "(II)I"⟩, 21), (⟨"PagedMemoryModel", "nextOfProcess", "(II)I"⟩, 21), (⟨"PagedMemoryModel", "use", "(I)V"⟩, 21), (⟨"PagedMemoryModel", "frameAt", "(I)I"⟩, 21), (⟨"PagedMemoryModel", "slotAt", "(I)I"⟩, 21), (⟨"PagedMemoryModel", "asksFrame", "(I)Z"⟩, 21), (⟨"PagedMemoryModel", "stateOf", "(I)I"⟩, 21), (⟨"PagedMemoryModel", "useOf", "(I)I"⟩, 21), (⟨"PagedMemoryModel", "slotsLeft", "()I"⟩, 21)]
theorem lw_r4 : ∀ q ∈ lw_privs_4, lw_okq q := List.forall_mem_cons.mpr ⟨lw_p48, List.forall_mem_cons.mpr ⟨lw_p49, List.forall_mem_cons.mpr ⟨lw_p50, List.forall_mem_cons.mpr ⟨lw_p51, List.forall_mem_cons.mpr ⟨lw_p52, List.forall_mem_cons.mpr ⟨lw_p53, List.forall_mem_cons.mpr ⟨lw_p54, List.forall_mem_cons.mpr ⟨lw_p55, List.forall_mem_cons.mpr ⟨lw_p56, List.forall_mem_cons.mpr ⟨lw_p57, fun _ h => absurd h List.not_mem_nil⟩⟩⟩⟩⟩⟩⟩⟩⟩⟩
def lw_privs : List (MethodName × Nat) := lw_privs_1 ++ (lw_privs_2 ++ (lw_privs_3 ++ (lw_privs_4)))
def lw_tbl : List Cond := k2_sels lw_privs ++ tables_1
theorem lw_privs_ok : ∀ q ∈ lw_privs, lw_okq q := by
  show ∀ q ∈ lw_privs_1 ++ (lw_privs_2 ++ (lw_privs_3 ++ (lw_privs_4))), lw_okq q
  exact List.forall_mem_append.mpr ⟨lw_r1, List.forall_mem_append.mpr ⟨lw_r2, List.forall_mem_append.mpr ⟨lw_r3, lw_r4⟩⟩⟩
/-- the streams that the claim lets the run draw from -/
abbrev lw_cs : List Choice := [Jvm.Choice.named "NaN.bits"]
theorem lw_bits : nanBits ∈ lw_cs := by first | decide | exact List.mem_cons_self | simp [lw_cs, nanBits]
-- ===== end of PART A; then your names; then what follows =====
end
section
/-! ===== BEGIN words of one list among another's, by their places ===== -/
theorem goodIn_r {big : List Cond} (ws : List Cond) (ps : List Nat) (hp : ws = ps.filterMap (fun i => big[i]?)) (h : ws.all goodWord = true) : GoodIn big ws := by
  intro w hw
  have h1 := List.all_eq_true.mp h w hw
  rw [hp] at hw
  obtain ⟨i, -, hi⟩ := List.mem_filterMap.mp hw
  have hm : w ∈ big := by first | exact List.mem_of_getElem? hi | exact List.getElem?_mem hi
  exact ⟨hm, good_of_word h1⟩
theorem goodIn_app {big a b : List Cond} (ha : GoodIn big a) (hb : GoodIn big b) : GoodIn big (a ++ b) := fun w h => (List.mem_append.mp h).elim (ha w) (hb w)
theorem goodIn_ca {big a b : List Cond} {c : Cond} (ha : GoodIn big (c :: a)) (hb : GoodIn big b) : GoodIn big (c :: (a ++ b)) := fun w h => (List.mem_cons.mp h).elim (fun e => ha w (List.mem_cons.mpr (Or.inl e))) (fun h => (List.mem_append.mp h).elim (fun h => ha w (List.mem_cons.mpr (Or.inr h))) (hb w))
theorem goodIn_sub {big ws : List Cond} (hm : ∀ w ∈ ws, w ∈ big) (h : ws.all goodWord = true) : GoodIn big ws := fun w hw => ⟨hm w hw, good_of_word (List.all_eq_true.mp h w hw)⟩
/-! ===== END ===== -/

/-! ===== BEGIN exceptions that leave a method, and their catching by the caller (launches without stack traces) ===== -/
section VXA
/-! The laws vx_back, vx_callV, vx_callS, vx_callSW, vx_throw0, vx_throwS follow proofs of the library, with one case more: JvmDerived/Free/Laws.lean (Back.of_free), Shelf42/LK1.lean (callV, callS), Shelf/KitTraced.lean (throwNew0V, throwNewS). -/
/-- where a method has thrown q: the class by its name, the cell, what was written, the world -/
def vx_T (XC : String → State → State → Prop) (st : State) (q : Addr) (t : State) (mc ms : Nat) (free : Addr → Prop) : Prop :=
  ∃ (E : String) (ce : Cell) (L : List Loc), XC E st t ∧ t.heap[q]? = some ce ∧ ce.vm = .none ∧ st.vm.findClass E = some ce.cls ∧ st.WarmedH t.vm ∧ st.sameButNew ({ t with vm := st.vm } : State) L mc ms ∧ ∀ z ∈ L, free z.base
def vx_Q (Qc : Array Value → State → Outcome → State → Prop) (XC : String → State → State → Prop) (mc ms : Nat) (free : Addr → Prop) : Array Value → State → Outcome → State → Prop := fun a st o t =>
  (Qc a st o t ∧ ∃ L, FrameEnd st o t L mc ms ∧ ∀ q ∈ L, free q.base) ∨ ∃ q, o = .threw q ∧ vx_T XC st q t mc ms free
/-- a callee that returns or throws -/
def vx_Met (l : Launch) (y : MethodName) (ws : List Cond) (rm : Room) (Pc : Array Value → State → Prop) (Qc : Array Value → State → Outcome → State → Prop) (XC : String → State → State → Prop) (mc ms : Nat) (free : Addr → Prop) : Prop :=
  MetFree l y (headSpec ws rm) Pc (fun _ _ _ _ _ => True) (vx_Q Qc XC mc ms free)
def vx_Post (XC : String → State → State → Prop) (mc ms : Nat) (free : Addr → Prop) : Pt → Array Value → Addr → Pt → Prop := fun A a q B =>
  ∃ (g : JFrame) (mk : MethodId) (t : State) (L : List Loc) (E : String) (ce : Cell), B.U.heap = t.heap ∧ B.U.vm = t.vm ∧ XC E (A.U.calling g mk a) t ∧ t.heap[q]? = some ce ∧ ce.vm = .none ∧ A.U.vm.findClass E = some ce.cls ∧ B.locs = A.locs ++ L ∧ (∀ z ∈ L, free z.base) ∧ B.cells = A.cells + mc ∧ B.slots = A.slots + ms
def vx_Back (l : Launch) (R : Room) (p : Program) (e : Env) (below : List Frame) (s : State) (sargs : Array Value) (y : MethodName) (len W9 : Nat)
    (Pre : Pt → Array Value → Prop) (Post : Pt → Array Value → Option Value → Pt → Prop) (PostX : Pt → Array Value → Addr → Pt → Prop) : Prop :=
  ∀ (m : MethodId) (meth : Method) (c : Code) (A : Pt) (g : JFrame) (ig : Instr) (mk : MethodId) (a : Array Value),
    Stand p l e R s m sargs below meth c A.U A.locs A.cells A.slots → g.method = m → g.locals.size = c.maxLocals → decode c.code g.pc = .ok (ig, len) →
    2 * g.monitorRoom + (g.stack.map fun v => v.category).sum ≤ W9 → A.U.methodNamed? y = some mk → Pre A a →
    (∃ (v : Option Value) (B : Pt), Stand p l e R s m sargs below meth c B.U B.locs B.cells B.slots ∧ Post A a v B ∧
      Steps p.tables e below (doInvoke e (A.U.setTop g) [] mk a).1 (B.U.setTop { g with pc := g.pc + len, stack := v.toList ++ g.stack })) ∨
    (∃ (q : Addr) (B : Pt), Stand p l e R s m sargs below meth c B.U B.locs B.cells B.slots ∧ PostX A a q B ∧
      Steps p.tables e below (doInvoke e (A.U.setTop g) [] mk a).1 ((B.U.setTop g).pushFrame (.throwing q)))
section Payer
variable {l : Launch} {R : Room} {p : Program} {e : Env} {below : List Frame} {s : State} {sargs : Array Value} {y : MethodName} {len W9 : Nat}
theorem vx_back {ws : List Cond} {rm : Room} {Pc : Array Value → State → Prop} {Qc : Array Value → State → Outcome → State → Prop} {XC : String → State → State → Prop} {mc ms : Nat} {free : Addr → Prop} {bytes : ByteArray} {maxL : Nat} {ret : Option FieldType}
    (hM : vx_Met l y ws rm Pc Qc XC mc ms free) (hblind : FrameBlind Pc) (hrc : rm.cells = mc) (hrs : rm.slots = ms)
    (hframes : rm.frames + 1 ≤ R.frames) (hlocals : W9 + (maxL + 11) + rm.locals ≤ R.locals)
    (hws : ∀ w ∈ ws, ∀ a' U, s.WarmedH U.vm → w.before a' U = true) (hcode : Cond.code y bytes maxL ret ∈ ws) (hinit : ∀ a' U, s.WarmedH U.vm → (Cond.initialized y.cls).before a' U = true) :
    vx_Back l R p e below s sargs y len W9 (PreOf R mc ms Pc) (PostOf Qc mc ms free) (vx_Post XC mc ms free) := by
  intro m meth c A g ig mk a X hg hsize hdg hW hn hp
  have h1 : (headSpec ws rm).pre.before a A.U = true := atoms_intro fun w hw => hws w hw _ _ X.warmed
  have h2 : (Cond.code y bytes maxL ret).before a A.U = true := hws _ hcode _ _ X.warmed
  have h3 : (Cond.initialized y.cls).before a A.U = true := hinit _ _ X.warmed
  have h4 : A.cells + (headSpec ws rm).room.cells ≤ R.cells := by rw [show (headSpec ws rm).room.cells = mc from hrc]; exact hp.1
  have h5 : A.slots + (headSpec ws rm).room.slots ≤ R.slots := by rw [show (headSpec ws rm).room.slots = ms from hrs]; exact hp.2.1
  have hPc : Pc a (A.U.calling g mk a) := hblind _ _ _ _ hp.2.2
  obtain ⟨U, Ls, c0, s0⟩ := A
  dsimp only [Pt.U, Pt.locs, Pt.cells, Pt.slots] at h1 h2 h3 h4 h5 X hn hPc ⊢
  obtain ⟨methY, cY, hmY, hcY, -, hlY, -, -, -, -⟩ := Cond.code_spec hn h2
  obtain ⟨kY, hkY, -⟩ := className_of_methodNamed hn
  have hinitY : kY.init = .initialized := Cond.initialized_spec (findClass_of_methodNamed hn) hkY h3
  have h : At U g.method c below := by rw [hg]; exact X.here
  have hlocals9 : W9 + (maxL + 11) + (headSpec ws rm).room.locals ≤ R.locals := hlocals
  have happ : (headSpec ws rm).appliesLoose y e.platform (U.calling g mk a) = true :=
    Spec.appliesLoose_calling (g := g) h hdg hn hkY hinitY
      (X.room_calling (g := g) (R' := (headSpec ws rm).room) hsize hmY hcY hframes (by rw [hlY]; omega) h4 h5) h1
  obtain ⟨mid, hmid⟩ := h.above
  have hfr : (U.setTop g).frames = (.java g :: mid) ++ below := by rw [State.frames_setTop' g h.top, hmid]; rfl
  obtain ⟨o, s₂, hsteps, -, hend, hq⟩ := Steps.callFree hM p X.admits X.cas X.clock (acts := []) hfr happ hPc trivial
  have hq' : vx_Q Qc XC mc ms free a (U.calling g mk a) o s₂ := hq
  rw [State.frames_setTop' g h.top] at hend
  obtain ⟨g₀, hg0⟩ := Option.isSome_iff_exists.mp h.top
  obtain ⟨r, hr⟩ := State.topJava?_eq_some.mp hg0
  have hr' : (({ U with heap := s₂.heap, slotsUsed := s₂.slotsUsed } : State).setVm s₂.vm).frames = .java g₀ :: r := hr
  rcases hq' with ⟨hqc, L, hfe, hL⟩ | ⟨q, rfl, E, ce, L, hx, hce, hcv, hcl, hW₂, hsm, hL⟩
  · obtain ⟨⟨v, rfl⟩, hW₂, e2, q2, q3, q4, q5, q6⟩ := id hfe
    have e3 : s₂ = ({ (U.calling g mk a).setFrames s₂.frames with heap := s₂.heap, slotsUsed := s₂.slotsUsed } : State).setVm s₂.vm := by
      have : s₂ = ({ s₂ with vm := (U.calling g mk a).vm } : State).setVm s₂.vm := rfl
      rw [e2] at this
      exact this
    obtain ⟨c₂, i₂, len₂, hc₂, hd₂, hf₂⟩ := hend
    have hW' : U.WarmedH s₂.vm := hW₂
    have hcc : c₂ = c := by
      have h1 : s₂.code? g.method = U.code? g.method := by
        rw [State.code?_eq, State.code?_eq, hW'.alike.method?]
      exact Option.some.inj (hc₂.symm.trans (h1.trans h.code))
    subst hcc
    have hlen : len₂ = len := by rw [hdg] at hd₂; cases hd₂; rfl
    subst hlen
    have hs₂ : s₂ = (({ U with heap := s₂.heap, slotsUsed := s₂.slotsUsed } : State).setVm s₂.vm).setTop { g with pc := g.pc + len₂, stack := v.toList ++ g.stack } := by
      refine e3.trans ?_
      rw [hf₂, State.calling_eq h.top, State.setFrames_setFrames, State.setTop_of_frames _ hr', hr]
      rfl
    have hsame : U.sameButNew ({ U with heap := s₂.heap, slotsUsed := s₂.slotsUsed } : State) L mc ms := by
      refine ⟨?_, q2, q3, q4, q5, q6⟩
      obtain ⟨t, ht, -⟩ := State.frames_cons hr
      show ({ U with heap := s₂.heap, slotsUsed := s₂.slotsUsed } : State) = { U.setFrames U.frames with heap := s₂.heap, slotsUsed := s₂.slotsUsed }
      rw [State.setFrames_self ht]
    subst hg
    refine Or.inl ⟨v, ⟨(({ U with heap := s₂.heap, slotsUsed := s₂.slotsUsed } : State).setVm s₂.vm), Ls ++ L, c0 + mc, s0 + ms⟩,
      ⟨X.admits, X.cas, X.clock, X.frames, X.room, X.hears, X.method, X.code, (X.here.setHeapUsed s₂.heap s₂.slotsUsed).setVm hW'.alike, X.tail, State.WarmedH.trans X.warmed hW', X.limits, X.bytes, X.same.trans (hsame.setVm s.vm)⟩,
      ⟨g, mk, s₂, L, rfl, rfl, hqc, rfl, hL, rfl, rfl⟩, ?_⟩
    show Steps p.tables e below _ ((({ U with heap := s₂.heap, slotsUsed := s₂.slotsUsed } : State).setVm s₂.vm).setTop { g with pc := g.pc + len₂, stack := v.toList ++ g.stack })
    rw [← hs₂]
    exact hsteps
  · obtain ⟨e2, q2, q3, q4, q5, q6⟩ := id hsm
    have e3 : s₂ = ({ (U.calling g mk a).setFrames s₂.frames with heap := s₂.heap, slotsUsed := s₂.slotsUsed } : State).setVm s₂.vm := by
      have : s₂ = ({ s₂ with vm := (U.calling g mk a).vm } : State).setVm s₂.vm := rfl
      rw [e2] at this
      exact this
    have hf₂ : s₂.frames = .throwing q :: .java g :: U.frames.tail := hend
    have hW' : U.WarmedH s₂.vm := hW₂
    have hs₂ : s₂ = ((({ U with heap := s₂.heap, slotsUsed := s₂.slotsUsed } : State).setVm s₂.vm).setTop g).pushFrame (.throwing q) := by
      refine e3.trans ?_
      rw [hf₂, State.calling_eq h.top, State.setFrames_setFrames, State.pushFrame, State.frames_setTop _ hr', State.setTop_of_frames _ hr', State.setFrames_setFrames, hr]
      rfl
    have hsame : U.sameButNew ({ U with heap := s₂.heap, slotsUsed := s₂.slotsUsed } : State) L mc ms := by
      refine ⟨?_, q2, q3, q4, q5, q6⟩
      obtain ⟨t, ht, -⟩ := State.frames_cons hr
      show ({ U with heap := s₂.heap, slotsUsed := s₂.slotsUsed } : State) = { U.setFrames U.frames with heap := s₂.heap, slotsUsed := s₂.slotsUsed }
      rw [State.setFrames_self ht]
    subst hg
    refine Or.inr ⟨q, ⟨(({ U with heap := s₂.heap, slotsUsed := s₂.slotsUsed } : State).setVm s₂.vm), Ls ++ L, c0 + mc, s0 + ms⟩,
      ⟨X.admits, X.cas, X.clock, X.frames, X.room, X.hears, X.method, X.code, (X.here.setHeapUsed s₂.heap s₂.slotsUsed).setVm hW'.alike, X.tail, State.WarmedH.trans X.warmed hW', X.limits, X.bytes, X.same.trans (hsame.setVm s.vm)⟩,
      ⟨g, mk, s₂, L, E, ce, rfl, rfl, hx, hce, hcv, hcl, rfl, hL, rfl, rfl⟩, ?_⟩
    show Steps p.tables e below _ (((({ U with heap := s₂.heap, slotsUsed := s₂.slotsUsed } : State).setVm s₂.vm).setTop g).pushFrame (.throwing q))
    rw [← hs₂]
    exact hsteps
end Payer
section Calls
variable {p : Program} {l : Launch} {e : Env} {R : Room} {s : State} {m : MethodId} {args : Array Value} {below : List Frame} {meth : Method} {c : Code} {T : State} {locs : List Loc} {cells slots : Nat}
theorem vx_callV (X : Stand p l e R s m args below meth c T locs cells slots) (hexec : p.tables.exec = Jvm.exec) {own C : String} {index : Nat} {y : MethodName} {bytes : ByteArray} {maxL : Nat} {ret : Option FieldType}
    (hown : s.vm.findClass own = some m.cls) (hlink : (Cond.methodLink own index y).before args s = true) (hinst : (Cond.instanceMethod y).before args s = true) (hsel : (Cond.selects C y y).before args s = true)
    (hcode : (Cond.code y bytes maxL ret).before args s = true) (hy : y.cls ≠ "java/lang/invoke/MethodHandle" ∧ y.cls ≠ "java/lang/invoke/VarHandle")
    {W9 : Nat} {Pre : Pt → Array Value → Prop} {Post : Pt → Array Value → Option Value → Pt → Prop} {PostX : Pt → Array Value → Addr → Pt → Prop} (hK : vx_Back l R p e below s args y 3 W9 Pre Post PostX)
    {b : Addr} {cellB : Cell} (hcell : T.heap[b]? = some cellB) (hobj : cellB.vm.isStatics = false) (hcls : s.vm.findClass C = some cellB.cls)
    {g : JFrame} (hg : g.method = m) (hsize : g.locals.size = c.maxLocals) {argsL rest : List Value} (hlen : ∀ sig, parseMethodDescriptor y.desc = some sig → argsL.length = sig.parameters.length)
    (hstack : g.stack = argsL.reverse ++ .ref b :: rest) (hW : 2 * g.monitorRoom + (rest.map fun v => v.category).sum ≤ W9) (hdg : decode c.code g.pc = .ok (.invokevirtual index, 3))
    (hpre : ∀ vm₁, s.WarmedH vm₁ → Pre ⟨T.setVm vm₁, locs, cells, slots⟩ (Value.ref b :: argsL).toArray) :
    (∃ (v : Option Value) (vm₁ : Vm) (B : Pt), s.WarmedH vm₁ ∧ Stand p l e R s m args below meth c B.U B.locs B.cells B.slots ∧ Post ⟨T.setVm vm₁, locs, cells, slots⟩ (Value.ref b :: argsL).toArray v B ∧
      ∀ target, Steps p.tables e below (B.U.setTop { g with pc := g.pc + 3, stack := v.toList ++ rest }) target → Steps p.tables e below (T.setTop g) target) ∨
    (∃ (q : Addr) (vm₁ : Vm) (B : Pt), s.WarmedH vm₁ ∧ Stand p l e R s m args below meth c B.U B.locs B.cells B.slots ∧ PostX ⟨T.setVm vm₁, locs, cells, slots⟩ (Value.ref b :: argsL).toArray q B ∧
      Steps p.tables e below (T.setTop g) ((B.U.setTop { g with stack := rest }).pushFrame (.throwing q))) := by
  obtain ⟨mk, methM, hnamed, hmethM, hstM, habM⟩ := Cond.instanceMethod_spec hinst
  obtain ⟨methM', cM, hmethM', -, -, -, -, -, -, hsigM⟩ := Cond.code_spec hnamed hcode
  cases hmethM.symm.trans hmethM'
  obtain ⟨c2, r2, m2, q1, q2, q3, q4, kP, hkP, hkPi⟩ := Cond.selects_spec hsel
  cases hcls.symm.trans q1
  cases (State.methodFound?_of_named hnamed hy).symm.trans q2
  cases hnamed.symm.trans q3
  have hselP : selectMethod e.platform s.vm cellB.cls mk = .method mk := by rw [Launch.admits_selectMethod X.admits]; exact q4
  obtain ⟨vm₁, X₁, hstep₁⟩ := X.invokevirtual hexec hown hlink hnamed hmethM hstM hkP hkPi hy (a := b) (cell := cellB) hcell
    (fun z h => by rw [h] at hobj; cases hobj) hselP hmethM habM hkP hkPi (g := g) hg (argsL := argsL) (rest := rest) (hlen _ hsigM) hstack hdg
  rcases hK m meth c ⟨T.setVm vm₁, locs, cells, slots⟩ { g with stack := rest } (.invokevirtual index) mk (Value.ref b :: argsL).toArray X₁ hg hsize hdg hW (X₁.named hnamed) (hpre vm₁ X₁.warmed) with ⟨v, B, X', hpost, hsteps⟩ | ⟨q, B, X', hpost, hsteps⟩
  · exact Or.inl ⟨v, vm₁, B, X₁.warmed, X', hpost, fun target h => hstep₁ _ fun acts => by rw [doInvoke_state]; exact hsteps.trans h⟩
  · exact Or.inr ⟨q, vm₁, B, X₁.warmed, X', hpost, hstep₁ _ fun acts => by rw [doInvoke_state]; exact hsteps⟩
theorem vx_callS (X : Stand p l e R s m args below meth c T locs cells slots) (hexec : p.tables.exec = Jvm.exec) {own : String} {index : Nat} {y : MethodName} {bytes : ByteArray} {maxL : Nat} {ret : Option FieldType}
    (hown : s.vm.findClass own = some m.cls) (hlink : (Cond.methodLink own index y).before args s = true) (hstat : (Cond.static y).before args s = true) (hinit : (Cond.initialized y.cls).before args s = true)
    (hcode : (Cond.code y bytes maxL ret).before args s = true) (hy : y.cls ≠ "java/lang/invoke/MethodHandle" ∧ y.cls ≠ "java/lang/invoke/VarHandle")
    {W9 : Nat} {Pre : Pt → Array Value → Prop} {Post : Pt → Array Value → Option Value → Pt → Prop} {PostX : Pt → Array Value → Addr → Pt → Prop} (hK : vx_Back l R p e below s args y 3 W9 Pre Post PostX)
    {g : JFrame} (hg : g.method = m) (hsize : g.locals.size = c.maxLocals) {argsL rest : List Value} (hlen : ∀ sig, parseMethodDescriptor y.desc = some sig → argsL.length = sig.parameters.length)
    (hstack : g.stack = argsL.reverse ++ rest) (hW : 2 * g.monitorRoom + (rest.map fun v => v.category).sum ≤ W9) (hdg : decode c.code g.pc = .ok (.invokestatic index, 3))
    (hpre : ∀ vm₁, s.WarmedH vm₁ → Pre ⟨T.setVm vm₁, locs, cells, slots⟩ argsL.toArray) :
    (∃ (v : Option Value) (vm₁ : Vm) (B : Pt), s.WarmedH vm₁ ∧ Stand p l e R s m args below meth c B.U B.locs B.cells B.slots ∧ Post ⟨T.setVm vm₁, locs, cells, slots⟩ argsL.toArray v B ∧
      ∀ target, Steps p.tables e below (B.U.setTop { g with pc := g.pc + 3, stack := v.toList ++ rest }) target → Steps p.tables e below (T.setTop g) target) ∨
    (∃ (q : Addr) (vm₁ : Vm) (B : Pt), s.WarmedH vm₁ ∧ Stand p l e R s m args below meth c B.U B.locs B.cells B.slots ∧ PostX ⟨T.setVm vm₁, locs, cells, slots⟩ argsL.toArray q B ∧
      Steps p.tables e below (T.setTop g) ((B.U.setTop { g with stack := rest }).pushFrame (.throwing q))) := by
  obtain ⟨mk, hnamed⟩ := Cond.code_named hcode
  obtain ⟨methM, cM, hmethM, -, -, -, -, -, -, hsigM⟩ := Cond.code_spec hnamed hcode
  have hstatic : methM.isStatic = true := Cond.static_spec hnamed hmethM hstat
  obtain ⟨kP, hkP, -⟩ := className_of_methodNamed hnamed
  have hinitP : kP.init = .initialized := Cond.initialized_spec (findClass_of_methodNamed hnamed) hkP hinit
  obtain ⟨vm₁, X₁, hstep₁⟩ := X.invokestatic hexec hown hlink hnamed hmethM hstatic hkP hinitP hy (g := g) hg (argsL := argsL) (rest := rest) (hlen _ hsigM) hstack hdg
  rcases hK m meth c ⟨T.setVm vm₁, locs, cells, slots⟩ { g with stack := rest } (.invokestatic index) mk argsL.toArray X₁ hg hsize hdg hW (X₁.named hnamed) (hpre vm₁ X₁.warmed) with ⟨v, B, X', hpost, hsteps⟩ | ⟨q, B, X', hpost, hsteps⟩
  · exact Or.inl ⟨v, vm₁, B, X₁.warmed, X', hpost, fun target h => hstep₁ _ fun acts => by rw [doInvoke_state]; exact hsteps.trans h⟩
  · exact Or.inr ⟨q, vm₁, B, X₁.warmed, X', hpost, hstep₁ _ fun acts => by rw [doInvoke_state]; exact hsteps⟩
end Calls
theorem vx_cls {s : State} {T : State} {vm₁ : Vm} {E : String} {k : ClassId} (hW : s.WarmedH vm₁) (h : (T.setVm vm₁).vm.findClass E = some k) : s.vm.findClass E = some k := by
  have h1 : vm₁.findClass E = some k := h
  rw [hW.alike.findClass] at h1
  exact h1
/-- the method's frame g, with q thrown over it -/
def vx_W (p : Program) (l : Launch) (e : Env) (R : Room) (s : State) (m : MethodId) (args : Array Value) (below : List Frame) (meth : Method) (c : Code) (H : Heap) (locs : List Loc) (cells slots : Nat) (Q : State → Prop) (g : JFrame) (q : Addr) : Prop :=
  ∀ T : State, T.heap = H → Stand p l e R s m args below meth c T locs cells slots → ∃ t, Steps p.tables e below ((T.setTop g).pushFrame (.throwing q)) t ∧ Q t
def vx_Run (p : Program) (l : Launch) (e : Env) (R : Room) (s : State) (m : MethodId) (args : Array Value) (below : List Frame) (meth : Method) (c : Code) (H : Heap) (locs : List Loc) (cells slots mc ms : Nat) (g : JFrame) (rest : List Value) (Qa : State → Outcome → State → Prop) (XC : String → State → State → Prop) (free : Addr → Prop) : Prop :=
  ∀ T : State, T.heap = H → Stand p l e R s m args below meth c T locs cells slots →
    (∃ (v : Option Value) (st₀ t T' : State) (L : List Loc), st₀.heap = H ∧ Stand p l e R s m args below meth c T' (locs ++ L) (cells + mc) (slots + ms) ∧ (∀ q ∈ L, free q.base) ∧ T'.heap = t.heap ∧ T'.vm = t.vm ∧ Qa st₀ (.returned v) t ∧
      Goes p e below T g T' { g with pc := g.pc + 3, stack := v.toList ++ rest }) ∨
    (∃ (q : Addr) (st₀ t T' : State) (L : List Loc) (E : String) (ce : Cell), st₀.heap = H ∧ Stand p l e R s m args below meth c T' (locs ++ L) (cells + mc) (slots + ms) ∧ (∀ z ∈ L, free z.base) ∧ T'.heap = t.heap ∧ T'.vm = t.vm ∧ XC E st₀ t ∧ t.heap[q]? = some ce ∧ ce.vm = .none ∧ s.vm.findClass E = some ce.cls ∧
      Steps p.tables e below (T.setTop g) ((T'.setTop { g with stack := rest }).pushFrame (.throwing q)))
def vx_X {S : Type} (px : S → Prop) (B : String → S → State → Prop) (A : Nat → Prop) : String → State → State → Prop := fun E st t => ∃ u : S, px u ∧ B E u t ∧ va_F A st t
section Runs
variable {p : Program} {l : Launch} {e : Env} {R : Room} {s : State} {m : MethodId} {args : Array Value} {below : List Frame} {meth : Method} {c : Code} {H : Heap} {locs : List Loc} {cells slots : Nat}
variable {y : MethodName} {bytes cc : ByteArray} {maxL nL mc ms n index : Nat} {ret : Option FieldType} {ws : List Cond} {rm : Room} {Pc : Array Value → State → Prop} {Qc : Array Value → State → Outcome → State → Prop} {XC : String → State → State → Prop} {free : Addr → Prop} {Ts : List Cond} {own C : String} {b : Addr} {As rest : List Value} {g : JFrame}
theorem vx_callBack (cb : CallB R s args own index y bytes maxL ret ws rm mc ms n) (hM : vx_Met l y ws rm Pc Qc XC mc ms free) (hbl : FrameBlind Pc) : vx_Back l R p e below s args y 3 8 (PreOf R mc ms Pc) (PostOf Qc mc ms free) (vx_Post XC mc ms free) := by
  obtain ⟨hrc, hrs, hfr, hlo, hws, hcw, -, hini, -⟩ := cb
  exact vx_back (bytes := bytes) (maxL := maxL) (ret := ret) hM hbl hrc hrs hfr hlo hws hcw (fun a' U hW => word_at hW (Or.inl (by first | rfl | simp [Cond.onTables, Cond.keeps, Cond.steady])) hini)
theorem vx_runV (S : CallFix p m c cc nL s args Ts own) (hM : vx_Met l y ws rm Pc Qc XC mc ms free) (cw : CallW R s args own C index y bytes maxL ret ws rm mc ms n) (hp : PreV s H C b Pc As)
    (hg : g.method = m) (hn : As.length = n) (hsize : g.locals.size = nL) (hstack : g.stack = As.reverse ++ .ref b :: rest) (hW : 2 * g.monitorRoom + (rest.map fun v => v.category).sum ≤ 8) (hdg : decode cc g.pc = .ok (.invokevirtual index, 3)) (hf : cells + mc ≤ R.cells ∧ slots + ms ≤ R.slots) :
    vx_Run p l e R s m args below meth c H locs cells slots mc ms g rest (Qc (Value.ref b :: As).toArray) XC free := by
  have hK : vx_Back l R p e below s args y 3 8 (PreOf R mc ms Pc) (PostOf Qc mc ms free) (vx_Post XC mc ms free) := vx_callBack cw.1 hM hp.1
  obtain ⟨⟨-, -, -, -, -, -, hcode, -, hy, hlen, hl⟩, hin, hse⟩ := cw
  obtain ⟨hx, hb, hml, ho, -⟩ := S
  obtain ⟨-, ⟨cellB, hcB, hoB, hclB⟩, hPc⟩ := hp
  intro T hT X
  rcases vx_callV X hx (C := C) (bytes := bytes) (maxL := maxL) (ret := ret) ho hl hin hse hcode hy hK (by rw [hT]; exact hcB) hoB hclB hg (hsize.trans hml.symm) (argsL := As) (rest := rest) (fun sig h => hn.trans (hlen sig h)) hstack hW (by rw [hb]; exact hdg)
    (fun vm₁ hW₁ => ⟨hf.1, hf.2, hPc (T.setVm vm₁) hT hW₁⟩) with ⟨v, vm₁, ⟨U', l2, c2, s2⟩, hW₁, X', ⟨g', mk, t, L, e1, e2, hq, h1, hL, h2, h3⟩, st⟩ | ⟨q, vm₁, ⟨U', l2, c2, s2⟩, hW₁, X', ⟨g', mk, t, L, E, ce, e1, e2, hq, hce, hcv, hcl, h1, hL, h2, h3⟩, st⟩
  · dsimp only [Pt.U, Pt.locs, Pt.cells, Pt.slots] at X' e1 e2 h1 h2 h3 st
    subst h1; subst h2; subst h3
    exact Or.inl ⟨v, (T.setVm vm₁).calling g' mk (Value.ref b :: As).toArray, t, U', L, hT, X', hL, e1, e2, hq, st⟩
  · dsimp only [Pt.U, Pt.locs, Pt.cells, Pt.slots] at X' e1 e2 h1 h2 h3 st hcl
    subst h1; subst h2; subst h3
    exact Or.inr ⟨q, (T.setVm vm₁).calling g' mk (Value.ref b :: As).toArray, t, U', L, E, ce, hT, X', hL, e1, e2, hq, hce, hcv, vx_cls hW₁ hcl, st⟩
theorem vx_runS (S : CallFix p m c cc nL s args Ts own) (hM : vx_Met l y ws rm Pc Qc XC mc ms free) (cw : CallB R s args own index y bytes maxL ret ws rm mc ms n ∧ (Cond.static y).before args s = true) (hp : PreS s H Pc As)
    (hg : g.method = m) (hn : As.length = n) (hsize : g.locals.size = nL) (hstack : g.stack = As.reverse ++ rest) (hW : 2 * g.monitorRoom + (rest.map fun v => v.category).sum ≤ 8) (hdg : decode cc g.pc = .ok (.invokestatic index, 3)) (hf : cells + mc ≤ R.cells ∧ slots + ms ≤ R.slots) :
    vx_Run p l e R s m args below meth c H locs cells slots mc ms g rest (Qc As.toArray) XC free := by
  have hK : vx_Back l R p e below s args y 3 8 (PreOf R mc ms Pc) (PostOf Qc mc ms free) (vx_Post XC mc ms free) := vx_callBack cw.1 hM hp.1
  obtain ⟨⟨-, -, -, -, -, -, hcode, hini, hy, hlen, hl⟩, hstt⟩ := cw
  obtain ⟨hx, hb, hml, ho, -⟩ := S
  intro T hT X
  rcases vx_callS X hx (bytes := bytes) (maxL := maxL) (ret := ret) ho hl hstt hini hcode hy hK hg (hsize.trans hml.symm) (argsL := As) (rest := rest) (fun sig h => hn.trans (hlen sig h)) hstack hW (by rw [hb]; exact hdg)
    (fun vm₁ hW₁ => ⟨hf.1, hf.2, hp.2 (T.setVm vm₁) hT hW₁⟩) with ⟨v, vm₁, ⟨U', l2, c2, s2⟩, hW₁, X', ⟨g', mk, t, L, e1, e2, hq, h1, hL, h2, h3⟩, st⟩ | ⟨q, vm₁, ⟨U', l2, c2, s2⟩, hW₁, X', ⟨g', mk, t, L, E, ce, e1, e2, hq, hce, hcv, hcl, h1, hL, h2, h3⟩, st⟩
  · dsimp only [Pt.U, Pt.locs, Pt.cells, Pt.slots] at X' e1 e2 h1 h2 h3 st
    subst h1; subst h2; subst h3
    exact Or.inl ⟨v, (T.setVm vm₁).calling g' mk As.toArray, t, U', L, hT, X', hL, e1, e2, hq, st⟩
  · dsimp only [Pt.U, Pt.locs, Pt.cells, Pt.slots] at X' e1 e2 h1 h2 h3 st hcl
    subst h1; subst h2; subst h3
    exact Or.inr ⟨q, (T.setVm vm₁).calling g' mk As.toArray, t, U', L, E, ce, hT, X', hL, e1, e2, hq, hce, hcv, vx_cls hW₁ hcl, st⟩
end Runs
section Rows
variable {p : Program} {l : Launch} {e : Env} {R : Room} {s : State} {m : MethodId} {args : Array Value} {below : List Frame} {meth : Method} {c : Code} {H : Heap} {locs : List Loc} {cells slots : Nat} {Q : State → Prop}
variable {mc ms : Nat} {free : Addr → Prop} {A0 A1 : Nat → Prop} {H0 : Heap} {a : Array Value} {pc : Nat} {ls : Array Slot} {st0 rest : List Value}
theorem vx_keep {st₀ t T' : State} {L : List Loc} (h0 : st₀.heap = H) (e1 : T'.heap = t.heap) (hS : va_S A0 H0 H locs) (hA : ∀ q, q < H.size → A1 q → A0 q) (hf : ∀ q, free q → A0 q) (hL : ∀ q ∈ L, free q.base) (hF : va_F A1 st₀ t) :
    H.size ≤ T'.heap.size ∧ (∀ q : Nat, q < H.size → ¬ A1 q → T'.heap[q]? = H[q]?) ∧ va_S A0 H0 T'.heap (locs ++ L) := by
  obtain ⟨hz, hk⟩ := hF
  rw [h0] at hz hk
  exact ⟨by rw [e1]; exact hz, fun q h1 h2 => by rw [e1]; exact hk q h1 h2,
    ⟨Nat.le_trans hS.1 (by rw [e1]; exact hz), fun q h1 h2 => by rw [e1, hk q (Nat.lt_of_lt_of_le h1 hS.1) (fun z => h2 (hA q (Nat.lt_of_lt_of_le h1 hS.1) z))]; exact hS.2.1 q h1 h2, fun q hq => by
      rcases List.mem_append.mp hq with h | h
      · exact hS.2.2 q h
      · exact hf _ (hL q h)⟩⟩
theorem vx_calli {S SX : Type} {post : Int32 → S → Prop} {px : SX → Prop} {B : S → State → Prop} {BX : String → SX → State → Prop} {AX : Nat → Prop} (hr : vx_Run p l e R s m args below meth c H locs cells slots mc ms (F0 m pc ls st0) rest (va_Qi post B A1 a) (vx_X px BX AX) free) (hS : va_S A0 H0 H locs) (hA : ∀ q, q < H.size → A1 q → A0 q) (hf : ∀ q, free q → A0 q) (hAX : ∀ q, q < H.size → AX q → A0 q)
    (kx : ∀ (E : String) (ce : Cell) (q9 : Addr) (u : SX) (t : State) (H1 : Heap) (locs1 : List Loc), t.heap = H1 → s.vm.Alike t.vm → px u → BX E u t → H.size ≤ H1.size → (∀ q : Nat, q < H.size → ¬ AX q → H1[q]? = H[q]?) → va_S A0 H0 H1 locs1 → H1[q9]? = some ce → ce.vm = .none → s.vm.findClass E = some ce.cls → vx_W p l e R s m args below meth c H1 locs1 (cells + mc) (slots + ms) Q (F0 m pc ls rest) q9)
    (kk : ∀ (r : Int32) (u : S) (t : State) (H1 : Heap) (locs1 : List Loc), t.heap = H1 → s.vm.Alike t.vm → post r u → B u t → H.size ≤ H1.size → (∀ q : Nat, q < H.size → ¬ A1 q → H1[q]? = H[q]?) → va_S A0 H0 H1 locs1 → W p l e R s m args below meth c H1 locs1 (cells + mc) (slots + ms) Q (F0 m (pc + 3) ls (.int r :: rest))) : W p l e R s m args below meth c H locs cells slots Q (F0 m pc ls st0) := by
  intro T hT X
  rcases hr T hT X with ⟨v, st₀, t, T', L, h0, X', hL, e1, e2, ⟨⟨r, u, hv, hp, hb⟩, hF⟩, st⟩ | ⟨q, st₀, t, T', L, E, ce, h0, X', hL, e1, e2, ⟨u, hp, hb, hF⟩, hce, hcv, hcl, st⟩
  · cases hv
    obtain ⟨k1, k2, k3⟩ := vx_keep h0 e1 hS hA hf hL hF
    obtain ⟨t2, a1, b1⟩ := kk r u t T'.heap (locs ++ L) e1.symm (by rw [← e2]; exact X'.warmed.alike) hp hb k1 k2 k3 T' rfl X'
    exact ⟨t2, st t2 a1, b1⟩
  · obtain ⟨k1, k2, k3⟩ := vx_keep h0 e1 hS hAX hf hL hF
    obtain ⟨t2, a1, b1⟩ := kx E ce q u t T'.heap (locs ++ L) e1.symm (by rw [← e2]; exact X'.warmed.alike) hp hb k1 k2 k3 (by rw [e1]; exact hce) hcv hcl T' rfl X'
    exact ⟨t2, st.trans a1, b1⟩
theorem vx_calll {S SX : Type} {post : Int64 → S → Prop} {px : SX → Prop} {B : S → State → Prop} {BX : String → SX → State → Prop} {AX : Nat → Prop} (hr : vx_Run p l e R s m args below meth c H locs cells slots mc ms (F0 m pc ls st0) rest (va_Ql post B A1 a) (vx_X px BX AX) free) (hS : va_S A0 H0 H locs) (hA : ∀ q, q < H.size → A1 q → A0 q) (hf : ∀ q, free q → A0 q) (hAX : ∀ q, q < H.size → AX q → A0 q)
    (kx : ∀ (E : String) (ce : Cell) (q9 : Addr) (u : SX) (t : State) (H1 : Heap) (locs1 : List Loc), t.heap = H1 → s.vm.Alike t.vm → px u → BX E u t → H.size ≤ H1.size → (∀ q : Nat, q < H.size → ¬ AX q → H1[q]? = H[q]?) → va_S A0 H0 H1 locs1 → H1[q9]? = some ce → ce.vm = .none → s.vm.findClass E = some ce.cls → vx_W p l e R s m args below meth c H1 locs1 (cells + mc) (slots + ms) Q (F0 m pc ls rest) q9)
    (kk : ∀ (r : Int64) (u : S) (t : State) (H1 : Heap) (locs1 : List Loc), t.heap = H1 → s.vm.Alike t.vm → post r u → B u t → H.size ≤ H1.size → (∀ q : Nat, q < H.size → ¬ A1 q → H1[q]? = H[q]?) → va_S A0 H0 H1 locs1 → W p l e R s m args below meth c H1 locs1 (cells + mc) (slots + ms) Q (F0 m (pc + 3) ls (.long r :: rest))) : W p l e R s m args below meth c H locs cells slots Q (F0 m pc ls st0) := by
  intro T hT X
  rcases hr T hT X with ⟨v, st₀, t, T', L, h0, X', hL, e1, e2, ⟨⟨r, u, hv, hp, hb⟩, hF⟩, st⟩ | ⟨q, st₀, t, T', L, E, ce, h0, X', hL, e1, e2, ⟨u, hp, hb, hF⟩, hce, hcv, hcl, st⟩
  · cases hv
    obtain ⟨k1, k2, k3⟩ := vx_keep h0 e1 hS hA hf hL hF
    obtain ⟨t2, a1, b1⟩ := kk r u t T'.heap (locs ++ L) e1.symm (by rw [← e2]; exact X'.warmed.alike) hp hb k1 k2 k3 T' rfl X'
    exact ⟨t2, st t2 a1, b1⟩
  · obtain ⟨k1, k2, k3⟩ := vx_keep h0 e1 hS hAX hf hL hF
    obtain ⟨t2, a1, b1⟩ := kx E ce q u t T'.heap (locs ++ L) e1.symm (by rw [← e2]; exact X'.warmed.alike) hp hb k1 k2 k3 (by rw [e1]; exact hce) hcv hcl T' rfl X'
    exact ⟨t2, st.trans a1, b1⟩
theorem vx_callf {S SX : Type} {post : UInt32 → S → Prop} {px : SX → Prop} {B : S → State → Prop} {BX : String → SX → State → Prop} {AX : Nat → Prop} (hr : vx_Run p l e R s m args below meth c H locs cells slots mc ms (F0 m pc ls st0) rest (va_Qf post B A1 a) (vx_X px BX AX) free) (hS : va_S A0 H0 H locs) (hA : ∀ q, q < H.size → A1 q → A0 q) (hf : ∀ q, free q → A0 q) (hAX : ∀ q, q < H.size → AX q → A0 q)
    (kx : ∀ (E : String) (ce : Cell) (q9 : Addr) (u : SX) (t : State) (H1 : Heap) (locs1 : List Loc), t.heap = H1 → s.vm.Alike t.vm → px u → BX E u t → H.size ≤ H1.size → (∀ q : Nat, q < H.size → ¬ AX q → H1[q]? = H[q]?) → va_S A0 H0 H1 locs1 → H1[q9]? = some ce → ce.vm = .none → s.vm.findClass E = some ce.cls → vx_W p l e R s m args below meth c H1 locs1 (cells + mc) (slots + ms) Q (F0 m pc ls rest) q9)
    (kk : ∀ (r : UInt32) (u : S) (t : State) (H1 : Heap) (locs1 : List Loc), t.heap = H1 → s.vm.Alike t.vm → post r u → B u t → H.size ≤ H1.size → (∀ q : Nat, q < H.size → ¬ A1 q → H1[q]? = H[q]?) → va_S A0 H0 H1 locs1 → W p l e R s m args below meth c H1 locs1 (cells + mc) (slots + ms) Q (F0 m (pc + 3) ls (.float r :: rest))) : W p l e R s m args below meth c H locs cells slots Q (F0 m pc ls st0) := by
  intro T hT X
  rcases hr T hT X with ⟨v, st₀, t, T', L, h0, X', hL, e1, e2, ⟨⟨r, u, hv, hp, hb⟩, hF⟩, st⟩ | ⟨q, st₀, t, T', L, E, ce, h0, X', hL, e1, e2, ⟨u, hp, hb, hF⟩, hce, hcv, hcl, st⟩
  · cases hv
    obtain ⟨k1, k2, k3⟩ := vx_keep h0 e1 hS hA hf hL hF
    obtain ⟨t2, a1, b1⟩ := kk r u t T'.heap (locs ++ L) e1.symm (by rw [← e2]; exact X'.warmed.alike) hp hb k1 k2 k3 T' rfl X'
    exact ⟨t2, st t2 a1, b1⟩
  · obtain ⟨k1, k2, k3⟩ := vx_keep h0 e1 hS hAX hf hL hF
    obtain ⟨t2, a1, b1⟩ := kx E ce q u t T'.heap (locs ++ L) e1.symm (by rw [← e2]; exact X'.warmed.alike) hp hb k1 k2 k3 (by rw [e1]; exact hce) hcv hcl T' rfl X'
    exact ⟨t2, st.trans a1, b1⟩
theorem vx_calld {S SX : Type} {post : UInt64 → S → Prop} {px : SX → Prop} {B : S → State → Prop} {BX : String → SX → State → Prop} {AX : Nat → Prop} (hr : vx_Run p l e R s m args below meth c H locs cells slots mc ms (F0 m pc ls st0) rest (va_Qd post B A1 a) (vx_X px BX AX) free) (hS : va_S A0 H0 H locs) (hA : ∀ q, q < H.size → A1 q → A0 q) (hf : ∀ q, free q → A0 q) (hAX : ∀ q, q < H.size → AX q → A0 q)
    (kx : ∀ (E : String) (ce : Cell) (q9 : Addr) (u : SX) (t : State) (H1 : Heap) (locs1 : List Loc), t.heap = H1 → s.vm.Alike t.vm → px u → BX E u t → H.size ≤ H1.size → (∀ q : Nat, q < H.size → ¬ AX q → H1[q]? = H[q]?) → va_S A0 H0 H1 locs1 → H1[q9]? = some ce → ce.vm = .none → s.vm.findClass E = some ce.cls → vx_W p l e R s m args below meth c H1 locs1 (cells + mc) (slots + ms) Q (F0 m pc ls rest) q9)
    (kk : ∀ (r : UInt64) (u : S) (t : State) (H1 : Heap) (locs1 : List Loc), t.heap = H1 → s.vm.Alike t.vm → post r u → B u t → H.size ≤ H1.size → (∀ q : Nat, q < H.size → ¬ A1 q → H1[q]? = H[q]?) → va_S A0 H0 H1 locs1 → W p l e R s m args below meth c H1 locs1 (cells + mc) (slots + ms) Q (F0 m (pc + 3) ls (.double r :: rest))) : W p l e R s m args below meth c H locs cells slots Q (F0 m pc ls st0) := by
  intro T hT X
  rcases hr T hT X with ⟨v, st₀, t, T', L, h0, X', hL, e1, e2, ⟨⟨r, u, hv, hp, hb⟩, hF⟩, st⟩ | ⟨q, st₀, t, T', L, E, ce, h0, X', hL, e1, e2, ⟨u, hp, hb, hF⟩, hce, hcv, hcl, st⟩
  · cases hv
    obtain ⟨k1, k2, k3⟩ := vx_keep h0 e1 hS hA hf hL hF
    obtain ⟨t2, a1, b1⟩ := kk r u t T'.heap (locs ++ L) e1.symm (by rw [← e2]; exact X'.warmed.alike) hp hb k1 k2 k3 T' rfl X'
    exact ⟨t2, st t2 a1, b1⟩
  · obtain ⟨k1, k2, k3⟩ := vx_keep h0 e1 hS hAX hf hL hF
    obtain ⟨t2, a1, b1⟩ := kx E ce q u t T'.heap (locs ++ L) e1.symm (by rw [← e2]; exact X'.warmed.alike) hp hb k1 k2 k3 (by rw [e1]; exact hce) hcv hcl T' rfl X'
    exact ⟨t2, st.trans a1, b1⟩
theorem vx_callv {S SX : Type} {post : S → Prop} {px : SX → Prop} {B : S → State → Prop} {BX : String → SX → State → Prop} {AX : Nat → Prop} (hr : vx_Run p l e R s m args below meth c H locs cells slots mc ms (F0 m pc ls st0) rest (va_Qv post B A1 a) (vx_X px BX AX) free) (hS : va_S A0 H0 H locs) (hA : ∀ q, q < H.size → A1 q → A0 q) (hf : ∀ q, free q → A0 q) (hAX : ∀ q, q < H.size → AX q → A0 q)
    (kx : ∀ (E : String) (ce : Cell) (q9 : Addr) (u : SX) (t : State) (H1 : Heap) (locs1 : List Loc), t.heap = H1 → s.vm.Alike t.vm → px u → BX E u t → H.size ≤ H1.size → (∀ q : Nat, q < H.size → ¬ AX q → H1[q]? = H[q]?) → va_S A0 H0 H1 locs1 → H1[q9]? = some ce → ce.vm = .none → s.vm.findClass E = some ce.cls → vx_W p l e R s m args below meth c H1 locs1 (cells + mc) (slots + ms) Q (F0 m pc ls rest) q9)
    (kk : ∀ (u : S) (t : State) (H1 : Heap) (locs1 : List Loc), t.heap = H1 → s.vm.Alike t.vm → post u → B u t → H.size ≤ H1.size → (∀ q : Nat, q < H.size → ¬ A1 q → H1[q]? = H[q]?) → va_S A0 H0 H1 locs1 → W p l e R s m args below meth c H1 locs1 (cells + mc) (slots + ms) Q (F0 m (pc + 3) ls (rest))) : W p l e R s m args below meth c H locs cells slots Q (F0 m pc ls st0) := by
  intro T hT X
  rcases hr T hT X with ⟨v, st₀, t, T', L, h0, X', hL, e1, e2, ⟨⟨u, hv, hp, hb⟩, hF⟩, st⟩ | ⟨q, st₀, t, T', L, E, ce, h0, X', hL, e1, e2, ⟨u, hp, hb, hF⟩, hce, hcv, hcl, st⟩
  · cases hv
    obtain ⟨k1, k2, k3⟩ := vx_keep h0 e1 hS hA hf hL hF
    obtain ⟨t2, a1, b1⟩ := kk u t T'.heap (locs ++ L) e1.symm (by rw [← e2]; exact X'.warmed.alike) hp hb k1 k2 k3 T' rfl X'
    exact ⟨t2, st t2 a1, b1⟩
  · obtain ⟨k1, k2, k3⟩ := vx_keep h0 e1 hS hAX hf hL hF
    obtain ⟨t2, a1, b1⟩ := kx E ce q u t T'.heap (locs ++ L) e1.symm (by rw [← e2]; exact X'.warmed.alike) hp hb k1 k2 k3 (by rw [e1]; exact hce) hcv hcl T' rfl X'
    exact ⟨t2, st.trans a1, b1⟩
/-- caught by the row x of this method's table; the rows ahead don't take it -/
theorem vx_catch {own name : String} {E : String} {ce : Cell} {q : Addr} (hown : s.vm.findClass own = some m.cls) (pre : List ExceptionTableEntry) (x : ExceptionTableEntry) (suf : List ExceptionTableEntry) (hsplit : c.exceptionTable.toList = pre ++ x :: suf)
    (hpass : ∀ z ∈ pre, covers z pc = false ∨ (z.catchType ≠ 0 ∧ ∃ nm : String, (Cond.classLink own z.catchType nm).before args s = true ∧ va_Nc E nm s)) (hx : covers x pc = true) (h0 : x.catchType ≠ 0)
    (hlink : (Cond.classLink own x.catchType name).before args s = true) (hcast : (Cond.castable E name).before args s = true) (hcell : H[q]? = some ce) (hv : ce.vm = .none) (hcl : s.vm.findClass E = some ce.cls)
    (kk : W p l e R s m args below meth c H locs cells slots Q (F0 m x.handlerPc ls [.ref q])) : vx_W p l e R s m args below meth c H locs cells slots Q (F0 m pc ls rest) q := by
  intro T hT X
  have hpl : e.platform.magicAccessors = ({} : Platform).magicAccessors := by rw [X.admits.platform]
  obtain ⟨c3, c4, hc3, hc4, hasg⟩ := Cond.castable_spec hcast
  cases Option.some.inj (hc3.symm.trans hcl)
  obtain ⟨c5, hc5, hcl5⟩ := Cond.classLink_spec hown hlink e.platform hpl
  cases Option.some.inj (hc4.symm.trans hc5)
  obtain ⟨vm', X', st⟩ := X.thenCaughtThrough q (g := F0 m pc ls rest) rfl (Steps.refl _) (by rw [hT]; exact hcell) (by rw [hv]; rfl) (by obtain ⟨k9, h9, -⟩ := Vm.findClass_spec hcl; exact ⟨k9, h9⟩) pre x suf hsplit
    (fun z hz => by
      rcases hpass z hz with h | ⟨hz0, nm, hl1, hn1⟩
      · exact Or.inl h
      · obtain ⟨c6, hc6, hcl6⟩ := Cond.classLink_spec hown hl1 e.platform hpl
        obtain ⟨a8, b8, h1, h2, h3⟩ := hn1
        cases Option.some.inj (h1.symm.trans hcl)
        cases Option.some.inj (h2.symm.trans hc6)
        exact Or.inr ⟨hz0, _, hcl6, h3⟩) hx (Or.inr ⟨h0, c4, hcl5, hasg⟩)
  obtain ⟨t, a1, b1⟩ := kk (T.setVm vm') hT X'
  exact ⟨t, st.trans a1, b1⟩
end Rows
section Ends
variable {p : Program} {l : Launch} {e : Env} {R : Room} {s : State} {m : MethodId} {args : Array Value} {below : List Frame} {meth : Method} {c : Code} {H : Heap} {locs : List Loc} {cells slots : Nat} {Q : State → Prop}
variable {mc ms : Nat} {free : Addr → Prop} {A0 A1 : Nat → Prop} {H0 : Heap} {a : Array Value} {ls : Array Slot} {st0 rest : List Value}
variable {Qc : Array Value → State → Outcome → State → Prop} {XC : String → State → State → Prop}
/-- what a body that may throw owes at its end -/
def vx_MQ (below : List Frame) (Qc : Array Value → State → Outcome → State → Prop) (XC : String → State → State → Prop) (a : Array Value) (s : State) (mc ms : Nat) (free : Addr → Prop) : State → Prop := fun t =>
  ∃ o, t.status = .running ∧ Ended t below o ∧ vx_Q Qc XC mc ms free a s o t
theorem vx_ret {g : JFrame} {mc ms : Nat} (k : W p l e R s m args below meth c H locs cells slots (MQ below Qc args s mc ms free) g) : W p l e R s m args below meth c H locs cells slots (vx_MQ below Qc XC args s mc ms free) g := by
  intro T hT X
  obtain ⟨t, a1, o, b1, b2, b3, b4⟩ := k T hT X
  exact ⟨t, a1, o, b1, b2, Or.inl ⟨b3, b4⟩⟩
/-- not caught here: it goes on to the caller -/
theorem vx_widen {g : JFrame} {q : Addr} {k n : Nat} (h1 : cells ≤ k) (h2 : slots ≤ n) (kk : vx_W p l e R s m args below meth c H locs k n Q g q) : vx_W p l e R s m args below meth c H locs cells slots Q g q := fun T hT X => kk T hT (stand_widen X h1 h2)
theorem vx_out {pc : Nat} {E : String} {ce : Cell} {q : Addr} {mc ms : Nat} (hout : ∀ x ∈ c.exceptionTable.toList, covers x pc = false) (hlocks : meth.locks = false) (hcell : H[q]? = some ce) (hv : ce.vm = .none) (hcl : s.vm.findClass E = some ce.cls)
    (hx : ∀ t : State, t.heap = H → s.vm.Alike t.vm → XC E s t) (hf : ∀ z ∈ locs, free z.base) (hc : cells ≤ mc) (hs : slots ≤ ms) :
    vx_W p l e R s m args below meth c H locs cells slots (vx_MQ below Qc XC args s mc ms free) (F0 m pc ls rest) q := by
  intro T hT X
  obtain ⟨st1, hrun, hend, hW, hsm⟩ := X.leaveThrown q (g := F0 m pc ls rest) rfl rfl rfl hout hlocks
  have hcell9 : (T.setFrames (.throwing q :: below)).heap[q]? = some ce := by
    show T.heap[q]? = some ce
    rw [hT]; exact hcell
  exact ⟨_, st1, .threw q, hrun, hend, Or.inr ⟨q, rfl, E, ce, locs, hx _ hT hW.alike, hcell9, hv, hcl, hW, hsm.mono hc hs, hf⟩⟩
theorem vx_frame {U : State} {k n : Nat} (h : s.sameButNew ({ U with vm := s.vm } : State) locs k n) : s.heap.size ≤ U.heap.size ∧ ∀ q : Nat, q < s.heap.size → (∀ z ∈ locs, z.base ≠ q) → U.heap[q]? = s.heap[q]? := by
  obtain ⟨-, h2, -, -, -, h6⟩ := h
  refine ⟨h2, fun q hq hz => ?_⟩
  obtain ⟨c9, e1, e2, e3, e4⟩ := h6 q _ (Array.getElem?_eq_getElem hq)
  have hs : c9.slots = (s.heap[q]).slots := Array.ext_getElem? fun i => e4 i fun hm => hz _ hm rfl
  have h9 : c9 = s.heap[q] := by
    rw [hs] at e2
    exact e2
  have e5 : U.heap[q]? = some c9 := e1
  rw [e5, h9, Array.getElem?_eq_getElem hq]
/-- the words of a throw but the four that speak of the heap -/
def vx_no (w : Cond) : Bool := decide (w ≠ .isRef (.static Bundle.tN "UNASSIGNED_STACK" Bundle.steD)) && decide (w ≠ .isRef (.static Bundle.tN "SUPPRESSED_SENTINEL" Bundle.listD)) && decide (w ≠ .laysStatic Bundle.tN "UNASSIGNED_STACK" Bundle.steD) && decide (w ≠ .laysStatic Bundle.tN "SUPPRESSED_SENTINEL" Bundle.listD)
def vx_at0 (own : String) (ic : Nat) (X : String) (names : List String) : List Cond := (Bundle.ownAtoms0 own ic X names).filter vx_no
def vx_atS (own : String) (ic : Nat) (X : String) (names : List String) : List Cond := (Bundle.ownAtoms own ic X names).filter vx_no
/-- a word that the tables alone decide, or a good one -/
def vx_ot (w : Cond) : Bool := w.onTables || goodWord w
theorem vx_ot_at {args a' : Array Value} {s U : State} {w : Cond} (hW : s.WarmedH U.vm) (hvm : s.vm = U.vm) (hg : vx_ot w = true) (h : w.before args s = true) : w.before a' U = true := by
  simp only [vx_ot, Bool.or_eq_true] at hg
  rcases hg with hg | hg
  · exact va_tabs hg hvm h
  · exact word_at hW (good_of_word hg) h
/-- a list's words: the good ones out of the method's own list, the others by premises of their own -/
theorem vx_hat {args : Array Value} {s : State} {L B : List Cond} (h1 : ∀ w ∈ L.filter goodWord, w.before args s = true) (h2 : ∀ w ∈ L.filter (fun w => !goodWord w), w ∈ B) (h3 : ∀ w ∈ B, w.before args s = true) : ∀ w ∈ L, w.before args s = true := by
  intro w hw
  by_cases g : goodWord w = true
  · exact h1 w (List.mem_filter.mpr ⟨hw, g⟩)
  · refine h3 w (h2 w (List.mem_filter.mpr ⟨hw, ?_⟩))
    show (!goodWord w) = true
    cases hgw : goodWord w
    · rfl
    · exact absurd hgw g
theorem vx_c {args : Array Value} {s : State} {w : Cond} {B : List Cond} (h : w.before args s = true) (t : ∀ w ∈ B, w.before args s = true) : ∀ w' ∈ w :: B, w'.before args s = true := fun w' h' => (List.mem_cons.mp h').elim (fun e => by rw [e]; exact h) (t w')
theorem vx_n {args : Array Value} {s : State} : ∀ w ∈ ([] : List Cond), w.before args s = true := fun _ h => nomatch h
theorem vx_own {args : Array Value} {s : State} {L : List Cond} (h1 : ∀ w ∈ L.filter vx_no, w.before args s = true)
    (hU : (Cond.isRef (.static Bundle.tN "UNASSIGNED_STACK" Bundle.steD)).before args s = true) (hN : (Cond.isRef (.static Bundle.tN "SUPPRESSED_SENTINEL" Bundle.listD)).before args s = true)
    (lU : (Cond.laysStatic Bundle.tN "UNASSIGNED_STACK" Bundle.steD).before args s = true) (lN : (Cond.laysStatic Bundle.tN "SUPPRESSED_SENTINEL" Bundle.listD).before args s = true) : ∀ w ∈ L, w.before args s = true := by
  intro w hw
  by_cases e1 : w = .isRef (.static Bundle.tN "UNASSIGNED_STACK" Bundle.steD)
  · rw [e1]; exact hU
  · by_cases e2 : w = .isRef (.static Bundle.tN "SUPPRESSED_SENTINEL" Bundle.listD)
    · rw [e2]; exact hN
    · by_cases e3 : w = .laysStatic Bundle.tN "UNASSIGNED_STACK" Bundle.steD
      · rw [e3]; exact lU
      · by_cases e4 : w = .laysStatic Bundle.tN "SUPPRESSED_SENTINEL" Bundle.listD
        · rw [e4]; exact lN
        · exact h1 w (List.mem_filter.mpr ⟨hw, by unfold vx_no; rw [decide_eq_true e1, decide_eq_true e2, decide_eq_true e3, decide_eq_true e4]; rfl⟩)
/-- where a static field lies, its class's statics cell in H -/
def vx_L (C n d : String) (A : Nat → Prop) (U : State) (H : Heap) : Prop := ∃ (c : ClassId) (k : Class) (i : Nat) (f : Field) (a : Nat) (cell : Cell), U.vm.findClass C = some c ∧ U.fieldFound? C n d = some (c, k, i, f) ∧ f.isStatic = true ∧ k.statics = some a ∧ H[a]? = some cell ∧ cell.vm.isStatics = true ∧ cell.cls = c ∧ f.slot < cell.slots.size ∧ k.staticTypes[f.slot]? = some f.type ∧ ¬ A a
theorem vx_L.moved {C n d : String} {A : Nat → Prop} {u U : State} {H : Heap} (hvm : u.vm.Alike U.vm) (h : vx_L C n d A u H) : vx_L C n d A U H := by
  obtain ⟨c, k, i, f, a, cell, h1, h2, h3, h4, h5, h6, h7, h8, h9, h10⟩ := h
  obtain ⟨k', hi', he⟩ := State.fieldFound?_setVm hvm h2
  exact ⟨c, k', i, f, a, cell, by rw [hvm.findClass]; exact h1, hi', h3, by rw [he]; exact h4, h5, h6, h7, h8, by rw [he]; exact h9, h10⟩
theorem vx_L.kept {C n d : String} {A : Nat → Prop} {U : State} {H H1 : Heap} (h : vx_L C n d A U H) (hq : ∀ a : Nat, a < H.size → ¬ A a → H1[a]? = H[a]?) : vx_L C n d A U H1 := by
  obtain ⟨c, k, i, f, a, cell, h1, h2, h3, h4, h5, h6, h7, h8, h9, h10⟩ := h
  exact ⟨c, k, i, f, a, cell, h1, h2, h3, h4, by rw [hq a (Array.getElem?_eq_some_iff.mp h5).1 h10]; exact h5, h6, h7, h8, h9, h10⟩
theorem vx_L.narrow {C n d : String} {A B : Nat → Prop} {U : State} {H : Heap} (h : vx_L C n d A U H) (hAB : ∀ q, B q → A q) : vx_L C n d B U H := by
  obtain ⟨c, k, i, f, a, cell, h1, h2, h3, h4, h5, h6, h7, h8, h9, h10⟩ := h
  exact ⟨c, k, i, f, a, cell, h1, h2, h3, h4, h5, h6, h7, h8, h9, fun z => h10 (hAB _ z)⟩
theorem vx_L.word {C n d : String} {A : Nat → Prop} {s : State} {args : Array Value} (h : vx_L C n d A s s.heap) : (Cond.laysStatic C n d).before args s = true := by
  obtain ⟨c, k, i, f, a, cell, h1, h2, h3, h4, h5, h6, h7, h8, h9, -⟩ := h
  show (Cond.laysStatic C n d).holds args s none s [] = true
  exact Cond.laysStatic_of h1 h2 h3 h4 h5 h6 h7 h8 h9
/-- .. and what it holds: null or some reference -/
def vx_Zq (C n d : String) (A : Nat → Prop) (U : State) (H : Heap) : Prop := va_Zq C n d A U H ∧ vx_L C n d A U H
theorem vx_Zq.moved {C n d : String} {A : Nat → Prop} {u U : State} {H : Heap} (hvm : u.vm.Alike U.vm) (h : vx_Zq C n d A u H) : vx_Zq C n d A U H := ⟨va_Zq.moved hvm h.1, vx_L.moved hvm h.2⟩
theorem vx_Zq.kept {C n d : String} {A : Nat → Prop} {U : State} {H H1 : Heap} (h : vx_Zq C n d A U H) (hq : ∀ a : Nat, a < H.size → ¬ A a → H1[a]? = H[a]?) : vx_Zq C n d A U H1 := ⟨va_Zq.kept h.1 hq, vx_L.kept h.2 hq⟩
theorem vx_Zq.narrow {C n d : String} {A B : Nat → Prop} {U : State} {H : Heap} (h : vx_Zq C n d A U H) (hAB : ∀ q, B q → A q) : vx_Zq C n d B U H := ⟨va_Zq.narrow h.1 hAB, vx_L.narrow h.2 hAB⟩
theorem vx_Zqof {args : Array Value} {s : State} {C n d : String} {A : Nat → Prop} (hl : (Cond.laysStatic C n d).before args s = true) (hini : (Cond.initialized C).before args s = true) (h : (Cond.isRef (.static C n d)).before args s = true) (hA : ∀ a : Nat, a < s.heap.size → ¬ A a) : vx_Zq C n d A s s.heap := by
  refine ⟨va_Zqof hl hini h hA, ?_⟩
  obtain ⟨c, k, i, f, a, cell, h1, h2, h3, h4, h5, h6, h7, h8, h9⟩ := Cond.laysStatic_spec hl
  exact ⟨c, k, i, f, a, cell, h1, h2, h3, h4, h5, h6, h7, h8, h9, hA a (Array.getElem?_eq_some_iff.mp h5).1⟩
theorem vx_isRef {C n d : String} {v : Value} {A : Nat → Prop} {s : State} {args : Array Value} (h : va_Z C n d v A s s.heap) (hv : v.isRef = true) : (Cond.isRef (.static C n d)).before args s = true := by
  obtain ⟨cf, kf, fi, f, a, cell, h1, h2, h3, h4, h5, h6, h7, -⟩ := h
  have he : (Term.static C n d).eval args s none [] s = some v := by
    simp [Term.eval, State.fieldNamed?, h1, h2, h4, h5, h6, h7]
  simp only [Cond.before, Cond.holds, Cond.value, he]
  cases v <;> simp_all [Value.isRef]
theorem vx_isRefq {C n d : String} {A : Nat → Prop} {s : State} {args : Array Value} (h : va_Zq C n d A s s.heap) : (Cond.isRef (.static C n d)).before args s = true := by
  rcases h with h | ⟨t, h⟩
  · exact vx_isRef h rfl
  · exact vx_isRef h rfl
/-- the same frame, seen from here: as if the method were called anew in this heap -/
theorem vx_rebase {T : State} (X : Stand p l e R s m args below meth c T locs cells slots) {R' : Room} (hf : R'.frames ≤ R.frames) (hl : R'.locals ≤ R.locals) (hc : cells + R'.cells ≤ R.cells) (hs : slots + R'.slots ≤ R.slots) :
    Stand p l e R' ((T.setVm s.vm).setFrames (.invoking m args :: below)) m args below meth c T [] 0 0 := by
  have htop : (T.setVm s.vm).topJava?.isSome := X.here.top
  have hF : ((T.setVm s.vm).setFrames (.invoking m args :: below)).frames = .invoking m args :: below := State.frames_setFrames _ (State.cur_lt_of_top htop)
  obtain ⟨g₀, hg0⟩ := Option.isSome_iff_exists.mp htop
  obtain ⟨r, hr⟩ := State.topJava?_eq_some.mp hg0
  have hl9 : e.platform.stackLimits (T.setVm s.vm).me = e.platform.stackLimits s.me := X.limits
  have hb9 : (T.setVm s.vm).me.stackBytes = s.me.stackBytes := X.bytes
  refine ⟨X.admits, X.cas, X.clock, hF, ?_, X.hears, X.method, X.code, X.here, X.tail, X.warmed, ?_, ?_, ?_⟩
  · have h := X.room
    have hU : ((T.setVm s.vm).setFrames (.invoking m args :: below)).localsInUse = s.localsInUse := by
      rw [State.localsInUse_invoking hF (meth := meth) (c := c) X.method X.code, State.localsInUse_invoking X.frames X.method X.code]
    simp only [State.hasRoom, Bool.and_eq_true, decide_eq_true_eq] at h ⊢
    obtain ⟨⟨⟨⟨h1, h2, h3, h4, h5, h6⟩, h7⟩, h8⟩, h9⟩ := h
    rw [X.frames, List.length_cons] at h2 h3
    have q1 := X.heapSize
    have q2 := X.used
    simp only [hF, hU, List.length_cons, State.stackLimits_setFrames, State.stackBytes_setFrames, hl9, hb9]
    refine ⟨⟨⟨⟨by omega, by omega, by omega, by omega, by omega, h6⟩, ?_⟩, ?_⟩, X.book⟩
    · show T.heap.size + R'.cells ≤ e.platform.maxCells
      omega
    · show T.slotsUsed + R'.slots ≤ e.platform.maxSlots
      omega
  · rw [State.stackLimits_setFrames]; rfl
  · rw [State.stackBytes_setFrames]; rfl
  · refine ⟨?_, Nat.le_refl _, Nat.le_refl _, ?_, ?_, fun a c9 h9 => ⟨c9, h9, rfl, rfl, fun _ _ => rfl⟩⟩
    · obtain ⟨t, ht, -⟩ := State.frames_cons hr
      show T.setVm s.vm = { ((T.setVm s.vm).setFrames (.invoking m args :: below)).setFrames (T.setVm s.vm).frames with heap := T.heap, slotsUsed := T.slotsUsed }
      rw [State.setFrames_setFrames, State.setFrames_self ht]
      rfl
    · show T.slotsUsed = T.slotsUsed + ((T.heap.toList.drop T.heap.size).map (·.slots.size)).sum
      rw [List.drop_eq_nil_of_le (Nat.le_of_eq Array.length_toList)]
      rfl
    · show ((T.heap.toList.drop T.heap.size).map (·.slots.size)).sum ≤ 0
      rw [List.drop_eq_nil_of_le (Nat.le_of_eq Array.length_toList)]
      exact Nat.le_refl _
/-- 'throw new E()': new; dup; invokespecial; athrow -/
theorem vx_throw0 {cc : ByteArray} {pc : Nat} (hexec : p.tables.exec = Jvm.exec) (hb : c.code = cc) (hl : l.stackTraces = false) {own cls : String} {names : List String} {ik ic mc ms : Nat} {A : Nat → Prop}
    (hown : s.vm.findClass own = some m.cls) (hcls : Bundle.fit cls = true) (hnames : ∀ n ∈ names, Bundle.fit n = true)
    (hk : (Cond.classLink own ik cls).before args s = true) (hini : (Cond.initialized cls).before args s = true) (hat : ∀ w ∈ vx_at0 own ic cls names, w.before args s = true)
    (hgood : ∀ w ∈ Cond.classLink own ik cls :: Cond.initialized cls :: vx_at0 own ic cls names, vx_ot w = true)
    (hU : vx_Zq Bundle.tN "UNASSIGNED_STACK" Bundle.steD A s s.heap) (hN : vx_Zq Bundle.tN "SUPPRESSED_SENTINEL" Bundle.listD A s s.heap) (hS : va_S A s.heap H locs) (hsize : ls.size = c.maxLocals)
    (d0 : decode cc pc = .ok (.new ik, 3)) (d3 : decode cc (pc + 3) = .ok (.dup, 1)) (d4 : decode cc (pc + 4) = .ok (.invokespecial ic, 3)) (d7 : decode cc (pc + 7) = .ok (.athrow, 1))
    (hout : ∀ x ∈ c.exceptionTable.toList, covers x (pc + 7) = false)
    (hRframes : names.length + 3 < R.frames) (hRlocals : (rest.map fun v => v.category).sum + (13 * (names.length + 1) + 42) ≤ R.locals) (hRcells : cells + 1 ≤ R.cells) (hRslots : slots + 6 ≤ R.slots) (hlocks : meth.locks = false)
    (hx : ∀ t : State, s.vm.Alike t.vm → H.size ≤ t.heap.size → (∀ q : Nat, q < H.size → t.heap[q]? = H[q]?) → XC cls s t)
    (hf : ∀ z ∈ locs, free z.base) (hc : cells + 1 ≤ mc) (hs : slots + 6 ≤ ms) :
    W p l e R s m args below meth c H locs cells slots (vx_MQ below Qc XC args s mc ms free) (F0 m pc ls rest) := by
  intro T hT X
  have htr : e.platform.stackTraces = false := (show e.platform.stackTraces = l.stackTraces by rw [X.admits.platform]).trans hl
  have Y := vx_rebase X (R' := { frames := R.frames, locals := R.locals, cells := 1, slots := 6 }) (Nat.le_refl _) (Nat.le_refl _) hRcells hRslots
  obtain ⟨s', hA⟩ : ∃ z, z = (T.setVm s.vm).setFrames (.invoking m args :: below) := ⟨_, rfl⟩
  rw [← hA] at Y
  have hvm : s'.vm = s.vm := by rw [hA]; rfl
  have hhp : s'.heap = H := by rw [hA]; exact hT
  have hW0 : s.WarmedH s'.vm := by rw [hvm]; exact State.WarmedH.refl s
  have hat' : ∀ w ∈ vx_at0 own ic cls names, w.before args s' = true := fun w hw => vx_ot_at hW0 hvm.symm (hgood w (List.mem_cons_of_mem _ (List.mem_cons_of_mem _ hw))) (hat w hw)
  have hk' : (Cond.classLink own ik cls).before args s' = true := vx_ot_at hW0 hvm.symm (hgood _ List.mem_cons_self) hk
  have hini' : (Cond.initialized cls).before args s' = true := vx_ot_at hW0 hvm.symm (hgood _ (List.mem_cons_of_mem _ List.mem_cons_self)) hini
  have hU' : vx_Zq Bundle.tN "UNASSIGNED_STACK" Bundle.steD A s' s'.heap := by rw [hhp]; exact vx_Zq.moved hW0.alike (hU.kept hS.2.1)
  have hN' : vx_Zq Bundle.tN "SUPPRESSED_SENTINEL" Bundle.listD A s' s'.heap := by rw [hhp]; exact vx_Zq.moved hW0.alike (hN.kept hS.2.1)
  have h : ∀ w ∈ Bundle.ownAtoms0 own ic cls names, w.before args s' = true := vx_own hat' (vx_isRefq hU'.1) (vx_isRefq hN'.1) hU'.2.word hN'.2.word
  have hown' : s'.vm.findClass own = some m.cls := by rw [hvm]; exact hown
  have hins : (Cond.instantiable cls 6).before args s' = true := h _ (by simp [Bundle.ownAtoms0])
  obtain ⟨vm₁, cX, kX, hfX, hkX, -, -, X₁, st1⟩ := Y.newCold hexec (own := own) (C := cls) (index := ik) (n := 6) hown' hk' hins hini'
    (g := F0 m pc ls rest) rfl (by rw [hb]; exact d0) (Nat.le_refl _) (Nat.le_refl _)
  generalize hT1 : (T.setVm vm₁).pushCell { cls := cX, slots := kX.instanceTypes.map defaultValue, vm := .none } = T1 at X₁ st1
  have hcat : (Value.ref T.heap.size).category = 1 := rfl
  have hcellA : T1.heap[T.heap.size]? = some (freshCell cX kX) := by rw [← hT1]; exact State.heap_pushCell_size _ _
  have d3' : decode c.code (pc + 3) = .ok (.dup, 1) := by rw [hb]; exact d3
  obtain ⟨U, hsteps, hrun, hend, hW, hsame, ce, hce, hO⟩ := X₁.ctorThrow0 hexec htr (own := own) (cls := cls) (names := names) (ic := ic) hown' hcls hnames h (fun x hx => nomatch hx) hfX hkX hcellA (by rw [hhp, hT]; exact Nat.le_refl _)
    (g := { method := m, pc := pc + 4, locals := ls, stack := .ref T.heap.size :: .ref T.heap.size :: rest, locked := none }) rfl hsize rfl rfl (rest := rest) rfl
    (by rw [hb]; exact d4) (by rw [hb]; exact d7) hout hRframes (by simp only [List.map_cons, List.sum_cons, hcat]; omega) hlocks
  obtain ⟨f1, f2⟩ := vx_frame hsame
  rw [hhp] at f1 f2
  have hWs : s.WarmedH U.vm := State.WarmedH.trans hW0 hW
  have hcl : s.vm.findClass cls = some ce.cls := by
    have h9 := hO.cls
    rw [hvm] at h9
    exact h9
  have hall : s.sameButNew ({ U with vm := s.vm } : State) locs mc ms := by
    subst hA
    obtain ⟨e1, e2⟩ := hsame
    rw [State.setFrames_setFrames] at e1
    have h2 : (T.setVm s.vm).sameButNew ({ U with vm := s.vm } : State) [] (0 + 1) (0 + 6) := ⟨e1, e2⟩
    have h3 := X.same.trans h2
    rw [List.append_nil] at h3
    exact h3.mono hc hs
  refine ⟨U, ?_, .threw T.heap.size, hrun, hend, Or.inr ⟨T.heap.size, rfl, cls, ce, locs, hx U hWs.alike f1 (fun q hq => f2 q hq (fun z hz => nomatch hz)), hce, hO.vm, hcl, hWs, hall, hf⟩⟩
  refine st1 _ ?_
  show Steps p.tables e below (T1.setTop { method := m, pc := pc + 3, locals := ls, stack := .ref T.heap.size :: rest, locked := none }) _
  jvm_step X₁.here [X₁.here.top, hexec, d3', Value.category]
  exact hsteps
/-- 'throw new E("text")': new; dup; ldc; invokespecial; athrow -/
theorem vx_throwS {cc : ByteArray} {pc : Nat} (hexec : p.tables.exec = Jvm.exec) (hb : c.code = cc) (hl : l.stackTraces = false) {own cls text : String} {names : List String} {ik is ic mc ms sa : Nat} {A : Nat → Prop}
    (hown : s.vm.findClass own = some m.cls) (hcls : Bundle.fit cls = true) (hnames : ∀ n ∈ names, Bundle.fit n = true)
    (hk : (Cond.classLink own ik cls).before args s = true) (hini : (Cond.initialized cls).before args s = true) (hstr : vk_R own is text sa s) (hat : ∀ w ∈ vx_atS own ic cls names, w.before args s = true)
    (hgood : ∀ w ∈ Cond.classLink own ik cls :: Cond.initialized cls :: vx_atS own ic cls names, vx_ot w = true)
    (hU : vx_Zq Bundle.tN "UNASSIGNED_STACK" Bundle.steD A s s.heap) (hN : vx_Zq Bundle.tN "SUPPRESSED_SENTINEL" Bundle.listD A s s.heap) (hS : va_S A s.heap H locs) (hsize : ls.size = c.maxLocals)
    (d0 : decode cc pc = .ok (.new ik, 3)) (d3 : decode cc (pc + 3) = .ok (.dup, 1)) (d4 : decode cc (pc + 4) = .ok (.ldc is, 2)) (d6 : decode cc (pc + 6) = .ok (.invokespecial ic, 3)) (d9 : decode cc (pc + 9) = .ok (.athrow, 1))
    (hout : ∀ x ∈ c.exceptionTable.toList, covers x (pc + 9) = false)
    (hRframes : names.length + 3 < R.frames) (hRlocals : (rest.map fun v => v.category).sum + (13 * (names.length + 1) + 43) ≤ R.locals) (hRcells : cells + 1 ≤ R.cells) (hRslots : slots + 6 ≤ R.slots) (hlocks : meth.locks = false)
    (hx : ∀ t : State, s.vm.Alike t.vm → H.size ≤ t.heap.size → (∀ q : Nat, q < H.size → t.heap[q]? = H[q]?) → XC cls s t)
    (hf : ∀ z ∈ locs, free z.base) (hc : cells + 1 ≤ mc) (hs : slots + 6 ≤ ms) :
    W p l e R s m args below meth c H locs cells slots (vx_MQ below Qc XC args s mc ms free) (F0 m pc ls rest) := by
  intro T hT X
  have htr : e.platform.stackTraces = false := (show e.platform.stackTraces = l.stackTraces by rw [X.admits.platform]).trans hl
  have Y := vx_rebase X (R' := { frames := R.frames, locals := R.locals, cells := 1, slots := 6 }) (Nat.le_refl _) (Nat.le_refl _) hRcells hRslots
  obtain ⟨s', hA⟩ : ∃ z, z = (T.setVm s.vm).setFrames (.invoking m args :: below) := ⟨_, rfl⟩
  rw [← hA] at Y
  have hvm : s'.vm = s.vm := by rw [hA]; rfl
  have hhp : s'.heap = H := by rw [hA]; exact hT
  have hW0 : s.WarmedH s'.vm := by rw [hvm]; exact State.WarmedH.refl s
  have hat' : ∀ w ∈ vx_atS own ic cls names, w.before args s' = true := fun w hw => vx_ot_at hW0 hvm.symm (hgood w (List.mem_cons_of_mem _ (List.mem_cons_of_mem _ hw))) (hat w hw)
  have hk' : (Cond.classLink own ik cls).before args s' = true := vx_ot_at hW0 hvm.symm (hgood _ List.mem_cons_self) hk
  have hini' : (Cond.initialized cls).before args s' = true := vx_ot_at hW0 hvm.symm (hgood _ (List.mem_cons_of_mem _ List.mem_cons_self)) hini
  have hU' : vx_Zq Bundle.tN "UNASSIGNED_STACK" Bundle.steD A s' s'.heap := by rw [hhp]; exact vx_Zq.moved hW0.alike (hU.kept hS.2.1)
  have hN' : vx_Zq Bundle.tN "SUPPRESSED_SENTINEL" Bundle.listD A s' s'.heap := by rw [hhp]; exact vx_Zq.moved hW0.alike (hN.kept hS.2.1)
  have h : ∀ w ∈ Bundle.ownAtoms own ic cls names, w.before args s' = true := vx_own hat' (vx_isRefq hU'.1) (vx_isRefq hN'.1) hU'.2.word hN'.2.word
  have hown' : s'.vm.findClass own = some m.cls := by rw [hvm]; exact hown
  have hins : (Cond.instantiable cls 6).before args s' = true := h _ (by simp [Bundle.ownAtoms])
  obtain ⟨vm₁, cX, kX, hfX, hkX, -, -, X₁, st1⟩ := Y.newCold hexec (own := own) (C := cls) (index := ik) (n := 6) hown' hk' hins hini'
    (g := F0 m pc ls rest) rfl (by rw [hb]; exact d0) (Nat.le_refl _) (Nat.le_refl _)
  generalize hT1 : (T.setVm vm₁).pushCell { cls := cX, slots := kX.instanceTypes.map defaultValue, vm := .none } = T1 at X₁ st1
  have hcat : (Value.ref T.heap.size).category = 1 := rfl
  have hcellA : T1.heap[T.heap.size]? = some (freshCell cX kX) := by rw [← hT1]; exact State.heap_pushCell_size _ _
  have d3' : decode c.code (pc + 3) = .ok (.dup, 1) := by rw [hb]; exact d3
  have d4' : decode c.code (pc + 4) = .ok (.ldc is, 2) := by rw [hb]; exact d4
  have hstr' : vk_R own is text sa s' := vk_R.warm hW0 hstr
  obtain ⟨U, hsteps, hrun, hend, hW, hsame, ce, hce, hO⟩ := X₁.ctorThrowS hexec htr (own := own) (cls := cls) (names := names) (ic := ic) hown' hcls hnames h (fun x hx => nomatch hx) hfX hkX hcellA (by rw [hhp, hT]; exact Nat.le_refl _) (msg := .ref sa) rfl
    (g := { method := m, pc := pc + 6, locals := ls, stack := .ref sa :: .ref T.heap.size :: .ref T.heap.size :: rest, locked := none }) rfl hsize rfl rfl (rest := rest) rfl
    (by rw [hb]; exact d6) (by rw [hb]; exact d9) hout hRframes (by simp only [List.map_cons, List.sum_cons, hcat]; omega) hlocks
  obtain ⟨f1, f2⟩ := vx_frame hsame
  rw [hhp] at f1 f2
  have hWs : s.WarmedH U.vm := State.WarmedH.trans hW0 hW
  have hcl : s.vm.findClass cls = some ce.cls := by
    have h9 := hO.cls
    rw [hvm] at h9
    exact h9
  have hall : s.sameButNew ({ U with vm := s.vm } : State) locs mc ms := by
    subst hA
    obtain ⟨e1, e2⟩ := hsame
    rw [State.setFrames_setFrames] at e1
    have h2 : (T.setVm s.vm).sameButNew ({ U with vm := s.vm } : State) [] (0 + 1) (0 + 6) := ⟨e1, e2⟩
    have h3 := X.same.trans h2
    rw [List.append_nil] at h3
    exact h3.mono hc hs
  refine ⟨U, ?_, .threw T.heap.size, hrun, hend, Or.inr ⟨T.heap.size, rfl, cls, ce, locs, hx U hWs.alike f1 (fun q hq => f2 q hq (fun z hz => nomatch hz)), hce, hO.vm, hcl, hWs, hall, hf⟩⟩
  refine st1 _ ?_
  show Steps p.tables e below (T1.setTop { method := m, pc := pc + 3, locals := ls, stack := .ref T.heap.size :: rest, locked := none }) _
  jvm_step X₁.here [X₁.here.top, hexec, d3', Value.category]
  exact X₁.ldcString hexec (own := own) (text := text) (index := is) (a := sa) hown' hstr'.1 hstr'.2
    (g := { method := m, pc := pc + 4, locals := ls, stack := .ref T.heap.size :: .ref T.heap.size :: rest, locked := none }) rfl d4' _ hsteps
/-- 'throw new E("text")', the text by a wide index -/
theorem vx_throwSW {cc : ByteArray} {pc : Nat} (hexec : p.tables.exec = Jvm.exec) (hb : c.code = cc) (hl : l.stackTraces = false) {own cls text : String} {names : List String} {ik is ic mc ms sa : Nat} {A : Nat → Prop}
    (hown : s.vm.findClass own = some m.cls) (hcls : Bundle.fit cls = true) (hnames : ∀ n ∈ names, Bundle.fit n = true)
    (hk : (Cond.classLink own ik cls).before args s = true) (hini : (Cond.initialized cls).before args s = true) (hstr : vk_R own is text sa s) (hat : ∀ w ∈ vx_atS own ic cls names, w.before args s = true)
    (hgood : ∀ w ∈ Cond.classLink own ik cls :: Cond.initialized cls :: vx_atS own ic cls names, vx_ot w = true)
    (hU : vx_Zq Bundle.tN "UNASSIGNED_STACK" Bundle.steD A s s.heap) (hN : vx_Zq Bundle.tN "SUPPRESSED_SENTINEL" Bundle.listD A s s.heap) (hS : va_S A s.heap H locs) (hsize : ls.size = c.maxLocals)
    (d0 : decode cc pc = .ok (.new ik, 3)) (d3 : decode cc (pc + 3) = .ok (.dup, 1)) (d4 : decode cc (pc + 4) = .ok (.ldc_w is, 3)) (d7 : decode cc (pc + 7) = .ok (.invokespecial ic, 3)) (d10 : decode cc (pc + 10) = .ok (.athrow, 1))
    (hout : ∀ x ∈ c.exceptionTable.toList, covers x (pc + 10) = false)
    (hRframes : names.length + 3 < R.frames) (hRlocals : (rest.map fun v => v.category).sum + (13 * (names.length + 1) + 43) ≤ R.locals) (hRcells : cells + 1 ≤ R.cells) (hRslots : slots + 6 ≤ R.slots) (hlocks : meth.locks = false)
    (hx : ∀ t : State, s.vm.Alike t.vm → H.size ≤ t.heap.size → (∀ q : Nat, q < H.size → t.heap[q]? = H[q]?) → XC cls s t)
    (hf : ∀ z ∈ locs, free z.base) (hc : cells + 1 ≤ mc) (hs : slots + 6 ≤ ms) :
    W p l e R s m args below meth c H locs cells slots (vx_MQ below Qc XC args s mc ms free) (F0 m pc ls rest) := by
  intro T hT X
  have htr : e.platform.stackTraces = false := (show e.platform.stackTraces = l.stackTraces by rw [X.admits.platform]).trans hl
  have Y := vx_rebase X (R' := { frames := R.frames, locals := R.locals, cells := 1, slots := 6 }) (Nat.le_refl _) (Nat.le_refl _) hRcells hRslots
  obtain ⟨s', hA⟩ : ∃ z, z = (T.setVm s.vm).setFrames (.invoking m args :: below) := ⟨_, rfl⟩
  rw [← hA] at Y
  have hvm : s'.vm = s.vm := by rw [hA]; rfl
  have hhp : s'.heap = H := by rw [hA]; exact hT
  have hW0 : s.WarmedH s'.vm := by rw [hvm]; exact State.WarmedH.refl s
  have hat' : ∀ w ∈ vx_atS own ic cls names, w.before args s' = true := fun w hw => vx_ot_at hW0 hvm.symm (hgood w (List.mem_cons_of_mem _ (List.mem_cons_of_mem _ hw))) (hat w hw)
  have hk' : (Cond.classLink own ik cls).before args s' = true := vx_ot_at hW0 hvm.symm (hgood _ List.mem_cons_self) hk
  have hini' : (Cond.initialized cls).before args s' = true := vx_ot_at hW0 hvm.symm (hgood _ (List.mem_cons_of_mem _ List.mem_cons_self)) hini
  have hU' : vx_Zq Bundle.tN "UNASSIGNED_STACK" Bundle.steD A s' s'.heap := by rw [hhp]; exact vx_Zq.moved hW0.alike (hU.kept hS.2.1)
  have hN' : vx_Zq Bundle.tN "SUPPRESSED_SENTINEL" Bundle.listD A s' s'.heap := by rw [hhp]; exact vx_Zq.moved hW0.alike (hN.kept hS.2.1)
  have h : ∀ w ∈ Bundle.ownAtoms own ic cls names, w.before args s' = true := vx_own hat' (vx_isRefq hU'.1) (vx_isRefq hN'.1) hU'.2.word hN'.2.word
  have hown' : s'.vm.findClass own = some m.cls := by rw [hvm]; exact hown
  have hins : (Cond.instantiable cls 6).before args s' = true := h _ (by simp [Bundle.ownAtoms])
  obtain ⟨vm₁, cX, kX, hfX, hkX, -, -, X₁, st1⟩ := Y.newCold hexec (own := own) (C := cls) (index := ik) (n := 6) hown' hk' hins hini'
    (g := F0 m pc ls rest) rfl (by rw [hb]; exact d0) (Nat.le_refl _) (Nat.le_refl _)
  generalize hT1 : (T.setVm vm₁).pushCell { cls := cX, slots := kX.instanceTypes.map defaultValue, vm := .none } = T1 at X₁ st1
  have hcat : (Value.ref T.heap.size).category = 1 := rfl
  have hcellA : T1.heap[T.heap.size]? = some (freshCell cX kX) := by rw [← hT1]; exact State.heap_pushCell_size _ _
  have d3' : decode c.code (pc + 3) = .ok (.dup, 1) := by rw [hb]; exact d3
  have d4' : decode c.code (pc + 4) = .ok (.ldc_w is, 3) := by rw [hb]; exact d4
  have hstr' : vk_R own is text sa s' := vk_R.warm hW0 hstr
  obtain ⟨U, hsteps, hrun, hend, hW, hsame, ce, hce, hO⟩ := X₁.ctorThrowS hexec htr (own := own) (cls := cls) (names := names) (ic := ic) hown' hcls hnames h (fun x hx => nomatch hx) hfX hkX hcellA (by rw [hhp, hT]; exact Nat.le_refl _) (msg := .ref sa) rfl
    (g := { method := m, pc := pc + 7, locals := ls, stack := .ref sa :: .ref T.heap.size :: .ref T.heap.size :: rest, locked := none }) rfl hsize rfl rfl (rest := rest) rfl
    (by rw [hb]; exact d7) (by rw [hb]; exact d10) hout hRframes (by simp only [List.map_cons, List.sum_cons, hcat]; omega) hlocks
  obtain ⟨f1, f2⟩ := vx_frame hsame
  rw [hhp] at f1 f2
  have hWs : s.WarmedH U.vm := State.WarmedH.trans hW0 hW
  have hcl : s.vm.findClass cls = some ce.cls := by
    have h9 := hO.cls
    rw [hvm] at h9
    exact h9
  have hall : s.sameButNew ({ U with vm := s.vm } : State) locs mc ms := by
    subst hA
    obtain ⟨e1, e2⟩ := hsame
    rw [State.setFrames_setFrames] at e1
    have h2 : (T.setVm s.vm).sameButNew ({ U with vm := s.vm } : State) [] (0 + 1) (0 + 6) := ⟨e1, e2⟩
    have h3 := X.same.trans h2
    rw [List.append_nil] at h3
    exact h3.mono hc hs
  refine ⟨U, ?_, .threw T.heap.size, hrun, hend, Or.inr ⟨T.heap.size, rfl, cls, ce, locs, hx U hWs.alike f1 (fun q hq => f2 q hq (fun z hz => nomatch hz)), hce, hO.vm, hcl, hWs, hall, hf⟩⟩
  refine st1 _ ?_
  show Steps p.tables e below (T1.setTop { method := m, pc := pc + 3, locals := ls, stack := .ref T.heap.size :: rest, locked := none }) _
  jvm_step X₁.here [X₁.here.top, hexec, d3', Value.category]
  exact X₁.ldcStringW hexec (own := own) (text := text) (index := is) (a := sa) hown' hstr'.1 hstr'.2
    (g := { method := m, pc := pc + 4, locals := ls, stack := .ref T.heap.size :: .ref T.heap.size :: rest, locked := none }) rfl d4' _ hsteps
end Ends
section Bodies
variable {l : Launch}
theorem vx_ofW {y : MethodName} {ws ws' : List Cond} {rm : Room} {Pc : Array Value → State → Prop} {Qc : Array Value → State → Outcome → State → Prop} {XC : String → State → State → Prop} {mc ms : Nat} {free : Addr → Prop} {cc : ByteArray} {maxL : Nat} {ret : Option FieldType}
    (hy : plainName y.cls = true) (hw : ws = Cond.code y cc maxL ret :: ws')
    (body : ∀ p e s m args below meth c s₁, BodyLoose p l y (headSpec ws rm) cc maxL ret e s m args below meth c s₁ → c.maxLocals = maxL → (∀ x ∈ c.exceptionTable.toList, False) → Pc args s →
      W p l e (headSpec ws rm).room s m args below meth c s.heap [] 0 0 (vx_MQ below Qc XC args s mc ms free) (entryFrame m args maxL)) : vx_Met l y ws rm Pc Qc XC mc ms free := by
  refine MetFree.of_bodyS (code := cc) (maxLocals := maxL) (ret := ret) hy ?_ ?_
  · intro args s m h hn
    obtain ⟨meth, c, h1, h2, h3, h4, h5, h6, -, -⟩ := Cond.code_spec hn (atoms_spec (ws := ws) h _ (by rw [hw]; exact List.mem_cons_self))
    exact ⟨meth, c, h1, h2, h3, h4, h5, h6⟩
  · intro p e s m args below meth c s₁ B hml hP _
    have hh0 : s₁.heap = s.heap := by rw [B.state]; rfl
    have ht : ∀ x ∈ c.exceptionTable.toList, False := by
      obtain ⟨meth9, c9, h1, h2, -, -, -, -, h7, -⟩ := Cond.code_spec B.named (atoms_spec (ws := ws) B.pre _ (by rw [hw]; exact List.mem_cons_self))
      cases Option.some.inj (h1.symm.trans B.method)
      cases Option.some.inj (h2.symm.trans (Stand.of_body B).code)
      intro x hx
      rw [Array.isEmpty_iff.mp h7] at hx
      cases hx
    obtain ⟨t, a1, o, b1, b2, b3⟩ := body p e s m args below meth c s₁ B hml ht hP s₁ hh0 (Stand.of_body B)
    exact ⟨t, o, a1, b1, b2, b3⟩
/-- the table of a body with handlers -/
theorem vx_table {p : Program} {x y : MethodName} {S : Spec} {cc bytes : ByteArray} {maxL maxL' : Nat} {ret ret' : Option FieldType} {e : Env} {s s₁ : State} {m : MethodId} {args : Array Value} {below : List Frame} {meth : Method} {c : Code} {hh : List (Nat × Nat × Nat × Nat)}
    (B : BodyLoose p l y S cc maxL ret e s m args below meth c s₁) (h : (Cond.codeWith y bytes maxL' ret' hh).before args s = true) : c.exceptionTable.toList = tableOf hh := by
  obtain ⟨m9, meth9, c9, hn9, h1, h2, -, -, h6, -⟩ := Cond.codeWith_spec h
  cases Option.some.inj (hn9.symm.trans B.named)
  cases Option.some.inj (h1.symm.trans B.method)
  cases Option.some.inj (h2.symm.trans (Stand.of_body B).code)
  rw [← h6, table_eq]
end Bodies
end VXA
/-! ===== END ===== -/
/-! ===== BEGIN a static call of a method with an exception table ===== -/
section VXS
variable {p : Program} {l : Launch} {e : Env} {R : Room} {s : State} {m : MethodId} {args : Array Value} {below : List Frame} {meth : Method} {c : Code} {T : State} {H : Heap} {locs : List Loc} {cells slots : Nat}
abbrev vx_CSW (R : Room) (s : State) (args : Array Value) (own : String) (index : Nat) (y : MethodName) (bytes : ByteArray) (maxL : Nat) (ret : Option FieldType) (hh : List (Nat × Nat × Nat × Nat)) (ws : List Cond) (rm : Room) (mc ms n : Nat) : Prop :=
  (rm.cells = mc ∧ rm.slots = ms ∧ rm.frames + 1 ≤ R.frames ∧ 8 + (maxL + 11) + rm.locals ≤ R.locals ∧ (∀ w ∈ ws, ∀ (a' : Array Value) (U : State), s.WarmedH U.vm → w.before a' U = true) ∧ Cond.codeWith y bytes maxL ret hh ∈ ws) ∧
  (Cond.codeWith y bytes maxL ret hh).before args s = true ∧ (Cond.initialized y.cls).before args s = true ∧ (y.cls ≠ "java/lang/invoke/MethodHandle" ∧ y.cls ≠ "java/lang/invoke/VarHandle") ∧
  (∀ sig, parseMethodDescriptor y.desc = some sig → n = sig.parameters.length) ∧ (Cond.methodLink own index y).before args s = true ∧ (Cond.static y).before args s = true
theorem vx_cwSW {own : String} {index maxL mc ms : Nat} {y : MethodName} {bytes : ByteArray} {ret : Option FieldType} {hh : List (Nat × Nat × Nat × Nat)} {Ts ws ws' : List Cond} {rm : Room} (n : Nat) (ht : ∀ w ∈ Ts, w.before args s = true) (hT : GoodIn Ts (va_wsS own index y ws)) (hw : ws = Cond.codeWith y bytes maxL ret hh :: ws') (hrc : rm.cells = mc) (hrs : rm.slots = ms)
    (hd : y.cls ≠ "java/lang/invoke/MethodHandle" ∧ y.cls ≠ "java/lang/invoke/VarHandle" ∧ (parseMethodDescriptor y.desc).map (fun d => d.parameters.length) = some n) (hR : rm.frames + 1 ≤ R.frames ∧ 8 + (maxL + 11) + rm.locals ≤ R.locals) :
    vx_CSW R s args own index y bytes maxL ret hh ws rm mc ms n := by
  have ok : ∀ w ∈ va_wsS own index y ws, w.before args s = true := fun w h => ht w (hT w h).1
  have hG : GoodIn Ts ws := fun w h => hT w (by unfold va_wsS; exact List.mem_append_right _ h)
  have hc : Cond.codeWith y bytes maxL ret hh ∈ ws := by rw [hw]; exact List.mem_cons_self
  refine ⟨⟨hrc, hrs, hR.1, hR.2, pay_in ht hG, hc⟩, ht _ (hG _ hc).1, ok _ (by simp [va_wsS]), ⟨hd.1, hd.2.1⟩, fun sig h => ?_, ok _ (by simp [va_wsS]), ok _ (by simp [va_wsS])⟩
  have h2 := hd.2.2
  rw [h] at h2
  exact (Option.some.inj h2).symm
theorem vx_callSW (X : Stand p l e R s m args below meth c T locs cells slots) (hexec : p.tables.exec = Jvm.exec) {own : String} {index : Nat} {y : MethodName} {bytes : ByteArray} {maxL : Nat} {ret : Option FieldType} {hh : List (Nat × Nat × Nat × Nat)}
    (hown : s.vm.findClass own = some m.cls) (hlink : (Cond.methodLink own index y).before args s = true) (hstat : (Cond.static y).before args s = true) (hinit : (Cond.initialized y.cls).before args s = true)
    (hcode : (Cond.codeWith y bytes maxL ret hh).before args s = true) (hy : y.cls ≠ "java/lang/invoke/MethodHandle" ∧ y.cls ≠ "java/lang/invoke/VarHandle")
    {W9 : Nat} {Pre : Pt → Array Value → Prop} {Post : Pt → Array Value → Option Value → Pt → Prop} (hK : Back l R p e below s args y 3 W9 Pre Post)
    {g : JFrame} (hg : g.method = m) (hsize : g.locals.size = c.maxLocals) {argsL rest : List Value} (hlen : ∀ sig, parseMethodDescriptor y.desc = some sig → argsL.length = sig.parameters.length)
    (hstack : g.stack = argsL.reverse ++ rest) (hW : 2 * g.monitorRoom + (rest.map fun v => v.category).sum ≤ W9) (hdg : decode c.code g.pc = .ok (.invokestatic index, 3))
    (hpre : ∀ vm₁, s.WarmedH vm₁ → Pre ⟨T.setVm vm₁, locs, cells, slots⟩ argsL.toArray) :
    ∃ (v : Option Value) (vm₁ : Vm) (B : Pt), s.WarmedH vm₁ ∧ Stand p l e R s m args below meth c B.U B.locs B.cells B.slots ∧ Post ⟨T.setVm vm₁, locs, cells, slots⟩ argsL.toArray v B ∧
      ∀ target, Steps p.tables e below (B.U.setTop { g with pc := g.pc + 3, stack := v.toList ++ rest }) target → Steps p.tables e below (T.setTop g) target := by
  obtain ⟨mk, methM, cM, hnamed, hmethM, -, -, -, -, -, -, hsigM⟩ := Cond.codeWith_spec hcode
  have hstatic : methM.isStatic = true := Cond.static_spec hnamed hmethM hstat
  obtain ⟨kP, hkP, -⟩ := className_of_methodNamed hnamed
  have hinitP : kP.init = .initialized := Cond.initialized_spec (findClass_of_methodNamed hnamed) hkP hinit
  obtain ⟨vm₁, X₁, hstep₁⟩ := X.invokestatic hexec hown hlink hnamed hmethM hstatic hkP hinitP hy (g := g) hg (argsL := argsL) (rest := rest) (hlen _ hsigM) hstack hdg
  obtain ⟨v, B, X', hpost, hsteps⟩ := hK m meth c ⟨T.setVm vm₁, locs, cells, slots⟩ { g with stack := rest } (.invokestatic index) mk argsL.toArray X₁ hg hsize hdg hW (X₁.named hnamed) (hpre vm₁ X₁.warmed)
  exact ⟨v, vm₁, B, X₁.warmed, X', hpost, fun target h => hstep₁ _ fun acts => by rw [doInvoke_state]; exact hsteps.trans h⟩
theorem vx_runSW {y : MethodName} {bytes cc : ByteArray} {maxL nL mc ms n index : Nat} {ret : Option FieldType} {hh : List (Nat × Nat × Nat × Nat)} {ws : List Cond} {rm : Room} {Pc : Array Value → State → Prop} {Qc : Array Value → State → Outcome → State → Prop} {free : Addr → Prop} {Ts : List Cond} {own : String} {As rest : List Value} {g : JFrame}
    (S : CallFix p m c cc nL s args Ts own) (hM : Met l y ws rm Pc Qc mc ms free) (cw : vx_CSW R s args own index y bytes maxL ret hh ws rm mc ms n) (hp : PreS s H Pc As)
    (hg : g.method = m) (hn : As.length = n) (hsize : g.locals.size = nL) (hstack : g.stack = As.reverse ++ rest) (hW : 2 * g.monitorRoom + (rest.map fun v => v.category).sum ≤ 8) (hdg : decode cc g.pc = .ok (.invokestatic index, 3)) (hf : cells + mc ≤ R.cells ∧ slots + ms ≤ R.slots) :
    va_Run p l e R s m args below meth c H locs cells slots mc ms g rest (Qc As.toArray) (free) := by
  obtain ⟨⟨hrc, hrs, hfr, hlo, hws, hcw⟩, hcode, hini, hy, hlen, hl, hstt⟩ := cw
  have hK : Back l R p e below s args y 3 8 (PreOf R mc ms Pc) (PostOf Qc mc ms free) := va_backW (hh := hh) (bytes := bytes) (maxL := maxL) (ret := ret) hM hp.1 hrc hrs hfr hlo hws hcw (fun a' U hW => word_at hW (Or.inl (by first | rfl | simp [Cond.onTables, Cond.keeps, Cond.steady])) hini)
  obtain ⟨hx, hb, hml, ho, -⟩ := S
  intro T hT X
  obtain ⟨v, vm₁, ⟨U', l2, c2, s2⟩, hW₁, X', ⟨g', mk, t, L, e1, e2, hq, h1, hL, h2, h3⟩, st⟩ := vx_callSW X hx (hh := hh) (bytes := bytes) (maxL := maxL) (ret := ret) ho hl hstt hini hcode hy hK hg (hsize.trans hml.symm) (argsL := As) (rest := rest) (fun sig h => hn.trans (hlen sig h)) hstack hW (by rw [hb]; exact hdg)
    (fun vm₁ hW₁ => ⟨hf.1, hf.2, hp.2 (T.setVm vm₁) hT hW₁⟩)
  dsimp only [Pt.U, Pt.locs, Pt.cells, Pt.slots] at X' e1 e2 h1 h2 h3 st
  subst h1; subst h2; subst h3
  exact ⟨v, (T.setVm vm₁).calling g' mk As.toArray, t, U', L, hT, X', hL, e1, e2, hq, st⟩
/-- not caught here, past rows that name other classes: it goes on to the caller -/
theorem vx_outP {p : Program} {l : Launch} {e : Env} {R : Room} {s : State} {m : MethodId} {args : Array Value} {below : List Frame} {meth : Method} {c : Code} {H : Heap} {locs : List Loc} {cells slots : Nat} {free : Addr → Prop} {ls : Array Slot} {rest : List Value} {Qc : Array Value → State → Outcome → State → Prop} {XC : String → State → State → Prop}
    {pc : Nat} {own E : String} {ce : Cell} {q : Addr} {mc ms : Nat} (hown : s.vm.findClass own = some m.cls) (hlocks : meth.locks = false)
    (hpass : ∀ z ∈ c.exceptionTable.toList, covers z pc = false ∨ (z.catchType ≠ 0 ∧ ∃ nm : String, (Cond.classLink own z.catchType nm).before args s = true ∧ va_Nc E nm s)) (hcell : H[q]? = some ce) (hv : ce.vm = .none) (hcl : s.vm.findClass E = some ce.cls)
    (hx : ∀ t : State, t.heap = H → s.vm.Alike t.vm → XC E s t) (hf : ∀ z ∈ locs, free z.base) (hc : cells ≤ mc) (hs : slots ≤ ms) :
    vx_W p l e R s m args below meth c H locs cells slots (vx_MQ below Qc XC args s mc ms free) (F0 m pc ls rest) q := by
  intro T hT X
  have hpl : e.platform.magicAccessors = ({} : Platform).magicAccessors := by rw [X.admits.platform]
  obtain ⟨vm', hW', X', st⟩ := X.outThrough hlocks q (g := F0 m pc ls rest) rfl rfl rfl (cell := ce) (by rw [hT]; exact hcell) (by rw [hv]; rfl)
    (by obtain ⟨k9, h9, -⟩ := Vm.findClass_spec hcl; exact ⟨k9, h9⟩) (fun z hz => by
      rcases hpass z hz with h | ⟨hz0, nm, hl1, hn1⟩
      · exact Or.inl h
      · obtain ⟨c6, hc6, hcl6⟩ := Cond.classLink_spec hown hl1 e.platform hpl
        obtain ⟨a8, b8, h1, h2, h3⟩ := hn1
        cases Option.some.inj (h1.symm.trans hcl)
        cases Option.some.inj (h2.symm.trans hc6)
        exact Or.inr ⟨hz0, _, hcl6, h3⟩)
  obtain ⟨g₀, hfr⟩ := X'.frames_eq
  have hcell9 : ((T.setVm vm').setFrames (.throwing q :: below)).heap[q]? = some ce := by
    show T.heap[q]? = some ce
    rw [hT]; exact hcell
  have hend : Ended ((T.setVm vm').setFrames (.throwing q :: below)) below (.threw q) := State.frames_setFrames _ (State.cur_lt_of_frames hfr)
  refine ⟨(T.setVm vm').setFrames (.throwing q :: below), ?_, .threw q, X'.here.running, hend, Or.inr ⟨q, rfl, E, ce, locs, hx _ hT (X'.ends _).1.alike, hcell9, hv, hcl, (X'.ends _).1, (X'.ends _).2.mono hc hs, hf⟩⟩
  rw [X.pushThrowing_eq]
  exact st
/-- a thing of a world lies in the heap -/
theorem vx_lt {D : va_G} {cl : List vw_C} {ws : va_W} {H1 : Heap} (h : va_P D cl ws H1) {k : Nat} {q : Nat × va_E} (hk : ws[k]? = some q) : q.1 < H1.size := (h k q hk).lt
end VXS
/-! ===== END ===== -/
/-! ===== BEGIN methods with a table of their own: called by a name, returning or throwing ===== -/
section VXH
/-! vx_backW, vx_callVX, vx_callSX, vx_callVW, vx_runVW, vx_runVX, vx_runSX, vx_ofWH follow the same proofs as their sisters above (Free/Laws.lean, Shelf42/LK1.lean); vx_outP calls Shelf42/NT130.lean (outThrough). -/
section
variable {l : Launch} {R : Room} {p : Program} {e : Env} {below : List Frame} {s : State} {sargs : Array Value} {y : MethodName} {len W9 : Nat}
theorem vx_backW {ws : List Cond} {rm : Room} {Pc : Array Value → State → Prop} {Qc : Array Value → State → Outcome → State → Prop} {XC : String → State → State → Prop} {mc ms : Nat} {free : Addr → Prop} {bytes : ByteArray} {maxL : Nat} {ret : Option FieldType} {hh : List (Nat × Nat × Nat × Nat)}
    (hM : vx_Met l y ws rm Pc Qc XC mc ms free) (hblind : FrameBlind Pc) (hrc : rm.cells = mc) (hrs : rm.slots = ms)
    (hframes : rm.frames + 1 ≤ R.frames) (hlocals : W9 + (maxL + 11) + rm.locals ≤ R.locals)
    (hws : ∀ w ∈ ws, ∀ a' U, s.WarmedH U.vm → w.before a' U = true) (hcode : Cond.codeWith y bytes maxL ret hh ∈ ws) (hinit : ∀ a' U, s.WarmedH U.vm → (Cond.initialized y.cls).before a' U = true) :
    vx_Back l R p e below s sargs y len W9 (PreOf R mc ms Pc) (PostOf Qc mc ms free) (vx_Post XC mc ms free) := by
  intro m meth c A g ig mk a X hg hsize hdg hW hn hp
  have h1 : (headSpec ws rm).pre.before a A.U = true := atoms_intro fun w hw => hws w hw _ _ X.warmed
  have h2 : (Cond.codeWith y bytes maxL ret hh).before a A.U = true := hws _ hcode _ _ X.warmed
  have h3 : (Cond.initialized y.cls).before a A.U = true := hinit _ _ X.warmed
  have h4 : A.cells + (headSpec ws rm).room.cells ≤ R.cells := by rw [show (headSpec ws rm).room.cells = mc from hrc]; exact hp.1
  have h5 : A.slots + (headSpec ws rm).room.slots ≤ R.slots := by rw [show (headSpec ws rm).room.slots = ms from hrs]; exact hp.2.1
  have hPc : Pc a (A.U.calling g mk a) := hblind _ _ _ _ hp.2.2
  obtain ⟨U, Ls, c0, s0⟩ := A
  dsimp only [Pt.U, Pt.locs, Pt.cells, Pt.slots] at h1 h2 h3 h4 h5 X hn hPc ⊢
  obtain ⟨m9, methY, cY, hn9, hmY, hcY, -, hlY, -⟩ := Cond.codeWith_spec h2
  cases Option.some.inj (hn9.symm.trans hn)
  obtain ⟨kY, hkY, -⟩ := className_of_methodNamed hn
  have hinitY : kY.init = .initialized := Cond.initialized_spec (findClass_of_methodNamed hn) hkY h3
  have h : At U g.method c below := by rw [hg]; exact X.here
  have hlocals9 : W9 + (maxL + 11) + (headSpec ws rm).room.locals ≤ R.locals := hlocals
  have happ : (headSpec ws rm).appliesLoose y e.platform (U.calling g mk a) = true :=
    Spec.appliesLoose_calling (g := g) h hdg hn hkY hinitY
      (X.room_calling (g := g) (R' := (headSpec ws rm).room) hsize hmY hcY hframes (by rw [hlY]; omega) h4 h5) h1
  obtain ⟨mid, hmid⟩ := h.above
  have hfr : (U.setTop g).frames = (.java g :: mid) ++ below := by rw [State.frames_setTop' g h.top, hmid]; rfl
  obtain ⟨o, s₂, hsteps, -, hend, hq⟩ := Steps.callFree hM p X.admits X.cas X.clock (acts := []) hfr happ hPc trivial
  have hq' : vx_Q Qc XC mc ms free a (U.calling g mk a) o s₂ := hq
  rw [State.frames_setTop' g h.top] at hend
  obtain ⟨g₀, hg0⟩ := Option.isSome_iff_exists.mp h.top
  obtain ⟨r, hr⟩ := State.topJava?_eq_some.mp hg0
  have hr' : (({ U with heap := s₂.heap, slotsUsed := s₂.slotsUsed } : State).setVm s₂.vm).frames = .java g₀ :: r := hr
  rcases hq' with ⟨hqc, L, hfe, hL⟩ | ⟨q, rfl, E, ce, L, hx, hce, hcv, hcl, hW₂, hsm, hL⟩
  · obtain ⟨⟨v, rfl⟩, hW₂, e2, q2, q3, q4, q5, q6⟩ := id hfe
    have e3 : s₂ = ({ (U.calling g mk a).setFrames s₂.frames with heap := s₂.heap, slotsUsed := s₂.slotsUsed } : State).setVm s₂.vm := by
      have : s₂ = ({ s₂ with vm := (U.calling g mk a).vm } : State).setVm s₂.vm := rfl
      rw [e2] at this
      exact this
    obtain ⟨c₂, i₂, len₂, hc₂, hd₂, hf₂⟩ := hend
    have hW' : U.WarmedH s₂.vm := hW₂
    have hcc : c₂ = c := by
      have h1 : s₂.code? g.method = U.code? g.method := by
        rw [State.code?_eq, State.code?_eq, hW'.alike.method?]
      exact Option.some.inj (hc₂.symm.trans (h1.trans h.code))
    subst hcc
    have hlen : len₂ = len := by rw [hdg] at hd₂; cases hd₂; rfl
    subst hlen
    have hs₂ : s₂ = (({ U with heap := s₂.heap, slotsUsed := s₂.slotsUsed } : State).setVm s₂.vm).setTop { g with pc := g.pc + len₂, stack := v.toList ++ g.stack } := by
      refine e3.trans ?_
      rw [hf₂, State.calling_eq h.top, State.setFrames_setFrames, State.setTop_of_frames _ hr', hr]
      rfl
    have hsame : U.sameButNew ({ U with heap := s₂.heap, slotsUsed := s₂.slotsUsed } : State) L mc ms := by
      refine ⟨?_, q2, q3, q4, q5, q6⟩
      obtain ⟨t, ht, -⟩ := State.frames_cons hr
      show ({ U with heap := s₂.heap, slotsUsed := s₂.slotsUsed } : State) = { U.setFrames U.frames with heap := s₂.heap, slotsUsed := s₂.slotsUsed }
      rw [State.setFrames_self ht]
    subst hg
    refine Or.inl ⟨v, ⟨(({ U with heap := s₂.heap, slotsUsed := s₂.slotsUsed } : State).setVm s₂.vm), Ls ++ L, c0 + mc, s0 + ms⟩,
      ⟨X.admits, X.cas, X.clock, X.frames, X.room, X.hears, X.method, X.code, (X.here.setHeapUsed s₂.heap s₂.slotsUsed).setVm hW'.alike, X.tail, State.WarmedH.trans X.warmed hW', X.limits, X.bytes, X.same.trans (hsame.setVm s.vm)⟩,
      ⟨g, mk, s₂, L, rfl, rfl, hqc, rfl, hL, rfl, rfl⟩, ?_⟩
    show Steps p.tables e below _ ((({ U with heap := s₂.heap, slotsUsed := s₂.slotsUsed } : State).setVm s₂.vm).setTop { g with pc := g.pc + len₂, stack := v.toList ++ g.stack })
    rw [← hs₂]
    exact hsteps
  · obtain ⟨e2, q2, q3, q4, q5, q6⟩ := id hsm
    have e3 : s₂ = ({ (U.calling g mk a).setFrames s₂.frames with heap := s₂.heap, slotsUsed := s₂.slotsUsed } : State).setVm s₂.vm := by
      have : s₂ = ({ s₂ with vm := (U.calling g mk a).vm } : State).setVm s₂.vm := rfl
      rw [e2] at this
      exact this
    have hf₂ : s₂.frames = .throwing q :: .java g :: U.frames.tail := hend
    have hW' : U.WarmedH s₂.vm := hW₂
    have hs₂ : s₂ = ((({ U with heap := s₂.heap, slotsUsed := s₂.slotsUsed } : State).setVm s₂.vm).setTop g).pushFrame (.throwing q) := by
      refine e3.trans ?_
      rw [hf₂, State.calling_eq h.top, State.setFrames_setFrames, State.pushFrame, State.frames_setTop _ hr', State.setTop_of_frames _ hr', State.setFrames_setFrames, hr]
      rfl
    have hsame : U.sameButNew ({ U with heap := s₂.heap, slotsUsed := s₂.slotsUsed } : State) L mc ms := by
      refine ⟨?_, q2, q3, q4, q5, q6⟩
      obtain ⟨t, ht, -⟩ := State.frames_cons hr
      show ({ U with heap := s₂.heap, slotsUsed := s₂.slotsUsed } : State) = { U.setFrames U.frames with heap := s₂.heap, slotsUsed := s₂.slotsUsed }
      rw [State.setFrames_self ht]
    subst hg
    refine Or.inr ⟨q, ⟨(({ U with heap := s₂.heap, slotsUsed := s₂.slotsUsed } : State).setVm s₂.vm), Ls ++ L, c0 + mc, s0 + ms⟩,
      ⟨X.admits, X.cas, X.clock, X.frames, X.room, X.hears, X.method, X.code, (X.here.setHeapUsed s₂.heap s₂.slotsUsed).setVm hW'.alike, X.tail, State.WarmedH.trans X.warmed hW', X.limits, X.bytes, X.same.trans (hsame.setVm s.vm)⟩,
      ⟨g, mk, s₂, L, E, ce, rfl, rfl, hx, hce, hcv, hcl, rfl, hL, rfl, rfl⟩, ?_⟩
    show Steps p.tables e below _ (((({ U with heap := s₂.heap, slotsUsed := s₂.slotsUsed } : State).setVm s₂.vm).setTop g).pushFrame (.throwing q))
    rw [← hs₂]
    exact hsteps
end
variable {p : Program} {l : Launch} {e : Env} {R : Room} {s : State} {m : MethodId} {args : Array Value} {below : List Frame} {meth : Method} {c : Code} {T : State} {H : Heap} {locs : List Loc} {cells slots : Nat}
theorem vx_callVX (X : Stand p l e R s m args below meth c T locs cells slots) (hexec : p.tables.exec = Jvm.exec) {own C : String} {index : Nat} {y : MethodName} {bytes : ByteArray} {maxL : Nat} {ret : Option FieldType} {hh : List (Nat × Nat × Nat × Nat)}
    (hown : s.vm.findClass own = some m.cls) (hlink : (Cond.methodLink own index y).before args s = true) (hinst : (Cond.instanceMethod y).before args s = true) (hsel : (Cond.selects C y y).before args s = true)
    (hcode : (Cond.codeWith y bytes maxL ret hh).before args s = true) (hy : y.cls ≠ "java/lang/invoke/MethodHandle" ∧ y.cls ≠ "java/lang/invoke/VarHandle")
    {W9 : Nat} {Pre : Pt → Array Value → Prop} {Post : Pt → Array Value → Option Value → Pt → Prop} {PostX : Pt → Array Value → Addr → Pt → Prop} (hK : vx_Back l R p e below s args y 3 W9 Pre Post PostX)
    {b : Addr} {cellB : Cell} (hcell : T.heap[b]? = some cellB) (hobj : cellB.vm.isStatics = false) (hcls : s.vm.findClass C = some cellB.cls)
    {g : JFrame} (hg : g.method = m) (hsize : g.locals.size = c.maxLocals) {argsL rest : List Value} (hlen : ∀ sig, parseMethodDescriptor y.desc = some sig → argsL.length = sig.parameters.length)
    (hstack : g.stack = argsL.reverse ++ .ref b :: rest) (hW : 2 * g.monitorRoom + (rest.map fun v => v.category).sum ≤ W9) (hdg : decode c.code g.pc = .ok (.invokevirtual index, 3))
    (hpre : ∀ vm₁, s.WarmedH vm₁ → Pre ⟨T.setVm vm₁, locs, cells, slots⟩ (Value.ref b :: argsL).toArray) :
    (∃ (v : Option Value) (vm₁ : Vm) (B : Pt), s.WarmedH vm₁ ∧ Stand p l e R s m args below meth c B.U B.locs B.cells B.slots ∧ Post ⟨T.setVm vm₁, locs, cells, slots⟩ (Value.ref b :: argsL).toArray v B ∧
      ∀ target, Steps p.tables e below (B.U.setTop { g with pc := g.pc + 3, stack := v.toList ++ rest }) target → Steps p.tables e below (T.setTop g) target) ∨
    (∃ (q : Addr) (vm₁ : Vm) (B : Pt), s.WarmedH vm₁ ∧ Stand p l e R s m args below meth c B.U B.locs B.cells B.slots ∧ PostX ⟨T.setVm vm₁, locs, cells, slots⟩ (Value.ref b :: argsL).toArray q B ∧
      Steps p.tables e below (T.setTop g) ((B.U.setTop { g with stack := rest }).pushFrame (.throwing q))) := by
  obtain ⟨mk, methM, hnamed, hmethM, hstM, habM⟩ := Cond.instanceMethod_spec hinst
  obtain ⟨m8, methM', cM, hn8, hmethM', -, -, -, -, -, -, hsigM⟩ := Cond.codeWith_spec hcode
  cases Option.some.inj (hn8.symm.trans hnamed)
  cases hmethM.symm.trans hmethM'
  obtain ⟨c2, r2, m2, q1, q2, q3, q4, kP, hkP, hkPi⟩ := Cond.selects_spec hsel
  cases hcls.symm.trans q1
  cases (State.methodFound?_of_named hnamed hy).symm.trans q2
  cases hnamed.symm.trans q3
  have hselP : selectMethod e.platform s.vm cellB.cls mk = .method mk := by rw [Launch.admits_selectMethod X.admits]; exact q4
  obtain ⟨vm₁, X₁, hstep₁⟩ := X.invokevirtual hexec hown hlink hnamed hmethM hstM hkP hkPi hy (a := b) (cell := cellB) hcell
    (fun z h => by rw [h] at hobj; cases hobj) hselP hmethM habM hkP hkPi (g := g) hg (argsL := argsL) (rest := rest) (hlen _ hsigM) hstack hdg
  rcases hK m meth c ⟨T.setVm vm₁, locs, cells, slots⟩ { g with stack := rest } (.invokevirtual index) mk (Value.ref b :: argsL).toArray X₁ hg hsize hdg hW (X₁.named hnamed) (hpre vm₁ X₁.warmed) with ⟨v, B, X', hpost, hsteps⟩ | ⟨q, B, X', hpost, hsteps⟩
  · exact Or.inl ⟨v, vm₁, B, X₁.warmed, X', hpost, fun target h => hstep₁ _ fun acts => by rw [doInvoke_state]; exact hsteps.trans h⟩
  · exact Or.inr ⟨q, vm₁, B, X₁.warmed, X', hpost, hstep₁ _ fun acts => by rw [doInvoke_state]; exact hsteps⟩
theorem vx_callSX (X : Stand p l e R s m args below meth c T locs cells slots) (hexec : p.tables.exec = Jvm.exec) {own : String} {index : Nat} {y : MethodName} {bytes : ByteArray} {maxL : Nat} {ret : Option FieldType} {hh : List (Nat × Nat × Nat × Nat)}
    (hown : s.vm.findClass own = some m.cls) (hlink : (Cond.methodLink own index y).before args s = true) (hstat : (Cond.static y).before args s = true) (hinit : (Cond.initialized y.cls).before args s = true)
    (hcode : (Cond.codeWith y bytes maxL ret hh).before args s = true) (hy : y.cls ≠ "java/lang/invoke/MethodHandle" ∧ y.cls ≠ "java/lang/invoke/VarHandle")
    {W9 : Nat} {Pre : Pt → Array Value → Prop} {Post : Pt → Array Value → Option Value → Pt → Prop} {PostX : Pt → Array Value → Addr → Pt → Prop} (hK : vx_Back l R p e below s args y 3 W9 Pre Post PostX)
    {g : JFrame} (hg : g.method = m) (hsize : g.locals.size = c.maxLocals) {argsL rest : List Value} (hlen : ∀ sig, parseMethodDescriptor y.desc = some sig → argsL.length = sig.parameters.length)
    (hstack : g.stack = argsL.reverse ++ rest) (hW : 2 * g.monitorRoom + (rest.map fun v => v.category).sum ≤ W9) (hdg : decode c.code g.pc = .ok (.invokestatic index, 3))
    (hpre : ∀ vm₁, s.WarmedH vm₁ → Pre ⟨T.setVm vm₁, locs, cells, slots⟩ argsL.toArray) :
    (∃ (v : Option Value) (vm₁ : Vm) (B : Pt), s.WarmedH vm₁ ∧ Stand p l e R s m args below meth c B.U B.locs B.cells B.slots ∧ Post ⟨T.setVm vm₁, locs, cells, slots⟩ argsL.toArray v B ∧
      ∀ target, Steps p.tables e below (B.U.setTop { g with pc := g.pc + 3, stack := v.toList ++ rest }) target → Steps p.tables e below (T.setTop g) target) ∨
    (∃ (q : Addr) (vm₁ : Vm) (B : Pt), s.WarmedH vm₁ ∧ Stand p l e R s m args below meth c B.U B.locs B.cells B.slots ∧ PostX ⟨T.setVm vm₁, locs, cells, slots⟩ argsL.toArray q B ∧
      Steps p.tables e below (T.setTop g) ((B.U.setTop { g with stack := rest }).pushFrame (.throwing q))) := by
  obtain ⟨mk, methM, cM, hnamed, hmethM, -, -, -, -, -, -, hsigM⟩ := Cond.codeWith_spec hcode
  have hstatic : methM.isStatic = true := Cond.static_spec hnamed hmethM hstat
  obtain ⟨kP, hkP, -⟩ := className_of_methodNamed hnamed
  have hinitP : kP.init = .initialized := Cond.initialized_spec (findClass_of_methodNamed hnamed) hkP hinit
  obtain ⟨vm₁, X₁, hstep₁⟩ := X.invokestatic hexec hown hlink hnamed hmethM hstatic hkP hinitP hy (g := g) hg (argsL := argsL) (rest := rest) (hlen _ hsigM) hstack hdg
  rcases hK m meth c ⟨T.setVm vm₁, locs, cells, slots⟩ { g with stack := rest } (.invokestatic index) mk argsL.toArray X₁ hg hsize hdg hW (X₁.named hnamed) (hpre vm₁ X₁.warmed) with ⟨v, B, X', hpost, hsteps⟩ | ⟨q, B, X', hpost, hsteps⟩
  · exact Or.inl ⟨v, vm₁, B, X₁.warmed, X', hpost, fun target h => hstep₁ _ fun acts => by rw [doInvoke_state]; exact hsteps.trans h⟩
  · exact Or.inr ⟨q, vm₁, B, X₁.warmed, X', hpost, hstep₁ _ fun acts => by rw [doInvoke_state]; exact hsteps⟩
theorem vx_callVW (X : Stand p l e R s m args below meth c T locs cells slots) (hexec : p.tables.exec = Jvm.exec) {own C : String} {index : Nat} {y : MethodName} {bytes : ByteArray} {maxL : Nat} {ret : Option FieldType} {hh : List (Nat × Nat × Nat × Nat)}
    (hown : s.vm.findClass own = some m.cls) (hlink : (Cond.methodLink own index y).before args s = true) (hinst : (Cond.instanceMethod y).before args s = true) (hsel : (Cond.selects C y y).before args s = true)
    (hcode : (Cond.codeWith y bytes maxL ret hh).before args s = true) (hy : y.cls ≠ "java/lang/invoke/MethodHandle" ∧ y.cls ≠ "java/lang/invoke/VarHandle")
    {W9 : Nat} {Pre : Pt → Array Value → Prop} {Post : Pt → Array Value → Option Value → Pt → Prop} (hK : Back l R p e below s args y 3 W9 Pre Post)
    {b : Addr} {cellB : Cell} (hcell : T.heap[b]? = some cellB) (hobj : cellB.vm.isStatics = false) (hcls : s.vm.findClass C = some cellB.cls)
    {g : JFrame} (hg : g.method = m) (hsize : g.locals.size = c.maxLocals) {argsL rest : List Value} (hlen : ∀ sig, parseMethodDescriptor y.desc = some sig → argsL.length = sig.parameters.length)
    (hstack : g.stack = argsL.reverse ++ .ref b :: rest) (hW : 2 * g.monitorRoom + (rest.map fun v => v.category).sum ≤ W9) (hdg : decode c.code g.pc = .ok (.invokevirtual index, 3))
    (hpre : ∀ vm₁, s.WarmedH vm₁ → Pre ⟨T.setVm vm₁, locs, cells, slots⟩ (Value.ref b :: argsL).toArray) :
    ∃ (v : Option Value) (vm₁ : Vm) (B : Pt), s.WarmedH vm₁ ∧ Stand p l e R s m args below meth c B.U B.locs B.cells B.slots ∧ Post ⟨T.setVm vm₁, locs, cells, slots⟩ (Value.ref b :: argsL).toArray v B ∧
      ∀ target, Steps p.tables e below (B.U.setTop { g with pc := g.pc + 3, stack := v.toList ++ rest }) target → Steps p.tables e below (T.setTop g) target := by
  obtain ⟨mk, methM, hnamed, hmethM, hstM, habM⟩ := Cond.instanceMethod_spec hinst
  obtain ⟨m8, methM', cM, hn8, hmethM', -, -, -, -, -, -, hsigM⟩ := Cond.codeWith_spec hcode
  cases Option.some.inj (hn8.symm.trans hnamed)
  cases hmethM.symm.trans hmethM'
  obtain ⟨c2, r2, m2, q1, q2, q3, q4, kP, hkP, hkPi⟩ := Cond.selects_spec hsel
  cases hcls.symm.trans q1
  cases (State.methodFound?_of_named hnamed hy).symm.trans q2
  cases hnamed.symm.trans q3
  have hselP : selectMethod e.platform s.vm cellB.cls mk = .method mk := by rw [Launch.admits_selectMethod X.admits]; exact q4
  obtain ⟨vm₁, X₁, hstep₁⟩ := X.invokevirtual hexec hown hlink hnamed hmethM hstM hkP hkPi hy (a := b) (cell := cellB) hcell
    (fun z h => by rw [h] at hobj; cases hobj) hselP hmethM habM hkP hkPi (g := g) hg (argsL := argsL) (rest := rest) (hlen _ hsigM) hstack hdg
  obtain ⟨v, B, X', hpost, hsteps⟩ := hK m meth c ⟨T.setVm vm₁, locs, cells, slots⟩ { g with stack := rest } (.invokevirtual index) mk (Value.ref b :: argsL).toArray X₁ hg hsize hdg hW (X₁.named hnamed) (hpre vm₁ X₁.warmed)
  exact ⟨v, vm₁, B, X₁.warmed, X', hpost, fun target h => hstep₁ _ fun acts => by rw [doInvoke_state]; exact hsteps.trans h⟩
abbrev vx_CVW (R : Room) (s : State) (args : Array Value) (own C : String) (index : Nat) (y : MethodName) (bytes : ByteArray) (maxL : Nat) (ret : Option FieldType) (hh : List (Nat × Nat × Nat × Nat)) (ws : List Cond) (rm : Room) (mc ms n : Nat) : Prop :=
  (rm.cells = mc ∧ rm.slots = ms ∧ rm.frames + 1 ≤ R.frames ∧ 8 + (maxL + 11) + rm.locals ≤ R.locals ∧ (∀ w ∈ ws, ∀ (a' : Array Value) (U : State), s.WarmedH U.vm → w.before a' U = true) ∧ Cond.codeWith y bytes maxL ret hh ∈ ws) ∧
  (Cond.codeWith y bytes maxL ret hh).before args s = true ∧ (Cond.initialized y.cls).before args s = true ∧ (y.cls ≠ "java/lang/invoke/MethodHandle" ∧ y.cls ≠ "java/lang/invoke/VarHandle") ∧
  (∀ sig, parseMethodDescriptor y.desc = some sig → n = sig.parameters.length) ∧ (Cond.methodLink own index y).before args s = true ∧ (Cond.instanceMethod y).before args s = true ∧ (Cond.selects C y y).before args s = true
theorem vx_cwVW {own C : String} {index maxL mc ms : Nat} {y : MethodName} {bytes : ByteArray} {ret : Option FieldType} {hh : List (Nat × Nat × Nat × Nat)} {Ts ws ws' : List Cond} {rm : Room} (n : Nat) (ht : ∀ w ∈ Ts, w.before args s = true) (hT : GoodIn Ts (wsV own index C y ws)) (hw : ws = Cond.codeWith y bytes maxL ret hh :: ws') (hrc : rm.cells = mc) (hrs : rm.slots = ms)
    (hd : y.cls = C ∧ y.cls ≠ "java/lang/invoke/MethodHandle" ∧ y.cls ≠ "java/lang/invoke/VarHandle" ∧ (parseMethodDescriptor y.desc).map (fun d => d.parameters.length) = some n) (hR : rm.frames + 1 ≤ R.frames ∧ 8 + (maxL + 11) + rm.locals ≤ R.locals) :
    vx_CVW R s args own C index y bytes maxL ret hh ws rm mc ms n := by
  obtain ⟨hC, hd⟩ := hd
  subst hC
  have ok : ∀ w ∈ wsV own index y.cls y ws, w.before args s = true := fun w h => ht w (hT w h).1
  have hG : GoodIn Ts ws := fun w h => hT w (by unfold wsV; exact List.mem_append_right _ h)
  have hc : Cond.codeWith y bytes maxL ret hh ∈ ws := by rw [hw]; exact List.mem_cons_self
  refine ⟨⟨hrc, hrs, hR.1, hR.2, pay_in ht hG, hc⟩, ht _ (hG _ hc).1, ok _ (by simp [wsV]), ⟨hd.1, hd.2.1⟩, fun sig h => ?_, ok _ (by simp [wsV]), ok _ (by simp [wsV]), ok _ (by simp [wsV])⟩
  have h2 := hd.2.2
  rw [h] at h2
  exact (Option.some.inj h2).symm
theorem vx_runVW {y : MethodName} {bytes cc : ByteArray} {maxL nL mc ms n index : Nat} {ret : Option FieldType} {hh : List (Nat × Nat × Nat × Nat)} {ws : List Cond} {rm : Room} {Pc : Array Value → State → Prop} {Qc : Array Value → State → Outcome → State → Prop} {free : Addr → Prop} {Ts : List Cond} {own C : String} {b : Addr} {As rest : List Value} {g : JFrame}
    (S : CallFix p m c cc nL s args Ts own) (hM : Met l y ws rm Pc Qc mc ms free) (cw : vx_CVW R s args own C index y bytes maxL ret hh ws rm mc ms n) (hp : PreV s H C b Pc As)
    (hg : g.method = m) (hn : As.length = n) (hsize : g.locals.size = nL) (hstack : g.stack = As.reverse ++ .ref b :: rest) (hW : 2 * g.monitorRoom + (rest.map fun v => v.category).sum ≤ 8) (hdg : decode cc g.pc = .ok (.invokevirtual index, 3)) (hf : cells + mc ≤ R.cells ∧ slots + ms ≤ R.slots) :
    va_Run p l e R s m args below meth c H locs cells slots mc ms g rest (Qc (Value.ref b :: As).toArray) free := by
  obtain ⟨⟨hrc, hrs, hfr, hlo, hws, hcw⟩, hcode, hini, hy, hlen, hl, hin, hse⟩ := cw
  have hK : Back l R p e below s args y 3 8 (PreOf R mc ms Pc) (PostOf Qc mc ms free) := va_backW (hh := hh) (bytes := bytes) (maxL := maxL) (ret := ret) hM hp.1 hrc hrs hfr hlo hws hcw (fun a' U hW => word_at hW (Or.inl (by first | rfl | simp [Cond.onTables, Cond.keeps, Cond.steady])) hini)
  obtain ⟨hx, hb, hml, ho, -⟩ := S
  obtain ⟨-, ⟨cellB, hcB, hoB, hclB⟩, hPc⟩ := hp
  intro T hT X
  obtain ⟨v, vm₁, ⟨U', l2, c2, s2⟩, hW₁, X', ⟨g', mk, t, L, e1, e2, hq, h1, hL, h2, h3⟩, st⟩ := vx_callVW X hx (C := C) (hh := hh) (bytes := bytes) (maxL := maxL) (ret := ret) ho hl hin hse hcode hy hK (by rw [hT]; exact hcB) hoB hclB hg (hsize.trans hml.symm) (argsL := As) (rest := rest) (fun sig h => hn.trans (hlen sig h)) hstack hW (by rw [hb]; exact hdg)
    (fun vm₁ hW₁ => ⟨hf.1, hf.2, hPc (T.setVm vm₁) hT hW₁⟩)
  dsimp only [Pt.U, Pt.locs, Pt.cells, Pt.slots] at X' e1 e2 h1 h2 h3 st
  subst h1; subst h2; subst h3
  exact ⟨v, (T.setVm vm₁).calling g' mk (Value.ref b :: As).toArray, t, U', L, hT, X', hL, e1, e2, hq, st⟩
section
variable {y : MethodName} {bytes cc : ByteArray} {maxL nL mc ms n index : Nat} {ret : Option FieldType} {ws : List Cond} {rm : Room} {Pc : Array Value → State → Prop} {Qc : Array Value → State → Outcome → State → Prop} {XC : String → State → State → Prop} {free : Addr → Prop} {Ts : List Cond} {own C : String} {b : Addr} {As rest : List Value} {g : JFrame}
theorem vx_runVX {hh : List (Nat × Nat × Nat × Nat)} (S : CallFix p m c cc nL s args Ts own) (hM : vx_Met l y ws rm Pc Qc XC mc ms free) (cw : vx_CVW R s args own C index y bytes maxL ret hh ws rm mc ms n) (hp : PreV s H C b Pc As)
    (hg : g.method = m) (hn : As.length = n) (hsize : g.locals.size = nL) (hstack : g.stack = As.reverse ++ .ref b :: rest) (hW : 2 * g.monitorRoom + (rest.map fun v => v.category).sum ≤ 8) (hdg : decode cc g.pc = .ok (.invokevirtual index, 3)) (hf : cells + mc ≤ R.cells ∧ slots + ms ≤ R.slots) :
    vx_Run p l e R s m args below meth c H locs cells slots mc ms g rest (Qc (Value.ref b :: As).toArray) XC free := by
  obtain ⟨⟨hrc, hrs, hfr, hlo, hws, hcw⟩, hcode, hini, hy, hlen, hl, hin, hse⟩ := cw
  have hK : vx_Back l R p e below s args y 3 8 (PreOf R mc ms Pc) (PostOf Qc mc ms free) (vx_Post XC mc ms free) := vx_backW (hh := hh) (bytes := bytes) (maxL := maxL) (ret := ret) hM hp.1 hrc hrs hfr hlo hws hcw (fun a' U hW => word_at hW (Or.inl (by first | rfl | simp [Cond.onTables, Cond.keeps, Cond.steady])) hini)
  obtain ⟨hx, hb, hml, ho, -⟩ := S
  obtain ⟨-, ⟨cellB, hcB, hoB, hclB⟩, hPc⟩ := hp
  intro T hT X
  rcases vx_callVX X hx (C := C) (hh := hh) (bytes := bytes) (maxL := maxL) (ret := ret) ho hl hin hse hcode hy hK (by rw [hT]; exact hcB) hoB hclB hg (hsize.trans hml.symm) (argsL := As) (rest := rest) (fun sig h => hn.trans (hlen sig h)) hstack hW (by rw [hb]; exact hdg)
    (fun vm₁ hW₁ => ⟨hf.1, hf.2, hPc (T.setVm vm₁) hT hW₁⟩) with ⟨v, vm₁, ⟨U', l2, c2, s2⟩, hW₁, X', ⟨g', mk, t, L, e1, e2, hq, h1, hL, h2, h3⟩, st⟩ | ⟨q, vm₁, ⟨U', l2, c2, s2⟩, hW₁, X', ⟨g', mk, t, L, E, ce, e1, e2, hq, hce, hcv, hcl, h1, hL, h2, h3⟩, st⟩
  · dsimp only [Pt.U, Pt.locs, Pt.cells, Pt.slots] at X' e1 e2 h1 h2 h3 st
    subst h1; subst h2; subst h3
    exact Or.inl ⟨v, (T.setVm vm₁).calling g' mk (Value.ref b :: As).toArray, t, U', L, hT, X', hL, e1, e2, hq, st⟩
  · dsimp only [Pt.U, Pt.locs, Pt.cells, Pt.slots] at X' e1 e2 h1 h2 h3 st hcl
    subst h1; subst h2; subst h3
    exact Or.inr ⟨q, (T.setVm vm₁).calling g' mk (Value.ref b :: As).toArray, t, U', L, E, ce, hT, X', hL, e1, e2, hq, hce, hcv, vx_cls hW₁ hcl, st⟩
theorem vx_runSX {hh : List (Nat × Nat × Nat × Nat)} (S : CallFix p m c cc nL s args Ts own) (hM : vx_Met l y ws rm Pc Qc XC mc ms free) (cw : vx_CSW R s args own index y bytes maxL ret hh ws rm mc ms n) (hp : PreS s H Pc As)
    (hg : g.method = m) (hn : As.length = n) (hsize : g.locals.size = nL) (hstack : g.stack = As.reverse ++ rest) (hW : 2 * g.monitorRoom + (rest.map fun v => v.category).sum ≤ 8) (hdg : decode cc g.pc = .ok (.invokestatic index, 3)) (hf : cells + mc ≤ R.cells ∧ slots + ms ≤ R.slots) :
    vx_Run p l e R s m args below meth c H locs cells slots mc ms g rest (Qc As.toArray) XC free := by
  obtain ⟨⟨hrc, hrs, hfr, hlo, hws, hcw⟩, hcode, hini, hy, hlen, hl, hstt⟩ := cw
  have hK : vx_Back l R p e below s args y 3 8 (PreOf R mc ms Pc) (PostOf Qc mc ms free) (vx_Post XC mc ms free) := vx_backW (hh := hh) (bytes := bytes) (maxL := maxL) (ret := ret) hM hp.1 hrc hrs hfr hlo hws hcw (fun a' U hW => word_at hW (Or.inl (by first | rfl | simp [Cond.onTables, Cond.keeps, Cond.steady])) hini)
  obtain ⟨hx, hb, hml, ho, -⟩ := S
  intro T hT X
  rcases vx_callSX X hx (hh := hh) (bytes := bytes) (maxL := maxL) (ret := ret) ho hl hstt hini hcode hy hK hg (hsize.trans hml.symm) (argsL := As) (rest := rest) (fun sig h => hn.trans (hlen sig h)) hstack hW (by rw [hb]; exact hdg)
    (fun vm₁ hW₁ => ⟨hf.1, hf.2, hp.2 (T.setVm vm₁) hT hW₁⟩) with ⟨v, vm₁, ⟨U', l2, c2, s2⟩, hW₁, X', ⟨g', mk, t, L, e1, e2, hq, h1, hL, h2, h3⟩, st⟩ | ⟨q, vm₁, ⟨U', l2, c2, s2⟩, hW₁, X', ⟨g', mk, t, L, E, ce, e1, e2, hq, hce, hcv, hcl, h1, hL, h2, h3⟩, st⟩
  · dsimp only [Pt.U, Pt.locs, Pt.cells, Pt.slots] at X' e1 e2 h1 h2 h3 st
    subst h1; subst h2; subst h3
    exact Or.inl ⟨v, (T.setVm vm₁).calling g' mk As.toArray, t, U', L, hT, X', hL, e1, e2, hq, st⟩
  · dsimp only [Pt.U, Pt.locs, Pt.cells, Pt.slots] at X' e1 e2 h1 h2 h3 st hcl
    subst h1; subst h2; subst h3
    exact Or.inr ⟨q, (T.setVm vm₁).calling g' mk As.toArray, t, U', L, E, ce, hT, X', hL, e1, e2, hq, hce, hcv, vx_cls hW₁ hcl, st⟩
end
end VXH
theorem vx_ofWH {l : Launch} {y : MethodName} {ws ws' : List Cond} {rm : Room} {Pc : Array Value → State → Prop} {Qc : Array Value → State → Outcome → State → Prop} {XC : String → State → State → Prop} {mc ms : Nat} {free : Addr → Prop} {cc : ByteArray} {maxL : Nat} {ret : Option FieldType} {hh : List (Nat × Nat × Nat × Nat)}
    (hy : plainName y.cls = true) (hw : ws = Cond.codeWith y cc maxL ret hh :: ws')
    (body : ∀ p e s m args below meth c s₁, BodyLoose p l y (headSpec ws rm) cc maxL ret e s m args below meth c s₁ → c.maxLocals = maxL → Pc args s →
      W p l e (headSpec ws rm).room s m args below meth c s.heap [] 0 0 (vx_MQ below Qc XC args s mc ms free) (entryFrame m args maxL)) : vx_Met l y ws rm Pc Qc XC mc ms free := by
  refine MetFree.of_bodyS (code := cc) (maxLocals := maxL) (ret := ret) hy ?_ ?_
  · intro args s m h hn
    obtain ⟨m9, meth, c, hn9, h1, h2, h3, h4, -, h5, h6, -⟩ := Cond.codeWith_spec (atoms_spec (ws := ws) h _ (by rw [hw]; exact List.mem_cons_self))
    cases hn.symm.trans hn9
    exact ⟨meth, c, h1, h2, h3, h4, h5, h6⟩
  · intro p e s m args below meth c s₁ B hml hP _
    have hh0 : s₁.heap = s.heap := by rw [B.state]; rfl
    obtain ⟨t, a1, o, b1, b2, b3⟩ := body p e s m args below meth c s₁ B hml hP s₁ hh0 (Stand.of_body B)
    exact ⟨t, o, a1, b1, b2, b3⟩
/-! ===== END ===== -/
end
section
/-! throw new NoSuchElementException("text"): its constructor calls the one above by the pool's number 13, not 7 as vx_throwS (part 02) wants it. ne_ctor goes the way of the library's Stand.ctorThrowS with this first link; ne_throw is vx_throwS turned to it -/
section NE
abbrev ne_O : String := "PagedMemory"
abbrev ne_X : String := "java/util/NoSuchElementException"
abbrev ne_Y : String := "java/lang/RuntimeException"
theorem ne_d0 : decode prog_15_method_4_code 0 = .ok (.aload_n 0, 1) := by decide +kernel
theorem ne_d1 : decode prog_15_method_4_code 1 = .ok (.aload_n 1, 1) := by decide +kernel
theorem ne_d2 : decode prog_15_method_4_code 2 = .ok (.invokespecial 13, 3) := by decide +kernel
theorem ne_d5 : decode prog_15_method_4_code 5 = .ok (.return_, 1) := by decide +kernel
def ne_bad (w : Cond) : Bool := decide (w = .code (Bundle.initS ne_X) Bundle.six 2 none) || decide (w = .methodLink ne_X 7 (Bundle.initS ne_Y))
/-- the words of this throw: the library's, with the first link as it is -/
def ne_own : List Cond := (Bundle.ownAtoms ne_O 229 ne_X [ne_Y, "java/lang/Exception"]).filter (fun w => !ne_bad w) ++ Bundle.passSAtoms ne_X ne_Y 13 prog_15_method_4_code
def ne_at : List Cond := ne_own.filter vx_no
theorem ne_m1 : ∀ x ∈ Bundle.throwableAtoms, x ∈ ne_own := by decide +kernel
theorem ne_m2 : ∀ x ∈ Bundle.throwableSAtoms, x ∈ ne_own := by decide +kernel
theorem ne_m3 : ∀ x ∈ Bundle.chainSAtoms ne_Y ["java/lang/Exception"], x ∈ ne_own := by decide +kernel
theorem ne_w1 : Cond.methodLink ne_O 229 (Bundle.initS ne_X) ∈ ne_own := by decide +kernel
theorem ne_w2 : Cond.instantiable ne_X 6 ∈ ne_own := by decide +kernel
theorem ne_w3 : Cond.selects ne_X Bundle.tFill0 Bundle.tFill0 ∈ ne_own := by decide +kernel
theorem ne_w4 : Cond.selects ne_X Bundle.tFill Bundle.tFill ∈ ne_own := by decide +kernel
theorem ne_w5 : Cond.isRef (.static Bundle.tN "UNASSIGNED_STACK" Bundle.steD) ∈ ne_own := by decide +kernel
theorem ne_w6 : Cond.isRef (.static Bundle.tN "SUPPRESSED_SENTINEL" Bundle.listD) ∈ ne_own := by decide +kernel
theorem ne_w7 : Cond.fieldLink Bundle.tN 198 Bundle.tN "backtrace" "Ljava/lang/Object;" ∈ ne_own := by decide +kernel
theorem ne_w8 : Cond.lays Bundle.tN Bundle.tN "backtrace" "Ljava/lang/Object;" ∈ ne_own := by decide +kernel
theorem ne_l1 : Cond.lays ne_X Bundle.tN "cause" "Ljava/lang/Throwable;" ∈ ne_own := by decide +kernel
theorem ne_l2 : Cond.lays ne_X Bundle.tN "stackTrace" Bundle.steD ∈ ne_own := by decide +kernel
theorem ne_l3 : Cond.lays ne_X Bundle.tN "suppressedExceptions" Bundle.listD ∈ ne_own := by decide +kernel
theorem ne_l4 : Cond.lays ne_X Bundle.tN "detailMessage" "Ljava/lang/String;" ∈ ne_own := by decide +kernel
theorem ne_l5 : Cond.lays ne_X Bundle.tN "backtrace" "Ljava/lang/Object;" ∈ ne_own := by decide +kernel
theorem ne_f : Bundle.fit ne_X = true := by decide +kernel
theorem ne_fY : Bundle.fit ne_Y = true := by decide +kernel
theorem ne_fE : ∀ n ∈ ["java/lang/Exception"], Bundle.fit n = true := by decide +kernel
set_option maxHeartbeats 4000000 in
theorem ne_ctor {p : Program} {l : Launch} {e : Env} {R : Room} {s : State} {m₀ : MethodId} {args : Array Value} {below : List Frame} {meth : Method} {c : Code} {V : State} {locs : List Loc} {cells slots : Nat}
    (X : Stand p l e R s m₀ args below meth c V locs cells slots) (hexec : p.tables.exec = Jvm.exec) (htr : e.platform.stackTraces = false) (hown : s.vm.findClass ne_O = some m₀.cls) (h : ∀ w ∈ ne_own, w.before args s = true)
    (hlocs : ∀ x ∈ locs, ∀ cell, s.heap[x.base]? = some cell → cell.vm.isStatics = false) {a : Addr} {cX : ClassId} {kX : Class} (hfoundX : s.vm.findClass ne_X = some cX) (hkX : s.vm.classes[cX]? = some kX) (hcell : V.heap[a]? = some (freshCell cX kX)) (hnew : s.heap.size ≤ a) {msg : Value} (hmsg : msg.isRef = true)
    {g : JFrame} (hg : g.method = m₀) (hsize : g.locals.size = c.maxLocals) (hlocked : g.locked = none) (hentered : g.entered = []) {rest : List Value} (hstack : g.stack = msg :: .ref a :: .ref a :: rest)
    (hd6 : decode c.code g.pc = .ok (.invokespecial 229, 3)) (hd9 : decode c.code (g.pc + 3) = .ok (.athrow, 1)) (hout : ∀ x ∈ c.exceptionTable.toList, covers x (g.pc + 3) = false)
    (hRframes : 5 < R.frames) (hRlocals : 2 * g.monitorRoom + ((Value.ref a :: rest).map fun v => v.category).sum + 81 ≤ R.locals) (hlocks : meth.locks = false) :
    ∃ U : State, Steps p.tables e below (V.setTop g) U ∧ U.status = .running ∧ Ended U below (.threw a) ∧ s.WarmedH U.vm ∧ s.sameButNew ({ U with vm := s.vm } : State) locs cells slots ∧ ∃ ce, U.heap[a]? = some ce ∧ ce.vm = .none ∧ s.vm.findClass ne_X = some ce.cls := by
  have hpl : e.platform.magicAccessors = ({} : Platform).magicAccessors := by rw [X.admits.platform]
  obtain ⟨T, Z0, L, -, Y⟩ := ThrowableC.of_atoms (args := args) (by rw [X.admits.platform]) (by rw [X.admits.platform]) hpl (fun x hx => h x (ne_m1 x hx))
  obtain ⟨Z, M, LZ, LM, hnZ⟩ := Init0T.ofS_atoms (args := args) hpl L Y (fun x hx => h x (ne_m2 x hx))
  -- the chain: RuntimeException, Exception as ever; ahead of them the constructor with the number 13
  obtain ⟨Q1, Qs, hlen, K1, hK, hQ1, hup, hon⟩ := Bundle.chainS (args := args) hpl hnZ ["java/lang/Exception"] ne_Y ne_fY ne_fE (fun x hx => h x (ne_m3 x hx))
  obtain ⟨P1, L1, hP1, hP1s⟩ := PassC.ofS_atoms (args := args) (s := s) hpl (X := ne_X) (Y := ne_Y) (index := 13) (bytes := prog_15_method_4_code) (Bundle.fit_spec ne_f).1 (Bundle.fit_spec ne_fY).2 ne_d0 ne_d1 ne_d2 ne_d5 (fun x hx => h x (List.mem_append_right _ hx))
  have hP1s : P1.sup = Q1.m := Option.some.inj (hP1s.symm.trans hQ1)
  have hfound : s.vm.findClass ne_X = some P1.m.cls := findClass_of_methodNamed hP1
  cases Option.some.inj (hfoundX.symm.trans hfound)
  obtain ⟨c1, k1, hc1, hk, hord, -, -, hn6⟩ := Cond.instantiable_spec (h _ ne_w2)
  cases Option.some.inj (hc1.symm.trans hfound)
  cases Option.some.inj (hkX.symm.trans hk)
  have hsel0 : selectMethod e.platform s.vm P1.m.cls T.fill0 = .method T.fill0 := by
    obtain ⟨c2, r2, m2, q1, q2, q3, q4, -⟩ := Cond.selects_spec (h _ ne_w3)
    cases Option.some.inj (q1.symm.trans hfound)
    cases Option.some.inj (q2.symm.trans (State.methodFound?_of_named Y.fill0 (by decide)))
    cases Option.some.inj (q3.symm.trans Y.fill0)
    rw [Launch.admits_selectMethod X.admits]; exact q4
  have hselF : selectMethod e.platform s.vm P1.m.cls T.fill = .method T.fill := by
    obtain ⟨c2, r2, m2, q1, q2, q3, q4, -⟩ := Cond.selects_spec (h _ ne_w4)
    cases Option.some.inj (q1.symm.trans hfound)
    cases Option.some.inj (q2.symm.trans (State.methodFound?_of_named Y.fill (by decide)))
    cases Option.some.inj (q3.symm.trans Y.fill)
    rw [Launch.admits_selectMethod X.admits]; exact q4
  -- the statics of Throwable, as they were at the start
  obtain ⟨cs0, hcs0, hiss⟩ := Y.statics
  obtain ⟨u0, hu0⟩ := Cond.staticRefV Y.unassigned L.unassignedStatic L.statics hcs0 hiss (h _ ne_w5)
  obtain ⟨sen, hsen⟩ := Cond.staticRefV Y.sentinel L.sentinelStatic L.statics hcs0 hiss (h _ ne_w6)
  obtain ⟨cs, hcs, hes, -, hkeep⟩ := X.same.2.2.2.2.2 T.aS cs0 hcs0
  have hcs : V.heap[T.aS]? = some cs := hcs
  have hapart : ∀ i, (⟨T.aS, i⟩ : Loc) ∉ locs := fun i hm => by
    have q := hlocs _ hm cs0 hcs0
    rw [hiss] at q; cases q
  have hkn : cs.vm ≠ .unknown := by
    rw [hes]; intro q
    rw [show cs0.vm = .unknown from q] at hiss
    cases hiss
  have hne : T.aS ≠ a := Nat.ne_of_lt (Nat.lt_of_lt_of_le (Array.getElem?_eq_some_iff.mp hcs0).1 hnew)
  -- the fields of the new object
  obtain ⟨ci, i198, fB, w1, w2, w3, w4, -, hnB, htB, hffB⟩ := Cond.ownField (t := .object "java/lang/Object") Y.found L.cls (by decide +kernel) (h _ ne_w7) (h _ ne_w8) e.platform hpl
  obtain ⟨iM, hffM⟩ := Y.msg
  obtain ⟨tyC, dC, hdC, hdnC⟩ := Cond.laysAt hfound hk Y.cause (h _ ne_l1)
  obtain ⟨tyS, dS, hdS, hdnS⟩ := Cond.laysAt hfound hk Y.stack (h _ ne_l2)
  obtain ⟨tyP, dP, hdP, hdnP⟩ := Cond.laysAt hfound hk Y.supp (h _ ne_l3)
  obtain ⟨tyM, dM, hdM, hdnM⟩ := Cond.laysAt hfound hk hffM (h _ ne_l4)
  obtain ⟨tyB, dB, hdB, hdnB⟩ := Cond.laysAt hfound hk hffB (h _ ne_l5)
  have bC := Cond.laysApart hdB hdC hdnB hdnC (by rw [hnB, Y.causeName]; decide)
  have bS := Cond.laysApart hdB hdS hdnB hdnS (by rw [hnB, Y.stackName]; decide)
  have bP := Cond.laysApart hdB hdP hdnB hdnP (by rw [hnB, Y.suppName]; decide)
  have hskip : SkipFacts T e.platform s (fun u => u) u0 ((preparedCellV T.toThrowableT (freshCell P1.m.cls kX) a u0 sen).withEntry V.cur) :=
    ⟨{ ci198 := ci, i198 := i198, fBack := fB }, ⟨w1, w2, w3, w4⟩, by
      have q := fresh_default (c := P1.m.cls) tyB
      rw [htB] at q
      simpa [preparedCellV, Cell.setSlot, Cell.withEntry, Array.getElem?_setIfInBounds, bC, bS, bP, bC.symm, bS.symm, bP.symm, defaultValue] using q, fun _ _ => rfl⟩
  -- the call, the chain, the throw
  obtain ⟨tm, methC, cdC, kC, vm1, hnC, -, -, -, -, -, -, -, hW1, st1⟩ := Steps.initColdS (tb := p.tables) (e := e) (below := below) (s := s) (U := V) X.here hexec X.warmed hpl hown (t := Bundle.initS ne_X) rfl rfl (Bundle.fit_spec ne_f).2
    (h _ ne_w1) (h _ (List.mem_append_right _ List.mem_cons_self)) (bytes := prog_15_method_4_code) (maxL := 2) (h _ (List.mem_append_right _ (List.mem_cons_of_mem _ List.mem_cons_self))) (f := g) hg (a := a) (msg := msg) (rest := .ref a :: rest) hstack hd6
  cases Option.some.inj (hnC.symm.trans hP1)
  have X1 := X.noted hW1
  obtain ⟨vm2, X2, st2⟩ := X1.ctorMessageOffV hexec (g := { g with stack := .ref a :: rest }) hg hsize T L Z LZ M LM (P1 :: Q1 :: Qs)
    (fun P hP => by
      rcases List.mem_cons.mp hP with rfl | hP
      · exact L1
      · rcases List.mem_cons.mp hP with rfl | hP
        · exact K1
        · exact hK P hP) ⟨hP1s, hup, hon⟩ (u0 := u0) (sen := sen) (self := a) hmsg (cell := freshCell P1.m.cls kX) (cellS := cs)
    hcell (fun _ => by simp) (by simp) rfl rfl hsel0 hselF hcs hne hkn (by rw [hkeep _ (hapart _)]; exact hu0) (by rw [hkeep _ (hapart _)]; exact hsen)
    (Takes.of_laid hk hord tyC (by rw [Y.causeType]; rfl)) (Takes.of_laid hk hord tyS (by rw [Y.stackType]; exact fits_refV_array _ u0)) (Takes.of_laid hk hord tyP (by rw [Y.suppType]; exact fits_refV_object _ sen))
    (Takes.of_laid hk hord tyM (by rw [Y.msgType]; exact fits_refV_object _ ⟨msg, hmsg⟩)) Y.objLocals hskip htr [] hd6
    (by simp only [List.length_cons, hlen]; simpa using hRframes) (by simp only [List.length_cons, hlen]; simpa using hRlocals)
  obtain ⟨hwalk, hrun, hended, hWU, hsame⟩ := X2.athrowLeaves hexec (g := { g with stack := .ref a :: rest, pc := g.pc + 3 }) hg hlocked hentered hout (a := a) (rest := rest) rfl hd9
  have hlt : a < ((V.setVm vm1).setVm vm2).heap.size := (Array.getElem?_eq_some_iff.mp hcell).1
  have hU := heapAt_setCell_self (s := (V.setVm vm1).setVm vm2) (plainBareV T.toThrowableT (freshCell P1.m.cls kX) a u0 sen msg) hlt
  refine ⟨_, st1 _ (fun acts => ?_), hrun, hended, hWU, hsame.weaken (fun y hy hlt' => ?_) (Nat.le_refl _) (Nat.le_refl _), _, hU, rfl, hfound⟩
  · rw [doInvoke_state]
    exact st2 _ hwalk
  · rcases List.mem_append.mp hy with q | q
    · exact q
    · exfalso
      have hb : y.base = a := by
        simp only [List.mem_cons, List.not_mem_nil, or_false] at q
        rcases q with rfl | rfl | rfl | rfl | rfl <;> rfl
      rw [hb] at hlt'
      exact Nat.not_lt.mpr hnew hlt'
variable {p : Program} {l : Launch} {e : Env} {R : Room} {s : State} {m : MethodId} {args : Array Value} {below : List Frame} {meth : Method} {c : Code} {H : Heap} {locs : List Loc} {cells slots : Nat} {Q : State → Prop}
variable {free : Addr → Prop} {ls : Array Slot} {rest : List Value}
variable {Qc : Array Value → State → Outcome → State → Prop} {XC : String → State → State → Prop}
set_option maxHeartbeats 4000000 in
theorem ne_throw {cc : ByteArray} {pc : Nat} (hexec : p.tables.exec = Jvm.exec) (hb : c.code = cc) (hl : l.stackTraces = false) {text : String} {ik is mc ms sa : Nat} {A : Nat → Prop}
    (hown : s.vm.findClass ne_O = some m.cls)
    (hk : (Cond.classLink ne_O ik ne_X).before args s = true) (hini : (Cond.initialized ne_X).before args s = true) (hstr : vk_R ne_O is text sa s) (hat : ∀ w ∈ ne_at, w.before args s = true)
    (hgood : ∀ w ∈ Cond.classLink ne_O ik ne_X :: Cond.initialized ne_X :: ne_at, vx_ot w = true)
    (hU : vx_Zq Bundle.tN "UNASSIGNED_STACK" Bundle.steD A s s.heap) (hN : vx_Zq Bundle.tN "SUPPRESSED_SENTINEL" Bundle.listD A s s.heap) (hS : va_S A s.heap H locs) (hsize : ls.size = c.maxLocals)
    (d0 : decode cc pc = .ok (.new ik, 3)) (d3 : decode cc (pc + 3) = .ok (.dup, 1)) (d4 : decode cc (pc + 4) = .ok (.ldc is, 2)) (d6 : decode cc (pc + 6) = .ok (.invokespecial 229, 3)) (d9 : decode cc (pc + 9) = .ok (.athrow, 1))
    (hout : ∀ x ∈ c.exceptionTable.toList, covers x (pc + 9) = false)
    (hRframes : 5 < R.frames) (hRlocals : (rest.map fun v => v.category).sum + 82 ≤ R.locals) (hRcells : cells + 1 ≤ R.cells) (hRslots : slots + 6 ≤ R.slots) (hlocks : meth.locks = false)
    (hx : ∀ t : State, s.vm.Alike t.vm → H.size ≤ t.heap.size → (∀ q : Nat, q < H.size → t.heap[q]? = H[q]?) → XC ne_X s t)
    (hf : ∀ z ∈ locs, free z.base) (hc : cells + 1 ≤ mc) (hs : slots + 6 ≤ ms) :
    W p l e R s m args below meth c H locs cells slots (vx_MQ below Qc XC args s mc ms free) (F0 m pc ls rest) := by
  intro T hT X
  have htr : e.platform.stackTraces = false := (show e.platform.stackTraces = l.stackTraces by rw [X.admits.platform]).trans hl
  have Y := vx_rebase X (R' := { frames := R.frames, locals := R.locals, cells := 1, slots := 6 }) (Nat.le_refl _) (Nat.le_refl _) hRcells hRslots
  obtain ⟨s', hA⟩ : ∃ z, z = (T.setVm s.vm).setFrames (.invoking m args :: below) := ⟨_, rfl⟩
  rw [← hA] at Y
  have hvm : s'.vm = s.vm := by rw [hA]; rfl
  have hhp : s'.heap = H := by rw [hA]; exact hT
  have hW0 : s.WarmedH s'.vm := by rw [hvm]; exact State.WarmedH.refl s
  have hat' : ∀ w ∈ ne_at, w.before args s' = true := fun w hw => vx_ot_at hW0 hvm.symm (hgood w (List.mem_cons_of_mem _ (List.mem_cons_of_mem _ hw))) (hat w hw)
  have hk' : (Cond.classLink ne_O ik ne_X).before args s' = true := vx_ot_at hW0 hvm.symm (hgood _ List.mem_cons_self) hk
  have hini' : (Cond.initialized ne_X).before args s' = true := vx_ot_at hW0 hvm.symm (hgood _ (List.mem_cons_of_mem _ List.mem_cons_self)) hini
  have hU' : vx_Zq Bundle.tN "UNASSIGNED_STACK" Bundle.steD A s' s'.heap := by rw [hhp]; exact vx_Zq.moved hW0.alike (hU.kept hS.2.1)
  have hN' : vx_Zq Bundle.tN "SUPPRESSED_SENTINEL" Bundle.listD A s' s'.heap := by rw [hhp]; exact vx_Zq.moved hW0.alike (hN.kept hS.2.1)
  have h : ∀ w ∈ ne_own, w.before args s' = true := vx_own hat' (vx_isRefq hU'.1) (vx_isRefq hN'.1) hU'.2.word hN'.2.word
  have hown' : s'.vm.findClass ne_O = some m.cls := by rw [hvm]; exact hown
  have hins : (Cond.instantiable ne_X 6).before args s' = true := h _ ne_w2
  obtain ⟨vm₁, cX, kX, hfX, hkX, -, -, X₁, st1⟩ := Y.newCold hexec (own := ne_O) (C := ne_X) (index := ik) (n := 6) hown' hk' hins hini'
    (g := F0 m pc ls rest) rfl (by rw [hb]; exact d0) (Nat.le_refl _) (Nat.le_refl _)
  generalize hT1 : (T.setVm vm₁).pushCell { cls := cX, slots := kX.instanceTypes.map defaultValue, vm := .none } = T1 at X₁ st1
  have hcat : (Value.ref T.heap.size).category = 1 := rfl
  have hcellA : T1.heap[T.heap.size]? = some (freshCell cX kX) := by rw [← hT1]; exact State.heap_pushCell_size _ _
  have d3' : decode c.code (pc + 3) = .ok (.dup, 1) := by rw [hb]; exact d3
  have d4' : decode c.code (pc + 4) = .ok (.ldc is, 2) := by rw [hb]; exact d4
  have hstr' : vk_R ne_O is text sa s' := vk_R.warm hW0 hstr
  obtain ⟨U, hsteps, hrun, hend, hW, hsame, ce, hce, hO1, hO2⟩ := ne_ctor X₁ hexec htr hown' h (fun x hx => nomatch hx) hfX hkX hcellA (by rw [hhp, hT]; exact Nat.le_refl _) (msg := .ref sa) rfl
    (g := { method := m, pc := pc + 6, locals := ls, stack := .ref sa :: .ref T.heap.size :: .ref T.heap.size :: rest, locked := none }) rfl hsize rfl rfl (rest := rest) rfl
    (by rw [hb]; exact d6) (by rw [hb]; exact d9) hout hRframes (by simp only [List.map_cons, List.sum_cons, hcat]; omega) hlocks
  obtain ⟨f1, f2⟩ := vx_frame hsame
  rw [hhp] at f1 f2
  have hWs : s.WarmedH U.vm := State.WarmedH.trans hW0 hW
  have hcl : s.vm.findClass ne_X = some ce.cls := by
    have h9 := hO2
    rw [hvm] at h9
    exact h9
  have hall : s.sameButNew ({ U with vm := s.vm } : State) locs mc ms := by
    subst hA
    obtain ⟨e1, e2⟩ := hsame
    rw [State.setFrames_setFrames] at e1
    have h2 : (T.setVm s.vm).sameButNew ({ U with vm := s.vm } : State) [] (0 + 1) (0 + 6) := ⟨e1, e2⟩
    have h3 := X.same.trans h2
    rw [List.append_nil] at h3
    exact h3.mono hc hs
  refine ⟨U, ?_, .threw T.heap.size, hrun, hend, Or.inr ⟨T.heap.size, rfl, ne_X, ce, locs, hx U hWs.alike f1 (fun q hq => f2 q hq (fun z hz => nomatch hz)), hce, hO1, hcl, hWs, hall, hf⟩⟩
  refine st1 _ ?_
  show Steps p.tables e below (T1.setTop { method := m, pc := pc + 3, locals := ls, stack := .ref T.heap.size :: rest, locked := none }) _
  jvm_step X₁.here [X₁.here.top, hexec, d3', Value.category]
  exact X₁.ldcString hexec (own := ne_O) (text := text) (index := is) (a := sa) hown' hstr'.1 hstr'.2
    (g := { method := m, pc := pc + 4, locals := ls, stack := .ref T.heap.size :: .ref T.heap.size :: rest, locked := none }) rfl d4' _ hsteps
end NE
end
section
/-! ===== BEGIN printed: names, fields, word lists, decode rows ===== -/
def RX0 : String := "PagedMemory$Content"
def TX0 : u_T := fun k => match k with
  | 0 => ("PagedMemory$Content", "words", "[I", true)
  | 1 => ("PagedMemory$Content", "shared", "Z", true)
  | 2 => ("PagedMemory$Content", "segmentPlace", "I", true)
  | 3 => ("PagedMemory$Content", "frame", "I", false)
  | 4 => ("PagedMemory$Content", "slot", "I", false)
  | 5 => ("PagedMemory$Content", "dirty", "Z", false)
  | _ => ("PagedMemory$Content", "sharers", "I", false)
def tyX0 : Nat → FieldType := fun k => match k with
  | 0 => .array .int
  | 1 => .boolean
  | 2 => .int
  | 3 => .int
  | 4 => .int
  | 5 => .boolean
  | _ => .int
abbrev wsX00 : List Cond := u_ws RX0 TX0 7
theorem nmX0 : ∀ a, a < 7 → ∀ b, b < 7 → a ≠ b → (TX0 a).2.1 ≠ (TX0 b).2.1 := by decide +kernel
theorem tyX0_ok : ∀ k, k < 7 → parseFieldDescriptor (TX0 k).2.2.1 = some (tyX0 k) := by decide +kernel
abbrev cX0_init : ByteArray := prog_2_method_1_code
def yX0_init : MethodName := ⟨RX0, "<init>", "(I)V"⟩
def RX1 : String := "PagedMemory$FrameTable"
def TX1 : u_T := fun k => match k with
  | 0 => ("PagedMemory$FrameTable", "contents", "[LPagedMemory$Content;", true)
  | 1 => ("PagedMemory$FrameTable", "usedAt", "[I", true)
  | 2 => ("PagedMemory$FrameTable", "marked", "[Z", true)
  | 3 => ("PagedMemory$FrameTable", "size", "I", false)
  | _ => ("PagedMemory$FrameTable", "handAt", "I", false)
def tyX1 : Nat → FieldType := fun k => match k with
  | 0 => .array (.object "PagedMemory$Content")
  | 1 => .array .int
  | 2 => .array .boolean
  | 3 => .int
  | _ => .int
abbrev wsX10 : List Cond := u_ws RX1 TX1 5
theorem nmX1 : ∀ a, a < 5 → ∀ b, b < 5 → a ≠ b → (TX1 a).2.1 ≠ (TX1 b).2.1 := by decide +kernel
theorem tyX1_ok : ∀ k, k < 5 → parseFieldDescriptor (TX1 k).2.2.1 = some (tyX1 k) := by decide +kernel
abbrev cX1_init : ByteArray := prog_3_method_1_code
def yX1_init : MethodName := ⟨RX1, "<init>", "()V"⟩
abbrev cX1_freeCount : ByteArray := prog_3_method_2_code
def yX1_freeCount : MethodName := ⟨RX1, "freeCount", "()I"⟩
abbrev cX1_smallestFree : ByteArray := prog_3_method_3_code
def yX1_smallestFree : MethodName := ⟨RX1, "smallestFree", "()I"⟩
abbrev cX1_oldestClean : ByteArray := prog_3_method_4_code
def yX1_oldestClean : MethodName := ⟨RX1, "oldestClean", "()I"⟩
abbrev cX1_oldest : ByteArray := prog_3_method_5_code
def yX1_oldest : MethodName := ⟨RX1, "oldest", "()I"⟩
abbrev cX1_put : ByteArray := prog_3_method_6_code
def yX1_put : MethodName := ⟨RX1, "put", "(LPagedMemory$Content;II)V"⟩
abbrev cX1_use : ByteArray := prog_3_method_7_code
def yX1_use : MethodName := ⟨RX1, "use", "(II)V"⟩
abbrev cX1_vacate : ByteArray := prog_3_method_8_code
def yX1_vacate : MethodName := ⟨RX1, "vacate", "(I)V"⟩
abbrev cX1_moveHandBehind : ByteArray := prog_3_method_9_code
def yX1_moveHandBehind : MethodName := ⟨RX1, "moveHandBehind", "(I)V"⟩
def RX2 : String := "PagedMemory$SwapArea"
def TX2 : u_T := fun k => match k with
  | _ => ("PagedMemory$SwapArea", "contents", "[LPagedMemory$Content;", true)
def tyX2 : Nat → FieldType := fun k => match k with
  | _ => .array (.object "PagedMemory$Content")
abbrev wsX20 : List Cond := u_ws RX2 TX2 1
theorem nmX2 : ∀ a, a < 1 → ∀ b, b < 1 → a ≠ b → (TX2 a).2.1 ≠ (TX2 b).2.1 := by decide +kernel
theorem tyX2_ok : ∀ k, k < 1 → parseFieldDescriptor (TX2 k).2.2.1 = some (tyX2 k) := by decide +kernel
abbrev cX2_init : ByteArray := prog_4_method_1_code
def yX2_init : MethodName := ⟨RX2, "<init>", "()V"⟩
abbrev cX2_freeCount : ByteArray := prog_4_method_2_code
def yX2_freeCount : MethodName := ⟨RX2, "freeCount", "()I"⟩
abbrev cX2_roomFor : ByteArray := prog_4_method_3_code
def yX2_roomFor : MethodName := ⟨RX2, "roomFor", "(I)I"⟩
abbrev cX2_putAll : ByteArray := prog_4_method_4_code
def yX2_putAll : MethodName := ⟨RX2, "putAll", "([LPagedMemory$Content;II)V"⟩
abbrev cX2_vacateSlotOf : ByteArray := prog_4_method_5_code
def yX2_vacateSlotOf : MethodName := ⟨RX2, "vacateSlotOf", "(LPagedMemory$Content;)V"⟩
def RX3 : String := "PagedMemory"
def TX3 : u_T := fun k => match k with
  | 0 => ("PagedMemory", "pages", "[LPagedMemory$Content;", true)
  | 1 => ("PagedMemory", "live", "[Z", true)
  | 2 => ("PagedMemory", "segmentContents", "[LPagedMemory$Content;", true)
  | 3 => ("PagedMemory", "frameTable", "LPagedMemory$FrameTable;", true)
  | 4 => ("PagedMemory", "swapArea", "LPagedMemory$SwapArea;", true)
  | 5 => ("PagedMemory", "cluster", "[LPagedMemory$Content;", true)
  | 6 => ("PagedMemory", "counts", "[I", true)
  | 7 => ("PagedMemory", "processesCreated", "I", false)
  | 8 => ("PagedMemory", "segmentsCreated", "I", false)
  | 9 => ("PagedMemory", "windowSize", "I", false)
  | _ => ("PagedMemory", "now", "I", false)
def tyX3 : Nat → FieldType := fun k => match k with
  | 0 => .array (.object "PagedMemory$Content")
  | 1 => .array .boolean
  | 2 => .array (.object "PagedMemory$Content")
  | 3 => .object "PagedMemory$FrameTable"
  | 4 => .object "PagedMemory$SwapArea"
  | 5 => .array (.object "PagedMemory$Content")
  | 6 => .array .int
  | 7 => .int
  | 8 => .int
  | 9 => .int
  | _ => .int
abbrev wsX30 : List Cond := u_ws RX3 TX3 11
theorem nmX3 : ∀ a, a < 11 → ∀ b, b < 11 → a ≠ b → (TX3 a).2.1 ≠ (TX3 b).2.1 := by decide +kernel
theorem tyX3_ok : ∀ k, k < 11 → parseFieldDescriptor (TX3 k).2.2.1 = some (tyX3 k) := by decide +kernel
abbrev cX3_init : ByteArray := prog_1_method_1_code
def yX3_init : MethodName := ⟨RX3, "<init>", "()V"⟩
abbrev cX3_setFrames : ByteArray := prog_1_method_2_code
def yX3_setFrames : MethodName := ⟨RX3, "setFrames", "(I)I"⟩
abbrev cX3_setWindow : ByteArray := prog_1_method_3_code
def yX3_setWindow : MethodName := ⟨RX3, "setWindow", "(I)I"⟩
abbrev cX3_start : ByteArray := prog_1_method_4_code
def yX3_start : MethodName := ⟨RX3, "start", "()I"⟩
abbrev cX3_fork : ByteArray := prog_1_method_5_code
def yX3_fork : MethodName := ⟨RX3, "fork", "(I)I"⟩
abbrev cX3_exit : ByteArray := prog_1_method_6_code
def yX3_exit : MethodName := ⟨RX3, "exit", "(I)I"⟩
abbrev cX3_map : ByteArray := prog_1_method_7_code
def yX3_map : MethodName := ⟨RX3, "map", "(II)I"⟩
abbrev cX3_createSegment : ByteArray := prog_1_method_8_code
def yX3_createSegment : MethodName := ⟨RX3, "createSegment", "(I)I"⟩
abbrev cX3_attach : ByteArray := prog_1_method_9_code
def yX3_attach : MethodName := ⟨RX3, "attach", "(IIII)I"⟩
abbrev cX3_unmap : ByteArray := prog_1_method_10_code
def yX3_unmap : MethodName := ⟨RX3, "unmap", "(II)Z"⟩
abbrev cX3_isLive : ByteArray := prog_1_method_11_code
def yX3_isLive : MethodName := ⟨RX3, "isLive", "(I)Z"⟩
abbrev cX3_mapping : ByteArray := prog_1_method_12_code
def yX3_mapping : MethodName := ⟨RX3, "mapping", "(II)I"⟩
abbrev cX3_read : ByteArray := prog_1_method_13_code
def yX3_read : MethodName := ⟨RX3, "read", "(II)I"⟩
abbrev cX3_write : ByteArray := prog_1_method_14_code
def yX3_write : MethodName := ⟨RX3, "write", "(III)I"⟩
abbrev cX3_sync : ByteArray := prog_1_method_15_code
def yX3_sync : MethodName := ⟨RX3, "sync", "()I"⟩
abbrev cX3_time : ByteArray := prog_1_method_16_code
def yX3_time : MethodName := ⟨RX3, "time", "()I"⟩
abbrev cX3_hand : ByteArray := prog_1_method_17_code
def yX3_hand : MethodName := ⟨RX3, "hand", "()I"⟩
abbrev cX3_frameOf : ByteArray := prog_1_method_18_code
def yX3_frameOf : MethodName := ⟨RX3, "frameOf", "(II)I"⟩
abbrev cX3_slotOf : ByteArray := prog_1_method_19_code
def yX3_slotOf : MethodName := ⟨RX3, "slotOf", "(II)I"⟩
abbrev cX3_sharersOf : ByteArray := prog_1_method_20_code
def yX3_sharersOf : MethodName := ⟨RX3, "sharersOf", "(II)I"⟩
abbrev cX3_frameState : ByteArray := prog_1_method_21_code
def yX3_frameState : MethodName := ⟨RX3, "frameState", "(I)I"⟩
abbrev cX3_latestUse : ByteArray := prog_1_method_22_code
def yX3_latestUse : MethodName := ⟨RX3, "latestUse", "(I)I"⟩
abbrev cX3_isReferenced : ByteArray := prog_1_method_23_code
def yX3_isReferenced : MethodName := ⟨RX3, "isReferenced", "(I)Z"⟩
abbrev cX3_freeFrames : ByteArray := prog_1_method_24_code
def yX3_freeFrames : MethodName := ⟨RX3, "freeFrames", "()I"⟩
abbrev cX3_freeSlots : ByteArray := prog_1_method_25_code
def yX3_freeSlots : MethodName := ⟨RX3, "freeSlots", "()I"⟩
abbrev cX3_workingSet : ByteArray := prog_1_method_26_code
def yX3_workingSet : MethodName := ⟨RX3, "workingSet", "(I)I"⟩
abbrev cX3_count : ByteArray := prog_1_method_27_code
def yX3_count : MethodName := ⟨RX3, "count", "(I)I"⟩
abbrev cX3_swapRate : ByteArray := prog_1_method_28_code
def yX3_swapRate : MethodName := ⟨RX3, "swapRate", "()D"⟩
abbrev cX3_digest : ByteArray := prog_1_method_29_code
def yX3_digest : MethodName := ⟨RX3, "digest", "()J"⟩
abbrev cX3_mix : ByteArray := prog_1_method_30_code
def yX3_mix : MethodName := ⟨RX3, "mix", "(JJ)J"⟩
abbrev cX3_requireProcess : ByteArray := prog_1_method_31_code
def yX3_requireProcess : MethodName := ⟨RX3, "requireProcess", "(I)V"⟩
abbrev cX3_requirePage : ByteArray := prog_1_method_32_code
def yX3_requirePage : MethodName := ⟨RX3, "requirePage", "(II)V"⟩
abbrev cX3_requireFrame : ByteArray := prog_1_method_33_code
def yX3_requireFrame : MethodName := ⟨RX3, "requireFrame", "(I)V"⟩
abbrev cX3_requireLive : ByteArray := prog_1_method_34_code
def yX3_requireLive : MethodName := ⟨RX3, "requireLive", "(I)V"⟩
abbrev cX3_requireRoomForProcess : ByteArray := prog_1_method_35_code
def yX3_requireRoomForProcess : MethodName := ⟨RX3, "requireRoomForProcess", "()V"⟩
abbrev cX3_requireUnmapped : ByteArray := prog_1_method_36_code
def yX3_requireUnmapped : MethodName := ⟨RX3, "requireUnmapped", "(II)V"⟩
abbrev cX3_requireMapped : ByteArray := prog_1_method_37_code
def yX3_requireMapped : MethodName := ⟨RX3, "requireMapped", "(II)LPagedMemory$Content;"⟩
abbrev cX3_requireSegmentContent : ByteArray := prog_1_method_38_code
def yX3_requireSegmentContent : MethodName := ⟨RX3, "requireSegmentContent", "(II)LPagedMemory$Content;"⟩
abbrev cX3_requireAddressed : ByteArray := prog_1_method_39_code
def yX3_requireAddressed : MethodName := ⟨RX3, "requireAddressed", "(II)LPagedMemory$Content;"⟩
abbrev cX3_requireObtainableFrame : ByteArray := prog_1_method_40_code
def yX3_requireObtainableFrame : MethodName := ⟨RX3, "requireObtainableFrame", "()V"⟩
abbrev cX3_placeOf : ByteArray := prog_1_method_41_code
def yX3_placeOf : MethodName := ⟨RX3, "placeOf", "(II)I"⟩
abbrev cX3_createProcess : ByteArray := prog_1_method_42_code
def yX3_createProcess : MethodName := ⟨RX3, "createProcess", "()I"⟩
abbrev cX3_mappedPages : ByteArray := prog_1_method_43_code
def yX3_mappedPages : MethodName := ⟨RX3, "mappedPages", "(I)I"⟩
abbrev cX3_refer : ByteArray := prog_1_method_44_code
def yX3_refer : MethodName := ⟨RX3, "refer", "(ILPagedMemory$Content;)V"⟩
abbrev cX3_dropReference : ByteArray := prog_1_method_45_code
def yX3_dropReference : MethodName := ⟨RX3, "dropReference", "(I)Z"⟩
abbrev cX3_bringIn : ByteArray := prog_1_method_46_code
def yX3_bringIn : MethodName := ⟨RX3, "bringIn", "(LPagedMemory$Content;)V"⟩
abbrev cX3_prefetchBehind : ByteArray := prog_1_method_47_code
def yX3_prefetchBehind : MethodName := ⟨RX3, "prefetchBehind", "(I)V"⟩
abbrev cX3_copyForPage : ByteArray := prog_1_method_48_code
def yX3_copyForPage : MethodName := ⟨RX3, "copyForPage", "(ILPagedMemory$Content;)LPagedMemory$Content;"⟩
abbrev cX3_giveFrame : ByteArray := prog_1_method_49_code
def yX3_giveFrame : MethodName := ⟨RX3, "giveFrame", "(LPagedMemory$Content;I)V"⟩
abbrev cX3_freeByClock : ByteArray := prog_1_method_50_code
def yX3_freeByClock : MethodName := ⟨RX3, "freeByClock", "()I"⟩
abbrev cX3_givesWayWhenLookedAt : ByteArray := prog_1_method_51_code
def yX3_givesWayWhenLookedAt : MethodName := ⟨RX3, "givesWayWhenLookedAt", "(I)Z"⟩
abbrev cX3_isOutsideWindow : ByteArray := prog_1_method_52_code
def yX3_isOutsideWindow : MethodName := ⟨RX3, "isOutsideWindow", "(I)Z"⟩
abbrev cX3_writeOut : ByteArray := prog_1_method_53_code
def yX3_writeOut : MethodName := ⟨RX3, "writeOut", "(LPagedMemory$Content;)I"⟩
abbrev cX3_firstPageOf : ByteArray := prog_1_method_54_code
def yX3_firstPageOf : MethodName := ⟨RX3, "firstPageOf", "(LPagedMemory$Content;)I"⟩
abbrev cX3_gatherCluster : ByteArray := prog_1_method_55_code
def yX3_gatherCluster : MethodName := ⟨RX3, "gatherCluster", "(LPagedMemory$Content;I)I"⟩
def RX4 : String := "PagedMemoryModel"
def TX4 : u_T := fun k => match k with
  | 0 => ("PagedMemoryModel", "thrown", "I", false)
  | 1 => ("PagedMemoryModel", "time", "I", false)
  | 2 => ("PagedMemoryModel", "window", "I", false)
  | 3 => ("PagedMemoryModel", "frames", "I", false)
  | 4 => ("PagedMemoryModel", "hand", "I", false)
  | 5 => ("PagedMemoryModel", "contentIn", "[I", true)
  | 6 => ("PagedMemoryModel", "uses", "[I", true)
  | 7 => ("PagedMemoryModel", "isMarked", "[Z", true)
  | 8 => ("PagedMemoryModel", "contentAt", "[I", true)
  | 9 => ("PagedMemoryModel", "isThere", "[Z", true)
  | 10 => ("PagedMemoryModel", "isWritten", "[Z", true)
  | 11 => ("PagedMemoryModel", "words", "[I", true)
  | 12 => ("PagedMemoryModel", "processes", "I", false)
  | 13 => ("PagedMemoryModel", "isLive", "[Z", true)
  | 14 => ("PagedMemoryModel", "mappings", "[I", true)
  | 15 => ("PagedMemoryModel", "contents", "[I", true)
  | 16 => ("PagedMemoryModel", "segments", "I", false)
  | 17 => ("PagedMemoryModel", "sizes", "[I", true)
  | 18 => ("PagedMemoryModel", "parts", "[I", true)
  | 19 => ("PagedMemoryModel", "counts", "[I", true)
  | _ => ("PagedMemoryModel", "cluster", "[I", true)
def tyX4 : Nat → FieldType := fun k => match k with
  | 0 => .int
  | 1 => .int
  | 2 => .int
  | 3 => .int
  | 4 => .int
  | 5 => .array .int
  | 6 => .array .int
  | 7 => .array .boolean
  | 8 => .array .int
  | 9 => .array .boolean
  | 10 => .array .boolean
  | 11 => .array .int
  | 12 => .int
  | 13 => .array .boolean
  | 14 => .array .int
  | 15 => .array .int
  | 16 => .int
  | 17 => .array .int
  | 18 => .array .int
  | 19 => .array .int
  | _ => .array .int
abbrev wsX40 : List Cond := u_ws RX4 TX4 21
theorem nmX4 : ∀ a, a < 21 → ∀ b, b < 21 → a ≠ b → (TX4 a).2.1 ≠ (TX4 b).2.1 := by decide +kernel
theorem tyX4_ok : ∀ k, k < 21 → parseFieldDescriptor (TX4 k).2.2.1 = some (tyX4 k) := by decide +kernel
abbrev cX4_init : ByteArray := prog_6_method_1_code
def yX4_init : MethodName := ⟨RX4, "<init>", "()V"⟩
abbrev cX4_thrown : ByteArray := prog_6_method_2_code
def yX4_thrown : MethodName := ⟨RX4, "thrown", "()I"⟩
abbrev cX4_no : ByteArray := prog_6_method_3_code
def yX4_no : MethodName := ⟨RX4, "no", "(I)I"⟩
abbrev cX4_frameWith : ByteArray := prog_6_method_4_code
def yX4_frameWith : MethodName := ⟨RX4, "frameWith", "(I)I"⟩
abbrev cX4_slotWith : ByteArray := prog_6_method_5_code
def yX4_slotWith : MethodName := ⟨RX4, "slotWith", "(I)I"⟩
abbrev cX4_isDirty : ByteArray := prog_6_method_6_code
def yX4_isDirty : MethodName := ⟨RX4, "isDirty", "(I)Z"⟩
abbrev cX4_create : ByteArray := prog_6_method_7_code
def yX4_create : MethodName := ⟨RX4, "create", "()I"⟩
abbrev cX4_at : ByteArray := prog_6_method_8_code
def yX4_at : MethodName := ⟨RX4, "at", "(II)I"⟩
abbrev cX4_references : ByteArray := prog_6_method_9_code
def yX4_references : MethodName := ⟨RX4, "references", "(I)I"⟩
abbrev cX4_isInSegment : ByteArray := prog_6_method_10_code
def yX4_isInSegment : MethodName := ⟨RX4, "isInSegment", "(I)Z"⟩
abbrev cX4_segmentPlace : ByteArray := prog_6_method_11_code
def yX4_segmentPlace : MethodName := ⟨RX4, "segmentPlace", "(I)I"⟩
abbrev cX4_vanishes : ByteArray := prog_6_method_12_code
def yX4_vanishes : MethodName := ⟨RX4, "vanishes", "(I)Z"⟩
abbrev cX4_used : ByteArray := prog_6_method_13_code
def yX4_used : MethodName := ⟨RX4, "used", "()I"⟩
abbrev cX4_setFrames : ByteArray := prog_6_method_14_code
def yX4_setFrames : MethodName := ⟨RX4, "setFrames", "(I)I"⟩
abbrev cX4_setWindow : ByteArray := prog_6_method_15_code
def yX4_setWindow : MethodName := ⟨RX4, "setWindow", "(I)I"⟩
abbrev cX4_isProcess : ByteArray := prog_6_method_16_code
def yX4_isProcess : MethodName := ⟨RX4, "isProcess", "(I)Z"⟩
abbrev cX4_isPage : ByteArray := prog_6_method_17_code
def yX4_isPage : MethodName := ⟨RX4, "isPage", "(I)Z"⟩
abbrev cX4_start : ByteArray := prog_6_method_18_code
def yX4_start : MethodName := ⟨RX4, "start", "()I"⟩
abbrev cX4_fork : ByteArray := prog_6_method_19_code
def yX4_fork : MethodName := ⟨RX4, "fork", "(I)I"⟩
abbrev cX4_clear : ByteArray := prog_6_method_20_code
def yX4_clear : MethodName := ⟨RX4, "clear", "(II)Z"⟩
abbrev cX4_exit : ByteArray := prog_6_method_21_code
def yX4_exit : MethodName := ⟨RX4, "exit", "(I)I"⟩
abbrev cX4_mapped : ByteArray := prog_6_method_22_code
def yX4_mapped : MethodName := ⟨RX4, "mapped", "(I)I"⟩
abbrev cX4_canMap : ByteArray := prog_6_method_23_code
def yX4_canMap : MethodName := ⟨RX4, "canMap", "(IIZ)Z"⟩
abbrev cX4_map : ByteArray := prog_6_method_24_code
def yX4_map : MethodName := ⟨RX4, "map", "(II)I"⟩
abbrev cX4_createSegment : ByteArray := prog_6_method_25_code
def yX4_createSegment : MethodName := ⟨RX4, "createSegment", "(I)I"⟩
abbrev cX4_attach : ByteArray := prog_6_method_26_code
def yX4_attach : MethodName := ⟨RX4, "attach", "(IIII)I"⟩
abbrev cX4_unmap : ByteArray := prog_6_method_27_code
def yX4_unmap : MethodName := ⟨RX4, "unmap", "(II)Z"⟩
abbrev cX4_isLive : ByteArray := prog_6_method_28_code
def yX4_isLive : MethodName := ⟨RX4, "isLive", "(I)Z"⟩
abbrev cX4_asks : ByteArray := prog_6_method_29_code
def yX4_asks : MethodName := ⟨RX4, "asks", "(II)Z"⟩
abbrev cX4_mapping : ByteArray := prog_6_method_30_code
def yX4_mapping : MethodName := ⟨RX4, "mapping", "(II)I"⟩
abbrev cX4_findCluster : ByteArray := prog_6_method_31_code
def yX4_findCluster : MethodName := ⟨RX4, "findCluster", "(I)I"⟩
abbrev cX4_nextInSegment : ByteArray := prog_6_method_32_code
def yX4_nextInSegment : MethodName := ⟨RX4, "nextInSegment", "(II)I"⟩
abbrev cX4_nextOfProcess : ByteArray := prog_6_method_33_code
def yX4_nextOfProcess : MethodName := ⟨RX4, "nextOfProcess", "(II)I"⟩
abbrev cX4_room : ByteArray := prog_6_method_34_code
def yX4_room : MethodName := ⟨RX4, "room", "(I)I"⟩
abbrev cX4_writeOut : ByteArray := prog_6_method_35_code
def yX4_writeOut : MethodName := ⟨RX4, "writeOut", "(I)I"⟩
abbrev cX4_evict : ByteArray := prog_6_method_36_code
def yX4_evict : MethodName := ⟨RX4, "evict", "(I)V"⟩
abbrev cX4_take : ByteArray := prog_6_method_37_code
def yX4_take : MethodName := ⟨RX4, "take", "(II)V"⟩
abbrev cX4_freed : ByteArray := prog_6_method_38_code
def yX4_freed : MethodName := ⟨RX4, "freed", "()I"⟩
abbrev cX4_bring : ByteArray := prog_6_method_39_code
def yX4_bring : MethodName := ⟨RX4, "bring", "(I)V"⟩
abbrev cX4_isPossible : ByteArray := prog_6_method_40_code
def yX4_isPossible : MethodName := ⟨RX4, "isPossible", "(Z)Z"⟩
abbrev cX4_begins : ByteArray := prog_6_method_41_code
def yX4_begins : MethodName := ⟨RX4, "begins", "(IIZ)Z"⟩
abbrev cX4_use : ByteArray := prog_6_method_42_code
def yX4_use : MethodName := ⟨RX4, "use", "(I)V"⟩
abbrev cX4_read : ByteArray := prog_6_method_43_code
def yX4_read : MethodName := ⟨RX4, "read", "(II)I"⟩
abbrev cX4_write : ByteArray := prog_6_method_44_code
def yX4_write : MethodName := ⟨RX4, "write", "(III)I"⟩
abbrev cX4_sync : ByteArray := prog_6_method_45_code
def yX4_sync : MethodName := ⟨RX4, "sync", "()I"⟩
abbrev cX4_time : ByteArray := prog_6_method_46_code
def yX4_time : MethodName := ⟨RX4, "time", "()I"⟩
abbrev cX4_hand : ByteArray := prog_6_method_47_code
def yX4_hand : MethodName := ⟨RX4, "hand", "()I"⟩
abbrev cX4_frameAt : ByteArray := prog_6_method_48_code
def yX4_frameAt : MethodName := ⟨RX4, "frameAt", "(I)I"⟩
abbrev cX4_slotAt : ByteArray := prog_6_method_49_code
def yX4_slotAt : MethodName := ⟨RX4, "slotAt", "(I)I"⟩
abbrev cX4_frameOf : ByteArray := prog_6_method_50_code
def yX4_frameOf : MethodName := ⟨RX4, "frameOf", "(II)I"⟩
abbrev cX4_slotOf : ByteArray := prog_6_method_51_code
def yX4_slotOf : MethodName := ⟨RX4, "slotOf", "(II)I"⟩
abbrev cX4_sharersOf : ByteArray := prog_6_method_52_code
def yX4_sharersOf : MethodName := ⟨RX4, "sharersOf", "(II)I"⟩
abbrev cX4_asksFrame : ByteArray := prog_6_method_53_code
def yX4_asksFrame : MethodName := ⟨RX4, "asksFrame", "(I)Z"⟩
abbrev cX4_stateOf : ByteArray := prog_6_method_54_code
def yX4_stateOf : MethodName := ⟨RX4, "stateOf", "(I)I"⟩
abbrev cX4_useOf : ByteArray := prog_6_method_55_code
def yX4_useOf : MethodName := ⟨RX4, "useOf", "(I)I"⟩
abbrev cX4_frameState : ByteArray := prog_6_method_56_code
def yX4_frameState : MethodName := ⟨RX4, "frameState", "(I)I"⟩
abbrev cX4_latestUse : ByteArray := prog_6_method_57_code
def yX4_latestUse : MethodName := ⟨RX4, "latestUse", "(I)I"⟩
abbrev cX4_isReferenced : ByteArray := prog_6_method_58_code
def yX4_isReferenced : MethodName := ⟨RX4, "isReferenced", "(I)Z"⟩
abbrev cX4_freeFrames : ByteArray := prog_6_method_59_code
def yX4_freeFrames : MethodName := ⟨RX4, "freeFrames", "()I"⟩
abbrev cX4_slotsLeft : ByteArray := prog_6_method_60_code
def yX4_slotsLeft : MethodName := ⟨RX4, "slotsLeft", "()I"⟩
abbrev cX4_freeSlots : ByteArray := prog_6_method_61_code
def yX4_freeSlots : MethodName := ⟨RX4, "freeSlots", "()I"⟩
abbrev cX4_workingSet : ByteArray := prog_6_method_62_code
def yX4_workingSet : MethodName := ⟨RX4, "workingSet", "(I)I"⟩
abbrev cX4_count : ByteArray := prog_6_method_63_code
def yX4_count : MethodName := ⟨RX4, "count", "(I)I"⟩
abbrev cX4_swapRate : ByteArray := prog_6_method_64_code
def yX4_swapRate : MethodName := ⟨RX4, "swapRate", "()D"⟩
abbrev cX4_digest : ByteArray := prog_6_method_65_code
def yX4_digest : MethodName := ⟨RX4, "digest", "()J"⟩
def RL : String := "PagedMemoryLaw"
abbrev cL_setFrames : ByteArray := method_3_code
def yL_setFrames : MethodName := ⟨RL, "setFrames", "(LPagedMemory;I[J)I"⟩
abbrev cL_setWindow : ByteArray := method_4_code
def yL_setWindow : MethodName := ⟨RL, "setWindow", "(LPagedMemory;I[J)I"⟩
abbrev cL_start : ByteArray := method_5_code
def yL_start : MethodName := ⟨RL, "start", "(LPagedMemory;[J)I"⟩
abbrev cL_fork : ByteArray := method_6_code
def yL_fork : MethodName := ⟨RL, "fork", "(LPagedMemory;I[J)I"⟩
abbrev cL_exit : ByteArray := method_7_code
def yL_exit : MethodName := ⟨RL, "exit", "(LPagedMemory;I[J)I"⟩
abbrev cL_map : ByteArray := method_8_code
def yL_map : MethodName := ⟨RL, "map", "(LPagedMemory;II[J)I"⟩
abbrev cL_createSegment : ByteArray := method_9_code
def yL_createSegment : MethodName := ⟨RL, "createSegment", "(LPagedMemory;I[J)I"⟩
abbrev cL_attach : ByteArray := method_10_code
def yL_attach : MethodName := ⟨RL, "attach", "(LPagedMemory;IIII[J)I"⟩
abbrev cL_unmap : ByteArray := method_11_code
def yL_unmap : MethodName := ⟨RL, "unmap", "(LPagedMemory;II[J)I"⟩
abbrev cL_isLive : ByteArray := method_12_code
def yL_isLive : MethodName := ⟨RL, "isLive", "(LPagedMemory;I[J)I"⟩
abbrev cL_mapping : ByteArray := method_13_code
def yL_mapping : MethodName := ⟨RL, "mapping", "(LPagedMemory;II[J)I"⟩
abbrev cL_read : ByteArray := method_14_code
def yL_read : MethodName := ⟨RL, "read", "(LPagedMemory;II[J)I"⟩
abbrev cL_write : ByteArray := method_15_code
def yL_write : MethodName := ⟨RL, "write", "(LPagedMemory;III[J)I"⟩
abbrev cL_frameOf : ByteArray := method_16_code
def yL_frameOf : MethodName := ⟨RL, "frameOf", "(LPagedMemory;II[J)I"⟩
abbrev cL_slotOf : ByteArray := method_17_code
def yL_slotOf : MethodName := ⟨RL, "slotOf", "(LPagedMemory;II[J)I"⟩
abbrev cL_sharersOf : ByteArray := method_18_code
def yL_sharersOf : MethodName := ⟨RL, "sharersOf", "(LPagedMemory;II[J)I"⟩
abbrev cL_frameState : ByteArray := method_19_code
def yL_frameState : MethodName := ⟨RL, "frameState", "(LPagedMemory;I[J)I"⟩
abbrev cL_latestUse : ByteArray := method_20_code
def yL_latestUse : MethodName := ⟨RL, "latestUse", "(LPagedMemory;I[J)I"⟩
abbrev cL_isReferenced : ByteArray := method_21_code
def yL_isReferenced : MethodName := ⟨RL, "isReferenced", "(LPagedMemory;I[J)I"⟩
abbrev cL_workingSet : ByteArray := method_22_code
def yL_workingSet : MethodName := ⟨RL, "workingSet", "(LPagedMemory;I[J)I"⟩
abbrev cL_count : ByteArray := method_23_code
def yL_count : MethodName := ⟨RL, "count", "(LPagedMemory;I[J)I"⟩
abbrev cL_law : ByteArray := code
def yL_law : MethodName := ⟨RL, "law", "([I)Z"⟩
def wsL_law0_r1 : List Cond := [Cond.classLink RL 8 RX3, Cond.instantiable RX3 11, Cond.initialized RX3, Cond.classLink RL 88 RX4, Cond.instantiable RX4 21, Cond.initialized RX4, Cond.arrayClass .long, Cond.methodLink RL 87 yX3_init, Cond.instanceMethod yX3_init, Cond.code yX3_init cX3_init 1 none, Cond.methodLink RX3 1 objectInit, Cond.instanceMethod objectInit, Cond.code objectInit ⟨#[0xb1]⟩ 1 none, Cond.classLink RX3 9 RX0, Cond.fieldLink RX3 11 "PagedMemory" "pages" "[LPagedMemory$Content;", Cond.arrayClass .boolean, Cond.fieldLink RX3 15 "PagedMemory" "live" "[Z", Cond.fieldLink RX3 19 "PagedMemory" "segmentContents" "[LPagedMemory$Content;", Cond.classLink RX3 22 RX1, Cond.instantiable RX1 5, Cond.initialized RX1, Cond.fieldLink RX3 25 "PagedMemory" "frameTable" "LPagedMemory$FrameTable;", Cond.classLink RX3 29 RX2, Cond.instantiable RX2 1]
def wsL_law0_r2 : List Cond := [Cond.initialized RX2, Cond.fieldLink RX3 32 "PagedMemory" "swapArea" "LPagedMemory$SwapArea;", Cond.fieldLink RX3 36 "PagedMemory" "cluster" "[LPagedMemory$Content;", Cond.arrayClass .int, Cond.fieldLink RX3 39 "PagedMemory" "counts" "[I", Cond.fieldLink RX3 43 "PagedMemory" "processesCreated" "I", Cond.fieldLink RX3 47 "PagedMemory" "segmentsCreated" "I", Cond.fieldLink RX3 50 "PagedMemory" "windowSize" "I", Cond.fieldLink RX3 53 "PagedMemory" "now" "I", Cond.methodLink RX3 24 yX1_init, Cond.instanceMethod yX1_init, Cond.code yX1_init cX1_init 2 none, Cond.methodLink RX1 3 objectInit, Cond.classLink RX1 9 RX0, Cond.fieldLink RX1 11 "PagedMemory$FrameTable" "contents" "[LPagedMemory$Content;", Cond.fieldLink RX1 17 "PagedMemory$FrameTable" "usedAt" "[I", Cond.fieldLink RX1 21 "PagedMemory$FrameTable" "marked" "[Z", Cond.fieldLink RX1 25 "PagedMemory$FrameTable" "size" "I", Cond.fieldLink RX1 29 "PagedMemory$FrameTable" "handAt" "I", Cond.methodLink RX3 31 yX2_init, Cond.instanceMethod yX2_init, Cond.code yX2_init cX2_init 1 none, Cond.methodLink RX2 3 objectInit, Cond.classLink RX2 9 RX0]
def wsL_law0_r3 : List Cond := [Cond.fieldLink RX2 11 "PagedMemory$SwapArea" "contents" "[LPagedMemory$Content;", Cond.methodLink RL 90 yX4_init, Cond.instanceMethod yX4_init, Cond.code yX4_init cX4_init 2 none, Cond.methodLink RX4 1 objectInit, Cond.fieldLink RX4 7 "PagedMemoryModel" "window" "I", Cond.fieldLink RX4 13 "PagedMemoryModel" "frames" "I", Cond.fieldLink RX4 16 "PagedMemoryModel" "contentIn" "[I", Cond.fieldLink RX4 20 "PagedMemoryModel" "uses" "[I", Cond.fieldLink RX4 23 "PagedMemoryModel" "isMarked" "[Z", Cond.fieldLink RX4 27 "PagedMemoryModel" "contentAt" "[I", Cond.fieldLink RX4 30 "PagedMemoryModel" "isThere" "[Z", Cond.fieldLink RX4 33 "PagedMemoryModel" "isWritten" "[Z", Cond.fieldLink RX4 36 "PagedMemoryModel" "words" "[I", Cond.fieldLink RX4 39 "PagedMemoryModel" "isLive" "[Z", Cond.fieldLink RX4 42 "PagedMemoryModel" "mappings" "[I", Cond.fieldLink RX4 45 "PagedMemoryModel" "contents" "[I", Cond.fieldLink RX4 48 "PagedMemoryModel" "sizes" "[I", Cond.fieldLink RX4 51 "PagedMemoryModel" "parts" "[I", Cond.fieldLink RX4 54 "PagedMemoryModel" "counts" "[I", Cond.fieldLink RX4 57 "PagedMemoryModel" "cluster" "[I", Cond.methodLink RL 91 yL_setFrames, Cond.static yL_setFrames, Cond.initialized RL]
def wsL_law0_r4 : List Cond := [Cond.codeWith yL_setFrames cL_setFrames 4 (some .int) [(0, 9, 12, 13), (0, 9, 15, 15)], Cond.classLink RL 13 "java/lang/IllegalArgumentException", Cond.classLink RL 15 "java/lang/IllegalStateException", Cond.methodLink RL 7 yX3_setFrames, Cond.instanceMethod yX3_setFrames, Cond.selects RX3 yX3_setFrames yX3_setFrames, Cond.code yX3_setFrames cX3_setFrames 3 (some .int), Cond.classLink RX3 56 "java/lang/IllegalArgumentException", Cond.initialized "java/lang/IllegalArgumentException", Cond.classLink RX3 70 "java/lang/IllegalStateException", Cond.initialized "java/lang/IllegalStateException", Cond.fieldLink RX3 67 "PagedMemory$FrameTable" "size" "I", Cond.fieldLink RX3 75 "PagedMemory$FrameTable" "handAt" "I", Cond.methodLink RX3 63 yX1_freeCount, Cond.instanceMethod yX1_freeCount, Cond.selects RX1 yX1_freeCount yX1_freeCount, Cond.code yX1_freeCount cX1_freeCount 3 (some .int), Cond.methodLink RL 96 yX4_setFrames, Cond.instanceMethod yX4_setFrames, Cond.selects RX4 yX4_setFrames yX4_setFrames, Cond.code yX4_setFrames cX4_setFrames 3 (some .int), Cond.fieldLink RX4 60 "PagedMemoryModel" "thrown" "I", Cond.fieldLink RX4 93 "PagedMemoryModel" "hand" "I", Cond.methodLink RX4 86 yX4_no]
def wsL_law0_r5 : List Cond := [Cond.instanceMethod yX4_no, Cond.selects RX4 yX4_no yX4_no, Cond.code yX4_no cX4_no 2 (some .int), Cond.methodLink RX4 89 yX4_used, Cond.instanceMethod yX4_used, Cond.selects RX4 yX4_used yX4_used, Cond.code yX4_used cX4_used 3 (some .int), Cond.methodLink RL 97 yX4_thrown, Cond.instanceMethod yX4_thrown, Cond.selects RX4 yX4_thrown yX4_thrown, Cond.code yX4_thrown cX4_thrown 1 (some .int), Cond.methodLink RL 100 yL_setWindow, Cond.static yL_setWindow, Cond.codeWith yL_setWindow cL_setWindow 4 (some .int) [(0, 9, 12, 13)], Cond.methodLink RL 17 yX3_setWindow, Cond.instanceMethod yX3_setWindow, Cond.selects RX3 yX3_setWindow yX3_setWindow, Cond.code yX3_setWindow cX3_setWindow 3 (some .int), Cond.methodLink RL 102 yX4_setWindow, Cond.instanceMethod yX4_setWindow, Cond.selects RX4 yX4_setWindow yX4_setWindow, Cond.code yX4_setWindow cX4_setWindow 3 (some .int), Cond.methodLink RL 103 yL_start, Cond.static yL_start]
def wsL_law0_r6 : List Cond := [Cond.codeWith yL_start cL_start 3 (some .int) [(0, 8, 11, 15)], Cond.methodLink RL 20 yX3_start, Cond.instanceMethod yX3_start, Cond.selects RX3 yX3_start yX3_start, Cond.code yX3_start cX3_start 1 (some .int), Cond.methodLink RX3 80 yX3_requireRoomForProcess, Cond.instanceMethod yX3_requireRoomForProcess, Cond.selects RX3 yX3_requireRoomForProcess yX3_requireRoomForProcess, Cond.code yX3_requireRoomForProcess cX3_requireRoomForProcess 1 none, Cond.methodLink RX3 83 yX3_createProcess, Cond.instanceMethod yX3_createProcess, Cond.selects RX3 yX3_createProcess yX3_createProcess, Cond.code yX3_createProcess cX3_createProcess 2 (some .int), Cond.methodLink RL 106 yX4_start, Cond.instanceMethod yX4_start, Cond.selects RX4 yX4_start yX4_start, Cond.code yX4_start cX4_start 2 (some .int), Cond.fieldLink RX4 67 "PagedMemoryModel" "processes" "I", Cond.methodLink RX4 96 yX4_at, Cond.static yX4_at, Cond.code yX4_at cX4_at 2 (some .int), Cond.methodLink RL 107 yL_fork, Cond.static yL_fork, Cond.codeWith yL_fork cL_fork 4 (some .int) [(0, 9, 12, 27), (0, 9, 15, 29), (0, 9, 18, 15)]]
def wsL_law0_r7 : List Cond := [Cond.classLink RL 27 "java/lang/IndexOutOfBoundsException", Cond.classLink RL 29 "java/util/NoSuchElementException", Cond.methodLink RL 24 yX3_fork, Cond.instanceMethod yX3_fork, Cond.selects RX3 yX3_fork yX3_fork, Cond.code yX3_fork cX3_fork 5 (some .int), Cond.methodLink RX3 86 yX3_requireProcess, Cond.instanceMethod yX3_requireProcess, Cond.selects RX3 yX3_requireProcess yX3_requireProcess, Cond.code yX3_requireProcess cX3_requireProcess 2 none, Cond.classLink RX3 188 "java/lang/IndexOutOfBoundsException", Cond.initialized "java/lang/IndexOutOfBoundsException", Cond.methodLink RX3 90 yX3_requireLive, Cond.instanceMethod yX3_requireLive, Cond.selects RX3 yX3_requireLive yX3_requireLive, Cond.code yX3_requireLive cX3_requireLive 2 none, Cond.classLink RX3 225 "java/util/NoSuchElementException", Cond.initialized "java/util/NoSuchElementException", Cond.methodLink RX3 93 yX3_placeOf, Cond.static yX3_placeOf, Cond.code yX3_placeOf cX3_placeOf 2 (some .int), Cond.methodLink RX3 97 yX3_refer, Cond.instanceMethod yX3_refer, Cond.selects RX3 yX3_refer yX3_refer]
def wsL_law0_r8 : List Cond := [Cond.code yX3_refer cX3_refer 3 none, Cond.fieldLink RX3 152 "PagedMemory$Content" "sharers" "I", Cond.methodLink RL 109 yX4_fork, Cond.instanceMethod yX4_fork, Cond.selects RX4 yX4_fork yX4_fork, Cond.code yX4_fork cX4_fork 4 (some .int), Cond.methodLink RX4 100 yX4_isProcess, Cond.instanceMethod yX4_isProcess, Cond.selects RX4 yX4_isProcess yX4_isProcess, Cond.code yX4_isProcess cX4_isProcess 2 (some .boolean), Cond.methodLink RX4 103 yX4_start, Cond.methodLink RL 110 yL_exit, Cond.static yL_exit, Cond.codeWith yL_exit cL_exit 4 (some .int) [(0, 9, 12, 27), (0, 9, 15, 29)], Cond.methodLink RL 31 yX3_exit, Cond.instanceMethod yX3_exit, Cond.selects RX3 yX3_exit yX3_exit, Cond.code yX3_exit cX3_exit 4 (some .int), Cond.methodLink RX3 101 yX3_dropReference, Cond.instanceMethod yX3_dropReference, Cond.selects RX3 yX3_dropReference yX3_dropReference, Cond.code yX3_dropReference cX3_dropReference 3 (some .boolean), Cond.fieldLink RX3 129 "PagedMemory$Content" "shared" "Z", Cond.fieldLink RX3 136 "PagedMemory$Content" "frame" "I"]
def wsL_law0_r9 : List Cond := [Cond.methodLink RX3 252 yX1_vacate, Cond.instanceMethod yX1_vacate, Cond.selects RX1 yX1_vacate yX1_vacate, Cond.code yX1_vacate cX1_vacate 3 none, Cond.fieldLink RX1 36 "PagedMemory$Content" "frame" "I", Cond.methodLink RX3 159 yX2_vacateSlotOf, Cond.instanceMethod yX2_vacateSlotOf, Cond.selects RX2 yX2_vacateSlotOf yX2_vacateSlotOf, Cond.code yX2_vacateSlotOf cX2_vacateSlotOf 2 none, Cond.fieldLink RX2 17 "PagedMemory$Content" "slot" "I", Cond.methodLink RL 112 yX4_exit, Cond.instanceMethod yX4_exit, Cond.selects RX4 yX4_exit yX4_exit, Cond.code yX4_exit cX4_exit 4 (some .int), Cond.methodLink RX4 109 yX4_clear, Cond.instanceMethod yX4_clear, Cond.selects RX4 yX4_clear yX4_clear, Cond.code yX4_clear cX4_clear 3 (some .boolean), Cond.methodLink RX4 106 yX4_vanishes, Cond.instanceMethod yX4_vanishes, Cond.selects RX4 yX4_vanishes yX4_vanishes, Cond.code yX4_vanishes cX4_vanishes 4 (some .boolean), Cond.methodLink RX4 76 yX4_references, Cond.instanceMethod yX4_references]
def wsL_law0_r10 : List Cond := [Cond.selects RX4 yX4_references yX4_references, Cond.code yX4_references cX4_references 4 (some .int), Cond.methodLink RX4 79 yX4_isInSegment, Cond.instanceMethod yX4_isInSegment, Cond.selects RX4 yX4_isInSegment yX4_isInSegment, Cond.code yX4_isInSegment cX4_isInSegment 2 (some .boolean), Cond.methodLink RX4 70 yX4_segmentPlace, Cond.instanceMethod yX4_segmentPlace, Cond.selects RX4 yX4_segmentPlace yX4_segmentPlace, Cond.code yX4_segmentPlace cX4_segmentPlace 4 (some .int), Cond.fieldLink RX4 73 "PagedMemoryModel" "segments" "I", Cond.methodLink RX4 83 yX4_frameWith, Cond.instanceMethod yX4_frameWith, Cond.selects RX4 yX4_frameWith yX4_frameWith, Cond.code yX4_frameWith cX4_frameWith 3 (some .int), Cond.methodLink RX4 63 yX4_slotWith, Cond.instanceMethod yX4_slotWith, Cond.selects RX4 yX4_slotWith yX4_slotWith, Cond.code yX4_slotWith cX4_slotWith 3 (some .int), Cond.methodLink RL 113 yL_map, Cond.static yL_map, Cond.codeWith yL_map cL_map 5 (some .int) [(0, 10, 13, 27), (0, 10, 17, 29), (0, 10, 21, 13)], Cond.methodLink RL 34 yX3_map, Cond.instanceMethod yX3_map]
def wsL_law0_r11 : List Cond := [Cond.selects RX3 yX3_map yX3_map, Cond.code yX3_map cX3_map 3 (some .int), Cond.instantiable RX0 7, Cond.initialized RX0, Cond.methodLink RX3 105 yX3_requirePage, Cond.instanceMethod yX3_requirePage, Cond.selects RX3 yX3_requirePage yX3_requirePage, Cond.code yX3_requirePage cX3_requirePage 3 none, Cond.methodLink RX3 109 yX3_requireUnmapped, Cond.instanceMethod yX3_requireUnmapped, Cond.selects RX3 yX3_requireUnmapped yX3_requireUnmapped, Cond.code yX3_requireUnmapped cX3_requireUnmapped 3 none, Cond.methodLink RX3 112 yX0_init, Cond.instanceMethod yX0_init, Cond.code yX0_init cX0_init 2 none, Cond.methodLink RX0 3 objectInit, Cond.fieldLink RX0 9 "PagedMemory$Content" "words" "[I", Cond.fieldLink RX0 15 "PagedMemory$Content" "shared" "Z", Cond.fieldLink RX0 19 "PagedMemory$Content" "segmentPlace" "I", Cond.fieldLink RX0 23 "PagedMemory$Content" "frame" "I", Cond.fieldLink RX0 26 "PagedMemory$Content" "slot" "I", Cond.fieldLink RX0 29 "PagedMemory$Content" "dirty" "Z", Cond.fieldLink RX0 32 "PagedMemory$Content" "sharers" "I", Cond.methodLink RX3 114 yX3_mappedPages]
def wsL_law0_r12 : List Cond := [Cond.instanceMethod yX3_mappedPages, Cond.selects RX3 yX3_mappedPages yX3_mappedPages, Cond.code yX3_mappedPages cX3_mappedPages 4 (some .int), Cond.methodLink RL 116 yX4_map, Cond.instanceMethod yX4_map, Cond.selects RX4 yX4_map yX4_map, Cond.code yX4_map cX4_map 3 (some .int), Cond.methodLink RX4 116 yX4_canMap, Cond.instanceMethod yX4_canMap, Cond.selects RX4 yX4_canMap yX4_canMap, Cond.code yX4_canMap cX4_canMap 4 (some .boolean), Cond.methodLink RX4 113 yX4_isPage, Cond.static yX4_isPage, Cond.code yX4_isPage cX4_isPage 1 (some .boolean), Cond.methodLink RX4 120 yX4_create, Cond.instanceMethod yX4_create, Cond.selects RX4 yX4_create yX4_create, Cond.code yX4_create cX4_create 3 (some .int), Cond.methodLink RX4 123 yX4_mapped, Cond.instanceMethod yX4_mapped, Cond.selects RX4 yX4_mapped yX4_mapped, Cond.code yX4_mapped cX4_mapped 4 (some .int), Cond.methodLink RL 117 yL_createSegment, Cond.static yL_createSegment]
def wsL_law0_r13 : List Cond := [Cond.codeWith yL_createSegment cL_createSegment 4 (some .int) [(0, 9, 12, 13), (0, 9, 15, 15)], Cond.methodLink RL 38 yX3_createSegment, Cond.instanceMethod yX3_createSegment, Cond.selects RX3 yX3_createSegment yX3_createSegment, Cond.code yX3_createSegment cX3_createSegment 5 (some .int), Cond.methodLink RL 119 yX4_createSegment, Cond.instanceMethod yX4_createSegment, Cond.selects RX4 yX4_createSegment yX4_createSegment, Cond.code yX4_createSegment cX4_createSegment 3 (some .int), Cond.methodLink RL 120 yL_attach, Cond.static yL_attach, Cond.codeWith yL_attach cL_attach 7 (some .int) [(0, 14, 17, 27), (0, 14, 21, 29), (0, 14, 25, 13)], Cond.methodLink RL 41 yX3_attach, Cond.instanceMethod yX3_attach, Cond.selects RX3 yX3_attach yX3_attach, Cond.code yX3_attach cX3_attach 6 (some .int), Cond.methodLink RX3 122 yX3_requireSegmentContent, Cond.instanceMethod yX3_requireSegmentContent, Cond.selects RX3 yX3_requireSegmentContent yX3_requireSegmentContent, Cond.code yX3_requireSegmentContent cX3_requireSegmentContent 4 (some (.object "PagedMemory$Content")), Cond.methodLink RL 123 yX4_attach, Cond.instanceMethod yX4_attach, Cond.selects RX4 yX4_attach yX4_attach, Cond.code yX4_attach cX4_attach 6 (some .int)]
def wsL_law0_r14 : List Cond := [Cond.methodLink RL 124 yL_unmap, Cond.static yL_unmap, Cond.codeWith yL_unmap cL_unmap 5 (some .int) [(0, 17, 20, 27), (0, 17, 24, 29), (0, 17, 28, 13)], Cond.methodLink RL 45 yX3_unmap, Cond.instanceMethod yX3_unmap, Cond.selects RX3 yX3_unmap yX3_unmap, Cond.code yX3_unmap cX3_unmap 3 (some .boolean), Cond.methodLink RX3 126 yX3_requireMapped, Cond.instanceMethod yX3_requireMapped, Cond.selects RX3 yX3_requireMapped yX3_requireMapped, Cond.code yX3_requireMapped cX3_requireMapped 4 (some (.object "PagedMemory$Content")), Cond.methodLink RL 126 yX4_unmap, Cond.instanceMethod yX4_unmap, Cond.selects RX4 yX4_unmap yX4_unmap, Cond.code yX4_unmap cX4_unmap 3 (some .boolean), Cond.methodLink RL 127 yL_isLive, Cond.static yL_isLive, Cond.codeWith yL_isLive cL_isLive 4 (some .int) [(0, 16, 19, 27)], Cond.methodLink RL 49 yX3_isLive, Cond.instanceMethod yX3_isLive, Cond.selects RX3 yX3_isLive yX3_isLive, Cond.code yX3_isLive cX3_isLive 2 (some .boolean), Cond.methodLink RL 129 yX4_isLive, Cond.instanceMethod yX4_isLive]
def wsL_law0_r15 : List Cond := [Cond.selects RX4 yX4_isLive yX4_isLive, Cond.code yX4_isLive cX4_isLive 2 (some .boolean), Cond.methodLink RL 130 yL_mapping, Cond.static yL_mapping, Cond.codeWith yL_mapping cL_mapping 5 (some .int) [(0, 10, 13, 27)], Cond.methodLink RL 53 yX3_mapping, Cond.instanceMethod yX3_mapping, Cond.selects RX3 yX3_mapping yX3_mapping, Cond.code yX3_mapping cX3_mapping 4 (some .int), Cond.methodLink RL 132 yX4_mapping, Cond.instanceMethod yX4_mapping, Cond.selects RX4 yX4_mapping yX4_mapping, Cond.code yX4_mapping cX4_mapping 3 (some .int), Cond.methodLink RX4 126 yX4_asks, Cond.instanceMethod yX4_asks, Cond.selects RX4 yX4_asks yX4_asks, Cond.code yX4_asks cX4_asks 3 (some .boolean), Cond.methodLink RL 133 yL_read, Cond.static yL_read, Cond.codeWith yL_read cL_read 5 (some .int) [(0, 10, 13, 27), (0, 10, 17, 29), (0, 10, 21, 13), (0, 10, 25, 15)], Cond.methodLink RL 56 yX3_read, Cond.instanceMethod yX3_read, Cond.selects RX3 yX3_read yX3_read, Cond.code yX3_read cX3_read 4 (some .int)]
def wsL_law0_r16 : List Cond := [Cond.fieldLink RX3 149 "PagedMemory$Content" "words" "[I", Cond.methodLink RX3 133 yX3_requireAddressed, Cond.instanceMethod yX3_requireAddressed, Cond.selects RX3 yX3_requireAddressed yX3_requireAddressed, Cond.code yX3_requireAddressed cX3_requireAddressed 3 (some (.object "PagedMemory$Content")), Cond.methodLink RX3 139 yX3_requireObtainableFrame, Cond.instanceMethod yX3_requireObtainableFrame, Cond.selects RX3 yX3_requireObtainableFrame yX3_requireObtainableFrame, Cond.code yX3_requireObtainableFrame cX3_requireObtainableFrame 1 none, Cond.methodLink RX3 244 yX1_smallestFree, Cond.instanceMethod yX1_smallestFree, Cond.selects RX1 yX1_smallestFree yX1_smallestFree, Cond.code yX1_smallestFree cX1_smallestFree 2 (some .int), Cond.methodLink RX3 247 yX1_oldestClean, Cond.instanceMethod yX1_oldestClean, Cond.selects RX1 yX1_oldestClean yX1_oldestClean, Cond.code yX1_oldestClean cX1_oldestClean 4 (some .int), Cond.fieldLink RX1 32 "PagedMemory$Content" "dirty" "Z", Cond.methodLink RX3 184 yX2_freeCount, Cond.instanceMethod yX2_freeCount, Cond.selects RX2 yX2_freeCount yX2_freeCount, Cond.code yX2_freeCount cX2_freeCount 3 (some .int), Cond.methodLink RX3 142 yX3_bringIn, Cond.instanceMethod yX3_bringIn]
def wsL_law0_r17 : List Cond := [Cond.selects RX3 yX3_bringIn yX3_bringIn, Cond.code yX3_bringIn cX3_bringIn 2 none, Cond.fieldLink RX3 172 "PagedMemory$Content" "slot" "I", Cond.methodLink RX3 255 yX3_giveFrame, Cond.instanceMethod yX3_giveFrame, Cond.selects RX3 yX3_giveFrame yX3_giveFrame, Cond.code yX3_giveFrame cX3_giveFrame 4 none, Cond.methodLink RX3 273 yX3_freeByClock, Cond.instanceMethod yX3_freeByClock, Cond.selects RX3 yX3_freeByClock yX3_freeByClock, Cond.code yX3_freeByClock cX3_freeByClock 4 (some .int), Cond.fieldLink RX3 165 "PagedMemory$FrameTable" "contents" "[LPagedMemory$Content;", Cond.methodLink RX3 276 yX3_givesWayWhenLookedAt, Cond.instanceMethod yX3_givesWayWhenLookedAt, Cond.selects RX3 yX3_givesWayWhenLookedAt yX3_givesWayWhenLookedAt, Cond.code yX3_givesWayWhenLookedAt cX3_givesWayWhenLookedAt 3 (some .boolean), Cond.fieldLink RX3 181 "PagedMemory$FrameTable" "marked" "[Z", Cond.fieldLink RX3 178 "PagedMemory$FrameTable" "usedAt" "[I", Cond.fieldLink RX3 162 "PagedMemory$Content" "dirty" "Z", Cond.methodLink RX3 185 yX3_isOutsideWindow, Cond.instanceMethod yX3_isOutsideWindow, Cond.selects RX3 yX3_isOutsideWindow yX3_isOutsideWindow, Cond.code yX3_isOutsideWindow cX3_isOutsideWindow 2 (some .boolean), Cond.methodLink RX3 168 yX3_writeOut]
def wsL_law0_r18 : List Cond := [Cond.instanceMethod yX3_writeOut, Cond.selects RX3 yX3_writeOut yX3_writeOut, Cond.code yX3_writeOut cX3_writeOut 5 (some .int), Cond.fieldLink RX3 285 "PagedMemory$Content" "segmentPlace" "I", Cond.methodLink RX3 288 yX3_firstPageOf, Cond.instanceMethod yX3_firstPageOf, Cond.selects RX3 yX3_firstPageOf yX3_firstPageOf, Cond.code yX3_firstPageOf cX3_firstPageOf 3 (some .int), Cond.methodLink RX3 291 yX3_gatherCluster, Cond.instanceMethod yX3_gatherCluster, Cond.selects RX3 yX3_gatherCluster yX3_gatherCluster, Cond.code yX3_gatherCluster cX3_gatherCluster 8 (some .int), Cond.methodLink RX3 295 yX2_roomFor, Cond.instanceMethod yX2_roomFor, Cond.selects RX2 yX2_roomFor yX2_roomFor, Cond.code yX2_roomFor cX2_roomFor 4 (some .int), Cond.methodLink RX3 298 yX2_putAll, Cond.instanceMethod yX2_putAll, Cond.selects RX2 yX2_putAll yX2_putAll, Cond.code yX2_putAll cX2_putAll 6 none, Cond.fieldLink RX2 21 "PagedMemory$Content" "dirty" "Z", Cond.methodLink RX3 279 yX1_moveHandBehind, Cond.instanceMethod yX1_moveHandBehind, Cond.selects RX1 yX1_moveHandBehind yX1_moveHandBehind]
def wsL_law0_r19 : List Cond := [Cond.code yX1_moveHandBehind cX1_moveHandBehind 2 none, Cond.methodLink RX3 282 yX1_oldest, Cond.instanceMethod yX1_oldest, Cond.selects RX1 yX1_oldest yX1_oldest, Cond.code yX1_oldest cX1_oldest 3 (some .int), Cond.methodLink RX3 263 yX1_put, Cond.instanceMethod yX1_put, Cond.selects RX1 yX1_put yX1_put, Cond.code yX1_put cX1_put 4 none, Cond.methodLink RX3 259 yX3_prefetchBehind, Cond.instanceMethod yX3_prefetchBehind, Cond.selects RX3 yX3_prefetchBehind yX3_prefetchBehind, Cond.code yX3_prefetchBehind cX3_prefetchBehind 5 none, Cond.fieldLink RX3 262 "PagedMemory$SwapArea" "contents" "[LPagedMemory$Content;", Cond.methodLink RX3 146 yX1_use, Cond.instanceMethod yX1_use, Cond.selects RX1 yX1_use yX1_use, Cond.code yX1_use cX1_use 3 none, Cond.methodLink RL 135 yX4_read, Cond.instanceMethod yX4_read, Cond.selects RX4 yX4_read yX4_read, Cond.code yX4_read cX4_read 4 (some .int), Cond.fieldLink RX4 147 "PagedMemoryModel" "time" "I", Cond.methodLink RX4 165 yX4_begins]
def wsL_law0_r20 : List Cond := [Cond.instanceMethod yX4_begins, Cond.selects RX4 yX4_begins yX4_begins, Cond.code yX4_begins cX4_begins 6 (some .boolean), Cond.methodLink RX4 161 yX4_isPossible, Cond.instanceMethod yX4_isPossible, Cond.selects RX4 yX4_isPossible yX4_isPossible, Cond.code yX4_isPossible cX4_isPossible 4 (some .boolean), Cond.methodLink RX4 141 yX4_room, Cond.instanceMethod yX4_room, Cond.selects RX4 yX4_room yX4_room, Cond.code yX4_room cX4_room 4 (some .int), Cond.methodLink RX4 135 yX4_isDirty, Cond.instanceMethod yX4_isDirty, Cond.selects RX4 yX4_isDirty yX4_isDirty, Cond.code yX4_isDirty cX4_isDirty 2 (some .boolean), Cond.methodLink RX4 168 yX4_bring, Cond.instanceMethod yX4_bring, Cond.selects RX4 yX4_bring yX4_bring, Cond.code yX4_bring cX4_bring 5 none, Cond.methodLink RX4 157 yX4_take, Cond.instanceMethod yX4_take, Cond.selects RX4 yX4_take yX4_take, Cond.code yX4_take cX4_take 4 none, Cond.methodLink RX4 144 yX4_freed]
def wsL_law0_r21 : List Cond := [Cond.instanceMethod yX4_freed, Cond.selects RX4 yX4_freed yX4_freed, Cond.code yX4_freed cX4_freed 4 (some .int), Cond.methodLink RX4 150 yX4_evict, Cond.instanceMethod yX4_evict, Cond.selects RX4 yX4_evict yX4_evict, Cond.code yX4_evict cX4_evict 3 none, Cond.methodLink RX4 154 yX4_writeOut, Cond.instanceMethod yX4_writeOut, Cond.selects RX4 yX4_writeOut yX4_writeOut, Cond.code yX4_writeOut cX4_writeOut 5 (some .int), Cond.methodLink RX4 138 yX4_findCluster, Cond.instanceMethod yX4_findCluster, Cond.selects RX4 yX4_findCluster yX4_findCluster, Cond.code yX4_findCluster cX4_findCluster 9 (some .int), Cond.methodLink RX4 129 yX4_nextInSegment, Cond.instanceMethod yX4_nextInSegment, Cond.selects RX4 yX4_nextInSegment yX4_nextInSegment, Cond.code yX4_nextInSegment cX4_nextInSegment 5 (some .int), Cond.methodLink RX4 132 yX4_nextOfProcess, Cond.instanceMethod yX4_nextOfProcess, Cond.selects RX4 yX4_nextOfProcess yX4_nextOfProcess, Cond.code yX4_nextOfProcess cX4_nextOfProcess 3 (some .int), Cond.methodLink RX4 171 yX4_use]
def wsL_law0_r22 : List Cond := [Cond.instanceMethod yX4_use, Cond.selects RX4 yX4_use yX4_use, Cond.code yX4_use cX4_use 3 none, Cond.methodLink RL 136 yL_write, Cond.static yL_write, Cond.codeWith yL_write cL_write 6 (some .int) [(0, 12, 15, 27), (0, 12, 19, 29), (0, 12, 23, 13), (0, 12, 27, 15)], Cond.methodLink RL 59 yX3_write, Cond.instanceMethod yX3_write, Cond.selects RX3 yX3_write yX3_write, Cond.code yX3_write cX3_write 7 (some .int), Cond.methodLink RX3 155 yX3_copyForPage, Cond.instanceMethod yX3_copyForPage, Cond.selects RX3 yX3_copyForPage yX3_copyForPage, Cond.code yX3_copyForPage cX3_copyForPage 4 (some (.object "PagedMemory$Content")), Cond.methodLink RX3 267 arraycopyName, Cond.native arraycopyName, Cond.static arraycopyName, Cond.initialized "java/lang/System", Cond.methodLink RL 139 yX4_write, Cond.instanceMethod yX4_write, Cond.selects RX4 yX4_write yX4_write, Cond.code yX4_write cX4_write 8 (some .int), Cond.methodLink RL 140 yX3_sync, Cond.instanceMethod yX3_sync]
def wsL_law0_r23 : List Cond := [Cond.selects RX3 yX3_sync yX3_sync, Cond.code yX3_sync cX3_sync 4 (some .int), Cond.methodLink RL 143 yX4_sync, Cond.instanceMethod yX4_sync, Cond.selects RX4 yX4_sync yX4_sync, Cond.code yX4_sync cX4_sync 3 (some .int), Cond.methodLink RL 144 yX3_time, Cond.instanceMethod yX3_time, Cond.selects RX3 yX3_time yX3_time, Cond.code yX3_time cX3_time 1 (some .int), Cond.methodLink RL 147 yX4_time, Cond.instanceMethod yX4_time, Cond.selects RX4 yX4_time yX4_time, Cond.code yX4_time cX4_time 1 (some .int), Cond.methodLink RL 148 yX3_hand, Cond.instanceMethod yX3_hand, Cond.selects RX3 yX3_hand yX3_hand, Cond.code yX3_hand cX3_hand 1 (some .int), Cond.methodLink RL 151 yX4_hand, Cond.instanceMethod yX4_hand, Cond.selects RX4 yX4_hand yX4_hand, Cond.code yX4_hand cX4_hand 1 (some .int), Cond.methodLink RL 152 yL_frameOf, Cond.static yL_frameOf]
def wsL_law0_r24 : List Cond := [Cond.codeWith yL_frameOf cL_frameOf 5 (some .int) [(0, 10, 13, 27)], Cond.methodLink RL 63 yX3_frameOf, Cond.instanceMethod yX3_frameOf, Cond.selects RX3 yX3_frameOf yX3_frameOf, Cond.code yX3_frameOf cX3_frameOf 4 (some .int), Cond.methodLink RL 154 yX4_frameOf, Cond.instanceMethod yX4_frameOf, Cond.selects RX4 yX4_frameOf yX4_frameOf, Cond.code yX4_frameOf cX4_frameOf 3 (some .int), Cond.methodLink RX4 174 yX4_frameAt, Cond.instanceMethod yX4_frameAt, Cond.selects RX4 yX4_frameAt yX4_frameAt, Cond.code yX4_frameAt cX4_frameAt 2 (some .int), Cond.methodLink RL 155 yL_slotOf, Cond.static yL_slotOf, Cond.codeWith yL_slotOf cL_slotOf 5 (some .int) [(0, 10, 13, 27)], Cond.methodLink RL 66 yX3_slotOf, Cond.instanceMethod yX3_slotOf, Cond.selects RX3 yX3_slotOf yX3_slotOf, Cond.code yX3_slotOf cX3_slotOf 4 (some .int), Cond.methodLink RL 157 yX4_slotOf, Cond.instanceMethod yX4_slotOf, Cond.selects RX4 yX4_slotOf yX4_slotOf, Cond.code yX4_slotOf cX4_slotOf 3 (some .int)]
def wsL_law0_r25 : List Cond := [Cond.methodLink RX4 177 yX4_slotAt, Cond.instanceMethod yX4_slotAt, Cond.selects RX4 yX4_slotAt yX4_slotAt, Cond.code yX4_slotAt cX4_slotAt 2 (some .int), Cond.methodLink RL 158 yL_sharersOf, Cond.static yL_sharersOf, Cond.codeWith yL_sharersOf cL_sharersOf 5 (some .int) [(0, 10, 13, 27)], Cond.methodLink RL 69 yX3_sharersOf, Cond.instanceMethod yX3_sharersOf, Cond.selects RX3 yX3_sharersOf yX3_sharersOf, Cond.code yX3_sharersOf cX3_sharersOf 4 (some .int), Cond.methodLink RL 160 yX4_sharersOf, Cond.instanceMethod yX4_sharersOf, Cond.selects RX4 yX4_sharersOf yX4_sharersOf, Cond.code yX4_sharersOf cX4_sharersOf 3 (some .int), Cond.methodLink RL 161 yL_frameState, Cond.static yL_frameState, Cond.codeWith yL_frameState cL_frameState 4 (some .int) [(0, 9, 12, 27)], Cond.methodLink RL 72 yX3_frameState, Cond.instanceMethod yX3_frameState, Cond.selects RX3 yX3_frameState yX3_frameState, Cond.code yX3_frameState cX3_frameState 3 (some .int), Cond.methodLink RX3 175 yX3_requireFrame, Cond.instanceMethod yX3_requireFrame]
def wsL_law0_r26 : List Cond := [Cond.selects RX3 yX3_requireFrame yX3_requireFrame, Cond.code yX3_requireFrame cX3_requireFrame 2 none, Cond.methodLink RL 163 yX4_frameState, Cond.instanceMethod yX4_frameState, Cond.selects RX4 yX4_frameState yX4_frameState, Cond.code yX4_frameState cX4_frameState 2 (some .int), Cond.methodLink RX4 180 yX4_asksFrame, Cond.instanceMethod yX4_asksFrame, Cond.selects RX4 yX4_asksFrame yX4_asksFrame, Cond.code yX4_asksFrame cX4_asksFrame 2 (some .boolean), Cond.methodLink RX4 183 yX4_stateOf, Cond.instanceMethod yX4_stateOf, Cond.selects RX4 yX4_stateOf yX4_stateOf, Cond.code yX4_stateOf cX4_stateOf 2 (some .int), Cond.methodLink RL 164 yL_latestUse, Cond.static yL_latestUse, Cond.codeWith yL_latestUse cL_latestUse 4 (some .int) [(0, 9, 12, 27)], Cond.methodLink RL 75 yX3_latestUse, Cond.instanceMethod yX3_latestUse, Cond.selects RX3 yX3_latestUse yX3_latestUse, Cond.code yX3_latestUse cX3_latestUse 2 (some .int), Cond.methodLink RL 166 yX4_latestUse, Cond.instanceMethod yX4_latestUse, Cond.selects RX4 yX4_latestUse yX4_latestUse]
def wsL_law0_r27 : List Cond := [Cond.code yX4_latestUse cX4_latestUse 2 (some .int), Cond.methodLink RX4 186 yX4_useOf, Cond.instanceMethod yX4_useOf, Cond.selects RX4 yX4_useOf yX4_useOf, Cond.code yX4_useOf cX4_useOf 2 (some .int), Cond.methodLink RL 167 yL_isReferenced, Cond.static yL_isReferenced, Cond.codeWith yL_isReferenced cL_isReferenced 4 (some .int) [(0, 16, 19, 27)], Cond.methodLink RL 78 yX3_isReferenced, Cond.instanceMethod yX3_isReferenced, Cond.selects RX3 yX3_isReferenced yX3_isReferenced, Cond.code yX3_isReferenced cX3_isReferenced 2 (some .boolean), Cond.methodLink RL 169 yX4_isReferenced, Cond.instanceMethod yX4_isReferenced, Cond.selects RX4 yX4_isReferenced yX4_isReferenced, Cond.code yX4_isReferenced cX4_isReferenced 2 (some .boolean), Cond.methodLink RL 170 yX3_freeFrames, Cond.instanceMethod yX3_freeFrames, Cond.selects RX3 yX3_freeFrames yX3_freeFrames, Cond.code yX3_freeFrames cX3_freeFrames 1 (some .int), Cond.methodLink RL 173 yX4_freeFrames, Cond.instanceMethod yX4_freeFrames, Cond.selects RX4 yX4_freeFrames yX4_freeFrames, Cond.code yX4_freeFrames cX4_freeFrames 1 (some .int)]
def wsL_law0_r28 : List Cond := [Cond.methodLink RL 174 yX3_freeSlots, Cond.instanceMethod yX3_freeSlots, Cond.selects RX3 yX3_freeSlots yX3_freeSlots, Cond.code yX3_freeSlots cX3_freeSlots 1 (some .int), Cond.methodLink RL 177 yX4_freeSlots, Cond.instanceMethod yX4_freeSlots, Cond.selects RX4 yX4_freeSlots yX4_freeSlots, Cond.code yX4_freeSlots cX4_freeSlots 1 (some .int), Cond.methodLink RX4 189 yX4_slotsLeft, Cond.instanceMethod yX4_slotsLeft, Cond.selects RX4 yX4_slotsLeft yX4_slotsLeft, Cond.code yX4_slotsLeft cX4_slotsLeft 3 (some .int), Cond.methodLink RL 178 yL_workingSet, Cond.static yL_workingSet, Cond.codeWith yL_workingSet cL_workingSet 4 (some .int) [(0, 9, 12, 27)], Cond.methodLink RL 81 yX3_workingSet, Cond.instanceMethod yX3_workingSet, Cond.selects RX3 yX3_workingSet yX3_workingSet, Cond.code yX3_workingSet cX3_workingSet 5 (some .int), Cond.methodLink RL 180 yX4_workingSet, Cond.instanceMethod yX4_workingSet, Cond.selects RX4 yX4_workingSet yX4_workingSet, Cond.code yX4_workingSet cX4_workingSet 5 (some .int), Cond.methodLink RL 181 yL_count]
def wsL_law0_r29 : List Cond := [Cond.static yL_count, Cond.codeWith yL_count cL_count 4 (some .int) [(0, 9, 12, 27)], Cond.methodLink RL 84 yX3_count, Cond.instanceMethod yX3_count, Cond.selects RX3 yX3_count yX3_count, Cond.code yX3_count cX3_count 2 (some .int), Cond.methodLink RL 183 yX4_count, Cond.instanceMethod yX4_count, Cond.selects RX4 yX4_count yX4_count, Cond.code yX4_count cX4_count 2 (some .int), Cond.methodLink RL 184 yX3_swapRate, Cond.instanceMethod yX3_swapRate, Cond.selects RX3 yX3_swapRate yX3_swapRate, Cond.code yX3_swapRate cX3_swapRate 1 (some .double), Cond.methodLink RL 188 yX4_swapRate, Cond.instanceMethod yX4_swapRate, Cond.selects RX4 yX4_swapRate yX4_swapRate, Cond.code yX4_swapRate cX4_swapRate 1 (some .double), Cond.methodLink RL 189 yX3_digest, Cond.instanceMethod yX3_digest, Cond.selects RX3 yX3_digest yX3_digest, Cond.code yX3_digest cX3_digest 5 (some .long), Cond.constantLong RX3 193 (67), Cond.methodLink RX3 195 yX3_mix]
def wsL_law0_r30 : List Cond := [Cond.static yX3_mix, Cond.code yX3_mix cX3_mix 4 (some .long), Cond.constantLong RX3 217 (31), Cond.methodLink RX3 199 yX3_mapping, Cond.methodLink RX3 202 yX3_frameOf, Cond.methodLink RX3 205 yX3_slotOf, Cond.methodLink RX3 208 yX3_frameState, Cond.methodLink RX3 211 yX3_latestUse, Cond.methodLink RX3 214 yX3_isReferenced, Cond.methodLink RL 193 yX4_digest, Cond.instanceMethod yX4_digest, Cond.selects RX4 yX4_digest yX4_digest, Cond.code yX4_digest cX4_digest 5 (some .long), Cond.constantLong RX4 192 (2077), Cond.constantLong RX4 194 (31)]
def wsL_law0 : List Cond := (wsL_law0_r1 ++ (wsL_law0_r2 ++ (wsL_law0_r3 ++ (wsL_law0_r4 ++ (wsL_law0_r5 ++ (wsL_law0_r6 ++ (wsL_law0_r7 ++ (wsL_law0_r8 ++ (wsL_law0_r9 ++ (wsL_law0_r10 ++ (wsL_law0_r11 ++ (wsL_law0_r12 ++ (wsL_law0_r13 ++ (wsL_law0_r14 ++ (wsL_law0_r15 ++ (wsL_law0_r16 ++ (wsL_law0_r17 ++ (wsL_law0_r18 ++ (wsL_law0_r19 ++ (wsL_law0_r20 ++ (wsL_law0_r21 ++ (wsL_law0_r22 ++ (wsL_law0_r23 ++ (wsL_law0_r24 ++ (wsL_law0_r25 ++ (wsL_law0_r26 ++ (wsL_law0_r27 ++ (wsL_law0_r28 ++ (wsL_law0_r29 ++ wsL_law0_r30))))))))))))))))))))))))))))) ++ wsX30 ++ wsX40 ++ wsX10 ++ wsX20 ++ wsX00 ++ ([] : List Cond)
def wsL_law : List Cond := wsL_law0 ++ (vx_atS RX3 60 "java/lang/IllegalArgumentException" ["java/lang/RuntimeException", "java/lang/Exception"]).filter goodWord ++ (vx_atS RX3 74 "java/lang/IllegalStateException" ["java/lang/RuntimeException", "java/lang/Exception"]).filter goodWord ++ (vx_atS RX3 192 "java/lang/IndexOutOfBoundsException" ["java/lang/RuntimeException", "java/lang/Exception"]).filter goodWord ++ ne_at.filter goodWord
theorem inlX0 : ∀ w ∈ wsX00, w ∈ wsL_law := fun _ h => List.mem_append_left _ (List.mem_append_left _ (List.mem_append_left _ (List.mem_append_left _ (List.mem_append_left _ (List.mem_append_right _ h)))))
theorem inlX1 : ∀ w ∈ wsX10, w ∈ wsL_law := fun _ h => List.mem_append_left _ (List.mem_append_left _ (List.mem_append_left _ (List.mem_append_left _ (List.mem_append_left _ (List.mem_append_left _ (List.mem_append_left _ (List.mem_append_right _ h)))))))
theorem inlX2 : ∀ w ∈ wsX20, w ∈ wsL_law := fun _ h => List.mem_append_left _ (List.mem_append_left _ (List.mem_append_left _ (List.mem_append_left _ (List.mem_append_left _ (List.mem_append_left _ (List.mem_append_right _ h))))))
theorem inlX3 : ∀ w ∈ wsX30, w ∈ wsL_law := fun _ h => List.mem_append_left _ (List.mem_append_left _ (List.mem_append_left _ (List.mem_append_left _ (List.mem_append_left _ (List.mem_append_left _ (List.mem_append_left _ (List.mem_append_left _ (List.mem_append_left _ (List.mem_append_right _ h)))))))))
theorem inlX4 : ∀ w ∈ wsX40, w ∈ wsL_law := fun _ h => List.mem_append_left _ (List.mem_append_left _ (List.mem_append_left _ (List.mem_append_left _ (List.mem_append_left _ (List.mem_append_left _ (List.mem_append_left _ (List.mem_append_left _ (List.mem_append_right _ h))))))))
abbrev vwCl : List vw_C := [(RX0, TX0, 7), (RX1, TX1, 5), (RX2, TX2, 1), (RX3, TX3, 11), (RX4, TX4, 21)]
end
section
theorem dX0_init_0 : decode cX0_init 0 = .ok (.aload_n 0, 1) := by decide +kernel
theorem dX0_init_1 : decode cX0_init 1 = .ok (.invokespecial 3, 3) := by decide +kernel
theorem dX0_init_4 : decode cX0_init 4 = .ok (.aload_n 0, 1) := by decide +kernel
theorem dX0_init_5 : decode cX0_init 5 = .ok (.iconst 4, 1) := by decide +kernel
theorem dX0_init_6 : decode cX0_init 6 = .ok (.newarray .int, 2) := by decide +kernel
theorem dX0_init_8 : decode cX0_init 8 = .ok (.putfield 9, 3) := by decide +kernel
theorem dX0_init_11 : decode cX0_init 11 = .ok (.aload_n 0, 1) := by decide +kernel
theorem dX0_init_12 : decode cX0_init 12 = .ok (.iload_n 1, 1) := by decide +kernel
theorem dX0_init_13 : decode cX0_init 13 = .ok (.iconst (-1), 1) := by decide +kernel
theorem dX0_init_14 : decode cX0_init 14 = .ok (.if_icmp .eq 7, 3) := by decide +kernel
theorem dX0_init_17 : decode cX0_init 17 = .ok (.iconst 1, 1) := by decide +kernel
theorem dX0_init_18 : decode cX0_init 18 = .ok (.goto 4, 3) := by decide +kernel
theorem dX0_init_21 : decode cX0_init 21 = .ok (.iconst 0, 1) := by decide +kernel
theorem dX0_init_22 : decode cX0_init 22 = .ok (.putfield 15, 3) := by decide +kernel
theorem dX0_init_25 : decode cX0_init 25 = .ok (.aload_n 0, 1) := by decide +kernel
theorem dX0_init_26 : decode cX0_init 26 = .ok (.iload_n 1, 1) := by decide +kernel
theorem dX0_init_27 : decode cX0_init 27 = .ok (.putfield 19, 3) := by decide +kernel
theorem dX0_init_30 : decode cX0_init 30 = .ok (.aload_n 0, 1) := by decide +kernel
theorem dX0_init_31 : decode cX0_init 31 = .ok (.iconst (-1), 1) := by decide +kernel
theorem dX0_init_32 : decode cX0_init 32 = .ok (.putfield 23, 3) := by decide +kernel
theorem dX0_init_35 : decode cX0_init 35 = .ok (.aload_n 0, 1) := by decide +kernel
theorem dX0_init_36 : decode cX0_init 36 = .ok (.iconst (-1), 1) := by decide +kernel
theorem dX0_init_37 : decode cX0_init 37 = .ok (.putfield 26, 3) := by decide +kernel
theorem dX0_init_40 : decode cX0_init 40 = .ok (.aload_n 0, 1) := by decide +kernel
theorem dX0_init_41 : decode cX0_init 41 = .ok (.iconst 0, 1) := by decide +kernel
theorem dX0_init_42 : decode cX0_init 42 = .ok (.putfield 29, 3) := by decide +kernel
theorem dX0_init_45 : decode cX0_init 45 = .ok (.aload_n 0, 1) := by decide +kernel
theorem dX0_init_46 : decode cX0_init 46 = .ok (.iconst 0, 1) := by decide +kernel
theorem dX0_init_47 : decode cX0_init 47 = .ok (.putfield 32, 3) := by decide +kernel
theorem dX0_init_50 : decode cX0_init 50 = .ok (.return_, 1) := by decide +kernel
theorem dX1_init_0 : decode cX1_init 0 = .ok (.aload_n 0, 1) := by decide +kernel
theorem dX1_init_1 : decode cX1_init 1 = .ok (.invokespecial 3, 3) := by decide +kernel
theorem dX1_init_4 : decode cX1_init 4 = .ok (.aload_n 0, 1) := by decide +kernel
theorem dX1_init_5 : decode cX1_init 5 = .ok (.bipush 12, 2) := by decide +kernel
theorem dX1_init_7 : decode cX1_init 7 = .ok (.anewarray 9, 3) := by decide +kernel
theorem dX1_init_10 : decode cX1_init 10 = .ok (.putfield 11, 3) := by decide +kernel
theorem dX1_init_13 : decode cX1_init 13 = .ok (.aload_n 0, 1) := by decide +kernel
theorem dX1_init_14 : decode cX1_init 14 = .ok (.bipush 12, 2) := by decide +kernel
theorem dX1_init_16 : decode cX1_init 16 = .ok (.newarray .int, 2) := by decide +kernel
theorem dX1_init_18 : decode cX1_init 18 = .ok (.putfield 17, 3) := by decide +kernel
theorem dX1_init_21 : decode cX1_init 21 = .ok (.aload_n 0, 1) := by decide +kernel
theorem dX1_init_22 : decode cX1_init 22 = .ok (.bipush 12, 2) := by decide +kernel
theorem dX1_init_24 : decode cX1_init 24 = .ok (.newarray .boolean, 2) := by decide +kernel
theorem dX1_init_26 : decode cX1_init 26 = .ok (.putfield 21, 3) := by decide +kernel
theorem dX1_init_29 : decode cX1_init 29 = .ok (.aload_n 0, 1) := by decide +kernel
theorem dX1_init_30 : decode cX1_init 30 = .ok (.bipush 6, 2) := by decide +kernel
theorem dX1_init_32 : decode cX1_init 32 = .ok (.putfield 25, 3) := by decide +kernel
theorem dX1_init_35 : decode cX1_init 35 = .ok (.aload_n 0, 1) := by decide +kernel
theorem dX1_init_36 : decode cX1_init 36 = .ok (.iconst 0, 1) := by decide +kernel
theorem dX1_init_37 : decode cX1_init 37 = .ok (.putfield 29, 3) := by decide +kernel
theorem dX1_init_40 : decode cX1_init 40 = .ok (.iconst 0, 1) := by decide +kernel
theorem dX1_init_41 : decode cX1_init 41 = .ok (.istore_n 1, 1) := by decide +kernel
theorem dX1_init_42 : decode cX1_init 42 = .ok (.iload_n 1, 1) := by decide +kernel
theorem dX1_init_43 : decode cX1_init 43 = .ok (.bipush 12, 2) := by decide +kernel
theorem dX1_init_45 : decode cX1_init 45 = .ok (.if_icmp .ge 16, 3) := by decide +kernel
theorem dX1_init_48 : decode cX1_init 48 = .ok (.aload_n 0, 1) := by decide +kernel
theorem dX1_init_49 : decode cX1_init 49 = .ok (.getfield 17, 3) := by decide +kernel
theorem dX1_init_52 : decode cX1_init 52 = .ok (.iload_n 1, 1) := by decide +kernel
theorem dX1_init_53 : decode cX1_init 53 = .ok (.iconst (-1), 1) := by decide +kernel
theorem dX1_init_54 : decode cX1_init 54 = .ok (.iastore, 1) := by decide +kernel
theorem dX1_init_55 : decode cX1_init 55 = .ok (.iinc 1 1, 3) := by decide +kernel
theorem dX1_init_58 : decode cX1_init 58 = .ok (.goto (-16), 3) := by decide +kernel
theorem dX1_init_61 : decode cX1_init 61 = .ok (.return_, 1) := by decide +kernel
theorem dX1_freeCount_0 : decode cX1_freeCount 0 = .ok (.iconst 0, 1) := by decide +kernel
theorem dX1_freeCount_1 : decode cX1_freeCount 1 = .ok (.istore_n 1, 1) := by decide +kernel
theorem dX1_freeCount_2 : decode cX1_freeCount 2 = .ok (.iconst 0, 1) := by decide +kernel
theorem dX1_freeCount_3 : decode cX1_freeCount 3 = .ok (.istore_n 2, 1) := by decide +kernel
theorem dX1_freeCount_4 : decode cX1_freeCount 4 = .ok (.iload_n 2, 1) := by decide +kernel
theorem dX1_freeCount_5 : decode cX1_freeCount 5 = .ok (.aload_n 0, 1) := by decide +kernel
theorem dX1_freeCount_6 : decode cX1_freeCount 6 = .ok (.getfield 25, 3) := by decide +kernel
theorem dX1_freeCount_9 : decode cX1_freeCount 9 = .ok (.if_icmp .ge 21, 3) := by decide +kernel
theorem dX1_freeCount_12 : decode cX1_freeCount 12 = .ok (.aload_n 0, 1) := by decide +kernel
theorem dX1_freeCount_13 : decode cX1_freeCount 13 = .ok (.getfield 11, 3) := by decide +kernel
theorem dX1_freeCount_16 : decode cX1_freeCount 16 = .ok (.iload_n 2, 1) := by decide +kernel
theorem dX1_freeCount_17 : decode cX1_freeCount 17 = .ok (.aaload, 1) := by decide +kernel
theorem dX1_freeCount_18 : decode cX1_freeCount 18 = .ok (.ifnonnull 6, 3) := by decide +kernel
theorem dX1_freeCount_21 : decode cX1_freeCount 21 = .ok (.iinc 1 1, 3) := by decide +kernel
theorem dX1_freeCount_24 : decode cX1_freeCount 24 = .ok (.iinc 2 1, 3) := by decide +kernel
theorem dX1_freeCount_27 : decode cX1_freeCount 27 = .ok (.goto (-23), 3) := by decide +kernel
theorem dX1_freeCount_30 : decode cX1_freeCount 30 = .ok (.iload_n 1, 1) := by decide +kernel
theorem dX1_freeCount_31 : decode cX1_freeCount 31 = .ok (.ireturn, 1) := by decide +kernel
theorem dX1_smallestFree_0 : decode cX1_smallestFree 0 = .ok (.iconst 0, 1) := by decide +kernel
theorem dX1_smallestFree_1 : decode cX1_smallestFree 1 = .ok (.istore_n 1, 1) := by decide +kernel
theorem dX1_smallestFree_2 : decode cX1_smallestFree 2 = .ok (.iload_n 1, 1) := by decide +kernel
theorem dX1_smallestFree_3 : decode cX1_smallestFree 3 = .ok (.aload_n 0, 1) := by decide +kernel
theorem dX1_smallestFree_4 : decode cX1_smallestFree 4 = .ok (.getfield 25, 3) := by decide +kernel
theorem dX1_smallestFree_7 : decode cX1_smallestFree 7 = .ok (.if_icmp .ge 20, 3) := by decide +kernel
theorem dX1_smallestFree_10 : decode cX1_smallestFree 10 = .ok (.aload_n 0, 1) := by decide +kernel
theorem dX1_smallestFree_11 : decode cX1_smallestFree 11 = .ok (.getfield 11, 3) := by decide +kernel
theorem dX1_smallestFree_14 : decode cX1_smallestFree 14 = .ok (.iload_n 1, 1) := by decide +kernel
theorem dX1_smallestFree_15 : decode cX1_smallestFree 15 = .ok (.aaload, 1) := by decide +kernel
theorem dX1_smallestFree_16 : decode cX1_smallestFree 16 = .ok (.ifnonnull 5, 3) := by decide +kernel
theorem dX1_smallestFree_19 : decode cX1_smallestFree 19 = .ok (.iload_n 1, 1) := by decide +kernel
theorem dX1_smallestFree_20 : decode cX1_smallestFree 20 = .ok (.ireturn, 1) := by decide +kernel
theorem dX1_smallestFree_21 : decode cX1_smallestFree 21 = .ok (.iinc 1 1, 3) := by decide +kernel
theorem dX1_smallestFree_24 : decode cX1_smallestFree 24 = .ok (.goto (-22), 3) := by decide +kernel
theorem dX1_smallestFree_27 : decode cX1_smallestFree 27 = .ok (.iconst (-1), 1) := by decide +kernel
theorem dX1_smallestFree_28 : decode cX1_smallestFree 28 = .ok (.ireturn, 1) := by decide +kernel
theorem dX1_oldestClean_0 : decode cX1_oldestClean 0 = .ok (.iconst (-1), 1) := by decide +kernel
theorem dX1_oldestClean_1 : decode cX1_oldestClean 1 = .ok (.istore_n 1, 1) := by decide +kernel
theorem dX1_oldestClean_2 : decode cX1_oldestClean 2 = .ok (.iconst 0, 1) := by decide +kernel
theorem dX1_oldestClean_3 : decode cX1_oldestClean 3 = .ok (.istore_n 2, 1) := by decide +kernel
theorem dX1_oldestClean_4 : decode cX1_oldestClean 4 = .ok (.iload_n 2, 1) := by decide +kernel
theorem dX1_oldestClean_5 : decode cX1_oldestClean 5 = .ok (.aload_n 0, 1) := by decide +kernel
theorem dX1_oldestClean_6 : decode cX1_oldestClean 6 = .ok (.getfield 25, 3) := by decide +kernel
theorem dX1_oldestClean_9 : decode cX1_oldestClean 9 = .ok (.if_icmp .ge 49, 3) := by decide +kernel
theorem dX1_oldestClean_12 : decode cX1_oldestClean 12 = .ok (.aload_n 0, 1) := by decide +kernel
theorem dX1_oldestClean_13 : decode cX1_oldestClean 13 = .ok (.getfield 11, 3) := by decide +kernel
theorem dX1_oldestClean_16 : decode cX1_oldestClean 16 = .ok (.iload_n 2, 1) := by decide +kernel
theorem dX1_oldestClean_17 : decode cX1_oldestClean 17 = .ok (.aaload, 1) := by decide +kernel
theorem dX1_oldestClean_18 : decode cX1_oldestClean 18 = .ok (.astore_n 3, 1) := by decide +kernel
theorem dX1_oldestClean_19 : decode cX1_oldestClean 19 = .ok (.aload_n 3, 1) := by decide +kernel
theorem dX1_oldestClean_20 : decode cX1_oldestClean 20 = .ok (.ifnull 32, 3) := by decide +kernel
theorem dX1_oldestClean_23 : decode cX1_oldestClean 23 = .ok (.aload_n 3, 1) := by decide +kernel
theorem dX1_oldestClean_24 : decode cX1_oldestClean 24 = .ok (.getfield 32, 3) := by decide +kernel
theorem dX1_oldestClean_27 : decode cX1_oldestClean 27 = .ok (.ifCond .ne 25, 3) := by decide +kernel
theorem dX1_oldestClean_30 : decode cX1_oldestClean 30 = .ok (.iload_n 1, 1) := by decide +kernel
theorem dX1_oldestClean_31 : decode cX1_oldestClean 31 = .ok (.iconst (-1), 1) := by decide +kernel
theorem dX1_oldestClean_32 : decode cX1_oldestClean 32 = .ok (.if_icmp .eq 18, 3) := by decide +kernel
theorem dX1_oldestClean_35 : decode cX1_oldestClean 35 = .ok (.aload_n 0, 1) := by decide +kernel
theorem dX1_oldestClean_36 : decode cX1_oldestClean 36 = .ok (.getfield 17, 3) := by decide +kernel
theorem dX1_oldestClean_39 : decode cX1_oldestClean 39 = .ok (.iload_n 2, 1) := by decide +kernel
theorem dX1_oldestClean_40 : decode cX1_oldestClean 40 = .ok (.iaload, 1) := by decide +kernel
theorem dX1_oldestClean_41 : decode cX1_oldestClean 41 = .ok (.aload_n 0, 1) := by decide +kernel
theorem dX1_oldestClean_42 : decode cX1_oldestClean 42 = .ok (.getfield 17, 3) := by decide +kernel
theorem dX1_oldestClean_45 : decode cX1_oldestClean 45 = .ok (.iload_n 1, 1) := by decide +kernel
theorem dX1_oldestClean_46 : decode cX1_oldestClean 46 = .ok (.iaload, 1) := by decide +kernel
theorem dX1_oldestClean_47 : decode cX1_oldestClean 47 = .ok (.if_icmp .ge 5, 3) := by decide +kernel
theorem dX1_oldestClean_50 : decode cX1_oldestClean 50 = .ok (.iload_n 2, 1) := by decide +kernel
theorem dX1_oldestClean_51 : decode cX1_oldestClean 51 = .ok (.istore_n 1, 1) := by decide +kernel
theorem dX1_oldestClean_52 : decode cX1_oldestClean 52 = .ok (.iinc 2 1, 3) := by decide +kernel
theorem dX1_oldestClean_55 : decode cX1_oldestClean 55 = .ok (.goto (-51), 3) := by decide +kernel
theorem dX1_oldestClean_58 : decode cX1_oldestClean 58 = .ok (.iload_n 1, 1) := by decide +kernel
theorem dX1_oldestClean_59 : decode cX1_oldestClean 59 = .ok (.ireturn, 1) := by decide +kernel
theorem dX1_oldest_0 : decode cX1_oldest 0 = .ok (.iconst 0, 1) := by decide +kernel
theorem dX1_oldest_1 : decode cX1_oldest 1 = .ok (.istore_n 1, 1) := by decide +kernel
theorem dX1_oldest_2 : decode cX1_oldest 2 = .ok (.iconst 1, 1) := by decide +kernel
theorem dX1_oldest_3 : decode cX1_oldest 3 = .ok (.istore_n 2, 1) := by decide +kernel
theorem dX1_oldest_4 : decode cX1_oldest 4 = .ok (.iload_n 2, 1) := by decide +kernel
theorem dX1_oldest_5 : decode cX1_oldest 5 = .ok (.aload_n 0, 1) := by decide +kernel
theorem dX1_oldest_6 : decode cX1_oldest 6 = .ok (.getfield 25, 3) := by decide +kernel
theorem dX1_oldest_9 : decode cX1_oldest 9 = .ok (.if_icmp .ge 26, 3) := by decide +kernel
theorem dX1_oldest_12 : decode cX1_oldest 12 = .ok (.aload_n 0, 1) := by decide +kernel
theorem dX1_oldest_13 : decode cX1_oldest 13 = .ok (.getfield 17, 3) := by decide +kernel
theorem dX1_oldest_16 : decode cX1_oldest 16 = .ok (.iload_n 2, 1) := by decide +kernel
theorem dX1_oldest_17 : decode cX1_oldest 17 = .ok (.iaload, 1) := by decide +kernel
theorem dX1_oldest_18 : decode cX1_oldest 18 = .ok (.aload_n 0, 1) := by decide +kernel
theorem dX1_oldest_19 : decode cX1_oldest 19 = .ok (.getfield 17, 3) := by decide +kernel
theorem dX1_oldest_22 : decode cX1_oldest 22 = .ok (.iload_n 1, 1) := by decide +kernel
theorem dX1_oldest_23 : decode cX1_oldest 23 = .ok (.iaload, 1) := by decide +kernel
theorem dX1_oldest_24 : decode cX1_oldest 24 = .ok (.if_icmp .ge 5, 3) := by decide +kernel
theorem dX1_oldest_27 : decode cX1_oldest 27 = .ok (.iload_n 2, 1) := by decide +kernel
theorem dX1_oldest_28 : decode cX1_oldest 28 = .ok (.istore_n 1, 1) := by decide +kernel
theorem dX1_oldest_29 : decode cX1_oldest 29 = .ok (.iinc 2 1, 3) := by decide +kernel
theorem dX1_oldest_32 : decode cX1_oldest 32 = .ok (.goto (-28), 3) := by decide +kernel
theorem dX1_oldest_35 : decode cX1_oldest 35 = .ok (.iload_n 1, 1) := by decide +kernel
theorem dX1_oldest_36 : decode cX1_oldest 36 = .ok (.ireturn, 1) := by decide +kernel
theorem dX1_put_0 : decode cX1_put 0 = .ok (.aload_n 0, 1) := by decide +kernel
theorem dX1_put_1 : decode cX1_put 1 = .ok (.getfield 11, 3) := by decide +kernel
theorem dX1_put_4 : decode cX1_put 4 = .ok (.iload_n 2, 1) := by decide +kernel
theorem dX1_put_5 : decode cX1_put 5 = .ok (.aload_n 1, 1) := by decide +kernel
theorem dX1_put_6 : decode cX1_put 6 = .ok (.aastore, 1) := by decide +kernel
theorem dX1_put_7 : decode cX1_put 7 = .ok (.aload_n 0, 1) := by decide +kernel
theorem dX1_put_8 : decode cX1_put 8 = .ok (.getfield 17, 3) := by decide +kernel
theorem dX1_put_11 : decode cX1_put 11 = .ok (.iload_n 2, 1) := by decide +kernel
theorem dX1_put_12 : decode cX1_put 12 = .ok (.iload_n 3, 1) := by decide +kernel
theorem dX1_put_13 : decode cX1_put 13 = .ok (.iastore, 1) := by decide +kernel
theorem dX1_put_14 : decode cX1_put 14 = .ok (.aload_n 0, 1) := by decide +kernel
theorem dX1_put_15 : decode cX1_put 15 = .ok (.getfield 21, 3) := by decide +kernel
theorem dX1_put_18 : decode cX1_put 18 = .ok (.iload_n 2, 1) := by decide +kernel
theorem dX1_put_19 : decode cX1_put 19 = .ok (.iconst 0, 1) := by decide +kernel
theorem dX1_put_20 : decode cX1_put 20 = .ok (.bastore, 1) := by decide +kernel
theorem dX1_put_21 : decode cX1_put 21 = .ok (.aload_n 1, 1) := by decide +kernel
theorem dX1_put_22 : decode cX1_put 22 = .ok (.iload_n 2, 1) := by decide +kernel
theorem dX1_put_23 : decode cX1_put 23 = .ok (.putfield 36, 3) := by decide +kernel
theorem dX1_put_26 : decode cX1_put 26 = .ok (.return_, 1) := by decide +kernel
theorem dX1_use_0 : decode cX1_use 0 = .ok (.iload_n 1, 1) := by decide +kernel
theorem dX1_use_1 : decode cX1_use 1 = .ok (.ifCond .lt 25, 3) := by decide +kernel
theorem dX1_use_4 : decode cX1_use 4 = .ok (.iload_n 1, 1) := by decide +kernel
theorem dX1_use_5 : decode cX1_use 5 = .ok (.aload_n 0, 1) := by decide +kernel
theorem dX1_use_6 : decode cX1_use 6 = .ok (.getfield 25, 3) := by decide +kernel
theorem dX1_use_9 : decode cX1_use 9 = .ok (.if_icmp .ge 17, 3) := by decide +kernel
theorem dX1_use_12 : decode cX1_use 12 = .ok (.aload_n 0, 1) := by decide +kernel
theorem dX1_use_13 : decode cX1_use 13 = .ok (.getfield 17, 3) := by decide +kernel
theorem dX1_use_16 : decode cX1_use 16 = .ok (.iload_n 1, 1) := by decide +kernel
theorem dX1_use_17 : decode cX1_use 17 = .ok (.iload_n 2, 1) := by decide +kernel
theorem dX1_use_18 : decode cX1_use 18 = .ok (.iastore, 1) := by decide +kernel
theorem dX1_use_19 : decode cX1_use 19 = .ok (.aload_n 0, 1) := by decide +kernel
theorem dX1_use_20 : decode cX1_use 20 = .ok (.getfield 21, 3) := by decide +kernel
theorem dX1_use_23 : decode cX1_use 23 = .ok (.iload_n 1, 1) := by decide +kernel
theorem dX1_use_24 : decode cX1_use 24 = .ok (.iconst 1, 1) := by decide +kernel
theorem dX1_use_25 : decode cX1_use 25 = .ok (.bastore, 1) := by decide +kernel
theorem dX1_use_26 : decode cX1_use 26 = .ok (.return_, 1) := by decide +kernel
theorem dX1_vacate_0 : decode cX1_vacate 0 = .ok (.aload_n 0, 1) := by decide +kernel
theorem dX1_vacate_1 : decode cX1_vacate 1 = .ok (.getfield 11, 3) := by decide +kernel
theorem dX1_vacate_4 : decode cX1_vacate 4 = .ok (.iload_n 1, 1) := by decide +kernel
theorem dX1_vacate_5 : decode cX1_vacate 5 = .ok (.aaload, 1) := by decide +kernel
theorem dX1_vacate_6 : decode cX1_vacate 6 = .ok (.astore_n 2, 1) := by decide +kernel
theorem dX1_vacate_7 : decode cX1_vacate 7 = .ok (.aload_n 2, 1) := by decide +kernel
theorem dX1_vacate_8 : decode cX1_vacate 8 = .ok (.ifnull 8, 3) := by decide +kernel
theorem dX1_vacate_11 : decode cX1_vacate 11 = .ok (.aload_n 2, 1) := by decide +kernel
theorem dX1_vacate_12 : decode cX1_vacate 12 = .ok (.iconst (-1), 1) := by decide +kernel
theorem dX1_vacate_13 : decode cX1_vacate 13 = .ok (.putfield 36, 3) := by decide +kernel
theorem dX1_vacate_16 : decode cX1_vacate 16 = .ok (.aload_n 0, 1) := by decide +kernel
theorem dX1_vacate_17 : decode cX1_vacate 17 = .ok (.getfield 11, 3) := by decide +kernel
theorem dX1_vacate_20 : decode cX1_vacate 20 = .ok (.iload_n 1, 1) := by decide +kernel
theorem dX1_vacate_21 : decode cX1_vacate 21 = .ok (.aconst_null, 1) := by decide +kernel
theorem dX1_vacate_22 : decode cX1_vacate 22 = .ok (.aastore, 1) := by decide +kernel
theorem dX1_vacate_23 : decode cX1_vacate 23 = .ok (.aload_n 0, 1) := by decide +kernel
theorem dX1_vacate_24 : decode cX1_vacate 24 = .ok (.getfield 17, 3) := by decide +kernel
theorem dX1_vacate_27 : decode cX1_vacate 27 = .ok (.iload_n 1, 1) := by decide +kernel
theorem dX1_vacate_28 : decode cX1_vacate 28 = .ok (.iconst (-1), 1) := by decide +kernel
theorem dX1_vacate_29 : decode cX1_vacate 29 = .ok (.iastore, 1) := by decide +kernel
theorem dX1_vacate_30 : decode cX1_vacate 30 = .ok (.aload_n 0, 1) := by decide +kernel
theorem dX1_vacate_31 : decode cX1_vacate 31 = .ok (.getfield 21, 3) := by decide +kernel
theorem dX1_vacate_34 : decode cX1_vacate 34 = .ok (.iload_n 1, 1) := by decide +kernel
theorem dX1_vacate_35 : decode cX1_vacate 35 = .ok (.iconst 0, 1) := by decide +kernel
theorem dX1_vacate_36 : decode cX1_vacate 36 = .ok (.bastore, 1) := by decide +kernel
theorem dX1_vacate_37 : decode cX1_vacate 37 = .ok (.return_, 1) := by decide +kernel
theorem dX1_moveHandBehind_0 : decode cX1_moveHandBehind 0 = .ok (.aload_n 0, 1) := by decide +kernel
theorem dX1_moveHandBehind_1 : decode cX1_moveHandBehind 1 = .ok (.iload_n 1, 1) := by decide +kernel
theorem dX1_moveHandBehind_2 : decode cX1_moveHandBehind 2 = .ok (.iconst 1, 1) := by decide +kernel
theorem dX1_moveHandBehind_3 : decode cX1_moveHandBehind 3 = .ok (.iadd, 1) := by decide +kernel
theorem dX1_moveHandBehind_4 : decode cX1_moveHandBehind 4 = .ok (.aload_n 0, 1) := by decide +kernel
theorem dX1_moveHandBehind_5 : decode cX1_moveHandBehind 5 = .ok (.getfield 25, 3) := by decide +kernel
theorem dX1_moveHandBehind_8 : decode cX1_moveHandBehind 8 = .ok (.if_icmp .ge 9, 3) := by decide +kernel
theorem dX1_moveHandBehind_11 : decode cX1_moveHandBehind 11 = .ok (.iload_n 1, 1) := by decide +kernel
theorem dX1_moveHandBehind_12 : decode cX1_moveHandBehind 12 = .ok (.iconst 1, 1) := by decide +kernel
theorem dX1_moveHandBehind_13 : decode cX1_moveHandBehind 13 = .ok (.iadd, 1) := by decide +kernel
theorem dX1_moveHandBehind_14 : decode cX1_moveHandBehind 14 = .ok (.goto 4, 3) := by decide +kernel
theorem dX1_moveHandBehind_17 : decode cX1_moveHandBehind 17 = .ok (.iconst 0, 1) := by decide +kernel
theorem dX1_moveHandBehind_18 : decode cX1_moveHandBehind 18 = .ok (.putfield 29, 3) := by decide +kernel
theorem dX1_moveHandBehind_21 : decode cX1_moveHandBehind 21 = .ok (.return_, 1) := by decide +kernel
theorem dX2_init_0 : decode cX2_init 0 = .ok (.aload_n 0, 1) := by decide +kernel
theorem dX2_init_1 : decode cX2_init 1 = .ok (.invokespecial 3, 3) := by decide +kernel
theorem dX2_init_4 : decode cX2_init 4 = .ok (.aload_n 0, 1) := by decide +kernel
theorem dX2_init_5 : decode cX2_init 5 = .ok (.bipush 24, 2) := by decide +kernel
theorem dX2_init_7 : decode cX2_init 7 = .ok (.anewarray 9, 3) := by decide +kernel
theorem dX2_init_10 : decode cX2_init 10 = .ok (.putfield 11, 3) := by decide +kernel
theorem dX2_init_13 : decode cX2_init 13 = .ok (.return_, 1) := by decide +kernel
theorem dX2_freeCount_0 : decode cX2_freeCount 0 = .ok (.iconst 0, 1) := by decide +kernel
theorem dX2_freeCount_1 : decode cX2_freeCount 1 = .ok (.istore_n 1, 1) := by decide +kernel
theorem dX2_freeCount_2 : decode cX2_freeCount 2 = .ok (.iconst 0, 1) := by decide +kernel
theorem dX2_freeCount_3 : decode cX2_freeCount 3 = .ok (.istore_n 2, 1) := by decide +kernel
theorem dX2_freeCount_4 : decode cX2_freeCount 4 = .ok (.iload_n 2, 1) := by decide +kernel
theorem dX2_freeCount_5 : decode cX2_freeCount 5 = .ok (.bipush 24, 2) := by decide +kernel
theorem dX2_freeCount_7 : decode cX2_freeCount 7 = .ok (.if_icmp .ge 21, 3) := by decide +kernel
theorem dX2_freeCount_10 : decode cX2_freeCount 10 = .ok (.aload_n 0, 1) := by decide +kernel
theorem dX2_freeCount_11 : decode cX2_freeCount 11 = .ok (.getfield 11, 3) := by decide +kernel
theorem dX2_freeCount_14 : decode cX2_freeCount 14 = .ok (.iload_n 2, 1) := by decide +kernel
theorem dX2_freeCount_15 : decode cX2_freeCount 15 = .ok (.aaload, 1) := by decide +kernel
theorem dX2_freeCount_16 : decode cX2_freeCount 16 = .ok (.ifnonnull 6, 3) := by decide +kernel
theorem dX2_freeCount_19 : decode cX2_freeCount 19 = .ok (.iinc 1 1, 3) := by decide +kernel
theorem dX2_freeCount_22 : decode cX2_freeCount 22 = .ok (.iinc 2 1, 3) := by decide +kernel
theorem dX2_freeCount_25 : decode cX2_freeCount 25 = .ok (.goto (-21), 3) := by decide +kernel
theorem dX2_freeCount_28 : decode cX2_freeCount 28 = .ok (.iload_n 1, 1) := by decide +kernel
theorem dX2_freeCount_29 : decode cX2_freeCount 29 = .ok (.ireturn, 1) := by decide +kernel
theorem dX2_roomFor_0 : decode cX2_roomFor 0 = .ok (.iconst 0, 1) := by decide +kernel
theorem dX2_roomFor_1 : decode cX2_roomFor 1 = .ok (.istore_n 2, 1) := by decide +kernel
theorem dX2_roomFor_2 : decode cX2_roomFor 2 = .ok (.iconst 0, 1) := by decide +kernel
theorem dX2_roomFor_3 : decode cX2_roomFor 3 = .ok (.istore_n 3, 1) := by decide +kernel
theorem dX2_roomFor_4 : decode cX2_roomFor 4 = .ok (.iload_n 3, 1) := by decide +kernel
theorem dX2_roomFor_5 : decode cX2_roomFor 5 = .ok (.bipush 24, 2) := by decide +kernel
theorem dX2_roomFor_7 : decode cX2_roomFor 7 = .ok (.if_icmp .ge 37, 3) := by decide +kernel
theorem dX2_roomFor_10 : decode cX2_roomFor 10 = .ok (.aload_n 0, 1) := by decide +kernel
theorem dX2_roomFor_11 : decode cX2_roomFor 11 = .ok (.getfield 11, 3) := by decide +kernel
theorem dX2_roomFor_14 : decode cX2_roomFor 14 = .ok (.iload_n 3, 1) := by decide +kernel
theorem dX2_roomFor_15 : decode cX2_roomFor 15 = .ok (.aaload, 1) := by decide +kernel
theorem dX2_roomFor_16 : decode cX2_roomFor 16 = .ok (.ifnonnull 9, 3) := by decide +kernel
theorem dX2_roomFor_19 : decode cX2_roomFor 19 = .ok (.iload_n 2, 1) := by decide +kernel
theorem dX2_roomFor_20 : decode cX2_roomFor 20 = .ok (.iconst 1, 1) := by decide +kernel
theorem dX2_roomFor_21 : decode cX2_roomFor 21 = .ok (.iadd, 1) := by decide +kernel
theorem dX2_roomFor_22 : decode cX2_roomFor 22 = .ok (.goto 4, 3) := by decide +kernel
theorem dX2_roomFor_25 : decode cX2_roomFor 25 = .ok (.iconst 0, 1) := by decide +kernel
theorem dX2_roomFor_26 : decode cX2_roomFor 26 = .ok (.istore_n 2, 1) := by decide +kernel
theorem dX2_roomFor_27 : decode cX2_roomFor 27 = .ok (.iload_n 2, 1) := by decide +kernel
theorem dX2_roomFor_28 : decode cX2_roomFor 28 = .ok (.iload_n 1, 1) := by decide +kernel
theorem dX2_roomFor_29 : decode cX2_roomFor 29 = .ok (.if_icmp .ne 9, 3) := by decide +kernel
theorem dX2_roomFor_32 : decode cX2_roomFor 32 = .ok (.iload_n 3, 1) := by decide +kernel
theorem dX2_roomFor_33 : decode cX2_roomFor 33 = .ok (.iload_n 1, 1) := by decide +kernel
theorem dX2_roomFor_34 : decode cX2_roomFor 34 = .ok (.isub, 1) := by decide +kernel
theorem dX2_roomFor_35 : decode cX2_roomFor 35 = .ok (.iconst 1, 1) := by decide +kernel
theorem dX2_roomFor_36 : decode cX2_roomFor 36 = .ok (.iadd, 1) := by decide +kernel
theorem dX2_roomFor_37 : decode cX2_roomFor 37 = .ok (.ireturn, 1) := by decide +kernel
theorem dX2_roomFor_38 : decode cX2_roomFor 38 = .ok (.iinc 3 1, 3) := by decide +kernel
theorem dX2_roomFor_41 : decode cX2_roomFor 41 = .ok (.goto (-37), 3) := by decide +kernel
theorem dX2_roomFor_44 : decode cX2_roomFor 44 = .ok (.iconst (-1), 1) := by decide +kernel
theorem dX2_roomFor_45 : decode cX2_roomFor 45 = .ok (.ireturn, 1) := by decide +kernel
theorem dX2_putAll_0 : decode cX2_putAll 0 = .ok (.iconst 0, 1) := by decide +kernel
theorem dX2_putAll_1 : decode cX2_putAll 1 = .ok (.istore 4, 2) := by decide +kernel
theorem dX2_putAll_3 : decode cX2_putAll 3 = .ok (.iload 4, 2) := by decide +kernel
theorem dX2_putAll_5 : decode cX2_putAll 5 = .ok (.iload_n 2, 1) := by decide +kernel
theorem dX2_putAll_6 : decode cX2_putAll 6 = .ok (.if_icmp .ge 62, 3) := by decide +kernel
theorem dX2_putAll_9 : decode cX2_putAll 9 = .ok (.iload 4, 2) := by decide +kernel
theorem dX2_putAll_11 : decode cX2_putAll 11 = .ok (.aload_n 1, 1) := by decide +kernel
theorem dX2_putAll_12 : decode cX2_putAll 12 = .ok (.arraylength, 1) := by decide +kernel
theorem dX2_putAll_13 : decode cX2_putAll 13 = .ok (.if_icmp .ge 55, 3) := by decide +kernel
theorem dX2_putAll_16 : decode cX2_putAll 16 = .ok (.iload_n 3, 1) := by decide +kernel
theorem dX2_putAll_17 : decode cX2_putAll 17 = .ok (.iload 4, 2) := by decide +kernel
theorem dX2_putAll_19 : decode cX2_putAll 19 = .ok (.iadd, 1) := by decide +kernel
theorem dX2_putAll_20 : decode cX2_putAll 20 = .ok (.bipush 24, 2) := by decide +kernel
theorem dX2_putAll_22 : decode cX2_putAll 22 = .ok (.if_icmp .ge 46, 3) := by decide +kernel
theorem dX2_putAll_25 : decode cX2_putAll 25 = .ok (.aload_n 1, 1) := by decide +kernel
theorem dX2_putAll_26 : decode cX2_putAll 26 = .ok (.iload 4, 2) := by decide +kernel
theorem dX2_putAll_28 : decode cX2_putAll 28 = .ok (.aaload, 1) := by decide +kernel
theorem dX2_putAll_29 : decode cX2_putAll 29 = .ok (.astore 5, 2) := by decide +kernel
theorem dX2_putAll_31 : decode cX2_putAll 31 = .ok (.aload 5, 2) := by decide +kernel
theorem dX2_putAll_33 : decode cX2_putAll 33 = .ok (.ifnull 29, 3) := by decide +kernel
theorem dX2_putAll_36 : decode cX2_putAll 36 = .ok (.aload_n 0, 1) := by decide +kernel
theorem dX2_putAll_37 : decode cX2_putAll 37 = .ok (.getfield 11, 3) := by decide +kernel
theorem dX2_putAll_40 : decode cX2_putAll 40 = .ok (.iload_n 3, 1) := by decide +kernel
theorem dX2_putAll_41 : decode cX2_putAll 41 = .ok (.iload 4, 2) := by decide +kernel
theorem dX2_putAll_43 : decode cX2_putAll 43 = .ok (.iadd, 1) := by decide +kernel
theorem dX2_putAll_44 : decode cX2_putAll 44 = .ok (.aload 5, 2) := by decide +kernel
theorem dX2_putAll_46 : decode cX2_putAll 46 = .ok (.aastore, 1) := by decide +kernel
theorem dX2_putAll_47 : decode cX2_putAll 47 = .ok (.aload 5, 2) := by decide +kernel
theorem dX2_putAll_49 : decode cX2_putAll 49 = .ok (.iload_n 3, 1) := by decide +kernel
theorem dX2_putAll_50 : decode cX2_putAll 50 = .ok (.iload 4, 2) := by decide +kernel
theorem dX2_putAll_52 : decode cX2_putAll 52 = .ok (.iadd, 1) := by decide +kernel
theorem dX2_putAll_53 : decode cX2_putAll 53 = .ok (.putfield 17, 3) := by decide +kernel
theorem dX2_putAll_56 : decode cX2_putAll 56 = .ok (.aload 5, 2) := by decide +kernel
theorem dX2_putAll_58 : decode cX2_putAll 58 = .ok (.iconst 0, 1) := by decide +kernel
theorem dX2_putAll_59 : decode cX2_putAll 59 = .ok (.putfield 21, 3) := by decide +kernel
theorem dX2_putAll_62 : decode cX2_putAll 62 = .ok (.iinc 4 1, 3) := by decide +kernel
theorem dX2_putAll_65 : decode cX2_putAll 65 = .ok (.goto (-62), 3) := by decide +kernel
theorem dX2_putAll_68 : decode cX2_putAll 68 = .ok (.return_, 1) := by decide +kernel
theorem dX2_vacateSlotOf_0 : decode cX2_vacateSlotOf 0 = .ok (.aload_n 1, 1) := by decide +kernel
theorem dX2_vacateSlotOf_1 : decode cX2_vacateSlotOf 1 = .ok (.getfield 17, 3) := by decide +kernel
theorem dX2_vacateSlotOf_4 : decode cX2_vacateSlotOf 4 = .ok (.ifCond .lt 22, 3) := by decide +kernel
theorem dX2_vacateSlotOf_7 : decode cX2_vacateSlotOf 7 = .ok (.aload_n 1, 1) := by decide +kernel
theorem dX2_vacateSlotOf_8 : decode cX2_vacateSlotOf 8 = .ok (.getfield 17, 3) := by decide +kernel
theorem dX2_vacateSlotOf_11 : decode cX2_vacateSlotOf 11 = .ok (.bipush 24, 2) := by decide +kernel
theorem dX2_vacateSlotOf_13 : decode cX2_vacateSlotOf 13 = .ok (.if_icmp .ge 13, 3) := by decide +kernel
theorem dX2_vacateSlotOf_16 : decode cX2_vacateSlotOf 16 = .ok (.aload_n 0, 1) := by decide +kernel
theorem dX2_vacateSlotOf_17 : decode cX2_vacateSlotOf 17 = .ok (.getfield 11, 3) := by decide +kernel
theorem dX2_vacateSlotOf_20 : decode cX2_vacateSlotOf 20 = .ok (.aload_n 1, 1) := by decide +kernel
theorem dX2_vacateSlotOf_21 : decode cX2_vacateSlotOf 21 = .ok (.getfield 17, 3) := by decide +kernel
theorem dX2_vacateSlotOf_24 : decode cX2_vacateSlotOf 24 = .ok (.aconst_null, 1) := by decide +kernel
theorem dX2_vacateSlotOf_25 : decode cX2_vacateSlotOf 25 = .ok (.aastore, 1) := by decide +kernel
theorem dX2_vacateSlotOf_26 : decode cX2_vacateSlotOf 26 = .ok (.aload_n 1, 1) := by decide +kernel
theorem dX2_vacateSlotOf_27 : decode cX2_vacateSlotOf 27 = .ok (.iconst (-1), 1) := by decide +kernel
theorem dX2_vacateSlotOf_28 : decode cX2_vacateSlotOf 28 = .ok (.putfield 17, 3) := by decide +kernel
theorem dX2_vacateSlotOf_31 : decode cX2_vacateSlotOf 31 = .ok (.return_, 1) := by decide +kernel
theorem dX3_init_0 : decode cX3_init 0 = .ok (.aload_n 0, 1) := by decide +kernel
theorem dX3_init_1 : decode cX3_init 1 = .ok (.invokespecial 1, 3) := by decide +kernel
theorem dX3_init_4 : decode cX3_init 4 = .ok (.aload_n 0, 1) := by decide +kernel
theorem dX3_init_5 : decode cX3_init 5 = .ok (.sipush 160, 3) := by decide +kernel
theorem dX3_init_8 : decode cX3_init 8 = .ok (.anewarray 9, 3) := by decide +kernel
theorem dX3_init_11 : decode cX3_init 11 = .ok (.putfield 11, 3) := by decide +kernel
theorem dX3_init_14 : decode cX3_init 14 = .ok (.aload_n 0, 1) := by decide +kernel
theorem dX3_init_15 : decode cX3_init 15 = .ok (.bipush 10, 2) := by decide +kernel
theorem dX3_init_17 : decode cX3_init 17 = .ok (.newarray .boolean, 2) := by decide +kernel
theorem dX3_init_19 : decode cX3_init 19 = .ok (.putfield 15, 3) := by decide +kernel
theorem dX3_init_22 : decode cX3_init 22 = .ok (.aload_n 0, 1) := by decide +kernel
theorem dX3_init_23 : decode cX3_init 23 = .ok (.bipush 24, 2) := by decide +kernel
theorem dX3_init_25 : decode cX3_init 25 = .ok (.anewarray 9, 3) := by decide +kernel
theorem dX3_init_28 : decode cX3_init 28 = .ok (.putfield 19, 3) := by decide +kernel
theorem dX3_init_31 : decode cX3_init 31 = .ok (.aload_n 0, 1) := by decide +kernel
theorem dX3_init_32 : decode cX3_init 32 = .ok (.new 22, 3) := by decide +kernel
theorem dX3_init_35 : decode cX3_init 35 = .ok (.dup, 1) := by decide +kernel
theorem dX3_init_36 : decode cX3_init 36 = .ok (.invokespecial 24, 3) := by decide +kernel
theorem dX3_init_39 : decode cX3_init 39 = .ok (.putfield 25, 3) := by decide +kernel
theorem dX3_init_42 : decode cX3_init 42 = .ok (.aload_n 0, 1) := by decide +kernel
theorem dX3_init_43 : decode cX3_init 43 = .ok (.new 29, 3) := by decide +kernel
theorem dX3_init_46 : decode cX3_init 46 = .ok (.dup, 1) := by decide +kernel
theorem dX3_init_47 : decode cX3_init 47 = .ok (.invokespecial 31, 3) := by decide +kernel
theorem dX3_init_50 : decode cX3_init 50 = .ok (.putfield 32, 3) := by decide +kernel
theorem dX3_init_53 : decode cX3_init 53 = .ok (.aload_n 0, 1) := by decide +kernel
theorem dX3_init_54 : decode cX3_init 54 = .ok (.iconst 4, 1) := by decide +kernel
theorem dX3_init_55 : decode cX3_init 55 = .ok (.anewarray 9, 3) := by decide +kernel
theorem dX3_init_58 : decode cX3_init 58 = .ok (.putfield 36, 3) := by decide +kernel
theorem dX3_init_61 : decode cX3_init 61 = .ok (.aload_n 0, 1) := by decide +kernel
theorem dX3_init_62 : decode cX3_init 62 = .ok (.bipush 6, 2) := by decide +kernel
theorem dX3_init_64 : decode cX3_init 64 = .ok (.newarray .int, 2) := by decide +kernel
theorem dX3_init_66 : decode cX3_init 66 = .ok (.putfield 39, 3) := by decide +kernel
theorem dX3_init_69 : decode cX3_init 69 = .ok (.aload_n 0, 1) := by decide +kernel
theorem dX3_init_70 : decode cX3_init 70 = .ok (.iconst 0, 1) := by decide +kernel
theorem dX3_init_71 : decode cX3_init 71 = .ok (.putfield 43, 3) := by decide +kernel
theorem dX3_init_74 : decode cX3_init 74 = .ok (.aload_n 0, 1) := by decide +kernel
theorem dX3_init_75 : decode cX3_init 75 = .ok (.iconst 0, 1) := by decide +kernel
theorem dX3_init_76 : decode cX3_init 76 = .ok (.putfield 47, 3) := by decide +kernel
theorem dX3_init_79 : decode cX3_init 79 = .ok (.aload_n 0, 1) := by decide +kernel
theorem dX3_init_80 : decode cX3_init 80 = .ok (.bipush 8, 2) := by decide +kernel
theorem dX3_init_82 : decode cX3_init 82 = .ok (.putfield 50, 3) := by decide +kernel
theorem dX3_init_85 : decode cX3_init 85 = .ok (.aload_n 0, 1) := by decide +kernel
theorem dX3_init_86 : decode cX3_init 86 = .ok (.iconst 0, 1) := by decide +kernel
theorem dX3_init_87 : decode cX3_init 87 = .ok (.putfield 53, 3) := by decide +kernel
theorem dX3_init_90 : decode cX3_init 90 = .ok (.return_, 1) := by decide +kernel
theorem dX3_setFrames_0 : decode cX3_setFrames 0 = .ok (.iload_n 1, 1) := by decide +kernel
theorem dX3_setFrames_1 : decode cX3_setFrames 1 = .ok (.iconst 4, 1) := by decide +kernel
theorem dX3_setFrames_2 : decode cX3_setFrames 2 = .ok (.if_icmp .lt 9, 3) := by decide +kernel
theorem dX3_setFrames_5 : decode cX3_setFrames 5 = .ok (.iload_n 1, 1) := by decide +kernel
theorem dX3_setFrames_6 : decode cX3_setFrames 6 = .ok (.bipush 12, 2) := by decide +kernel
theorem dX3_setFrames_8 : decode cX3_setFrames 8 = .ok (.if_icmp .le 13, 3) := by decide +kernel
theorem dX3_setFrames_11 : decode cX3_setFrames 11 = .ok (.new 56, 3) := by decide +kernel
theorem dX3_setFrames_14 : decode cX3_setFrames 14 = .ok (.dup, 1) := by decide +kernel
theorem dX3_setFrames_15 : decode cX3_setFrames 15 = .ok (.ldc 58, 2) := by decide +kernel
theorem dX3_setFrames_17 : decode cX3_setFrames 17 = .ok (.invokespecial 60, 3) := by decide +kernel
theorem dX3_setFrames_20 : decode cX3_setFrames 20 = .ok (.athrow, 1) := by decide +kernel
theorem dX3_setFrames_21 : decode cX3_setFrames 21 = .ok (.aload_n 0, 1) := by decide +kernel
theorem dX3_setFrames_22 : decode cX3_setFrames 22 = .ok (.getfield 25, 3) := by decide +kernel
theorem dX3_setFrames_25 : decode cX3_setFrames 25 = .ok (.invokevirtual 63, 3) := by decide +kernel
theorem dX3_setFrames_28 : decode cX3_setFrames 28 = .ok (.aload_n 0, 1) := by decide +kernel
theorem dX3_setFrames_29 : decode cX3_setFrames 29 = .ok (.getfield 25, 3) := by decide +kernel
theorem dX3_setFrames_32 : decode cX3_setFrames 32 = .ok (.getfield 67, 3) := by decide +kernel
theorem dX3_setFrames_35 : decode cX3_setFrames 35 = .ok (.if_icmp .ge 13, 3) := by decide +kernel
theorem dX3_setFrames_38 : decode cX3_setFrames 38 = .ok (.new 70, 3) := by decide +kernel
theorem dX3_setFrames_41 : decode cX3_setFrames 41 = .ok (.dup, 1) := by decide +kernel
theorem dX3_setFrames_42 : decode cX3_setFrames 42 = .ok (.ldc 72, 2) := by decide +kernel
theorem dX3_setFrames_44 : decode cX3_setFrames 44 = .ok (.invokespecial 74, 3) := by decide +kernel
theorem dX3_setFrames_47 : decode cX3_setFrames 47 = .ok (.athrow, 1) := by decide +kernel
theorem dX3_setFrames_48 : decode cX3_setFrames 48 = .ok (.aload_n 0, 1) := by decide +kernel
theorem dX3_setFrames_49 : decode cX3_setFrames 49 = .ok (.getfield 25, 3) := by decide +kernel
theorem dX3_setFrames_52 : decode cX3_setFrames 52 = .ok (.getfield 67, 3) := by decide +kernel
theorem dX3_setFrames_55 : decode cX3_setFrames 55 = .ok (.istore_n 2, 1) := by decide +kernel
theorem dX3_setFrames_56 : decode cX3_setFrames 56 = .ok (.aload_n 0, 1) := by decide +kernel
theorem dX3_setFrames_57 : decode cX3_setFrames 57 = .ok (.getfield 25, 3) := by decide +kernel
theorem dX3_setFrames_60 : decode cX3_setFrames 60 = .ok (.iload_n 1, 1) := by decide +kernel
theorem dX3_setFrames_61 : decode cX3_setFrames 61 = .ok (.putfield 67, 3) := by decide +kernel
theorem dX3_setFrames_64 : decode cX3_setFrames 64 = .ok (.aload_n 0, 1) := by decide +kernel
theorem dX3_setFrames_65 : decode cX3_setFrames 65 = .ok (.getfield 25, 3) := by decide +kernel
theorem dX3_setFrames_68 : decode cX3_setFrames 68 = .ok (.iconst 0, 1) := by decide +kernel
theorem dX3_setFrames_69 : decode cX3_setFrames 69 = .ok (.putfield 75, 3) := by decide +kernel
theorem dX3_setFrames_72 : decode cX3_setFrames 72 = .ok (.iload_n 2, 1) := by decide +kernel
theorem dX3_setFrames_73 : decode cX3_setFrames 73 = .ok (.ireturn, 1) := by decide +kernel
theorem dX3_setWindow_0 : decode cX3_setWindow 0 = .ok (.iload_n 1, 1) := by decide +kernel
theorem dX3_setWindow_1 : decode cX3_setWindow 1 = .ok (.ifCond .lt 9, 3) := by decide +kernel
theorem dX3_setWindow_4 : decode cX3_setWindow 4 = .ok (.iload_n 1, 1) := by decide +kernel
theorem dX3_setWindow_5 : decode cX3_setWindow 5 = .ok (.bipush 50, 2) := by decide +kernel
theorem dX3_setWindow_7 : decode cX3_setWindow 7 = .ok (.if_icmp .le 13, 3) := by decide +kernel
theorem dX3_setWindow_10 : decode cX3_setWindow 10 = .ok (.new 56, 3) := by decide +kernel
theorem dX3_setWindow_13 : decode cX3_setWindow 13 = .ok (.dup, 1) := by decide +kernel
theorem dX3_setWindow_14 : decode cX3_setWindow 14 = .ok (.ldc 78, 2) := by decide +kernel
theorem dX3_setWindow_16 : decode cX3_setWindow 16 = .ok (.invokespecial 60, 3) := by decide +kernel
theorem dX3_setWindow_19 : decode cX3_setWindow 19 = .ok (.athrow, 1) := by decide +kernel
theorem dX3_setWindow_20 : decode cX3_setWindow 20 = .ok (.aload_n 0, 1) := by decide +kernel
theorem dX3_setWindow_21 : decode cX3_setWindow 21 = .ok (.getfield 50, 3) := by decide +kernel
theorem dX3_setWindow_24 : decode cX3_setWindow 24 = .ok (.istore_n 2, 1) := by decide +kernel
theorem dX3_setWindow_25 : decode cX3_setWindow 25 = .ok (.aload_n 0, 1) := by decide +kernel
theorem dX3_setWindow_26 : decode cX3_setWindow 26 = .ok (.iload_n 1, 1) := by decide +kernel
theorem dX3_setWindow_27 : decode cX3_setWindow 27 = .ok (.putfield 50, 3) := by decide +kernel
theorem dX3_setWindow_30 : decode cX3_setWindow 30 = .ok (.iload_n 2, 1) := by decide +kernel
theorem dX3_setWindow_31 : decode cX3_setWindow 31 = .ok (.ireturn, 1) := by decide +kernel
theorem dX3_start_0 : decode cX3_start 0 = .ok (.aload_n 0, 1) := by decide +kernel
theorem dX3_start_1 : decode cX3_start 1 = .ok (.invokevirtual 80, 3) := by decide +kernel
theorem dX3_start_4 : decode cX3_start 4 = .ok (.aload_n 0, 1) := by decide +kernel
theorem dX3_start_5 : decode cX3_start 5 = .ok (.invokevirtual 83, 3) := by decide +kernel
theorem dX3_start_8 : decode cX3_start 8 = .ok (.ireturn, 1) := by decide +kernel
theorem dX3_fork_0 : decode cX3_fork 0 = .ok (.aload_n 0, 1) := by decide +kernel
theorem dX3_fork_1 : decode cX3_fork 1 = .ok (.iload_n 1, 1) := by decide +kernel
theorem dX3_fork_2 : decode cX3_fork 2 = .ok (.invokevirtual 86, 3) := by decide +kernel
theorem dX3_fork_5 : decode cX3_fork 5 = .ok (.aload_n 0, 1) := by decide +kernel
theorem dX3_fork_6 : decode cX3_fork 6 = .ok (.iload_n 1, 1) := by decide +kernel
theorem dX3_fork_7 : decode cX3_fork 7 = .ok (.invokevirtual 90, 3) := by decide +kernel
theorem dX3_fork_10 : decode cX3_fork 10 = .ok (.aload_n 0, 1) := by decide +kernel
theorem dX3_fork_11 : decode cX3_fork 11 = .ok (.invokevirtual 80, 3) := by decide +kernel
theorem dX3_fork_14 : decode cX3_fork 14 = .ok (.aload_n 0, 1) := by decide +kernel
theorem dX3_fork_15 : decode cX3_fork 15 = .ok (.invokevirtual 83, 3) := by decide +kernel
theorem dX3_fork_18 : decode cX3_fork 18 = .ok (.istore_n 2, 1) := by decide +kernel
theorem dX3_fork_19 : decode cX3_fork 19 = .ok (.iconst 0, 1) := by decide +kernel
theorem dX3_fork_20 : decode cX3_fork 20 = .ok (.istore_n 3, 1) := by decide +kernel
theorem dX3_fork_21 : decode cX3_fork 21 = .ok (.iload_n 3, 1) := by decide +kernel
theorem dX3_fork_22 : decode cX3_fork 22 = .ok (.bipush 16, 2) := by decide +kernel
theorem dX3_fork_24 : decode cX3_fork 24 = .ok (.if_icmp .ge 37, 3) := by decide +kernel
theorem dX3_fork_27 : decode cX3_fork 27 = .ok (.aload_n 0, 1) := by decide +kernel
theorem dX3_fork_28 : decode cX3_fork 28 = .ok (.getfield 11, 3) := by decide +kernel
theorem dX3_fork_31 : decode cX3_fork 31 = .ok (.iload_n 1, 1) := by decide +kernel
theorem dX3_fork_32 : decode cX3_fork 32 = .ok (.iload_n 3, 1) := by decide +kernel
theorem dX3_fork_33 : decode cX3_fork 33 = .ok (.invokestatic 93, 3) := by decide +kernel
theorem dX3_fork_36 : decode cX3_fork 36 = .ok (.aaload, 1) := by decide +kernel
theorem dX3_fork_37 : decode cX3_fork 37 = .ok (.astore 4, 2) := by decide +kernel
theorem dX3_fork_39 : decode cX3_fork 39 = .ok (.aload 4, 2) := by decide +kernel
theorem dX3_fork_41 : decode cX3_fork 41 = .ok (.ifnull 14, 3) := by decide +kernel
theorem dX3_fork_44 : decode cX3_fork 44 = .ok (.aload_n 0, 1) := by decide +kernel
theorem dX3_fork_45 : decode cX3_fork 45 = .ok (.iload_n 2, 1) := by decide +kernel
theorem dX3_fork_46 : decode cX3_fork 46 = .ok (.iload_n 3, 1) := by decide +kernel
theorem dX3_fork_47 : decode cX3_fork 47 = .ok (.invokestatic 93, 3) := by decide +kernel
theorem dX3_fork_50 : decode cX3_fork 50 = .ok (.aload 4, 2) := by decide +kernel
theorem dX3_fork_52 : decode cX3_fork 52 = .ok (.invokevirtual 97, 3) := by decide +kernel
theorem dX3_fork_55 : decode cX3_fork 55 = .ok (.iinc 3 1, 3) := by decide +kernel
theorem dX3_fork_58 : decode cX3_fork 58 = .ok (.goto (-37), 3) := by decide +kernel
theorem dX3_fork_61 : decode cX3_fork 61 = .ok (.iload_n 2, 1) := by decide +kernel
theorem dX3_fork_62 : decode cX3_fork 62 = .ok (.ireturn, 1) := by decide +kernel
theorem dX3_exit_0 : decode cX3_exit 0 = .ok (.aload_n 0, 1) := by decide +kernel
theorem dX3_exit_1 : decode cX3_exit 1 = .ok (.iload_n 1, 1) := by decide +kernel
theorem dX3_exit_2 : decode cX3_exit 2 = .ok (.invokevirtual 86, 3) := by decide +kernel
theorem dX3_exit_5 : decode cX3_exit 5 = .ok (.aload_n 0, 1) := by decide +kernel
theorem dX3_exit_6 : decode cX3_exit 6 = .ok (.iload_n 1, 1) := by decide +kernel
theorem dX3_exit_7 : decode cX3_exit 7 = .ok (.invokevirtual 90, 3) := by decide +kernel
theorem dX3_exit_10 : decode cX3_exit 10 = .ok (.iconst 0, 1) := by decide +kernel
theorem dX3_exit_11 : decode cX3_exit 11 = .ok (.istore_n 2, 1) := by decide +kernel
theorem dX3_exit_12 : decode cX3_exit 12 = .ok (.iconst 0, 1) := by decide +kernel
theorem dX3_exit_13 : decode cX3_exit 13 = .ok (.istore_n 3, 1) := by decide +kernel
theorem dX3_exit_14 : decode cX3_exit 14 = .ok (.iload_n 3, 1) := by decide +kernel
theorem dX3_exit_15 : decode cX3_exit 15 = .ok (.bipush 16, 2) := by decide +kernel
theorem dX3_exit_17 : decode cX3_exit 17 = .ok (.if_icmp .ge 24, 3) := by decide +kernel
theorem dX3_exit_20 : decode cX3_exit 20 = .ok (.aload_n 0, 1) := by decide +kernel
theorem dX3_exit_21 : decode cX3_exit 21 = .ok (.iload_n 1, 1) := by decide +kernel
theorem dX3_exit_22 : decode cX3_exit 22 = .ok (.iload_n 3, 1) := by decide +kernel
theorem dX3_exit_23 : decode cX3_exit 23 = .ok (.invokestatic 93, 3) := by decide +kernel
theorem dX3_exit_26 : decode cX3_exit 26 = .ok (.invokevirtual 101, 3) := by decide +kernel
theorem dX3_exit_29 : decode cX3_exit 29 = .ok (.ifCond .eq 6, 3) := by decide +kernel
theorem dX3_exit_32 : decode cX3_exit 32 = .ok (.iinc 2 1, 3) := by decide +kernel
theorem dX3_exit_35 : decode cX3_exit 35 = .ok (.iinc 3 1, 3) := by decide +kernel
theorem dX3_exit_38 : decode cX3_exit 38 = .ok (.goto (-24), 3) := by decide +kernel
theorem dX3_exit_41 : decode cX3_exit 41 = .ok (.aload_n 0, 1) := by decide +kernel
theorem dX3_exit_42 : decode cX3_exit 42 = .ok (.getfield 15, 3) := by decide +kernel
theorem dX3_exit_45 : decode cX3_exit 45 = .ok (.iload_n 1, 1) := by decide +kernel
theorem dX3_exit_46 : decode cX3_exit 46 = .ok (.iconst 0, 1) := by decide +kernel
theorem dX3_exit_47 : decode cX3_exit 47 = .ok (.bastore, 1) := by decide +kernel
theorem dX3_exit_48 : decode cX3_exit 48 = .ok (.iload_n 2, 1) := by decide +kernel
theorem dX3_exit_49 : decode cX3_exit 49 = .ok (.ireturn, 1) := by decide +kernel
theorem dX3_map_0 : decode cX3_map 0 = .ok (.aload_n 0, 1) := by decide +kernel
theorem dX3_map_1 : decode cX3_map 1 = .ok (.iload_n 1, 1) := by decide +kernel
theorem dX3_map_2 : decode cX3_map 2 = .ok (.iload_n 2, 1) := by decide +kernel
theorem dX3_map_3 : decode cX3_map 3 = .ok (.invokevirtual 105, 3) := by decide +kernel
theorem dX3_map_6 : decode cX3_map 6 = .ok (.aload_n 0, 1) := by decide +kernel
theorem dX3_map_7 : decode cX3_map 7 = .ok (.iload_n 1, 1) := by decide +kernel
theorem dX3_map_8 : decode cX3_map 8 = .ok (.invokevirtual 90, 3) := by decide +kernel
theorem dX3_map_11 : decode cX3_map 11 = .ok (.aload_n 0, 1) := by decide +kernel
theorem dX3_map_12 : decode cX3_map 12 = .ok (.iload_n 1, 1) := by decide +kernel
theorem dX3_map_13 : decode cX3_map 13 = .ok (.iload_n 2, 1) := by decide +kernel
theorem dX3_map_14 : decode cX3_map 14 = .ok (.invokevirtual 109, 3) := by decide +kernel
theorem dX3_map_17 : decode cX3_map 17 = .ok (.aload_n 0, 1) := by decide +kernel
theorem dX3_map_18 : decode cX3_map 18 = .ok (.iload_n 1, 1) := by decide +kernel
theorem dX3_map_19 : decode cX3_map 19 = .ok (.iload_n 2, 1) := by decide +kernel
theorem dX3_map_20 : decode cX3_map 20 = .ok (.invokestatic 93, 3) := by decide +kernel
theorem dX3_map_23 : decode cX3_map 23 = .ok (.new 9, 3) := by decide +kernel
theorem dX3_map_26 : decode cX3_map 26 = .ok (.dup, 1) := by decide +kernel
theorem dX3_map_27 : decode cX3_map 27 = .ok (.iconst (-1), 1) := by decide +kernel
theorem dX3_map_28 : decode cX3_map 28 = .ok (.invokespecial 112, 3) := by decide +kernel
theorem dX3_map_31 : decode cX3_map 31 = .ok (.invokevirtual 97, 3) := by decide +kernel
theorem dX3_map_34 : decode cX3_map 34 = .ok (.aload_n 0, 1) := by decide +kernel
theorem dX3_map_35 : decode cX3_map 35 = .ok (.iload_n 1, 1) := by decide +kernel
theorem dX3_map_36 : decode cX3_map 36 = .ok (.invokevirtual 114, 3) := by decide +kernel
theorem dX3_map_39 : decode cX3_map 39 = .ok (.ireturn, 1) := by decide +kernel
theorem dX3_createSegment_0 : decode cX3_createSegment 0 = .ok (.iload_n 1, 1) := by decide +kernel
theorem dX3_createSegment_1 : decode cX3_createSegment 1 = .ok (.iconst 1, 1) := by decide +kernel
theorem dX3_createSegment_2 : decode cX3_createSegment 2 = .ok (.if_icmp .lt 9, 3) := by decide +kernel
theorem dX3_createSegment_5 : decode cX3_createSegment 5 = .ok (.iload_n 1, 1) := by decide +kernel
theorem dX3_createSegment_6 : decode cX3_createSegment 6 = .ok (.bipush 6, 2) := by decide +kernel
theorem dX3_createSegment_8 : decode cX3_createSegment 8 = .ok (.if_icmp .le 13, 3) := by decide +kernel
theorem dX3_createSegment_11 : decode cX3_createSegment 11 = .ok (.new 56, 3) := by decide +kernel
theorem dX3_createSegment_14 : decode cX3_createSegment 14 = .ok (.dup, 1) := by decide +kernel
theorem dX3_createSegment_15 : decode cX3_createSegment 15 = .ok (.ldc 118, 2) := by decide +kernel
theorem dX3_createSegment_17 : decode cX3_createSegment 17 = .ok (.invokespecial 60, 3) := by decide +kernel
theorem dX3_createSegment_20 : decode cX3_createSegment 20 = .ok (.athrow, 1) := by decide +kernel
theorem dX3_createSegment_21 : decode cX3_createSegment 21 = .ok (.aload_n 0, 1) := by decide +kernel
theorem dX3_createSegment_22 : decode cX3_createSegment 22 = .ok (.getfield 47, 3) := by decide +kernel
theorem dX3_createSegment_25 : decode cX3_createSegment 25 = .ok (.iconst 4, 1) := by decide +kernel
theorem dX3_createSegment_26 : decode cX3_createSegment 26 = .ok (.if_icmp .lt 13, 3) := by decide +kernel
theorem dX3_createSegment_29 : decode cX3_createSegment 29 = .ok (.new 70, 3) := by decide +kernel
theorem dX3_createSegment_32 : decode cX3_createSegment 32 = .ok (.dup, 1) := by decide +kernel
theorem dX3_createSegment_33 : decode cX3_createSegment 33 = .ok (.ldc 120, 2) := by decide +kernel
theorem dX3_createSegment_35 : decode cX3_createSegment 35 = .ok (.invokespecial 74, 3) := by decide +kernel
theorem dX3_createSegment_38 : decode cX3_createSegment 38 = .ok (.athrow, 1) := by decide +kernel
theorem dX3_createSegment_39 : decode cX3_createSegment 39 = .ok (.aload_n 0, 1) := by decide +kernel
theorem dX3_createSegment_40 : decode cX3_createSegment 40 = .ok (.getfield 47, 3) := by decide +kernel
theorem dX3_createSegment_43 : decode cX3_createSegment 43 = .ok (.istore_n 2, 1) := by decide +kernel
theorem dX3_createSegment_44 : decode cX3_createSegment 44 = .ok (.iconst 0, 1) := by decide +kernel
theorem dX3_createSegment_45 : decode cX3_createSegment 45 = .ok (.istore_n 3, 1) := by decide +kernel
theorem dX3_createSegment_46 : decode cX3_createSegment 46 = .ok (.iload_n 3, 1) := by decide +kernel
theorem dX3_createSegment_47 : decode cX3_createSegment 47 = .ok (.iload_n 1, 1) := by decide +kernel
theorem dX3_createSegment_48 : decode cX3_createSegment 48 = .ok (.if_icmp .ge 33, 3) := by decide +kernel
theorem dX3_createSegment_51 : decode cX3_createSegment 51 = .ok (.iload_n 2, 1) := by decide +kernel
theorem dX3_createSegment_52 : decode cX3_createSegment 52 = .ok (.bipush 6, 2) := by decide +kernel
theorem dX3_createSegment_54 : decode cX3_createSegment 54 = .ok (.imul, 1) := by decide +kernel
theorem dX3_createSegment_55 : decode cX3_createSegment 55 = .ok (.iload_n 3, 1) := by decide +kernel
theorem dX3_createSegment_56 : decode cX3_createSegment 56 = .ok (.iadd, 1) := by decide +kernel
theorem dX3_createSegment_57 : decode cX3_createSegment 57 = .ok (.istore 4, 2) := by decide +kernel
theorem dX3_createSegment_59 : decode cX3_createSegment 59 = .ok (.aload_n 0, 1) := by decide +kernel
theorem dX3_createSegment_60 : decode cX3_createSegment 60 = .ok (.getfield 19, 3) := by decide +kernel
theorem dX3_createSegment_63 : decode cX3_createSegment 63 = .ok (.iload 4, 2) := by decide +kernel
theorem dX3_createSegment_65 : decode cX3_createSegment 65 = .ok (.new 9, 3) := by decide +kernel
theorem dX3_createSegment_68 : decode cX3_createSegment 68 = .ok (.dup, 1) := by decide +kernel
theorem dX3_createSegment_69 : decode cX3_createSegment 69 = .ok (.iload 4, 2) := by decide +kernel
theorem dX3_createSegment_71 : decode cX3_createSegment 71 = .ok (.invokespecial 112, 3) := by decide +kernel
theorem dX3_createSegment_74 : decode cX3_createSegment 74 = .ok (.aastore, 1) := by decide +kernel
theorem dX3_createSegment_75 : decode cX3_createSegment 75 = .ok (.iinc 3 1, 3) := by decide +kernel
theorem dX3_createSegment_78 : decode cX3_createSegment 78 = .ok (.goto (-32), 3) := by decide +kernel
theorem dX3_createSegment_81 : decode cX3_createSegment 81 = .ok (.aload_n 0, 1) := by decide +kernel
theorem dX3_createSegment_82 : decode cX3_createSegment 82 = .ok (.dup, 1) := by decide +kernel
theorem dX3_createSegment_83 : decode cX3_createSegment 83 = .ok (.getfield 47, 3) := by decide +kernel
theorem dX3_createSegment_86 : decode cX3_createSegment 86 = .ok (.iconst 1, 1) := by decide +kernel
theorem dX3_createSegment_87 : decode cX3_createSegment 87 = .ok (.iadd, 1) := by decide +kernel
theorem dX3_createSegment_88 : decode cX3_createSegment 88 = .ok (.putfield 47, 3) := by decide +kernel
theorem dX3_createSegment_91 : decode cX3_createSegment 91 = .ok (.iload_n 2, 1) := by decide +kernel
theorem dX3_createSegment_92 : decode cX3_createSegment 92 = .ok (.ireturn, 1) := by decide +kernel
theorem dX3_attach_0 : decode cX3_attach 0 = .ok (.aload_n 0, 1) := by decide +kernel
theorem dX3_attach_1 : decode cX3_attach 1 = .ok (.iload_n 1, 1) := by decide +kernel
theorem dX3_attach_2 : decode cX3_attach 2 = .ok (.iload_n 2, 1) := by decide +kernel
theorem dX3_attach_3 : decode cX3_attach 3 = .ok (.invokevirtual 105, 3) := by decide +kernel
theorem dX3_attach_6 : decode cX3_attach 6 = .ok (.aload_n 0, 1) := by decide +kernel
theorem dX3_attach_7 : decode cX3_attach 7 = .ok (.iload_n 3, 1) := by decide +kernel
theorem dX3_attach_8 : decode cX3_attach 8 = .ok (.iload 4, 2) := by decide +kernel
theorem dX3_attach_10 : decode cX3_attach 10 = .ok (.invokevirtual 122, 3) := by decide +kernel
theorem dX3_attach_13 : decode cX3_attach 13 = .ok (.astore 5, 2) := by decide +kernel
theorem dX3_attach_15 : decode cX3_attach 15 = .ok (.aload_n 0, 1) := by decide +kernel
theorem dX3_attach_16 : decode cX3_attach 16 = .ok (.iload_n 1, 1) := by decide +kernel
theorem dX3_attach_17 : decode cX3_attach 17 = .ok (.invokevirtual 90, 3) := by decide +kernel
theorem dX3_attach_20 : decode cX3_attach 20 = .ok (.aload_n 0, 1) := by decide +kernel
theorem dX3_attach_21 : decode cX3_attach 21 = .ok (.iload_n 1, 1) := by decide +kernel
theorem dX3_attach_22 : decode cX3_attach 22 = .ok (.iload_n 2, 1) := by decide +kernel
theorem dX3_attach_23 : decode cX3_attach 23 = .ok (.invokevirtual 109, 3) := by decide +kernel
theorem dX3_attach_26 : decode cX3_attach 26 = .ok (.aload_n 0, 1) := by decide +kernel
theorem dX3_attach_27 : decode cX3_attach 27 = .ok (.iload_n 1, 1) := by decide +kernel
theorem dX3_attach_28 : decode cX3_attach 28 = .ok (.iload_n 2, 1) := by decide +kernel
theorem dX3_attach_29 : decode cX3_attach 29 = .ok (.invokestatic 93, 3) := by decide +kernel
theorem dX3_attach_32 : decode cX3_attach 32 = .ok (.aload 5, 2) := by decide +kernel
theorem dX3_attach_34 : decode cX3_attach 34 = .ok (.invokevirtual 97, 3) := by decide +kernel
theorem dX3_attach_37 : decode cX3_attach 37 = .ok (.aload_n 0, 1) := by decide +kernel
theorem dX3_attach_38 : decode cX3_attach 38 = .ok (.iload_n 1, 1) := by decide +kernel
theorem dX3_attach_39 : decode cX3_attach 39 = .ok (.invokevirtual 114, 3) := by decide +kernel
theorem dX3_attach_42 : decode cX3_attach 42 = .ok (.ireturn, 1) := by decide +kernel
theorem dX3_unmap_0 : decode cX3_unmap 0 = .ok (.aload_n 0, 1) := by decide +kernel
theorem dX3_unmap_1 : decode cX3_unmap 1 = .ok (.iload_n 1, 1) := by decide +kernel
theorem dX3_unmap_2 : decode cX3_unmap 2 = .ok (.iload_n 2, 1) := by decide +kernel
theorem dX3_unmap_3 : decode cX3_unmap 3 = .ok (.invokevirtual 105, 3) := by decide +kernel
theorem dX3_unmap_6 : decode cX3_unmap 6 = .ok (.aload_n 0, 1) := by decide +kernel
theorem dX3_unmap_7 : decode cX3_unmap 7 = .ok (.iload_n 1, 1) := by decide +kernel
theorem dX3_unmap_8 : decode cX3_unmap 8 = .ok (.invokevirtual 90, 3) := by decide +kernel
theorem dX3_unmap_11 : decode cX3_unmap 11 = .ok (.aload_n 0, 1) := by decide +kernel
theorem dX3_unmap_12 : decode cX3_unmap 12 = .ok (.iload_n 1, 1) := by decide +kernel
theorem dX3_unmap_13 : decode cX3_unmap 13 = .ok (.iload_n 2, 1) := by decide +kernel
theorem dX3_unmap_14 : decode cX3_unmap 14 = .ok (.invokevirtual 126, 3) := by decide +kernel
theorem dX3_unmap_17 : decode cX3_unmap 17 = .ok (.pop, 1) := by decide +kernel
theorem dX3_unmap_18 : decode cX3_unmap 18 = .ok (.aload_n 0, 1) := by decide +kernel
theorem dX3_unmap_19 : decode cX3_unmap 19 = .ok (.iload_n 1, 1) := by decide +kernel
theorem dX3_unmap_20 : decode cX3_unmap 20 = .ok (.iload_n 2, 1) := by decide +kernel
theorem dX3_unmap_21 : decode cX3_unmap 21 = .ok (.invokestatic 93, 3) := by decide +kernel
theorem dX3_unmap_24 : decode cX3_unmap 24 = .ok (.invokevirtual 101, 3) := by decide +kernel
theorem dX3_unmap_27 : decode cX3_unmap 27 = .ok (.ireturn, 1) := by decide +kernel
theorem dX3_isLive_0 : decode cX3_isLive 0 = .ok (.aload_n 0, 1) := by decide +kernel
theorem dX3_isLive_1 : decode cX3_isLive 1 = .ok (.iload_n 1, 1) := by decide +kernel
theorem dX3_isLive_2 : decode cX3_isLive 2 = .ok (.invokevirtual 86, 3) := by decide +kernel
theorem dX3_isLive_5 : decode cX3_isLive 5 = .ok (.aload_n 0, 1) := by decide +kernel
theorem dX3_isLive_6 : decode cX3_isLive 6 = .ok (.getfield 15, 3) := by decide +kernel
theorem dX3_isLive_9 : decode cX3_isLive 9 = .ok (.iload_n 1, 1) := by decide +kernel
theorem dX3_isLive_10 : decode cX3_isLive 10 = .ok (.baload, 1) := by decide +kernel
theorem dX3_isLive_11 : decode cX3_isLive 11 = .ok (.ireturn, 1) := by decide +kernel
theorem dX3_mapping_0 : decode cX3_mapping 0 = .ok (.aload_n 0, 1) := by decide +kernel
theorem dX3_mapping_1 : decode cX3_mapping 1 = .ok (.iload_n 1, 1) := by decide +kernel
theorem dX3_mapping_2 : decode cX3_mapping 2 = .ok (.iload_n 2, 1) := by decide +kernel
theorem dX3_mapping_3 : decode cX3_mapping 3 = .ok (.invokevirtual 105, 3) := by decide +kernel
theorem dX3_mapping_6 : decode cX3_mapping 6 = .ok (.aload_n 0, 1) := by decide +kernel
theorem dX3_mapping_7 : decode cX3_mapping 7 = .ok (.getfield 11, 3) := by decide +kernel
theorem dX3_mapping_10 : decode cX3_mapping 10 = .ok (.iload_n 1, 1) := by decide +kernel
theorem dX3_mapping_11 : decode cX3_mapping 11 = .ok (.iload_n 2, 1) := by decide +kernel
theorem dX3_mapping_12 : decode cX3_mapping 12 = .ok (.invokestatic 93, 3) := by decide +kernel
theorem dX3_mapping_15 : decode cX3_mapping 15 = .ok (.aaload, 1) := by decide +kernel
theorem dX3_mapping_16 : decode cX3_mapping 16 = .ok (.astore_n 3, 1) := by decide +kernel
theorem dX3_mapping_17 : decode cX3_mapping 17 = .ok (.aload_n 3, 1) := by decide +kernel
theorem dX3_mapping_18 : decode cX3_mapping 18 = .ok (.ifnonnull 5, 3) := by decide +kernel
theorem dX3_mapping_21 : decode cX3_mapping 21 = .ok (.iconst 0, 1) := by decide +kernel
theorem dX3_mapping_22 : decode cX3_mapping 22 = .ok (.ireturn, 1) := by decide +kernel
theorem dX3_mapping_23 : decode cX3_mapping 23 = .ok (.aload_n 3, 1) := by decide +kernel
theorem dX3_mapping_24 : decode cX3_mapping 24 = .ok (.getfield 129, 3) := by decide +kernel
theorem dX3_mapping_27 : decode cX3_mapping 27 = .ok (.ifCond .eq 7, 3) := by decide +kernel
theorem dX3_mapping_30 : decode cX3_mapping 30 = .ok (.iconst 2, 1) := by decide +kernel
theorem dX3_mapping_31 : decode cX3_mapping 31 = .ok (.goto 4, 3) := by decide +kernel
theorem dX3_mapping_34 : decode cX3_mapping 34 = .ok (.iconst 1, 1) := by decide +kernel
theorem dX3_mapping_35 : decode cX3_mapping 35 = .ok (.ireturn, 1) := by decide +kernel
theorem dX3_read_0 : decode cX3_read 0 = .ok (.aload_n 0, 1) := by decide +kernel
theorem dX3_read_1 : decode cX3_read 1 = .ok (.iload_n 1, 1) := by decide +kernel
theorem dX3_read_2 : decode cX3_read 2 = .ok (.iload_n 2, 1) := by decide +kernel
theorem dX3_read_3 : decode cX3_read 3 = .ok (.invokevirtual 133, 3) := by decide +kernel
theorem dX3_read_6 : decode cX3_read 6 = .ok (.astore_n 3, 1) := by decide +kernel
theorem dX3_read_7 : decode cX3_read 7 = .ok (.aload_n 3, 1) := by decide +kernel
theorem dX3_read_8 : decode cX3_read 8 = .ok (.getfield 136, 3) := by decide +kernel
theorem dX3_read_11 : decode cX3_read 11 = .ok (.iconst (-1), 1) := by decide +kernel
theorem dX3_read_12 : decode cX3_read 12 = .ok (.if_icmp .ne 7, 3) := by decide +kernel
theorem dX3_read_15 : decode cX3_read 15 = .ok (.aload_n 0, 1) := by decide +kernel
theorem dX3_read_16 : decode cX3_read 16 = .ok (.invokevirtual 139, 3) := by decide +kernel
theorem dX3_read_19 : decode cX3_read 19 = .ok (.aload_n 0, 1) := by decide +kernel
theorem dX3_read_20 : decode cX3_read 20 = .ok (.dup, 1) := by decide +kernel
theorem dX3_read_21 : decode cX3_read 21 = .ok (.getfield 53, 3) := by decide +kernel
theorem dX3_read_24 : decode cX3_read 24 = .ok (.iconst 1, 1) := by decide +kernel
theorem dX3_read_25 : decode cX3_read 25 = .ok (.iadd, 1) := by decide +kernel
theorem dX3_read_26 : decode cX3_read 26 = .ok (.putfield 53, 3) := by decide +kernel
theorem dX3_read_29 : decode cX3_read 29 = .ok (.aload_n 0, 1) := by decide +kernel
theorem dX3_read_30 : decode cX3_read 30 = .ok (.aload_n 3, 1) := by decide +kernel
theorem dX3_read_31 : decode cX3_read 31 = .ok (.invokevirtual 142, 3) := by decide +kernel
theorem dX3_read_34 : decode cX3_read 34 = .ok (.aload_n 0, 1) := by decide +kernel
theorem dX3_read_35 : decode cX3_read 35 = .ok (.getfield 25, 3) := by decide +kernel
theorem dX3_read_38 : decode cX3_read 38 = .ok (.aload_n 3, 1) := by decide +kernel
theorem dX3_read_39 : decode cX3_read 39 = .ok (.getfield 136, 3) := by decide +kernel
theorem dX3_read_42 : decode cX3_read 42 = .ok (.aload_n 0, 1) := by decide +kernel
theorem dX3_read_43 : decode cX3_read 43 = .ok (.getfield 53, 3) := by decide +kernel
theorem dX3_read_46 : decode cX3_read 46 = .ok (.invokevirtual 146, 3) := by decide +kernel
theorem dX3_read_49 : decode cX3_read 49 = .ok (.aload_n 3, 1) := by decide +kernel
theorem dX3_read_50 : decode cX3_read 50 = .ok (.getfield 149, 3) := by decide +kernel
theorem dX3_read_53 : decode cX3_read 53 = .ok (.iload_n 2, 1) := by decide +kernel
theorem dX3_read_54 : decode cX3_read 54 = .ok (.iconst 4, 1) := by decide +kernel
theorem dX3_read_55 : decode cX3_read 55 = .ok (.irem, 1) := by decide +kernel
theorem dX3_read_56 : decode cX3_read 56 = .ok (.iaload, 1) := by decide +kernel
theorem dX3_read_57 : decode cX3_read 57 = .ok (.ireturn, 1) := by decide +kernel
theorem dX3_write_0 : decode cX3_write 0 = .ok (.aload_n 0, 1) := by decide +kernel
theorem dX3_write_1 : decode cX3_write 1 = .ok (.iload_n 1, 1) := by decide +kernel
theorem dX3_write_2 : decode cX3_write 2 = .ok (.iload_n 2, 1) := by decide +kernel
theorem dX3_write_3 : decode cX3_write 3 = .ok (.invokevirtual 133, 3) := by decide +kernel
theorem dX3_write_6 : decode cX3_write 6 = .ok (.astore 4, 2) := by decide +kernel
theorem dX3_write_8 : decode cX3_write 8 = .ok (.aload 4, 2) := by decide +kernel
theorem dX3_write_10 : decode cX3_write 10 = .ok (.getfield 129, 3) := by decide +kernel
theorem dX3_write_13 : decode cX3_write 13 = .ok (.ifCond .ne 16, 3) := by decide +kernel
theorem dX3_write_16 : decode cX3_write 16 = .ok (.aload 4, 2) := by decide +kernel
theorem dX3_write_18 : decode cX3_write 18 = .ok (.getfield 152, 3) := by decide +kernel
theorem dX3_write_21 : decode cX3_write 21 = .ok (.iconst 1, 1) := by decide +kernel
theorem dX3_write_22 : decode cX3_write 22 = .ok (.if_icmp .le 7, 3) := by decide +kernel
theorem dX3_write_25 : decode cX3_write 25 = .ok (.iconst 1, 1) := by decide +kernel
theorem dX3_write_26 : decode cX3_write 26 = .ok (.goto 4, 3) := by decide +kernel
theorem dX3_write_29 : decode cX3_write 29 = .ok (.iconst 0, 1) := by decide +kernel
theorem dX3_write_30 : decode cX3_write 30 = .ok (.istore 5, 2) := by decide +kernel
theorem dX3_write_32 : decode cX3_write 32 = .ok (.iload 5, 2) := by decide +kernel
theorem dX3_write_34 : decode cX3_write 34 = .ok (.ifCond .ne 12, 3) := by decide +kernel
theorem dX3_write_37 : decode cX3_write 37 = .ok (.aload 4, 2) := by decide +kernel
theorem dX3_write_39 : decode cX3_write 39 = .ok (.getfield 136, 3) := by decide +kernel
theorem dX3_write_42 : decode cX3_write 42 = .ok (.iconst (-1), 1) := by decide +kernel
theorem dX3_write_43 : decode cX3_write 43 = .ok (.if_icmp .ne 7, 3) := by decide +kernel
theorem dX3_write_46 : decode cX3_write 46 = .ok (.aload_n 0, 1) := by decide +kernel
theorem dX3_write_47 : decode cX3_write 47 = .ok (.invokevirtual 139, 3) := by decide +kernel
theorem dX3_write_50 : decode cX3_write 50 = .ok (.aload_n 0, 1) := by decide +kernel
theorem dX3_write_51 : decode cX3_write 51 = .ok (.dup, 1) := by decide +kernel
theorem dX3_write_52 : decode cX3_write 52 = .ok (.getfield 53, 3) := by decide +kernel
theorem dX3_write_55 : decode cX3_write 55 = .ok (.iconst 1, 1) := by decide +kernel
theorem dX3_write_56 : decode cX3_write 56 = .ok (.iadd, 1) := by decide +kernel
theorem dX3_write_57 : decode cX3_write 57 = .ok (.putfield 53, 3) := by decide +kernel
theorem dX3_write_60 : decode cX3_write 60 = .ok (.aload_n 0, 1) := by decide +kernel
theorem dX3_write_61 : decode cX3_write 61 = .ok (.aload 4, 2) := by decide +kernel
theorem dX3_write_63 : decode cX3_write 63 = .ok (.invokevirtual 142, 3) := by decide +kernel
theorem dX3_write_66 : decode cX3_write 66 = .ok (.iload 5, 2) := by decide +kernel
theorem dX3_write_68 : decode cX3_write 68 = .ok (.ifCond .eq 18, 3) := by decide +kernel
theorem dX3_write_71 : decode cX3_write 71 = .ok (.aload_n 0, 1) := by decide +kernel
theorem dX3_write_72 : decode cX3_write 72 = .ok (.iload_n 1, 1) := by decide +kernel
theorem dX3_write_73 : decode cX3_write 73 = .ok (.iload_n 2, 1) := by decide +kernel
theorem dX3_write_74 : decode cX3_write 74 = .ok (.iconst 4, 1) := by decide +kernel
theorem dX3_write_75 : decode cX3_write 75 = .ok (.idiv, 1) := by decide +kernel
theorem dX3_write_76 : decode cX3_write 76 = .ok (.invokestatic 93, 3) := by decide +kernel
theorem dX3_write_79 : decode cX3_write 79 = .ok (.aload 4, 2) := by decide +kernel
theorem dX3_write_81 : decode cX3_write 81 = .ok (.invokevirtual 155, 3) := by decide +kernel
theorem dX3_write_84 : decode cX3_write 84 = .ok (.astore 4, 2) := by decide +kernel
theorem dX3_write_86 : decode cX3_write 86 = .ok (.aload 4, 2) := by decide +kernel
theorem dX3_write_88 : decode cX3_write 88 = .ok (.getfield 149, 3) := by decide +kernel
theorem dX3_write_91 : decode cX3_write 91 = .ok (.iload_n 2, 1) := by decide +kernel
theorem dX3_write_92 : decode cX3_write 92 = .ok (.iconst 4, 1) := by decide +kernel
theorem dX3_write_93 : decode cX3_write 93 = .ok (.irem, 1) := by decide +kernel
theorem dX3_write_94 : decode cX3_write 94 = .ok (.iaload, 1) := by decide +kernel
theorem dX3_write_95 : decode cX3_write 95 = .ok (.istore 6, 2) := by decide +kernel
theorem dX3_write_97 : decode cX3_write 97 = .ok (.aload 4, 2) := by decide +kernel
theorem dX3_write_99 : decode cX3_write 99 = .ok (.getfield 149, 3) := by decide +kernel
theorem dX3_write_102 : decode cX3_write 102 = .ok (.iload_n 2, 1) := by decide +kernel
theorem dX3_write_103 : decode cX3_write 103 = .ok (.iconst 4, 1) := by decide +kernel
theorem dX3_write_104 : decode cX3_write 104 = .ok (.irem, 1) := by decide +kernel
theorem dX3_write_105 : decode cX3_write 105 = .ok (.iload_n 3, 1) := by decide +kernel
theorem dX3_write_106 : decode cX3_write 106 = .ok (.iastore, 1) := by decide +kernel
theorem dX3_write_107 : decode cX3_write 107 = .ok (.aload_n 0, 1) := by decide +kernel
theorem dX3_write_108 : decode cX3_write 108 = .ok (.getfield 32, 3) := by decide +kernel
theorem dX3_write_111 : decode cX3_write 111 = .ok (.aload 4, 2) := by decide +kernel
theorem dX3_write_113 : decode cX3_write 113 = .ok (.invokevirtual 159, 3) := by decide +kernel
theorem dX3_write_116 : decode cX3_write 116 = .ok (.aload 4, 2) := by decide +kernel
theorem dX3_write_118 : decode cX3_write 118 = .ok (.iconst 1, 1) := by decide +kernel
theorem dX3_write_119 : decode cX3_write 119 = .ok (.putfield 162, 3) := by decide +kernel
theorem dX3_write_122 : decode cX3_write 122 = .ok (.aload_n 0, 1) := by decide +kernel
theorem dX3_write_123 : decode cX3_write 123 = .ok (.getfield 25, 3) := by decide +kernel
theorem dX3_write_126 : decode cX3_write 126 = .ok (.aload 4, 2) := by decide +kernel
theorem dX3_write_128 : decode cX3_write 128 = .ok (.getfield 136, 3) := by decide +kernel
theorem dX3_write_131 : decode cX3_write 131 = .ok (.aload_n 0, 1) := by decide +kernel
theorem dX3_write_132 : decode cX3_write 132 = .ok (.getfield 53, 3) := by decide +kernel
theorem dX3_write_135 : decode cX3_write 135 = .ok (.invokevirtual 146, 3) := by decide +kernel
theorem dX3_write_138 : decode cX3_write 138 = .ok (.iload 6, 2) := by decide +kernel
theorem dX3_write_140 : decode cX3_write 140 = .ok (.ireturn, 1) := by decide +kernel
theorem dX3_sync_0 : decode cX3_sync 0 = .ok (.iconst 0, 1) := by decide +kernel
theorem dX3_sync_1 : decode cX3_sync 1 = .ok (.istore_n 1, 1) := by decide +kernel
theorem dX3_sync_2 : decode cX3_sync 2 = .ok (.iconst 0, 1) := by decide +kernel
theorem dX3_sync_3 : decode cX3_sync 3 = .ok (.istore_n 2, 1) := by decide +kernel
theorem dX3_sync_4 : decode cX3_sync 4 = .ok (.iload_n 2, 1) := by decide +kernel
theorem dX3_sync_5 : decode cX3_sync 5 = .ok (.aload_n 0, 1) := by decide +kernel
theorem dX3_sync_6 : decode cX3_sync 6 = .ok (.getfield 25, 3) := by decide +kernel
theorem dX3_sync_9 : decode cX3_sync 9 = .ok (.getfield 67, 3) := by decide +kernel
theorem dX3_sync_12 : decode cX3_sync 12 = .ok (.if_icmp .ge 38, 3) := by decide +kernel
theorem dX3_sync_15 : decode cX3_sync 15 = .ok (.aload_n 0, 1) := by decide +kernel
theorem dX3_sync_16 : decode cX3_sync 16 = .ok (.getfield 25, 3) := by decide +kernel
theorem dX3_sync_19 : decode cX3_sync 19 = .ok (.getfield 165, 3) := by decide +kernel
theorem dX3_sync_22 : decode cX3_sync 22 = .ok (.iload_n 2, 1) := by decide +kernel
theorem dX3_sync_23 : decode cX3_sync 23 = .ok (.aaload, 1) := by decide +kernel
theorem dX3_sync_24 : decode cX3_sync 24 = .ok (.astore_n 3, 1) := by decide +kernel
theorem dX3_sync_25 : decode cX3_sync 25 = .ok (.aload_n 3, 1) := by decide +kernel
theorem dX3_sync_26 : decode cX3_sync 26 = .ok (.ifnull 18, 3) := by decide +kernel
theorem dX3_sync_29 : decode cX3_sync 29 = .ok (.aload_n 3, 1) := by decide +kernel
theorem dX3_sync_30 : decode cX3_sync 30 = .ok (.getfield 162, 3) := by decide +kernel
theorem dX3_sync_33 : decode cX3_sync 33 = .ok (.ifCond .eq 11, 3) := by decide +kernel
theorem dX3_sync_36 : decode cX3_sync 36 = .ok (.iload_n 1, 1) := by decide +kernel
theorem dX3_sync_37 : decode cX3_sync 37 = .ok (.aload_n 0, 1) := by decide +kernel
theorem dX3_sync_38 : decode cX3_sync 38 = .ok (.aload_n 3, 1) := by decide +kernel
theorem dX3_sync_39 : decode cX3_sync 39 = .ok (.invokevirtual 168, 3) := by decide +kernel
theorem dX3_sync_42 : decode cX3_sync 42 = .ok (.iadd, 1) := by decide +kernel
theorem dX3_sync_43 : decode cX3_sync 43 = .ok (.istore_n 1, 1) := by decide +kernel
theorem dX3_sync_44 : decode cX3_sync 44 = .ok (.iinc 2 1, 3) := by decide +kernel
theorem dX3_sync_47 : decode cX3_sync 47 = .ok (.goto (-43), 3) := by decide +kernel
theorem dX3_sync_50 : decode cX3_sync 50 = .ok (.iload_n 1, 1) := by decide +kernel
theorem dX3_sync_51 : decode cX3_sync 51 = .ok (.ireturn, 1) := by decide +kernel
theorem dX3_time_0 : decode cX3_time 0 = .ok (.aload_n 0, 1) := by decide +kernel
theorem dX3_time_1 : decode cX3_time 1 = .ok (.getfield 53, 3) := by decide +kernel
theorem dX3_time_4 : decode cX3_time 4 = .ok (.ireturn, 1) := by decide +kernel
theorem dX3_hand_0 : decode cX3_hand 0 = .ok (.aload_n 0, 1) := by decide +kernel
theorem dX3_hand_1 : decode cX3_hand 1 = .ok (.getfield 25, 3) := by decide +kernel
theorem dX3_hand_4 : decode cX3_hand 4 = .ok (.getfield 75, 3) := by decide +kernel
theorem dX3_hand_7 : decode cX3_hand 7 = .ok (.ireturn, 1) := by decide +kernel
theorem dX3_frameOf_0 : decode cX3_frameOf 0 = .ok (.aload_n 0, 1) := by decide +kernel
theorem dX3_frameOf_1 : decode cX3_frameOf 1 = .ok (.iload_n 1, 1) := by decide +kernel
theorem dX3_frameOf_2 : decode cX3_frameOf 2 = .ok (.iload_n 2, 1) := by decide +kernel
theorem dX3_frameOf_3 : decode cX3_frameOf 3 = .ok (.invokevirtual 105, 3) := by decide +kernel
theorem dX3_frameOf_6 : decode cX3_frameOf 6 = .ok (.aload_n 0, 1) := by decide +kernel
theorem dX3_frameOf_7 : decode cX3_frameOf 7 = .ok (.getfield 11, 3) := by decide +kernel
theorem dX3_frameOf_10 : decode cX3_frameOf 10 = .ok (.iload_n 1, 1) := by decide +kernel
theorem dX3_frameOf_11 : decode cX3_frameOf 11 = .ok (.iload_n 2, 1) := by decide +kernel
theorem dX3_frameOf_12 : decode cX3_frameOf 12 = .ok (.invokestatic 93, 3) := by decide +kernel
theorem dX3_frameOf_15 : decode cX3_frameOf 15 = .ok (.aaload, 1) := by decide +kernel
theorem dX3_frameOf_16 : decode cX3_frameOf 16 = .ok (.astore_n 3, 1) := by decide +kernel
theorem dX3_frameOf_17 : decode cX3_frameOf 17 = .ok (.aload_n 3, 1) := by decide +kernel
theorem dX3_frameOf_18 : decode cX3_frameOf 18 = .ok (.ifnonnull 7, 3) := by decide +kernel
theorem dX3_frameOf_21 : decode cX3_frameOf 21 = .ok (.iconst (-1), 1) := by decide +kernel
theorem dX3_frameOf_22 : decode cX3_frameOf 22 = .ok (.goto 7, 3) := by decide +kernel
theorem dX3_frameOf_25 : decode cX3_frameOf 25 = .ok (.aload_n 3, 1) := by decide +kernel
theorem dX3_frameOf_26 : decode cX3_frameOf 26 = .ok (.getfield 136, 3) := by decide +kernel
theorem dX3_frameOf_29 : decode cX3_frameOf 29 = .ok (.ireturn, 1) := by decide +kernel
theorem dX3_slotOf_0 : decode cX3_slotOf 0 = .ok (.aload_n 0, 1) := by decide +kernel
theorem dX3_slotOf_1 : decode cX3_slotOf 1 = .ok (.iload_n 1, 1) := by decide +kernel
theorem dX3_slotOf_2 : decode cX3_slotOf 2 = .ok (.iload_n 2, 1) := by decide +kernel
theorem dX3_slotOf_3 : decode cX3_slotOf 3 = .ok (.invokevirtual 105, 3) := by decide +kernel
theorem dX3_slotOf_6 : decode cX3_slotOf 6 = .ok (.aload_n 0, 1) := by decide +kernel
theorem dX3_slotOf_7 : decode cX3_slotOf 7 = .ok (.getfield 11, 3) := by decide +kernel
theorem dX3_slotOf_10 : decode cX3_slotOf 10 = .ok (.iload_n 1, 1) := by decide +kernel
theorem dX3_slotOf_11 : decode cX3_slotOf 11 = .ok (.iload_n 2, 1) := by decide +kernel
theorem dX3_slotOf_12 : decode cX3_slotOf 12 = .ok (.invokestatic 93, 3) := by decide +kernel
theorem dX3_slotOf_15 : decode cX3_slotOf 15 = .ok (.aaload, 1) := by decide +kernel
theorem dX3_slotOf_16 : decode cX3_slotOf 16 = .ok (.astore_n 3, 1) := by decide +kernel
theorem dX3_slotOf_17 : decode cX3_slotOf 17 = .ok (.aload_n 3, 1) := by decide +kernel
theorem dX3_slotOf_18 : decode cX3_slotOf 18 = .ok (.ifnonnull 7, 3) := by decide +kernel
theorem dX3_slotOf_21 : decode cX3_slotOf 21 = .ok (.iconst (-1), 1) := by decide +kernel
theorem dX3_slotOf_22 : decode cX3_slotOf 22 = .ok (.goto 7, 3) := by decide +kernel
theorem dX3_slotOf_25 : decode cX3_slotOf 25 = .ok (.aload_n 3, 1) := by decide +kernel
theorem dX3_slotOf_26 : decode cX3_slotOf 26 = .ok (.getfield 172, 3) := by decide +kernel
theorem dX3_slotOf_29 : decode cX3_slotOf 29 = .ok (.ireturn, 1) := by decide +kernel
theorem dX3_sharersOf_0 : decode cX3_sharersOf 0 = .ok (.aload_n 0, 1) := by decide +kernel
theorem dX3_sharersOf_1 : decode cX3_sharersOf 1 = .ok (.iload_n 1, 1) := by decide +kernel
theorem dX3_sharersOf_2 : decode cX3_sharersOf 2 = .ok (.iload_n 2, 1) := by decide +kernel
theorem dX3_sharersOf_3 : decode cX3_sharersOf 3 = .ok (.invokevirtual 105, 3) := by decide +kernel
theorem dX3_sharersOf_6 : decode cX3_sharersOf 6 = .ok (.aload_n 0, 1) := by decide +kernel
theorem dX3_sharersOf_7 : decode cX3_sharersOf 7 = .ok (.getfield 11, 3) := by decide +kernel
theorem dX3_sharersOf_10 : decode cX3_sharersOf 10 = .ok (.iload_n 1, 1) := by decide +kernel
theorem dX3_sharersOf_11 : decode cX3_sharersOf 11 = .ok (.iload_n 2, 1) := by decide +kernel
theorem dX3_sharersOf_12 : decode cX3_sharersOf 12 = .ok (.invokestatic 93, 3) := by decide +kernel
theorem dX3_sharersOf_15 : decode cX3_sharersOf 15 = .ok (.aaload, 1) := by decide +kernel
theorem dX3_sharersOf_16 : decode cX3_sharersOf 16 = .ok (.astore_n 3, 1) := by decide +kernel
theorem dX3_sharersOf_17 : decode cX3_sharersOf 17 = .ok (.aload_n 3, 1) := by decide +kernel
theorem dX3_sharersOf_18 : decode cX3_sharersOf 18 = .ok (.ifnonnull 7, 3) := by decide +kernel
theorem dX3_sharersOf_21 : decode cX3_sharersOf 21 = .ok (.iconst 0, 1) := by decide +kernel
theorem dX3_sharersOf_22 : decode cX3_sharersOf 22 = .ok (.goto 7, 3) := by decide +kernel
theorem dX3_sharersOf_25 : decode cX3_sharersOf 25 = .ok (.aload_n 3, 1) := by decide +kernel
theorem dX3_sharersOf_26 : decode cX3_sharersOf 26 = .ok (.getfield 152, 3) := by decide +kernel
theorem dX3_sharersOf_29 : decode cX3_sharersOf 29 = .ok (.ireturn, 1) := by decide +kernel
theorem dX3_frameState_0 : decode cX3_frameState 0 = .ok (.aload_n 0, 1) := by decide +kernel
theorem dX3_frameState_1 : decode cX3_frameState 1 = .ok (.iload_n 1, 1) := by decide +kernel
theorem dX3_frameState_2 : decode cX3_frameState 2 = .ok (.invokevirtual 175, 3) := by decide +kernel
theorem dX3_frameState_5 : decode cX3_frameState 5 = .ok (.aload_n 0, 1) := by decide +kernel
theorem dX3_frameState_6 : decode cX3_frameState 6 = .ok (.getfield 25, 3) := by decide +kernel
theorem dX3_frameState_9 : decode cX3_frameState 9 = .ok (.getfield 165, 3) := by decide +kernel
theorem dX3_frameState_12 : decode cX3_frameState 12 = .ok (.iload_n 1, 1) := by decide +kernel
theorem dX3_frameState_13 : decode cX3_frameState 13 = .ok (.aaload, 1) := by decide +kernel
theorem dX3_frameState_14 : decode cX3_frameState 14 = .ok (.astore_n 2, 1) := by decide +kernel
theorem dX3_frameState_15 : decode cX3_frameState 15 = .ok (.aload_n 2, 1) := by decide +kernel
theorem dX3_frameState_16 : decode cX3_frameState 16 = .ok (.ifnonnull 5, 3) := by decide +kernel
theorem dX3_frameState_19 : decode cX3_frameState 19 = .ok (.iconst 0, 1) := by decide +kernel
theorem dX3_frameState_20 : decode cX3_frameState 20 = .ok (.ireturn, 1) := by decide +kernel
theorem dX3_frameState_21 : decode cX3_frameState 21 = .ok (.aload_n 2, 1) := by decide +kernel
theorem dX3_frameState_22 : decode cX3_frameState 22 = .ok (.getfield 162, 3) := by decide +kernel
theorem dX3_frameState_25 : decode cX3_frameState 25 = .ok (.ifCond .eq 7, 3) := by decide +kernel
theorem dX3_frameState_28 : decode cX3_frameState 28 = .ok (.iconst 2, 1) := by decide +kernel
theorem dX3_frameState_29 : decode cX3_frameState 29 = .ok (.goto 4, 3) := by decide +kernel
theorem dX3_frameState_32 : decode cX3_frameState 32 = .ok (.iconst 1, 1) := by decide +kernel
theorem dX3_frameState_33 : decode cX3_frameState 33 = .ok (.ireturn, 1) := by decide +kernel
theorem dX3_latestUse_0 : decode cX3_latestUse 0 = .ok (.aload_n 0, 1) := by decide +kernel
theorem dX3_latestUse_1 : decode cX3_latestUse 1 = .ok (.iload_n 1, 1) := by decide +kernel
theorem dX3_latestUse_2 : decode cX3_latestUse 2 = .ok (.invokevirtual 175, 3) := by decide +kernel
theorem dX3_latestUse_5 : decode cX3_latestUse 5 = .ok (.aload_n 0, 1) := by decide +kernel
theorem dX3_latestUse_6 : decode cX3_latestUse 6 = .ok (.getfield 25, 3) := by decide +kernel
theorem dX3_latestUse_9 : decode cX3_latestUse 9 = .ok (.getfield 178, 3) := by decide +kernel
theorem dX3_latestUse_12 : decode cX3_latestUse 12 = .ok (.iload_n 1, 1) := by decide +kernel
theorem dX3_latestUse_13 : decode cX3_latestUse 13 = .ok (.iaload, 1) := by decide +kernel
theorem dX3_latestUse_14 : decode cX3_latestUse 14 = .ok (.ireturn, 1) := by decide +kernel
theorem dX3_isReferenced_0 : decode cX3_isReferenced 0 = .ok (.aload_n 0, 1) := by decide +kernel
theorem dX3_isReferenced_1 : decode cX3_isReferenced 1 = .ok (.iload_n 1, 1) := by decide +kernel
theorem dX3_isReferenced_2 : decode cX3_isReferenced 2 = .ok (.invokevirtual 175, 3) := by decide +kernel
theorem dX3_isReferenced_5 : decode cX3_isReferenced 5 = .ok (.aload_n 0, 1) := by decide +kernel
theorem dX3_isReferenced_6 : decode cX3_isReferenced 6 = .ok (.getfield 25, 3) := by decide +kernel
theorem dX3_isReferenced_9 : decode cX3_isReferenced 9 = .ok (.getfield 181, 3) := by decide +kernel
theorem dX3_isReferenced_12 : decode cX3_isReferenced 12 = .ok (.iload_n 1, 1) := by decide +kernel
theorem dX3_isReferenced_13 : decode cX3_isReferenced 13 = .ok (.baload, 1) := by decide +kernel
theorem dX3_isReferenced_14 : decode cX3_isReferenced 14 = .ok (.ireturn, 1) := by decide +kernel
theorem dX3_freeFrames_0 : decode cX3_freeFrames 0 = .ok (.aload_n 0, 1) := by decide +kernel
theorem dX3_freeFrames_1 : decode cX3_freeFrames 1 = .ok (.getfield 25, 3) := by decide +kernel
theorem dX3_freeFrames_4 : decode cX3_freeFrames 4 = .ok (.invokevirtual 63, 3) := by decide +kernel
theorem dX3_freeFrames_7 : decode cX3_freeFrames 7 = .ok (.ireturn, 1) := by decide +kernel
theorem dX3_freeSlots_0 : decode cX3_freeSlots 0 = .ok (.aload_n 0, 1) := by decide +kernel
theorem dX3_freeSlots_1 : decode cX3_freeSlots 1 = .ok (.getfield 32, 3) := by decide +kernel
theorem dX3_freeSlots_4 : decode cX3_freeSlots 4 = .ok (.invokevirtual 184, 3) := by decide +kernel
theorem dX3_freeSlots_7 : decode cX3_freeSlots 7 = .ok (.ireturn, 1) := by decide +kernel
theorem dX3_workingSet_0 : decode cX3_workingSet 0 = .ok (.aload_n 0, 1) := by decide +kernel
theorem dX3_workingSet_1 : decode cX3_workingSet 1 = .ok (.iload_n 1, 1) := by decide +kernel
theorem dX3_workingSet_2 : decode cX3_workingSet 2 = .ok (.invokevirtual 86, 3) := by decide +kernel
theorem dX3_workingSet_5 : decode cX3_workingSet 5 = .ok (.iconst 0, 1) := by decide +kernel
theorem dX3_workingSet_6 : decode cX3_workingSet 6 = .ok (.istore_n 2, 1) := by decide +kernel
theorem dX3_workingSet_7 : decode cX3_workingSet 7 = .ok (.iconst 0, 1) := by decide +kernel
theorem dX3_workingSet_8 : decode cX3_workingSet 8 = .ok (.istore_n 3, 1) := by decide +kernel
theorem dX3_workingSet_9 : decode cX3_workingSet 9 = .ok (.iload_n 3, 1) := by decide +kernel
theorem dX3_workingSet_10 : decode cX3_workingSet 10 = .ok (.bipush 16, 2) := by decide +kernel
theorem dX3_workingSet_12 : decode cX3_workingSet 12 = .ok (.if_icmp .ge 50, 3) := by decide +kernel
theorem dX3_workingSet_15 : decode cX3_workingSet 15 = .ok (.aload_n 0, 1) := by decide +kernel
theorem dX3_workingSet_16 : decode cX3_workingSet 16 = .ok (.getfield 11, 3) := by decide +kernel
theorem dX3_workingSet_19 : decode cX3_workingSet 19 = .ok (.iload_n 1, 1) := by decide +kernel
theorem dX3_workingSet_20 : decode cX3_workingSet 20 = .ok (.iload_n 3, 1) := by decide +kernel
theorem dX3_workingSet_21 : decode cX3_workingSet 21 = .ok (.invokestatic 93, 3) := by decide +kernel
theorem dX3_workingSet_24 : decode cX3_workingSet 24 = .ok (.aaload, 1) := by decide +kernel
theorem dX3_workingSet_25 : decode cX3_workingSet 25 = .ok (.astore 4, 2) := by decide +kernel
theorem dX3_workingSet_27 : decode cX3_workingSet 27 = .ok (.aload 4, 2) := by decide +kernel
theorem dX3_workingSet_29 : decode cX3_workingSet 29 = .ok (.ifnull 27, 3) := by decide +kernel
theorem dX3_workingSet_32 : decode cX3_workingSet 32 = .ok (.aload 4, 2) := by decide +kernel
theorem dX3_workingSet_34 : decode cX3_workingSet 34 = .ok (.getfield 136, 3) := by decide +kernel
theorem dX3_workingSet_37 : decode cX3_workingSet 37 = .ok (.iconst (-1), 1) := by decide +kernel
theorem dX3_workingSet_38 : decode cX3_workingSet 38 = .ok (.if_icmp .eq 18, 3) := by decide +kernel
theorem dX3_workingSet_41 : decode cX3_workingSet 41 = .ok (.aload_n 0, 1) := by decide +kernel
theorem dX3_workingSet_42 : decode cX3_workingSet 42 = .ok (.aload 4, 2) := by decide +kernel
theorem dX3_workingSet_44 : decode cX3_workingSet 44 = .ok (.getfield 136, 3) := by decide +kernel
theorem dX3_workingSet_47 : decode cX3_workingSet 47 = .ok (.invokevirtual 185, 3) := by decide +kernel
theorem dX3_workingSet_50 : decode cX3_workingSet 50 = .ok (.ifCond .ne 6, 3) := by decide +kernel
theorem dX3_workingSet_53 : decode cX3_workingSet 53 = .ok (.iinc 2 1, 3) := by decide +kernel
theorem dX3_workingSet_56 : decode cX3_workingSet 56 = .ok (.iinc 3 1, 3) := by decide +kernel
theorem dX3_workingSet_59 : decode cX3_workingSet 59 = .ok (.goto (-50), 3) := by decide +kernel
theorem dX3_workingSet_62 : decode cX3_workingSet 62 = .ok (.iload_n 2, 1) := by decide +kernel
theorem dX3_workingSet_63 : decode cX3_workingSet 63 = .ok (.ireturn, 1) := by decide +kernel
theorem dX3_count_0 : decode cX3_count 0 = .ok (.iload_n 1, 1) := by decide +kernel
theorem dX3_count_1 : decode cX3_count 1 = .ok (.ifCond .lt 9, 3) := by decide +kernel
theorem dX3_count_4 : decode cX3_count 4 = .ok (.iload_n 1, 1) := by decide +kernel
theorem dX3_count_5 : decode cX3_count 5 = .ok (.bipush 6, 2) := by decide +kernel
theorem dX3_count_7 : decode cX3_count 7 = .ok (.if_icmp .lt 13, 3) := by decide +kernel
theorem dX3_count_10 : decode cX3_count 10 = .ok (.new 188, 3) := by decide +kernel
theorem dX3_count_13 : decode cX3_count 13 = .ok (.dup, 1) := by decide +kernel
theorem dX3_count_14 : decode cX3_count 14 = .ok (.ldc 190, 2) := by decide +kernel
theorem dX3_count_16 : decode cX3_count 16 = .ok (.invokespecial 192, 3) := by decide +kernel
theorem dX3_count_19 : decode cX3_count 19 = .ok (.athrow, 1) := by decide +kernel
theorem dX3_count_20 : decode cX3_count 20 = .ok (.aload_n 0, 1) := by decide +kernel
theorem dX3_count_21 : decode cX3_count 21 = .ok (.getfield 39, 3) := by decide +kernel
theorem dX3_count_24 : decode cX3_count 24 = .ok (.iload_n 1, 1) := by decide +kernel
theorem dX3_count_25 : decode cX3_count 25 = .ok (.iaload, 1) := by decide +kernel
theorem dX3_count_26 : decode cX3_count 26 = .ok (.ireturn, 1) := by decide +kernel
theorem dX3_swapRate_0 : decode cX3_swapRate 0 = .ok (.aload_n 0, 1) := by decide +kernel
theorem dX3_swapRate_1 : decode cX3_swapRate 1 = .ok (.getfield 53, 3) := by decide +kernel
theorem dX3_swapRate_4 : decode cX3_swapRate 4 = .ok (.ifCond .ne 5, 3) := by decide +kernel
theorem dX3_swapRate_7 : decode cX3_swapRate 7 = .ok (.dconst 0, 1) := by decide +kernel
theorem dX3_swapRate_8 : decode cX3_swapRate 8 = .ok (.dreturn, 1) := by decide +kernel
theorem dX3_swapRate_9 : decode cX3_swapRate 9 = .ok (.aload_n 0, 1) := by decide +kernel
theorem dX3_swapRate_10 : decode cX3_swapRate 10 = .ok (.getfield 39, 3) := by decide +kernel
theorem dX3_swapRate_13 : decode cX3_swapRate 13 = .ok (.iconst 1, 1) := by decide +kernel
theorem dX3_swapRate_14 : decode cX3_swapRate 14 = .ok (.iaload, 1) := by decide +kernel
theorem dX3_swapRate_15 : decode cX3_swapRate 15 = .ok (.i2d, 1) := by decide +kernel
theorem dX3_swapRate_16 : decode cX3_swapRate 16 = .ok (.aload_n 0, 1) := by decide +kernel
theorem dX3_swapRate_17 : decode cX3_swapRate 17 = .ok (.getfield 53, 3) := by decide +kernel
theorem dX3_swapRate_20 : decode cX3_swapRate 20 = .ok (.i2d, 1) := by decide +kernel
theorem dX3_swapRate_21 : decode cX3_swapRate 21 = .ok (.ddiv, 1) := by decide +kernel
theorem dX3_swapRate_22 : decode cX3_swapRate 22 = .ok (.dreturn, 1) := by decide +kernel
theorem dX3_digest_0 : decode cX3_digest 0 = .ok (.ldc2_w 193, 3) := by decide +kernel
theorem dX3_digest_3 : decode cX3_digest 3 = .ok (.lstore_n 1, 1) := by decide +kernel
theorem dX3_digest_4 : decode cX3_digest 4 = .ok (.lload_n 1, 1) := by decide +kernel
theorem dX3_digest_5 : decode cX3_digest 5 = .ok (.aload_n 0, 1) := by decide +kernel
theorem dX3_digest_6 : decode cX3_digest 6 = .ok (.getfield 53, 3) := by decide +kernel
theorem dX3_digest_9 : decode cX3_digest 9 = .ok (.i2l, 1) := by decide +kernel
theorem dX3_digest_10 : decode cX3_digest 10 = .ok (.invokestatic 195, 3) := by decide +kernel
theorem dX3_digest_13 : decode cX3_digest 13 = .ok (.lstore_n 1, 1) := by decide +kernel
theorem dX3_digest_14 : decode cX3_digest 14 = .ok (.lload_n 1, 1) := by decide +kernel
theorem dX3_digest_15 : decode cX3_digest 15 = .ok (.aload_n 0, 1) := by decide +kernel
theorem dX3_digest_16 : decode cX3_digest 16 = .ok (.getfield 25, 3) := by decide +kernel
theorem dX3_digest_19 : decode cX3_digest 19 = .ok (.getfield 75, 3) := by decide +kernel
theorem dX3_digest_22 : decode cX3_digest 22 = .ok (.i2l, 1) := by decide +kernel
theorem dX3_digest_23 : decode cX3_digest 23 = .ok (.invokestatic 195, 3) := by decide +kernel
theorem dX3_digest_26 : decode cX3_digest 26 = .ok (.lstore_n 1, 1) := by decide +kernel
theorem dX3_digest_27 : decode cX3_digest 27 = .ok (.lload_n 1, 1) := by decide +kernel
theorem dX3_digest_28 : decode cX3_digest 28 = .ok (.aload_n 0, 1) := by decide +kernel
theorem dX3_digest_29 : decode cX3_digest 29 = .ok (.getfield 43, 3) := by decide +kernel
theorem dX3_digest_32 : decode cX3_digest 32 = .ok (.i2l, 1) := by decide +kernel
theorem dX3_digest_33 : decode cX3_digest 33 = .ok (.invokestatic 195, 3) := by decide +kernel
theorem dX3_digest_36 : decode cX3_digest 36 = .ok (.lstore_n 1, 1) := by decide +kernel
theorem dX3_digest_37 : decode cX3_digest 37 = .ok (.iconst 0, 1) := by decide +kernel
theorem dX3_digest_38 : decode cX3_digest 38 = .ok (.istore_n 3, 1) := by decide +kernel
theorem dX3_digest_39 : decode cX3_digest 39 = .ok (.iload_n 3, 1) := by decide +kernel
theorem dX3_digest_40 : decode cX3_digest 40 = .ok (.aload_n 0, 1) := by decide +kernel
theorem dX3_digest_41 : decode cX3_digest 41 = .ok (.getfield 43, 3) := by decide +kernel
theorem dX3_digest_44 : decode cX3_digest 44 = .ok (.if_icmp .ge 83, 3) := by decide +kernel
theorem dX3_digest_47 : decode cX3_digest 47 = .ok (.lload_n 1, 1) := by decide +kernel
theorem dX3_digest_48 : decode cX3_digest 48 = .ok (.aload_n 0, 1) := by decide +kernel
theorem dX3_digest_49 : decode cX3_digest 49 = .ok (.getfield 15, 3) := by decide +kernel
theorem dX3_digest_52 : decode cX3_digest 52 = .ok (.iload_n 3, 1) := by decide +kernel
theorem dX3_digest_53 : decode cX3_digest 53 = .ok (.baload, 1) := by decide +kernel
theorem dX3_digest_54 : decode cX3_digest 54 = .ok (.ifCond .eq 7, 3) := by decide +kernel
theorem dX3_digest_57 : decode cX3_digest 57 = .ok (.lconst 1, 1) := by decide +kernel
theorem dX3_digest_58 : decode cX3_digest 58 = .ok (.goto 4, 3) := by decide +kernel
theorem dX3_digest_61 : decode cX3_digest 61 = .ok (.lconst 0, 1) := by decide +kernel
theorem dX3_digest_62 : decode cX3_digest 62 = .ok (.invokestatic 195, 3) := by decide +kernel
theorem dX3_digest_65 : decode cX3_digest 65 = .ok (.lstore_n 1, 1) := by decide +kernel
theorem dX3_digest_66 : decode cX3_digest 66 = .ok (.iconst 0, 1) := by decide +kernel
theorem dX3_digest_67 : decode cX3_digest 67 = .ok (.istore 4, 2) := by decide +kernel
theorem dX3_digest_69 : decode cX3_digest 69 = .ok (.iload 4, 2) := by decide +kernel
theorem dX3_digest_71 : decode cX3_digest 71 = .ok (.bipush 16, 2) := by decide +kernel
theorem dX3_digest_73 : decode cX3_digest 73 = .ok (.if_icmp .ge 48, 3) := by decide +kernel
theorem dX3_digest_76 : decode cX3_digest 76 = .ok (.lload_n 1, 1) := by decide +kernel
theorem dX3_digest_77 : decode cX3_digest 77 = .ok (.aload_n 0, 1) := by decide +kernel
theorem dX3_digest_78 : decode cX3_digest 78 = .ok (.iload_n 3, 1) := by decide +kernel
theorem dX3_digest_79 : decode cX3_digest 79 = .ok (.iload 4, 2) := by decide +kernel
theorem dX3_digest_81 : decode cX3_digest 81 = .ok (.invokevirtual 199, 3) := by decide +kernel
theorem dX3_digest_84 : decode cX3_digest 84 = .ok (.i2l, 1) := by decide +kernel
theorem dX3_digest_85 : decode cX3_digest 85 = .ok (.invokestatic 195, 3) := by decide +kernel
theorem dX3_digest_88 : decode cX3_digest 88 = .ok (.lstore_n 1, 1) := by decide +kernel
theorem dX3_digest_89 : decode cX3_digest 89 = .ok (.lload_n 1, 1) := by decide +kernel
theorem dX3_digest_90 : decode cX3_digest 90 = .ok (.aload_n 0, 1) := by decide +kernel
theorem dX3_digest_91 : decode cX3_digest 91 = .ok (.iload_n 3, 1) := by decide +kernel
theorem dX3_digest_92 : decode cX3_digest 92 = .ok (.iload 4, 2) := by decide +kernel
theorem dX3_digest_94 : decode cX3_digest 94 = .ok (.invokevirtual 202, 3) := by decide +kernel
theorem dX3_digest_97 : decode cX3_digest 97 = .ok (.i2l, 1) := by decide +kernel
theorem dX3_digest_98 : decode cX3_digest 98 = .ok (.invokestatic 195, 3) := by decide +kernel
theorem dX3_digest_101 : decode cX3_digest 101 = .ok (.lstore_n 1, 1) := by decide +kernel
theorem dX3_digest_102 : decode cX3_digest 102 = .ok (.lload_n 1, 1) := by decide +kernel
theorem dX3_digest_103 : decode cX3_digest 103 = .ok (.aload_n 0, 1) := by decide +kernel
theorem dX3_digest_104 : decode cX3_digest 104 = .ok (.iload_n 3, 1) := by decide +kernel
theorem dX3_digest_105 : decode cX3_digest 105 = .ok (.iload 4, 2) := by decide +kernel
theorem dX3_digest_107 : decode cX3_digest 107 = .ok (.invokevirtual 205, 3) := by decide +kernel
theorem dX3_digest_110 : decode cX3_digest 110 = .ok (.i2l, 1) := by decide +kernel
theorem dX3_digest_111 : decode cX3_digest 111 = .ok (.invokestatic 195, 3) := by decide +kernel
theorem dX3_digest_114 : decode cX3_digest 114 = .ok (.lstore_n 1, 1) := by decide +kernel
theorem dX3_digest_115 : decode cX3_digest 115 = .ok (.iinc 4 1, 3) := by decide +kernel
theorem dX3_digest_118 : decode cX3_digest 118 = .ok (.goto (-49), 3) := by decide +kernel
theorem dX3_digest_121 : decode cX3_digest 121 = .ok (.iinc 3 1, 3) := by decide +kernel
theorem dX3_digest_124 : decode cX3_digest 124 = .ok (.goto (-85), 3) := by decide +kernel
theorem dX3_digest_127 : decode cX3_digest 127 = .ok (.iconst 0, 1) := by decide +kernel
theorem dX3_digest_128 : decode cX3_digest 128 = .ok (.istore_n 3, 1) := by decide +kernel
theorem dX3_digest_129 : decode cX3_digest 129 = .ok (.iload_n 3, 1) := by decide +kernel
theorem dX3_digest_130 : decode cX3_digest 130 = .ok (.aload_n 0, 1) := by decide +kernel
theorem dX3_digest_131 : decode cX3_digest 131 = .ok (.getfield 25, 3) := by decide +kernel
theorem dX3_digest_134 : decode cX3_digest 134 = .ok (.getfield 67, 3) := by decide +kernel
theorem dX3_digest_137 : decode cX3_digest 137 = .ok (.if_icmp .ge 49, 3) := by decide +kernel
theorem dX3_digest_140 : decode cX3_digest 140 = .ok (.lload_n 1, 1) := by decide +kernel
theorem dX3_digest_141 : decode cX3_digest 141 = .ok (.aload_n 0, 1) := by decide +kernel
theorem dX3_digest_142 : decode cX3_digest 142 = .ok (.iload_n 3, 1) := by decide +kernel
theorem dX3_digest_143 : decode cX3_digest 143 = .ok (.invokevirtual 208, 3) := by decide +kernel
theorem dX3_digest_146 : decode cX3_digest 146 = .ok (.i2l, 1) := by decide +kernel
theorem dX3_digest_147 : decode cX3_digest 147 = .ok (.invokestatic 195, 3) := by decide +kernel
theorem dX3_digest_150 : decode cX3_digest 150 = .ok (.lstore_n 1, 1) := by decide +kernel
theorem dX3_digest_151 : decode cX3_digest 151 = .ok (.lload_n 1, 1) := by decide +kernel
theorem dX3_digest_152 : decode cX3_digest 152 = .ok (.aload_n 0, 1) := by decide +kernel
theorem dX3_digest_153 : decode cX3_digest 153 = .ok (.iload_n 3, 1) := by decide +kernel
theorem dX3_digest_154 : decode cX3_digest 154 = .ok (.invokevirtual 211, 3) := by decide +kernel
theorem dX3_digest_157 : decode cX3_digest 157 = .ok (.i2l, 1) := by decide +kernel
theorem dX3_digest_158 : decode cX3_digest 158 = .ok (.invokestatic 195, 3) := by decide +kernel
theorem dX3_digest_161 : decode cX3_digest 161 = .ok (.lstore_n 1, 1) := by decide +kernel
theorem dX3_digest_162 : decode cX3_digest 162 = .ok (.lload_n 1, 1) := by decide +kernel
theorem dX3_digest_163 : decode cX3_digest 163 = .ok (.aload_n 0, 1) := by decide +kernel
theorem dX3_digest_164 : decode cX3_digest 164 = .ok (.iload_n 3, 1) := by decide +kernel
theorem dX3_digest_165 : decode cX3_digest 165 = .ok (.invokevirtual 214, 3) := by decide +kernel
theorem dX3_digest_168 : decode cX3_digest 168 = .ok (.ifCond .eq 7, 3) := by decide +kernel
theorem dX3_digest_171 : decode cX3_digest 171 = .ok (.lconst 1, 1) := by decide +kernel
theorem dX3_digest_172 : decode cX3_digest 172 = .ok (.goto 4, 3) := by decide +kernel
theorem dX3_digest_175 : decode cX3_digest 175 = .ok (.lconst 0, 1) := by decide +kernel
theorem dX3_digest_176 : decode cX3_digest 176 = .ok (.invokestatic 195, 3) := by decide +kernel
theorem dX3_digest_179 : decode cX3_digest 179 = .ok (.lstore_n 1, 1) := by decide +kernel
theorem dX3_digest_180 : decode cX3_digest 180 = .ok (.iinc 3 1, 3) := by decide +kernel
theorem dX3_digest_183 : decode cX3_digest 183 = .ok (.goto (-54), 3) := by decide +kernel
theorem dX3_digest_186 : decode cX3_digest 186 = .ok (.lload_n 1, 1) := by decide +kernel
theorem dX3_digest_187 : decode cX3_digest 187 = .ok (.aload_n 0, 1) := by decide +kernel
theorem dX3_digest_188 : decode cX3_digest 188 = .ok (.getfield 32, 3) := by decide +kernel
theorem dX3_digest_191 : decode cX3_digest 191 = .ok (.invokevirtual 184, 3) := by decide +kernel
theorem dX3_digest_194 : decode cX3_digest 194 = .ok (.i2l, 1) := by decide +kernel
theorem dX3_digest_195 : decode cX3_digest 195 = .ok (.invokestatic 195, 3) := by decide +kernel
theorem dX3_digest_198 : decode cX3_digest 198 = .ok (.lstore_n 1, 1) := by decide +kernel
theorem dX3_digest_199 : decode cX3_digest 199 = .ok (.iconst 0, 1) := by decide +kernel
theorem dX3_digest_200 : decode cX3_digest 200 = .ok (.istore_n 3, 1) := by decide +kernel
theorem dX3_digest_201 : decode cX3_digest 201 = .ok (.iload_n 3, 1) := by decide +kernel
theorem dX3_digest_202 : decode cX3_digest 202 = .ok (.bipush 6, 2) := by decide +kernel
theorem dX3_digest_204 : decode cX3_digest 204 = .ok (.if_icmp .ge 21, 3) := by decide +kernel
theorem dX3_digest_207 : decode cX3_digest 207 = .ok (.lload_n 1, 1) := by decide +kernel
theorem dX3_digest_208 : decode cX3_digest 208 = .ok (.aload_n 0, 1) := by decide +kernel
theorem dX3_digest_209 : decode cX3_digest 209 = .ok (.getfield 39, 3) := by decide +kernel
theorem dX3_digest_212 : decode cX3_digest 212 = .ok (.iload_n 3, 1) := by decide +kernel
theorem dX3_digest_213 : decode cX3_digest 213 = .ok (.iaload, 1) := by decide +kernel
theorem dX3_digest_214 : decode cX3_digest 214 = .ok (.i2l, 1) := by decide +kernel
theorem dX3_digest_215 : decode cX3_digest 215 = .ok (.invokestatic 195, 3) := by decide +kernel
theorem dX3_digest_218 : decode cX3_digest 218 = .ok (.lstore_n 1, 1) := by decide +kernel
theorem dX3_digest_219 : decode cX3_digest 219 = .ok (.iinc 3 1, 3) := by decide +kernel
theorem dX3_digest_222 : decode cX3_digest 222 = .ok (.goto (-21), 3) := by decide +kernel
theorem dX3_digest_225 : decode cX3_digest 225 = .ok (.lload_n 1, 1) := by decide +kernel
theorem dX3_digest_226 : decode cX3_digest 226 = .ok (.lreturn, 1) := by decide +kernel
theorem dX3_mix_0 : decode cX3_mix 0 = .ok (.lload_n 0, 1) := by decide +kernel
theorem dX3_mix_1 : decode cX3_mix 1 = .ok (.ldc2_w 217, 3) := by decide +kernel
theorem dX3_mix_4 : decode cX3_mix 4 = .ok (.lmul, 1) := by decide +kernel
theorem dX3_mix_5 : decode cX3_mix 5 = .ok (.lload_n 2, 1) := by decide +kernel
theorem dX3_mix_6 : decode cX3_mix 6 = .ok (.ladd, 1) := by decide +kernel
theorem dX3_mix_7 : decode cX3_mix 7 = .ok (.lreturn, 1) := by decide +kernel
theorem dX3_requireProcess_0 : decode cX3_requireProcess 0 = .ok (.iload_n 1, 1) := by decide +kernel
theorem dX3_requireProcess_1 : decode cX3_requireProcess 1 = .ok (.ifCond .lt 11, 3) := by decide +kernel
theorem dX3_requireProcess_4 : decode cX3_requireProcess 4 = .ok (.iload_n 1, 1) := by decide +kernel
theorem dX3_requireProcess_5 : decode cX3_requireProcess 5 = .ok (.aload_n 0, 1) := by decide +kernel
theorem dX3_requireProcess_6 : decode cX3_requireProcess 6 = .ok (.getfield 43, 3) := by decide +kernel
theorem dX3_requireProcess_9 : decode cX3_requireProcess 9 = .ok (.if_icmp .lt 13, 3) := by decide +kernel
theorem dX3_requireProcess_12 : decode cX3_requireProcess 12 = .ok (.new 188, 3) := by decide +kernel
theorem dX3_requireProcess_15 : decode cX3_requireProcess 15 = .ok (.dup, 1) := by decide +kernel
theorem dX3_requireProcess_16 : decode cX3_requireProcess 16 = .ok (.ldc 219, 2) := by decide +kernel
theorem dX3_requireProcess_18 : decode cX3_requireProcess 18 = .ok (.invokespecial 192, 3) := by decide +kernel
theorem dX3_requireProcess_21 : decode cX3_requireProcess 21 = .ok (.athrow, 1) := by decide +kernel
theorem dX3_requireProcess_22 : decode cX3_requireProcess 22 = .ok (.return_, 1) := by decide +kernel
theorem dX3_requirePage_0 : decode cX3_requirePage 0 = .ok (.aload_n 0, 1) := by decide +kernel
theorem dX3_requirePage_1 : decode cX3_requirePage 1 = .ok (.iload_n 1, 1) := by decide +kernel
theorem dX3_requirePage_2 : decode cX3_requirePage 2 = .ok (.invokevirtual 86, 3) := by decide +kernel
theorem dX3_requirePage_5 : decode cX3_requirePage 5 = .ok (.iload_n 2, 1) := by decide +kernel
theorem dX3_requirePage_6 : decode cX3_requirePage 6 = .ok (.ifCond .lt 9, 3) := by decide +kernel
theorem dX3_requirePage_9 : decode cX3_requirePage 9 = .ok (.iload_n 2, 1) := by decide +kernel
theorem dX3_requirePage_10 : decode cX3_requirePage 10 = .ok (.bipush 16, 2) := by decide +kernel
theorem dX3_requirePage_12 : decode cX3_requirePage 12 = .ok (.if_icmp .lt 13, 3) := by decide +kernel
theorem dX3_requirePage_15 : decode cX3_requirePage 15 = .ok (.new 188, 3) := by decide +kernel
theorem dX3_requirePage_18 : decode cX3_requirePage 18 = .ok (.dup, 1) := by decide +kernel
theorem dX3_requirePage_19 : decode cX3_requirePage 19 = .ok (.ldc 221, 2) := by decide +kernel
theorem dX3_requirePage_21 : decode cX3_requirePage 21 = .ok (.invokespecial 192, 3) := by decide +kernel
theorem dX3_requirePage_24 : decode cX3_requirePage 24 = .ok (.athrow, 1) := by decide +kernel
theorem dX3_requirePage_25 : decode cX3_requirePage 25 = .ok (.return_, 1) := by decide +kernel
theorem dX3_requireFrame_0 : decode cX3_requireFrame 0 = .ok (.iload_n 1, 1) := by decide +kernel
theorem dX3_requireFrame_1 : decode cX3_requireFrame 1 = .ok (.ifCond .lt 14, 3) := by decide +kernel
theorem dX3_requireFrame_4 : decode cX3_requireFrame 4 = .ok (.iload_n 1, 1) := by decide +kernel
theorem dX3_requireFrame_5 : decode cX3_requireFrame 5 = .ok (.aload_n 0, 1) := by decide +kernel
theorem dX3_requireFrame_6 : decode cX3_requireFrame 6 = .ok (.getfield 25, 3) := by decide +kernel
theorem dX3_requireFrame_9 : decode cX3_requireFrame 9 = .ok (.getfield 67, 3) := by decide +kernel
theorem dX3_requireFrame_12 : decode cX3_requireFrame 12 = .ok (.if_icmp .lt 13, 3) := by decide +kernel
theorem dX3_requireFrame_15 : decode cX3_requireFrame 15 = .ok (.new 188, 3) := by decide +kernel
theorem dX3_requireFrame_18 : decode cX3_requireFrame 18 = .ok (.dup, 1) := by decide +kernel
theorem dX3_requireFrame_19 : decode cX3_requireFrame 19 = .ok (.ldc 223, 2) := by decide +kernel
theorem dX3_requireFrame_21 : decode cX3_requireFrame 21 = .ok (.invokespecial 192, 3) := by decide +kernel
theorem dX3_requireFrame_24 : decode cX3_requireFrame 24 = .ok (.athrow, 1) := by decide +kernel
theorem dX3_requireFrame_25 : decode cX3_requireFrame 25 = .ok (.return_, 1) := by decide +kernel
theorem dX3_requireLive_0 : decode cX3_requireLive 0 = .ok (.aload_n 0, 1) := by decide +kernel
theorem dX3_requireLive_1 : decode cX3_requireLive 1 = .ok (.getfield 15, 3) := by decide +kernel
theorem dX3_requireLive_4 : decode cX3_requireLive 4 = .ok (.iload_n 1, 1) := by decide +kernel
theorem dX3_requireLive_5 : decode cX3_requireLive 5 = .ok (.baload, 1) := by decide +kernel
theorem dX3_requireLive_6 : decode cX3_requireLive 6 = .ok (.ifCond .ne 13, 3) := by decide +kernel
theorem dX3_requireLive_9 : decode cX3_requireLive 9 = .ok (.new 225, 3) := by decide +kernel
theorem dX3_requireLive_12 : decode cX3_requireLive 12 = .ok (.dup, 1) := by decide +kernel
theorem dX3_requireLive_13 : decode cX3_requireLive 13 = .ok (.ldc 227, 2) := by decide +kernel
theorem dX3_requireLive_15 : decode cX3_requireLive 15 = .ok (.invokespecial 229, 3) := by decide +kernel
theorem dX3_requireLive_18 : decode cX3_requireLive 18 = .ok (.athrow, 1) := by decide +kernel
theorem dX3_requireLive_19 : decode cX3_requireLive 19 = .ok (.return_, 1) := by decide +kernel
theorem dX3_requireRoomForProcess_0 : decode cX3_requireRoomForProcess 0 = .ok (.aload_n 0, 1) := by decide +kernel
theorem dX3_requireRoomForProcess_1 : decode cX3_requireRoomForProcess 1 = .ok (.getfield 43, 3) := by decide +kernel
theorem dX3_requireRoomForProcess_4 : decode cX3_requireRoomForProcess 4 = .ok (.bipush 10, 2) := by decide +kernel
theorem dX3_requireRoomForProcess_6 : decode cX3_requireRoomForProcess 6 = .ok (.if_icmp .lt 13, 3) := by decide +kernel
theorem dX3_requireRoomForProcess_9 : decode cX3_requireRoomForProcess 9 = .ok (.new 70, 3) := by decide +kernel
theorem dX3_requireRoomForProcess_12 : decode cX3_requireRoomForProcess 12 = .ok (.dup, 1) := by decide +kernel
theorem dX3_requireRoomForProcess_13 : decode cX3_requireRoomForProcess 13 = .ok (.ldc 230, 2) := by decide +kernel
theorem dX3_requireRoomForProcess_15 : decode cX3_requireRoomForProcess 15 = .ok (.invokespecial 74, 3) := by decide +kernel
theorem dX3_requireRoomForProcess_18 : decode cX3_requireRoomForProcess 18 = .ok (.athrow, 1) := by decide +kernel
theorem dX3_requireRoomForProcess_19 : decode cX3_requireRoomForProcess 19 = .ok (.return_, 1) := by decide +kernel
theorem dX3_requireUnmapped_0 : decode cX3_requireUnmapped 0 = .ok (.aload_n 0, 1) := by decide +kernel
theorem dX3_requireUnmapped_1 : decode cX3_requireUnmapped 1 = .ok (.getfield 11, 3) := by decide +kernel
theorem dX3_requireUnmapped_4 : decode cX3_requireUnmapped 4 = .ok (.iload_n 1, 1) := by decide +kernel
theorem dX3_requireUnmapped_5 : decode cX3_requireUnmapped 5 = .ok (.iload_n 2, 1) := by decide +kernel
theorem dX3_requireUnmapped_6 : decode cX3_requireUnmapped 6 = .ok (.invokestatic 93, 3) := by decide +kernel
theorem dX3_requireUnmapped_9 : decode cX3_requireUnmapped 9 = .ok (.aaload, 1) := by decide +kernel
theorem dX3_requireUnmapped_10 : decode cX3_requireUnmapped 10 = .ok (.ifnull 13, 3) := by decide +kernel
theorem dX3_requireUnmapped_13 : decode cX3_requireUnmapped 13 = .ok (.new 56, 3) := by decide +kernel
theorem dX3_requireUnmapped_16 : decode cX3_requireUnmapped 16 = .ok (.dup, 1) := by decide +kernel
theorem dX3_requireUnmapped_17 : decode cX3_requireUnmapped 17 = .ok (.ldc 232, 2) := by decide +kernel
theorem dX3_requireUnmapped_19 : decode cX3_requireUnmapped 19 = .ok (.invokespecial 60, 3) := by decide +kernel
theorem dX3_requireUnmapped_22 : decode cX3_requireUnmapped 22 = .ok (.athrow, 1) := by decide +kernel
theorem dX3_requireUnmapped_23 : decode cX3_requireUnmapped 23 = .ok (.return_, 1) := by decide +kernel
theorem dX3_requireMapped_0 : decode cX3_requireMapped 0 = .ok (.aload_n 0, 1) := by decide +kernel
theorem dX3_requireMapped_1 : decode cX3_requireMapped 1 = .ok (.getfield 11, 3) := by decide +kernel
theorem dX3_requireMapped_4 : decode cX3_requireMapped 4 = .ok (.iload_n 1, 1) := by decide +kernel
theorem dX3_requireMapped_5 : decode cX3_requireMapped 5 = .ok (.iload_n 2, 1) := by decide +kernel
theorem dX3_requireMapped_6 : decode cX3_requireMapped 6 = .ok (.invokestatic 93, 3) := by decide +kernel
theorem dX3_requireMapped_9 : decode cX3_requireMapped 9 = .ok (.aaload, 1) := by decide +kernel
theorem dX3_requireMapped_10 : decode cX3_requireMapped 10 = .ok (.astore_n 3, 1) := by decide +kernel
theorem dX3_requireMapped_11 : decode cX3_requireMapped 11 = .ok (.aload_n 3, 1) := by decide +kernel
theorem dX3_requireMapped_12 : decode cX3_requireMapped 12 = .ok (.ifnonnull 13, 3) := by decide +kernel
theorem dX3_requireMapped_15 : decode cX3_requireMapped 15 = .ok (.new 56, 3) := by decide +kernel
theorem dX3_requireMapped_18 : decode cX3_requireMapped 18 = .ok (.dup, 1) := by decide +kernel
theorem dX3_requireMapped_19 : decode cX3_requireMapped 19 = .ok (.ldc 234, 2) := by decide +kernel
theorem dX3_requireMapped_21 : decode cX3_requireMapped 21 = .ok (.invokespecial 60, 3) := by decide +kernel
theorem dX3_requireMapped_24 : decode cX3_requireMapped 24 = .ok (.athrow, 1) := by decide +kernel
theorem dX3_requireMapped_25 : decode cX3_requireMapped 25 = .ok (.aload_n 3, 1) := by decide +kernel
theorem dX3_requireMapped_26 : decode cX3_requireMapped 26 = .ok (.areturn, 1) := by decide +kernel
theorem dX3_requireSegmentContent_0 : decode cX3_requireSegmentContent 0 = .ok (.iload_n 1, 1) := by decide +kernel
theorem dX3_requireSegmentContent_1 : decode cX3_requireSegmentContent 1 = .ok (.ifCond .lt 11, 3) := by decide +kernel
theorem dX3_requireSegmentContent_4 : decode cX3_requireSegmentContent 4 = .ok (.iload_n 1, 1) := by decide +kernel
theorem dX3_requireSegmentContent_5 : decode cX3_requireSegmentContent 5 = .ok (.aload_n 0, 1) := by decide +kernel
theorem dX3_requireSegmentContent_6 : decode cX3_requireSegmentContent 6 = .ok (.getfield 47, 3) := by decide +kernel
theorem dX3_requireSegmentContent_9 : decode cX3_requireSegmentContent 9 = .ok (.if_icmp .lt 13, 3) := by decide +kernel
theorem dX3_requireSegmentContent_12 : decode cX3_requireSegmentContent 12 = .ok (.new 188, 3) := by decide +kernel
theorem dX3_requireSegmentContent_15 : decode cX3_requireSegmentContent 15 = .ok (.dup, 1) := by decide +kernel
theorem dX3_requireSegmentContent_16 : decode cX3_requireSegmentContent 16 = .ok (.ldc 236, 2) := by decide +kernel
theorem dX3_requireSegmentContent_18 : decode cX3_requireSegmentContent 18 = .ok (.invokespecial 192, 3) := by decide +kernel
theorem dX3_requireSegmentContent_21 : decode cX3_requireSegmentContent 21 = .ok (.athrow, 1) := by decide +kernel
theorem dX3_requireSegmentContent_22 : decode cX3_requireSegmentContent 22 = .ok (.iload_n 2, 1) := by decide +kernel
theorem dX3_requireSegmentContent_23 : decode cX3_requireSegmentContent 23 = .ok (.ifCond .lt 9, 3) := by decide +kernel
theorem dX3_requireSegmentContent_26 : decode cX3_requireSegmentContent 26 = .ok (.iload_n 2, 1) := by decide +kernel
theorem dX3_requireSegmentContent_27 : decode cX3_requireSegmentContent 27 = .ok (.bipush 6, 2) := by decide +kernel
theorem dX3_requireSegmentContent_29 : decode cX3_requireSegmentContent 29 = .ok (.if_icmp .lt 13, 3) := by decide +kernel
theorem dX3_requireSegmentContent_32 : decode cX3_requireSegmentContent 32 = .ok (.new 188, 3) := by decide +kernel
theorem dX3_requireSegmentContent_35 : decode cX3_requireSegmentContent 35 = .ok (.dup, 1) := by decide +kernel
theorem dX3_requireSegmentContent_36 : decode cX3_requireSegmentContent 36 = .ok (.ldc 238, 2) := by decide +kernel
theorem dX3_requireSegmentContent_38 : decode cX3_requireSegmentContent 38 = .ok (.invokespecial 192, 3) := by decide +kernel
theorem dX3_requireSegmentContent_41 : decode cX3_requireSegmentContent 41 = .ok (.athrow, 1) := by decide +kernel
theorem dX3_requireSegmentContent_42 : decode cX3_requireSegmentContent 42 = .ok (.aload_n 0, 1) := by decide +kernel
theorem dX3_requireSegmentContent_43 : decode cX3_requireSegmentContent 43 = .ok (.getfield 19, 3) := by decide +kernel
theorem dX3_requireSegmentContent_46 : decode cX3_requireSegmentContent 46 = .ok (.iload_n 1, 1) := by decide +kernel
theorem dX3_requireSegmentContent_47 : decode cX3_requireSegmentContent 47 = .ok (.bipush 6, 2) := by decide +kernel
theorem dX3_requireSegmentContent_49 : decode cX3_requireSegmentContent 49 = .ok (.imul, 1) := by decide +kernel
theorem dX3_requireSegmentContent_50 : decode cX3_requireSegmentContent 50 = .ok (.iload_n 2, 1) := by decide +kernel
theorem dX3_requireSegmentContent_51 : decode cX3_requireSegmentContent 51 = .ok (.iadd, 1) := by decide +kernel
theorem dX3_requireSegmentContent_52 : decode cX3_requireSegmentContent 52 = .ok (.aaload, 1) := by decide +kernel
theorem dX3_requireSegmentContent_53 : decode cX3_requireSegmentContent 53 = .ok (.astore_n 3, 1) := by decide +kernel
theorem dX3_requireSegmentContent_54 : decode cX3_requireSegmentContent 54 = .ok (.aload_n 3, 1) := by decide +kernel
theorem dX3_requireSegmentContent_55 : decode cX3_requireSegmentContent 55 = .ok (.ifnonnull 13, 3) := by decide +kernel
theorem dX3_requireSegmentContent_58 : decode cX3_requireSegmentContent 58 = .ok (.new 188, 3) := by decide +kernel
theorem dX3_requireSegmentContent_61 : decode cX3_requireSegmentContent 61 = .ok (.dup, 1) := by decide +kernel
theorem dX3_requireSegmentContent_62 : decode cX3_requireSegmentContent 62 = .ok (.ldc 240, 2) := by decide +kernel
theorem dX3_requireSegmentContent_64 : decode cX3_requireSegmentContent 64 = .ok (.invokespecial 192, 3) := by decide +kernel
theorem dX3_requireSegmentContent_67 : decode cX3_requireSegmentContent 67 = .ok (.athrow, 1) := by decide +kernel
theorem dX3_requireSegmentContent_68 : decode cX3_requireSegmentContent 68 = .ok (.aload_n 3, 1) := by decide +kernel
theorem dX3_requireSegmentContent_69 : decode cX3_requireSegmentContent 69 = .ok (.areturn, 1) := by decide +kernel
theorem dX3_requireAddressed_0 : decode cX3_requireAddressed 0 = .ok (.aload_n 0, 1) := by decide +kernel
theorem dX3_requireAddressed_1 : decode cX3_requireAddressed 1 = .ok (.iload_n 1, 1) := by decide +kernel
theorem dX3_requireAddressed_2 : decode cX3_requireAddressed 2 = .ok (.invokevirtual 86, 3) := by decide +kernel
theorem dX3_requireAddressed_5 : decode cX3_requireAddressed 5 = .ok (.iload_n 2, 1) := by decide +kernel
theorem dX3_requireAddressed_6 : decode cX3_requireAddressed 6 = .ok (.ifCond .lt 9, 3) := by decide +kernel
theorem dX3_requireAddressed_9 : decode cX3_requireAddressed 9 = .ok (.iload_n 2, 1) := by decide +kernel
theorem dX3_requireAddressed_10 : decode cX3_requireAddressed 10 = .ok (.bipush 64, 2) := by decide +kernel
theorem dX3_requireAddressed_12 : decode cX3_requireAddressed 12 = .ok (.if_icmp .lt 13, 3) := by decide +kernel
theorem dX3_requireAddressed_15 : decode cX3_requireAddressed 15 = .ok (.new 188, 3) := by decide +kernel
theorem dX3_requireAddressed_18 : decode cX3_requireAddressed 18 = .ok (.dup, 1) := by decide +kernel
theorem dX3_requireAddressed_19 : decode cX3_requireAddressed 19 = .ok (.ldc 242, 2) := by decide +kernel
theorem dX3_requireAddressed_21 : decode cX3_requireAddressed 21 = .ok (.invokespecial 192, 3) := by decide +kernel
theorem dX3_requireAddressed_24 : decode cX3_requireAddressed 24 = .ok (.athrow, 1) := by decide +kernel
theorem dX3_requireAddressed_25 : decode cX3_requireAddressed 25 = .ok (.aload_n 0, 1) := by decide +kernel
theorem dX3_requireAddressed_26 : decode cX3_requireAddressed 26 = .ok (.iload_n 1, 1) := by decide +kernel
theorem dX3_requireAddressed_27 : decode cX3_requireAddressed 27 = .ok (.invokevirtual 90, 3) := by decide +kernel
theorem dX3_requireAddressed_30 : decode cX3_requireAddressed 30 = .ok (.aload_n 0, 1) := by decide +kernel
theorem dX3_requireAddressed_31 : decode cX3_requireAddressed 31 = .ok (.iload_n 1, 1) := by decide +kernel
theorem dX3_requireAddressed_32 : decode cX3_requireAddressed 32 = .ok (.iload_n 2, 1) := by decide +kernel
theorem dX3_requireAddressed_33 : decode cX3_requireAddressed 33 = .ok (.iconst 4, 1) := by decide +kernel
theorem dX3_requireAddressed_34 : decode cX3_requireAddressed 34 = .ok (.idiv, 1) := by decide +kernel
theorem dX3_requireAddressed_35 : decode cX3_requireAddressed 35 = .ok (.invokevirtual 126, 3) := by decide +kernel
theorem dX3_requireAddressed_38 : decode cX3_requireAddressed 38 = .ok (.areturn, 1) := by decide +kernel
theorem dX3_requireObtainableFrame_0 : decode cX3_requireObtainableFrame 0 = .ok (.aload_n 0, 1) := by decide +kernel
theorem dX3_requireObtainableFrame_1 : decode cX3_requireObtainableFrame 1 = .ok (.getfield 25, 3) := by decide +kernel
theorem dX3_requireObtainableFrame_4 : decode cX3_requireObtainableFrame 4 = .ok (.invokevirtual 244, 3) := by decide +kernel
theorem dX3_requireObtainableFrame_7 : decode cX3_requireObtainableFrame 7 = .ok (.iconst (-1), 1) := by decide +kernel
theorem dX3_requireObtainableFrame_8 : decode cX3_requireObtainableFrame 8 = .ok (.if_icmp .ne 34, 3) := by decide +kernel
theorem dX3_requireObtainableFrame_11 : decode cX3_requireObtainableFrame 11 = .ok (.aload_n 0, 1) := by decide +kernel
theorem dX3_requireObtainableFrame_12 : decode cX3_requireObtainableFrame 12 = .ok (.getfield 25, 3) := by decide +kernel
theorem dX3_requireObtainableFrame_15 : decode cX3_requireObtainableFrame 15 = .ok (.invokevirtual 247, 3) := by decide +kernel
theorem dX3_requireObtainableFrame_18 : decode cX3_requireObtainableFrame 18 = .ok (.iconst (-1), 1) := by decide +kernel
theorem dX3_requireObtainableFrame_19 : decode cX3_requireObtainableFrame 19 = .ok (.if_icmp .ne 23, 3) := by decide +kernel
theorem dX3_requireObtainableFrame_22 : decode cX3_requireObtainableFrame 22 = .ok (.aload_n 0, 1) := by decide +kernel
theorem dX3_requireObtainableFrame_23 : decode cX3_requireObtainableFrame 23 = .ok (.getfield 32, 3) := by decide +kernel
theorem dX3_requireObtainableFrame_26 : decode cX3_requireObtainableFrame 26 = .ok (.invokevirtual 184, 3) := by decide +kernel
theorem dX3_requireObtainableFrame_29 : decode cX3_requireObtainableFrame 29 = .ok (.ifCond .ne 13, 3) := by decide +kernel
theorem dX3_requireObtainableFrame_32 : decode cX3_requireObtainableFrame 32 = .ok (.new 70, 3) := by decide +kernel
theorem dX3_requireObtainableFrame_35 : decode cX3_requireObtainableFrame 35 = .ok (.dup, 1) := by decide +kernel
theorem dX3_requireObtainableFrame_36 : decode cX3_requireObtainableFrame 36 = .ok (.ldc 250, 2) := by decide +kernel
theorem dX3_requireObtainableFrame_38 : decode cX3_requireObtainableFrame 38 = .ok (.invokespecial 74, 3) := by decide +kernel
theorem dX3_requireObtainableFrame_41 : decode cX3_requireObtainableFrame 41 = .ok (.athrow, 1) := by decide +kernel
theorem dX3_requireObtainableFrame_42 : decode cX3_requireObtainableFrame 42 = .ok (.return_, 1) := by decide +kernel
theorem dX3_placeOf_0 : decode cX3_placeOf 0 = .ok (.iload_n 0, 1) := by decide +kernel
theorem dX3_placeOf_1 : decode cX3_placeOf 1 = .ok (.bipush 16, 2) := by decide +kernel
theorem dX3_placeOf_3 : decode cX3_placeOf 3 = .ok (.imul, 1) := by decide +kernel
theorem dX3_placeOf_4 : decode cX3_placeOf 4 = .ok (.iload_n 1, 1) := by decide +kernel
theorem dX3_placeOf_5 : decode cX3_placeOf 5 = .ok (.iadd, 1) := by decide +kernel
theorem dX3_placeOf_6 : decode cX3_placeOf 6 = .ok (.ireturn, 1) := by decide +kernel
theorem dX3_createProcess_0 : decode cX3_createProcess 0 = .ok (.aload_n 0, 1) := by decide +kernel
theorem dX3_createProcess_1 : decode cX3_createProcess 1 = .ok (.getfield 43, 3) := by decide +kernel
theorem dX3_createProcess_4 : decode cX3_createProcess 4 = .ok (.istore_n 1, 1) := by decide +kernel
theorem dX3_createProcess_5 : decode cX3_createProcess 5 = .ok (.aload_n 0, 1) := by decide +kernel
theorem dX3_createProcess_6 : decode cX3_createProcess 6 = .ok (.getfield 15, 3) := by decide +kernel
theorem dX3_createProcess_9 : decode cX3_createProcess 9 = .ok (.iload_n 1, 1) := by decide +kernel
theorem dX3_createProcess_10 : decode cX3_createProcess 10 = .ok (.iconst 1, 1) := by decide +kernel
theorem dX3_createProcess_11 : decode cX3_createProcess 11 = .ok (.bastore, 1) := by decide +kernel
theorem dX3_createProcess_12 : decode cX3_createProcess 12 = .ok (.aload_n 0, 1) := by decide +kernel
theorem dX3_createProcess_13 : decode cX3_createProcess 13 = .ok (.dup, 1) := by decide +kernel
theorem dX3_createProcess_14 : decode cX3_createProcess 14 = .ok (.getfield 43, 3) := by decide +kernel
theorem dX3_createProcess_17 : decode cX3_createProcess 17 = .ok (.iconst 1, 1) := by decide +kernel
theorem dX3_createProcess_18 : decode cX3_createProcess 18 = .ok (.iadd, 1) := by decide +kernel
theorem dX3_createProcess_19 : decode cX3_createProcess 19 = .ok (.putfield 43, 3) := by decide +kernel
theorem dX3_createProcess_22 : decode cX3_createProcess 22 = .ok (.iload_n 1, 1) := by decide +kernel
theorem dX3_createProcess_23 : decode cX3_createProcess 23 = .ok (.ireturn, 1) := by decide +kernel
theorem dX3_mappedPages_0 : decode cX3_mappedPages 0 = .ok (.iconst 0, 1) := by decide +kernel
theorem dX3_mappedPages_1 : decode cX3_mappedPages 1 = .ok (.istore_n 2, 1) := by decide +kernel
theorem dX3_mappedPages_2 : decode cX3_mappedPages 2 = .ok (.iconst 0, 1) := by decide +kernel
theorem dX3_mappedPages_3 : decode cX3_mappedPages 3 = .ok (.istore_n 3, 1) := by decide +kernel
theorem dX3_mappedPages_4 : decode cX3_mappedPages 4 = .ok (.iload_n 3, 1) := by decide +kernel
theorem dX3_mappedPages_5 : decode cX3_mappedPages 5 = .ok (.bipush 16, 2) := by decide +kernel
theorem dX3_mappedPages_7 : decode cX3_mappedPages 7 = .ok (.if_icmp .ge 25, 3) := by decide +kernel
theorem dX3_mappedPages_10 : decode cX3_mappedPages 10 = .ok (.aload_n 0, 1) := by decide +kernel
theorem dX3_mappedPages_11 : decode cX3_mappedPages 11 = .ok (.getfield 11, 3) := by decide +kernel
theorem dX3_mappedPages_14 : decode cX3_mappedPages 14 = .ok (.iload_n 1, 1) := by decide +kernel
theorem dX3_mappedPages_15 : decode cX3_mappedPages 15 = .ok (.iload_n 3, 1) := by decide +kernel
theorem dX3_mappedPages_16 : decode cX3_mappedPages 16 = .ok (.invokestatic 93, 3) := by decide +kernel
theorem dX3_mappedPages_19 : decode cX3_mappedPages 19 = .ok (.aaload, 1) := by decide +kernel
theorem dX3_mappedPages_20 : decode cX3_mappedPages 20 = .ok (.ifnull 6, 3) := by decide +kernel
theorem dX3_mappedPages_23 : decode cX3_mappedPages 23 = .ok (.iinc 2 1, 3) := by decide +kernel
theorem dX3_mappedPages_26 : decode cX3_mappedPages 26 = .ok (.iinc 3 1, 3) := by decide +kernel
theorem dX3_mappedPages_29 : decode cX3_mappedPages 29 = .ok (.goto (-25), 3) := by decide +kernel
theorem dX3_mappedPages_32 : decode cX3_mappedPages 32 = .ok (.iload_n 2, 1) := by decide +kernel
theorem dX3_mappedPages_33 : decode cX3_mappedPages 33 = .ok (.ireturn, 1) := by decide +kernel
theorem dX3_refer_0 : decode cX3_refer 0 = .ok (.aload_n 0, 1) := by decide +kernel
theorem dX3_refer_1 : decode cX3_refer 1 = .ok (.getfield 11, 3) := by decide +kernel
theorem dX3_refer_4 : decode cX3_refer 4 = .ok (.iload_n 1, 1) := by decide +kernel
theorem dX3_refer_5 : decode cX3_refer 5 = .ok (.aload_n 2, 1) := by decide +kernel
end
section
theorem dX3_refer_6 : decode cX3_refer 6 = .ok (.aastore, 1) := by decide +kernel
theorem dX3_refer_7 : decode cX3_refer 7 = .ok (.aload_n 2, 1) := by decide +kernel
theorem dX3_refer_8 : decode cX3_refer 8 = .ok (.dup, 1) := by decide +kernel
theorem dX3_refer_9 : decode cX3_refer 9 = .ok (.getfield 152, 3) := by decide +kernel
theorem dX3_refer_12 : decode cX3_refer 12 = .ok (.iconst 1, 1) := by decide +kernel
theorem dX3_refer_13 : decode cX3_refer 13 = .ok (.iadd, 1) := by decide +kernel
theorem dX3_refer_14 : decode cX3_refer 14 = .ok (.putfield 152, 3) := by decide +kernel
theorem dX3_refer_17 : decode cX3_refer 17 = .ok (.return_, 1) := by decide +kernel
theorem dX3_dropReference_0 : decode cX3_dropReference 0 = .ok (.aload_n 0, 1) := by decide +kernel
theorem dX3_dropReference_1 : decode cX3_dropReference 1 = .ok (.getfield 11, 3) := by decide +kernel
theorem dX3_dropReference_4 : decode cX3_dropReference 4 = .ok (.iload_n 1, 1) := by decide +kernel
theorem dX3_dropReference_5 : decode cX3_dropReference 5 = .ok (.aaload, 1) := by decide +kernel
theorem dX3_dropReference_6 : decode cX3_dropReference 6 = .ok (.astore_n 2, 1) := by decide +kernel
theorem dX3_dropReference_7 : decode cX3_dropReference 7 = .ok (.aload_n 2, 1) := by decide +kernel
theorem dX3_dropReference_8 : decode cX3_dropReference 8 = .ok (.ifnonnull 5, 3) := by decide +kernel
theorem dX3_dropReference_11 : decode cX3_dropReference 11 = .ok (.iconst 0, 1) := by decide +kernel
theorem dX3_dropReference_12 : decode cX3_dropReference 12 = .ok (.ireturn, 1) := by decide +kernel
theorem dX3_dropReference_13 : decode cX3_dropReference 13 = .ok (.aload_n 0, 1) := by decide +kernel
theorem dX3_dropReference_14 : decode cX3_dropReference 14 = .ok (.getfield 11, 3) := by decide +kernel
theorem dX3_dropReference_17 : decode cX3_dropReference 17 = .ok (.iload_n 1, 1) := by decide +kernel
theorem dX3_dropReference_18 : decode cX3_dropReference 18 = .ok (.aconst_null, 1) := by decide +kernel
theorem dX3_dropReference_19 : decode cX3_dropReference 19 = .ok (.aastore, 1) := by decide +kernel
theorem dX3_dropReference_20 : decode cX3_dropReference 20 = .ok (.aload_n 2, 1) := by decide +kernel
theorem dX3_dropReference_21 : decode cX3_dropReference 21 = .ok (.dup, 1) := by decide +kernel
theorem dX3_dropReference_22 : decode cX3_dropReference 22 = .ok (.getfield 152, 3) := by decide +kernel
theorem dX3_dropReference_25 : decode cX3_dropReference 25 = .ok (.iconst 1, 1) := by decide +kernel
theorem dX3_dropReference_26 : decode cX3_dropReference 26 = .ok (.isub, 1) := by decide +kernel
theorem dX3_dropReference_27 : decode cX3_dropReference 27 = .ok (.putfield 152, 3) := by decide +kernel
theorem dX3_dropReference_30 : decode cX3_dropReference 30 = .ok (.aload_n 2, 1) := by decide +kernel
theorem dX3_dropReference_31 : decode cX3_dropReference 31 = .ok (.getfield 129, 3) := by decide +kernel
theorem dX3_dropReference_34 : decode cX3_dropReference 34 = .ok (.ifCond .ne 10, 3) := by decide +kernel
theorem dX3_dropReference_37 : decode cX3_dropReference 37 = .ok (.aload_n 2, 1) := by decide +kernel
theorem dX3_dropReference_38 : decode cX3_dropReference 38 = .ok (.getfield 152, 3) := by decide +kernel
theorem dX3_dropReference_41 : decode cX3_dropReference 41 = .ok (.ifCond .le 5, 3) := by decide +kernel
theorem dX3_dropReference_44 : decode cX3_dropReference 44 = .ok (.iconst 0, 1) := by decide +kernel
theorem dX3_dropReference_45 : decode cX3_dropReference 45 = .ok (.ireturn, 1) := by decide +kernel
theorem dX3_dropReference_46 : decode cX3_dropReference 46 = .ok (.aload_n 2, 1) := by decide +kernel
theorem dX3_dropReference_47 : decode cX3_dropReference 47 = .ok (.getfield 136, 3) := by decide +kernel
theorem dX3_dropReference_50 : decode cX3_dropReference 50 = .ok (.iconst (-1), 1) := by decide +kernel
theorem dX3_dropReference_51 : decode cX3_dropReference 51 = .ok (.if_icmp .eq 14, 3) := by decide +kernel
theorem dX3_dropReference_54 : decode cX3_dropReference 54 = .ok (.aload_n 0, 1) := by decide +kernel
theorem dX3_dropReference_55 : decode cX3_dropReference 55 = .ok (.getfield 25, 3) := by decide +kernel
theorem dX3_dropReference_58 : decode cX3_dropReference 58 = .ok (.aload_n 2, 1) := by decide +kernel
theorem dX3_dropReference_59 : decode cX3_dropReference 59 = .ok (.getfield 136, 3) := by decide +kernel
theorem dX3_dropReference_62 : decode cX3_dropReference 62 = .ok (.invokevirtual 252, 3) := by decide +kernel
theorem dX3_dropReference_65 : decode cX3_dropReference 65 = .ok (.aload_n 0, 1) := by decide +kernel
theorem dX3_dropReference_66 : decode cX3_dropReference 66 = .ok (.getfield 32, 3) := by decide +kernel
theorem dX3_dropReference_69 : decode cX3_dropReference 69 = .ok (.aload_n 2, 1) := by decide +kernel
theorem dX3_dropReference_70 : decode cX3_dropReference 70 = .ok (.invokevirtual 159, 3) := by decide +kernel
theorem dX3_dropReference_73 : decode cX3_dropReference 73 = .ok (.iconst 1, 1) := by decide +kernel
theorem dX3_dropReference_74 : decode cX3_dropReference 74 = .ok (.ireturn, 1) := by decide +kernel
theorem dX3_bringIn_0 : decode cX3_bringIn 0 = .ok (.aload_n 1, 1) := by decide +kernel
theorem dX3_bringIn_1 : decode cX3_bringIn 1 = .ok (.getfield 136, 3) := by decide +kernel
theorem dX3_bringIn_4 : decode cX3_bringIn 4 = .ok (.iconst (-1), 1) := by decide +kernel
theorem dX3_bringIn_5 : decode cX3_bringIn 5 = .ok (.if_icmp .eq 4, 3) := by decide +kernel
theorem dX3_bringIn_8 : decode cX3_bringIn 8 = .ok (.return_, 1) := by decide +kernel
theorem dX3_bringIn_9 : decode cX3_bringIn 9 = .ok (.aload_n 1, 1) := by decide +kernel
theorem dX3_bringIn_10 : decode cX3_bringIn 10 = .ok (.getfield 172, 3) := by decide +kernel
theorem dX3_bringIn_13 : decode cX3_bringIn 13 = .ok (.iconst (-1), 1) := by decide +kernel
theorem dX3_bringIn_14 : decode cX3_bringIn 14 = .ok (.if_icmp .ne 10, 3) := by decide +kernel
theorem dX3_bringIn_17 : decode cX3_bringIn 17 = .ok (.aload_n 0, 1) := by decide +kernel
theorem dX3_bringIn_18 : decode cX3_bringIn 18 = .ok (.aload_n 1, 1) := by decide +kernel
theorem dX3_bringIn_19 : decode cX3_bringIn 19 = .ok (.iconst 0, 1) := by decide +kernel
theorem dX3_bringIn_20 : decode cX3_bringIn 20 = .ok (.invokevirtual 255, 3) := by decide +kernel
theorem dX3_bringIn_23 : decode cX3_bringIn 23 = .ok (.return_, 1) := by decide +kernel
theorem dX3_bringIn_24 : decode cX3_bringIn 24 = .ok (.aload_n 0, 1) := by decide +kernel
theorem dX3_bringIn_25 : decode cX3_bringIn 25 = .ok (.aload_n 1, 1) := by decide +kernel
theorem dX3_bringIn_26 : decode cX3_bringIn 26 = .ok (.iconst 1, 1) := by decide +kernel
theorem dX3_bringIn_27 : decode cX3_bringIn 27 = .ok (.invokevirtual 255, 3) := by decide +kernel
theorem dX3_bringIn_30 : decode cX3_bringIn 30 = .ok (.aload_n 0, 1) := by decide +kernel
theorem dX3_bringIn_31 : decode cX3_bringIn 31 = .ok (.aload_n 1, 1) := by decide +kernel
theorem dX3_bringIn_32 : decode cX3_bringIn 32 = .ok (.getfield 172, 3) := by decide +kernel
theorem dX3_bringIn_35 : decode cX3_bringIn 35 = .ok (.invokevirtual 259, 3) := by decide +kernel
theorem dX3_bringIn_38 : decode cX3_bringIn 38 = .ok (.return_, 1) := by decide +kernel
theorem dX3_prefetchBehind_0 : decode cX3_prefetchBehind 0 = .ok (.iload_n 1, 1) := by decide +kernel
theorem dX3_prefetchBehind_1 : decode cX3_prefetchBehind 1 = .ok (.iconst 1, 1) := by decide +kernel
theorem dX3_prefetchBehind_2 : decode cX3_prefetchBehind 2 = .ok (.iadd, 1) := by decide +kernel
theorem dX3_prefetchBehind_3 : decode cX3_prefetchBehind 3 = .ok (.istore_n 2, 1) := by decide +kernel
theorem dX3_prefetchBehind_4 : decode cX3_prefetchBehind 4 = .ok (.iload_n 2, 1) := by decide +kernel
theorem dX3_prefetchBehind_5 : decode cX3_prefetchBehind 5 = .ok (.iload_n 1, 1) := by decide +kernel
theorem dX3_prefetchBehind_6 : decode cX3_prefetchBehind 6 = .ok (.iconst 3, 1) := by decide +kernel
theorem dX3_prefetchBehind_7 : decode cX3_prefetchBehind 7 = .ok (.iadd, 1) := by decide +kernel
theorem dX3_prefetchBehind_8 : decode cX3_prefetchBehind 8 = .ok (.if_icmp .gt 76, 3) := by decide +kernel
theorem dX3_prefetchBehind_11 : decode cX3_prefetchBehind 11 = .ok (.iload_n 2, 1) := by decide +kernel
theorem dX3_prefetchBehind_12 : decode cX3_prefetchBehind 12 = .ok (.bipush 24, 2) := by decide +kernel
theorem dX3_prefetchBehind_14 : decode cX3_prefetchBehind 14 = .ok (.if_icmp .ge 70, 3) := by decide +kernel
theorem dX3_prefetchBehind_17 : decode cX3_prefetchBehind 17 = .ok (.aload_n 0, 1) := by decide +kernel
theorem dX3_prefetchBehind_18 : decode cX3_prefetchBehind 18 = .ok (.getfield 32, 3) := by decide +kernel
theorem dX3_prefetchBehind_21 : decode cX3_prefetchBehind 21 = .ok (.getfield 262, 3) := by decide +kernel
theorem dX3_prefetchBehind_24 : decode cX3_prefetchBehind 24 = .ok (.iload_n 2, 1) := by decide +kernel
theorem dX3_prefetchBehind_25 : decode cX3_prefetchBehind 25 = .ok (.aaload, 1) := by decide +kernel
theorem dX3_prefetchBehind_26 : decode cX3_prefetchBehind 26 = .ok (.astore_n 3, 1) := by decide +kernel
theorem dX3_prefetchBehind_27 : decode cX3_prefetchBehind 27 = .ok (.aload_n 0, 1) := by decide +kernel
theorem dX3_prefetchBehind_28 : decode cX3_prefetchBehind 28 = .ok (.getfield 25, 3) := by decide +kernel
theorem dX3_prefetchBehind_31 : decode cX3_prefetchBehind 31 = .ok (.invokevirtual 244, 3) := by decide +kernel
theorem dX3_prefetchBehind_34 : decode cX3_prefetchBehind 34 = .ok (.istore 4, 2) := by decide +kernel
theorem dX3_prefetchBehind_36 : decode cX3_prefetchBehind 36 = .ok (.aload_n 3, 1) := by decide +kernel
theorem dX3_prefetchBehind_37 : decode cX3_prefetchBehind 37 = .ok (.ifnull 41, 3) := by decide +kernel
theorem dX3_prefetchBehind_40 : decode cX3_prefetchBehind 40 = .ok (.aload_n 3, 1) := by decide +kernel
theorem dX3_prefetchBehind_41 : decode cX3_prefetchBehind 41 = .ok (.getfield 136, 3) := by decide +kernel
theorem dX3_prefetchBehind_44 : decode cX3_prefetchBehind 44 = .ok (.iconst (-1), 1) := by decide +kernel
theorem dX3_prefetchBehind_45 : decode cX3_prefetchBehind 45 = .ok (.if_icmp .ne 33, 3) := by decide +kernel
theorem dX3_prefetchBehind_48 : decode cX3_prefetchBehind 48 = .ok (.iload 4, 2) := by decide +kernel
theorem dX3_prefetchBehind_50 : decode cX3_prefetchBehind 50 = .ok (.iconst (-1), 1) := by decide +kernel
theorem dX3_prefetchBehind_51 : decode cX3_prefetchBehind 51 = .ok (.if_icmp .eq 27, 3) := by decide +kernel
theorem dX3_prefetchBehind_54 : decode cX3_prefetchBehind 54 = .ok (.aload_n 0, 1) := by decide +kernel
theorem dX3_prefetchBehind_55 : decode cX3_prefetchBehind 55 = .ok (.getfield 25, 3) := by decide +kernel
theorem dX3_prefetchBehind_58 : decode cX3_prefetchBehind 58 = .ok (.aload_n 3, 1) := by decide +kernel
theorem dX3_prefetchBehind_59 : decode cX3_prefetchBehind 59 = .ok (.iload 4, 2) := by decide +kernel
theorem dX3_prefetchBehind_61 : decode cX3_prefetchBehind 61 = .ok (.aload_n 0, 1) := by decide +kernel
theorem dX3_prefetchBehind_62 : decode cX3_prefetchBehind 62 = .ok (.getfield 53, 3) := by decide +kernel
theorem dX3_prefetchBehind_65 : decode cX3_prefetchBehind 65 = .ok (.invokevirtual 263, 3) := by decide +kernel
theorem dX3_prefetchBehind_68 : decode cX3_prefetchBehind 68 = .ok (.aload_n 0, 1) := by decide +kernel
theorem dX3_prefetchBehind_69 : decode cX3_prefetchBehind 69 = .ok (.getfield 39, 3) := by decide +kernel
theorem dX3_prefetchBehind_72 : decode cX3_prefetchBehind 72 = .ok (.iconst 3, 1) := by decide +kernel
theorem dX3_prefetchBehind_73 : decode cX3_prefetchBehind 73 = .ok (.dup2, 1) := by decide +kernel
theorem dX3_prefetchBehind_74 : decode cX3_prefetchBehind 74 = .ok (.iaload, 1) := by decide +kernel
theorem dX3_prefetchBehind_75 : decode cX3_prefetchBehind 75 = .ok (.iconst 1, 1) := by decide +kernel
theorem dX3_prefetchBehind_76 : decode cX3_prefetchBehind 76 = .ok (.iadd, 1) := by decide +kernel
theorem dX3_prefetchBehind_77 : decode cX3_prefetchBehind 77 = .ok (.iastore, 1) := by decide +kernel
theorem dX3_prefetchBehind_78 : decode cX3_prefetchBehind 78 = .ok (.iinc 2 1, 3) := by decide +kernel
theorem dX3_prefetchBehind_81 : decode cX3_prefetchBehind 81 = .ok (.goto (-77), 3) := by decide +kernel
theorem dX3_prefetchBehind_84 : decode cX3_prefetchBehind 84 = .ok (.return_, 1) := by decide +kernel
theorem dX3_copyForPage_0 : decode cX3_copyForPage 0 = .ok (.new 9, 3) := by decide +kernel
theorem dX3_copyForPage_3 : decode cX3_copyForPage 3 = .ok (.dup, 1) := by decide +kernel
theorem dX3_copyForPage_4 : decode cX3_copyForPage 4 = .ok (.iconst (-1), 1) := by decide +kernel
theorem dX3_copyForPage_5 : decode cX3_copyForPage 5 = .ok (.invokespecial 112, 3) := by decide +kernel
theorem dX3_copyForPage_8 : decode cX3_copyForPage 8 = .ok (.astore_n 3, 1) := by decide +kernel
theorem dX3_copyForPage_9 : decode cX3_copyForPage 9 = .ok (.aload_n 2, 1) := by decide +kernel
theorem dX3_copyForPage_10 : decode cX3_copyForPage 10 = .ok (.getfield 149, 3) := by decide +kernel
theorem dX3_copyForPage_13 : decode cX3_copyForPage 13 = .ok (.iconst 0, 1) := by decide +kernel
theorem dX3_copyForPage_14 : decode cX3_copyForPage 14 = .ok (.aload_n 3, 1) := by decide +kernel
theorem dX3_copyForPage_15 : decode cX3_copyForPage 15 = .ok (.getfield 149, 3) := by decide +kernel
theorem dX3_copyForPage_18 : decode cX3_copyForPage 18 = .ok (.iconst 0, 1) := by decide +kernel
theorem dX3_copyForPage_19 : decode cX3_copyForPage 19 = .ok (.iconst 4, 1) := by decide +kernel
theorem dX3_copyForPage_20 : decode cX3_copyForPage 20 = .ok (.invokestatic 267, 3) := by decide +kernel
theorem dX3_copyForPage_23 : decode cX3_copyForPage 23 = .ok (.aload_n 0, 1) := by decide +kernel
theorem dX3_copyForPage_24 : decode cX3_copyForPage 24 = .ok (.aload_n 3, 1) := by decide +kernel
theorem dX3_copyForPage_25 : decode cX3_copyForPage 25 = .ok (.iconst 2, 1) := by decide +kernel
theorem dX3_copyForPage_26 : decode cX3_copyForPage 26 = .ok (.invokevirtual 255, 3) := by decide +kernel
theorem dX3_copyForPage_29 : decode cX3_copyForPage 29 = .ok (.aload_n 0, 1) := by decide +kernel
theorem dX3_copyForPage_30 : decode cX3_copyForPage 30 = .ok (.iload_n 1, 1) := by decide +kernel
theorem dX3_copyForPage_31 : decode cX3_copyForPage 31 = .ok (.invokevirtual 101, 3) := by decide +kernel
theorem dX3_copyForPage_34 : decode cX3_copyForPage 34 = .ok (.pop, 1) := by decide +kernel
theorem dX3_copyForPage_35 : decode cX3_copyForPage 35 = .ok (.aload_n 0, 1) := by decide +kernel
theorem dX3_copyForPage_36 : decode cX3_copyForPage 36 = .ok (.iload_n 1, 1) := by decide +kernel
theorem dX3_copyForPage_37 : decode cX3_copyForPage 37 = .ok (.aload_n 3, 1) := by decide +kernel
theorem dX3_copyForPage_38 : decode cX3_copyForPage 38 = .ok (.invokevirtual 97, 3) := by decide +kernel
theorem dX3_copyForPage_41 : decode cX3_copyForPage 41 = .ok (.aload_n 3, 1) := by decide +kernel
theorem dX3_copyForPage_42 : decode cX3_copyForPage 42 = .ok (.areturn, 1) := by decide +kernel
theorem dX3_giveFrame_0 : decode cX3_giveFrame 0 = .ok (.aload_n 0, 1) := by decide +kernel
theorem dX3_giveFrame_1 : decode cX3_giveFrame 1 = .ok (.getfield 25, 3) := by decide +kernel
theorem dX3_giveFrame_4 : decode cX3_giveFrame 4 = .ok (.invokevirtual 244, 3) := by decide +kernel
theorem dX3_giveFrame_7 : decode cX3_giveFrame 7 = .ok (.istore_n 3, 1) := by decide +kernel
theorem dX3_giveFrame_8 : decode cX3_giveFrame 8 = .ok (.iload_n 3, 1) := by decide +kernel
theorem dX3_giveFrame_9 : decode cX3_giveFrame 9 = .ok (.iconst (-1), 1) := by decide +kernel
theorem dX3_giveFrame_10 : decode cX3_giveFrame 10 = .ok (.if_icmp .ne 8, 3) := by decide +kernel
theorem dX3_giveFrame_13 : decode cX3_giveFrame 13 = .ok (.aload_n 0, 1) := by decide +kernel
theorem dX3_giveFrame_14 : decode cX3_giveFrame 14 = .ok (.invokevirtual 273, 3) := by decide +kernel
theorem dX3_giveFrame_17 : decode cX3_giveFrame 17 = .ok (.istore_n 3, 1) := by decide +kernel
theorem dX3_giveFrame_18 : decode cX3_giveFrame 18 = .ok (.aload_n 0, 1) := by decide +kernel
theorem dX3_giveFrame_19 : decode cX3_giveFrame 19 = .ok (.getfield 25, 3) := by decide +kernel
theorem dX3_giveFrame_22 : decode cX3_giveFrame 22 = .ok (.aload_n 1, 1) := by decide +kernel
theorem dX3_giveFrame_23 : decode cX3_giveFrame 23 = .ok (.iload_n 3, 1) := by decide +kernel
theorem dX3_giveFrame_24 : decode cX3_giveFrame 24 = .ok (.aload_n 0, 1) := by decide +kernel
theorem dX3_giveFrame_25 : decode cX3_giveFrame 25 = .ok (.getfield 53, 3) := by decide +kernel
theorem dX3_giveFrame_28 : decode cX3_giveFrame 28 = .ok (.invokevirtual 263, 3) := by decide +kernel
theorem dX3_giveFrame_31 : decode cX3_giveFrame 31 = .ok (.aload_n 0, 1) := by decide +kernel
theorem dX3_giveFrame_32 : decode cX3_giveFrame 32 = .ok (.getfield 39, 3) := by decide +kernel
theorem dX3_giveFrame_35 : decode cX3_giveFrame 35 = .ok (.iload_n 2, 1) := by decide +kernel
theorem dX3_giveFrame_36 : decode cX3_giveFrame 36 = .ok (.dup2, 1) := by decide +kernel
theorem dX3_giveFrame_37 : decode cX3_giveFrame 37 = .ok (.iaload, 1) := by decide +kernel
theorem dX3_giveFrame_38 : decode cX3_giveFrame 38 = .ok (.iconst 1, 1) := by decide +kernel
theorem dX3_giveFrame_39 : decode cX3_giveFrame 39 = .ok (.iadd, 1) := by decide +kernel
theorem dX3_giveFrame_40 : decode cX3_giveFrame 40 = .ok (.iastore, 1) := by decide +kernel
theorem dX3_giveFrame_41 : decode cX3_giveFrame 41 = .ok (.return_, 1) := by decide +kernel
theorem dX3_freeByClock_0 : decode cX3_freeByClock 0 = .ok (.iconst (-1), 1) := by decide +kernel
theorem dX3_freeByClock_1 : decode cX3_freeByClock 1 = .ok (.istore_n 1, 1) := by decide +kernel
theorem dX3_freeByClock_2 : decode cX3_freeByClock 2 = .ok (.iconst 2, 1) := by decide +kernel
theorem dX3_freeByClock_3 : decode cX3_freeByClock 3 = .ok (.aload_n 0, 1) := by decide +kernel
theorem dX3_freeByClock_4 : decode cX3_freeByClock 4 = .ok (.getfield 25, 3) := by decide +kernel
theorem dX3_freeByClock_7 : decode cX3_freeByClock 7 = .ok (.getfield 67, 3) := by decide +kernel
theorem dX3_freeByClock_10 : decode cX3_freeByClock 10 = .ok (.imul, 1) := by decide +kernel
theorem dX3_freeByClock_11 : decode cX3_freeByClock 11 = .ok (.istore_n 2, 1) := by decide +kernel
theorem dX3_freeByClock_12 : decode cX3_freeByClock 12 = .ok (.iconst 0, 1) := by decide +kernel
theorem dX3_freeByClock_13 : decode cX3_freeByClock 13 = .ok (.istore_n 3, 1) := by decide +kernel
theorem dX3_freeByClock_14 : decode cX3_freeByClock 14 = .ok (.iload_n 3, 1) := by decide +kernel
theorem dX3_freeByClock_15 : decode cX3_freeByClock 15 = .ok (.iload_n 2, 1) := by decide +kernel
theorem dX3_freeByClock_16 : decode cX3_freeByClock 16 = .ok (.if_icmp .ge 53, 3) := by decide +kernel
theorem dX3_freeByClock_19 : decode cX3_freeByClock 19 = .ok (.iload_n 1, 1) := by decide +kernel
theorem dX3_freeByClock_20 : decode cX3_freeByClock 20 = .ok (.iconst (-1), 1) := by decide +kernel
theorem dX3_freeByClock_21 : decode cX3_freeByClock 21 = .ok (.if_icmp .ne 48, 3) := by decide +kernel
theorem dX3_freeByClock_24 : decode cX3_freeByClock 24 = .ok (.aload_n 0, 1) := by decide +kernel
theorem dX3_freeByClock_25 : decode cX3_freeByClock 25 = .ok (.aload_n 0, 1) := by decide +kernel
theorem dX3_freeByClock_26 : decode cX3_freeByClock 26 = .ok (.getfield 25, 3) := by decide +kernel
theorem dX3_freeByClock_29 : decode cX3_freeByClock 29 = .ok (.getfield 75, 3) := by decide +kernel
theorem dX3_freeByClock_32 : decode cX3_freeByClock 32 = .ok (.invokevirtual 276, 3) := by decide +kernel
theorem dX3_freeByClock_35 : decode cX3_freeByClock 35 = .ok (.ifCond .eq 14, 3) := by decide +kernel
theorem dX3_freeByClock_38 : decode cX3_freeByClock 38 = .ok (.aload_n 0, 1) := by decide +kernel
theorem dX3_freeByClock_39 : decode cX3_freeByClock 39 = .ok (.getfield 25, 3) := by decide +kernel
theorem dX3_freeByClock_42 : decode cX3_freeByClock 42 = .ok (.getfield 75, 3) := by decide +kernel
theorem dX3_freeByClock_45 : decode cX3_freeByClock 45 = .ok (.istore_n 1, 1) := by decide +kernel
theorem dX3_freeByClock_46 : decode cX3_freeByClock 46 = .ok (.goto 17, 3) := by decide +kernel
theorem dX3_freeByClock_49 : decode cX3_freeByClock 49 = .ok (.aload_n 0, 1) := by decide +kernel
theorem dX3_freeByClock_50 : decode cX3_freeByClock 50 = .ok (.getfield 25, 3) := by decide +kernel
theorem dX3_freeByClock_53 : decode cX3_freeByClock 53 = .ok (.aload_n 0, 1) := by decide +kernel
theorem dX3_freeByClock_54 : decode cX3_freeByClock 54 = .ok (.getfield 25, 3) := by decide +kernel
theorem dX3_freeByClock_57 : decode cX3_freeByClock 57 = .ok (.getfield 75, 3) := by decide +kernel
theorem dX3_freeByClock_60 : decode cX3_freeByClock 60 = .ok (.invokevirtual 279, 3) := by decide +kernel
theorem dX3_freeByClock_63 : decode cX3_freeByClock 63 = .ok (.iinc 3 1, 3) := by decide +kernel
theorem dX3_freeByClock_66 : decode cX3_freeByClock 66 = .ok (.goto (-52), 3) := by decide +kernel
theorem dX3_freeByClock_69 : decode cX3_freeByClock 69 = .ok (.iload_n 1, 1) := by decide +kernel
theorem dX3_freeByClock_70 : decode cX3_freeByClock 70 = .ok (.iconst (-1), 1) := by decide +kernel
theorem dX3_freeByClock_71 : decode cX3_freeByClock 71 = .ok (.if_icmp .ne 11, 3) := by decide +kernel
theorem dX3_freeByClock_74 : decode cX3_freeByClock 74 = .ok (.aload_n 0, 1) := by decide +kernel
theorem dX3_freeByClock_75 : decode cX3_freeByClock 75 = .ok (.getfield 25, 3) := by decide +kernel
theorem dX3_freeByClock_78 : decode cX3_freeByClock 78 = .ok (.invokevirtual 247, 3) := by decide +kernel
theorem dX3_freeByClock_81 : decode cX3_freeByClock 81 = .ok (.istore_n 1, 1) := by decide +kernel
theorem dX3_freeByClock_82 : decode cX3_freeByClock 82 = .ok (.iload_n 1, 1) := by decide +kernel
theorem dX3_freeByClock_83 : decode cX3_freeByClock 83 = .ok (.iconst (-1), 1) := by decide +kernel
theorem dX3_freeByClock_84 : decode cX3_freeByClock 84 = .ok (.if_icmp .ne 25, 3) := by decide +kernel
theorem dX3_freeByClock_87 : decode cX3_freeByClock 87 = .ok (.aload_n 0, 1) := by decide +kernel
theorem dX3_freeByClock_88 : decode cX3_freeByClock 88 = .ok (.getfield 25, 3) := by decide +kernel
theorem dX3_freeByClock_91 : decode cX3_freeByClock 91 = .ok (.invokevirtual 282, 3) := by decide +kernel
theorem dX3_freeByClock_94 : decode cX3_freeByClock 94 = .ok (.istore_n 1, 1) := by decide +kernel
theorem dX3_freeByClock_95 : decode cX3_freeByClock 95 = .ok (.aload_n 0, 1) := by decide +kernel
theorem dX3_freeByClock_96 : decode cX3_freeByClock 96 = .ok (.aload_n 0, 1) := by decide +kernel
theorem dX3_freeByClock_97 : decode cX3_freeByClock 97 = .ok (.getfield 25, 3) := by decide +kernel
theorem dX3_freeByClock_100 : decode cX3_freeByClock 100 = .ok (.getfield 165, 3) := by decide +kernel
theorem dX3_freeByClock_103 : decode cX3_freeByClock 103 = .ok (.iload_n 1, 1) := by decide +kernel
theorem dX3_freeByClock_104 : decode cX3_freeByClock 104 = .ok (.aaload, 1) := by decide +kernel
theorem dX3_freeByClock_105 : decode cX3_freeByClock 105 = .ok (.invokevirtual 168, 3) := by decide +kernel
theorem dX3_freeByClock_108 : decode cX3_freeByClock 108 = .ok (.pop, 1) := by decide +kernel
theorem dX3_freeByClock_109 : decode cX3_freeByClock 109 = .ok (.aload_n 0, 1) := by decide +kernel
theorem dX3_freeByClock_110 : decode cX3_freeByClock 110 = .ok (.getfield 25, 3) := by decide +kernel
theorem dX3_freeByClock_113 : decode cX3_freeByClock 113 = .ok (.iload_n 1, 1) := by decide +kernel
theorem dX3_freeByClock_114 : decode cX3_freeByClock 114 = .ok (.invokevirtual 252, 3) := by decide +kernel
theorem dX3_freeByClock_117 : decode cX3_freeByClock 117 = .ok (.aload_n 0, 1) := by decide +kernel
theorem dX3_freeByClock_118 : decode cX3_freeByClock 118 = .ok (.getfield 39, 3) := by decide +kernel
theorem dX3_freeByClock_121 : decode cX3_freeByClock 121 = .ok (.iconst 4, 1) := by decide +kernel
theorem dX3_freeByClock_122 : decode cX3_freeByClock 122 = .ok (.dup2, 1) := by decide +kernel
theorem dX3_freeByClock_123 : decode cX3_freeByClock 123 = .ok (.iaload, 1) := by decide +kernel
theorem dX3_freeByClock_124 : decode cX3_freeByClock 124 = .ok (.iconst 1, 1) := by decide +kernel
theorem dX3_freeByClock_125 : decode cX3_freeByClock 125 = .ok (.iadd, 1) := by decide +kernel
theorem dX3_freeByClock_126 : decode cX3_freeByClock 126 = .ok (.iastore, 1) := by decide +kernel
theorem dX3_freeByClock_127 : decode cX3_freeByClock 127 = .ok (.aload_n 0, 1) := by decide +kernel
theorem dX3_freeByClock_128 : decode cX3_freeByClock 128 = .ok (.getfield 25, 3) := by decide +kernel
theorem dX3_freeByClock_131 : decode cX3_freeByClock 131 = .ok (.iload_n 1, 1) := by decide +kernel
theorem dX3_freeByClock_132 : decode cX3_freeByClock 132 = .ok (.invokevirtual 279, 3) := by decide +kernel
theorem dX3_freeByClock_135 : decode cX3_freeByClock 135 = .ok (.iload_n 1, 1) := by decide +kernel
theorem dX3_freeByClock_136 : decode cX3_freeByClock 136 = .ok (.ireturn, 1) := by decide +kernel
theorem dX3_givesWayWhenLookedAt_0 : decode cX3_givesWayWhenLookedAt 0 = .ok (.aload_n 0, 1) := by decide +kernel
theorem dX3_givesWayWhenLookedAt_1 : decode cX3_givesWayWhenLookedAt 1 = .ok (.getfield 25, 3) := by decide +kernel
theorem dX3_givesWayWhenLookedAt_4 : decode cX3_givesWayWhenLookedAt 4 = .ok (.getfield 181, 3) := by decide +kernel
theorem dX3_givesWayWhenLookedAt_7 : decode cX3_givesWayWhenLookedAt 7 = .ok (.iload_n 1, 1) := by decide +kernel
theorem dX3_givesWayWhenLookedAt_8 : decode cX3_givesWayWhenLookedAt 8 = .ok (.baload, 1) := by decide +kernel
theorem dX3_givesWayWhenLookedAt_9 : decode cX3_givesWayWhenLookedAt 9 = .ok (.ifCond .eq 28, 3) := by decide +kernel
theorem dX3_givesWayWhenLookedAt_12 : decode cX3_givesWayWhenLookedAt 12 = .ok (.aload_n 0, 1) := by decide +kernel
theorem dX3_givesWayWhenLookedAt_13 : decode cX3_givesWayWhenLookedAt 13 = .ok (.getfield 25, 3) := by decide +kernel
theorem dX3_givesWayWhenLookedAt_16 : decode cX3_givesWayWhenLookedAt 16 = .ok (.getfield 181, 3) := by decide +kernel
theorem dX3_givesWayWhenLookedAt_19 : decode cX3_givesWayWhenLookedAt 19 = .ok (.iload_n 1, 1) := by decide +kernel
theorem dX3_givesWayWhenLookedAt_20 : decode cX3_givesWayWhenLookedAt 20 = .ok (.iconst 0, 1) := by decide +kernel
theorem dX3_givesWayWhenLookedAt_21 : decode cX3_givesWayWhenLookedAt 21 = .ok (.bastore, 1) := by decide +kernel
theorem dX3_givesWayWhenLookedAt_22 : decode cX3_givesWayWhenLookedAt 22 = .ok (.aload_n 0, 1) := by decide +kernel
theorem dX3_givesWayWhenLookedAt_23 : decode cX3_givesWayWhenLookedAt 23 = .ok (.getfield 25, 3) := by decide +kernel
theorem dX3_givesWayWhenLookedAt_26 : decode cX3_givesWayWhenLookedAt 26 = .ok (.getfield 178, 3) := by decide +kernel
theorem dX3_givesWayWhenLookedAt_29 : decode cX3_givesWayWhenLookedAt 29 = .ok (.iload_n 1, 1) := by decide +kernel
theorem dX3_givesWayWhenLookedAt_30 : decode cX3_givesWayWhenLookedAt 30 = .ok (.aload_n 0, 1) := by decide +kernel
theorem dX3_givesWayWhenLookedAt_31 : decode cX3_givesWayWhenLookedAt 31 = .ok (.getfield 53, 3) := by decide +kernel
theorem dX3_givesWayWhenLookedAt_34 : decode cX3_givesWayWhenLookedAt 34 = .ok (.iastore, 1) := by decide +kernel
theorem dX3_givesWayWhenLookedAt_35 : decode cX3_givesWayWhenLookedAt 35 = .ok (.iconst 0, 1) := by decide +kernel
theorem dX3_givesWayWhenLookedAt_36 : decode cX3_givesWayWhenLookedAt 36 = .ok (.ireturn, 1) := by decide +kernel
theorem dX3_givesWayWhenLookedAt_37 : decode cX3_givesWayWhenLookedAt 37 = .ok (.aload_n 0, 1) := by decide +kernel
theorem dX3_givesWayWhenLookedAt_38 : decode cX3_givesWayWhenLookedAt 38 = .ok (.iload_n 1, 1) := by decide +kernel
theorem dX3_givesWayWhenLookedAt_39 : decode cX3_givesWayWhenLookedAt 39 = .ok (.invokevirtual 185, 3) := by decide +kernel
theorem dX3_givesWayWhenLookedAt_42 : decode cX3_givesWayWhenLookedAt 42 = .ok (.ifCond .ne 5, 3) := by decide +kernel
theorem dX3_givesWayWhenLookedAt_45 : decode cX3_givesWayWhenLookedAt 45 = .ok (.iconst 0, 1) := by decide +kernel
theorem dX3_givesWayWhenLookedAt_46 : decode cX3_givesWayWhenLookedAt 46 = .ok (.ireturn, 1) := by decide +kernel
theorem dX3_givesWayWhenLookedAt_47 : decode cX3_givesWayWhenLookedAt 47 = .ok (.aload_n 0, 1) := by decide +kernel
theorem dX3_givesWayWhenLookedAt_48 : decode cX3_givesWayWhenLookedAt 48 = .ok (.getfield 25, 3) := by decide +kernel
theorem dX3_givesWayWhenLookedAt_51 : decode cX3_givesWayWhenLookedAt 51 = .ok (.getfield 165, 3) := by decide +kernel
theorem dX3_givesWayWhenLookedAt_54 : decode cX3_givesWayWhenLookedAt 54 = .ok (.iload_n 1, 1) := by decide +kernel
theorem dX3_givesWayWhenLookedAt_55 : decode cX3_givesWayWhenLookedAt 55 = .ok (.aaload, 1) := by decide +kernel
theorem dX3_givesWayWhenLookedAt_56 : decode cX3_givesWayWhenLookedAt 56 = .ok (.astore_n 2, 1) := by decide +kernel
theorem dX3_givesWayWhenLookedAt_57 : decode cX3_givesWayWhenLookedAt 57 = .ok (.aload_n 2, 1) := by decide +kernel
theorem dX3_givesWayWhenLookedAt_58 : decode cX3_givesWayWhenLookedAt 58 = .ok (.ifnull 18, 3) := by decide +kernel
theorem dX3_givesWayWhenLookedAt_61 : decode cX3_givesWayWhenLookedAt 61 = .ok (.aload_n 2, 1) := by decide +kernel
theorem dX3_givesWayWhenLookedAt_62 : decode cX3_givesWayWhenLookedAt 62 = .ok (.getfield 162, 3) := by decide +kernel
theorem dX3_givesWayWhenLookedAt_65 : decode cX3_givesWayWhenLookedAt 65 = .ok (.ifCond .eq 11, 3) := by decide +kernel
theorem dX3_givesWayWhenLookedAt_68 : decode cX3_givesWayWhenLookedAt 68 = .ok (.aload_n 0, 1) := by decide +kernel
theorem dX3_givesWayWhenLookedAt_69 : decode cX3_givesWayWhenLookedAt 69 = .ok (.aload_n 2, 1) := by decide +kernel
theorem dX3_givesWayWhenLookedAt_70 : decode cX3_givesWayWhenLookedAt 70 = .ok (.invokevirtual 168, 3) := by decide +kernel
theorem dX3_givesWayWhenLookedAt_73 : decode cX3_givesWayWhenLookedAt 73 = .ok (.pop, 1) := by decide +kernel
theorem dX3_givesWayWhenLookedAt_74 : decode cX3_givesWayWhenLookedAt 74 = .ok (.iconst 0, 1) := by decide +kernel
theorem dX3_givesWayWhenLookedAt_75 : decode cX3_givesWayWhenLookedAt 75 = .ok (.ireturn, 1) := by decide +kernel
theorem dX3_givesWayWhenLookedAt_76 : decode cX3_givesWayWhenLookedAt 76 = .ok (.iconst 1, 1) := by decide +kernel
theorem dX3_givesWayWhenLookedAt_77 : decode cX3_givesWayWhenLookedAt 77 = .ok (.ireturn, 1) := by decide +kernel
theorem dX3_isOutsideWindow_0 : decode cX3_isOutsideWindow 0 = .ok (.aload_n 0, 1) := by decide +kernel
theorem dX3_isOutsideWindow_1 : decode cX3_isOutsideWindow 1 = .ok (.getfield 53, 3) := by decide +kernel
theorem dX3_isOutsideWindow_4 : decode cX3_isOutsideWindow 4 = .ok (.aload_n 0, 1) := by decide +kernel
theorem dX3_isOutsideWindow_5 : decode cX3_isOutsideWindow 5 = .ok (.getfield 25, 3) := by decide +kernel
theorem dX3_isOutsideWindow_8 : decode cX3_isOutsideWindow 8 = .ok (.getfield 178, 3) := by decide +kernel
theorem dX3_isOutsideWindow_11 : decode cX3_isOutsideWindow 11 = .ok (.iload_n 1, 1) := by decide +kernel
theorem dX3_isOutsideWindow_12 : decode cX3_isOutsideWindow 12 = .ok (.iaload, 1) := by decide +kernel
theorem dX3_isOutsideWindow_13 : decode cX3_isOutsideWindow 13 = .ok (.isub, 1) := by decide +kernel
theorem dX3_isOutsideWindow_14 : decode cX3_isOutsideWindow 14 = .ok (.aload_n 0, 1) := by decide +kernel
theorem dX3_isOutsideWindow_15 : decode cX3_isOutsideWindow 15 = .ok (.getfield 50, 3) := by decide +kernel
theorem dX3_isOutsideWindow_18 : decode cX3_isOutsideWindow 18 = .ok (.if_icmp .le 7, 3) := by decide +kernel
theorem dX3_isOutsideWindow_21 : decode cX3_isOutsideWindow 21 = .ok (.iconst 1, 1) := by decide +kernel
theorem dX3_isOutsideWindow_22 : decode cX3_isOutsideWindow 22 = .ok (.goto 4, 3) := by decide +kernel
theorem dX3_isOutsideWindow_25 : decode cX3_isOutsideWindow 25 = .ok (.iconst 0, 1) := by decide +kernel
theorem dX3_isOutsideWindow_26 : decode cX3_isOutsideWindow 26 = .ok (.ireturn, 1) := by decide +kernel
theorem dX3_writeOut_0 : decode cX3_writeOut 0 = .ok (.aload_n 1, 1) := by decide +kernel
theorem dX3_writeOut_1 : decode cX3_writeOut 1 = .ok (.ifnonnull 5, 3) := by decide +kernel
theorem dX3_writeOut_4 : decode cX3_writeOut 4 = .ok (.iconst 0, 1) := by decide +kernel
theorem dX3_writeOut_5 : decode cX3_writeOut 5 = .ok (.ireturn, 1) := by decide +kernel
theorem dX3_writeOut_6 : decode cX3_writeOut 6 = .ok (.aload_n 1, 1) := by decide +kernel
theorem dX3_writeOut_7 : decode cX3_writeOut 7 = .ok (.getfield 129, 3) := by decide +kernel
theorem dX3_writeOut_10 : decode cX3_writeOut 10 = .ok (.ifCond .eq 10, 3) := by decide +kernel
theorem dX3_writeOut_13 : decode cX3_writeOut 13 = .ok (.aload_n 1, 1) := by decide +kernel
theorem dX3_writeOut_14 : decode cX3_writeOut 14 = .ok (.getfield 285, 3) := by decide +kernel
theorem dX3_writeOut_17 : decode cX3_writeOut 17 = .ok (.goto 8, 3) := by decide +kernel
theorem dX3_writeOut_20 : decode cX3_writeOut 20 = .ok (.aload_n 0, 1) := by decide +kernel
theorem dX3_writeOut_21 : decode cX3_writeOut 21 = .ok (.aload_n 1, 1) := by decide +kernel
theorem dX3_writeOut_22 : decode cX3_writeOut 22 = .ok (.invokevirtual 288, 3) := by decide +kernel
theorem dX3_writeOut_25 : decode cX3_writeOut 25 = .ok (.istore_n 2, 1) := by decide +kernel
theorem dX3_writeOut_26 : decode cX3_writeOut 26 = .ok (.aload_n 0, 1) := by decide +kernel
theorem dX3_writeOut_27 : decode cX3_writeOut 27 = .ok (.aload_n 1, 1) := by decide +kernel
theorem dX3_writeOut_28 : decode cX3_writeOut 28 = .ok (.iload_n 2, 1) := by decide +kernel
theorem dX3_writeOut_29 : decode cX3_writeOut 29 = .ok (.invokevirtual 291, 3) := by decide +kernel
theorem dX3_writeOut_32 : decode cX3_writeOut 32 = .ok (.istore_n 3, 1) := by decide +kernel
theorem dX3_writeOut_33 : decode cX3_writeOut 33 = .ok (.iload_n 3, 1) := by decide +kernel
theorem dX3_writeOut_34 : decode cX3_writeOut 34 = .ok (.ifCond .le 51, 3) := by decide +kernel
theorem dX3_writeOut_37 : decode cX3_writeOut 37 = .ok (.aload_n 0, 1) := by decide +kernel
theorem dX3_writeOut_38 : decode cX3_writeOut 38 = .ok (.getfield 32, 3) := by decide +kernel
theorem dX3_writeOut_41 : decode cX3_writeOut 41 = .ok (.iload_n 3, 1) := by decide +kernel
theorem dX3_writeOut_42 : decode cX3_writeOut 42 = .ok (.invokevirtual 295, 3) := by decide +kernel
theorem dX3_writeOut_45 : decode cX3_writeOut 45 = .ok (.istore 4, 2) := by decide +kernel
theorem dX3_writeOut_47 : decode cX3_writeOut 47 = .ok (.iload 4, 2) := by decide +kernel
theorem dX3_writeOut_49 : decode cX3_writeOut 49 = .ok (.iconst (-1), 1) := by decide +kernel
theorem dX3_writeOut_50 : decode cX3_writeOut 50 = .ok (.if_icmp .eq 29, 3) := by decide +kernel
theorem dX3_writeOut_53 : decode cX3_writeOut 53 = .ok (.aload_n 0, 1) := by decide +kernel
theorem dX3_writeOut_54 : decode cX3_writeOut 54 = .ok (.getfield 32, 3) := by decide +kernel
theorem dX3_writeOut_57 : decode cX3_writeOut 57 = .ok (.aload_n 0, 1) := by decide +kernel
theorem dX3_writeOut_58 : decode cX3_writeOut 58 = .ok (.getfield 36, 3) := by decide +kernel
theorem dX3_writeOut_61 : decode cX3_writeOut 61 = .ok (.iload_n 3, 1) := by decide +kernel
theorem dX3_writeOut_62 : decode cX3_writeOut 62 = .ok (.iload 4, 2) := by decide +kernel
theorem dX3_writeOut_64 : decode cX3_writeOut 64 = .ok (.invokevirtual 298, 3) := by decide +kernel
theorem dX3_writeOut_67 : decode cX3_writeOut 67 = .ok (.aload_n 0, 1) := by decide +kernel
theorem dX3_writeOut_68 : decode cX3_writeOut 68 = .ok (.getfield 39, 3) := by decide +kernel
theorem dX3_writeOut_71 : decode cX3_writeOut 71 = .ok (.iconst 5, 1) := by decide +kernel
theorem dX3_writeOut_72 : decode cX3_writeOut 72 = .ok (.dup2, 1) := by decide +kernel
theorem dX3_writeOut_73 : decode cX3_writeOut 73 = .ok (.iaload, 1) := by decide +kernel
theorem dX3_writeOut_74 : decode cX3_writeOut 74 = .ok (.iload_n 3, 1) := by decide +kernel
theorem dX3_writeOut_75 : decode cX3_writeOut 75 = .ok (.iadd, 1) := by decide +kernel
theorem dX3_writeOut_76 : decode cX3_writeOut 76 = .ok (.iastore, 1) := by decide +kernel
theorem dX3_writeOut_77 : decode cX3_writeOut 77 = .ok (.iload_n 3, 1) := by decide +kernel
theorem dX3_writeOut_78 : decode cX3_writeOut 78 = .ok (.ireturn, 1) := by decide +kernel
theorem dX3_writeOut_79 : decode cX3_writeOut 79 = .ok (.iinc 3 (-1), 3) := by decide +kernel
theorem dX3_writeOut_82 : decode cX3_writeOut 82 = .ok (.goto (-49), 3) := by decide +kernel
theorem dX3_writeOut_85 : decode cX3_writeOut 85 = .ok (.iconst 0, 1) := by decide +kernel
theorem dX3_writeOut_86 : decode cX3_writeOut 86 = .ok (.ireturn, 1) := by decide +kernel
theorem dX3_firstPageOf_0 : decode cX3_firstPageOf 0 = .ok (.iconst 0, 1) := by decide +kernel
theorem dX3_firstPageOf_1 : decode cX3_firstPageOf 1 = .ok (.istore_n 2, 1) := by decide +kernel
theorem dX3_firstPageOf_2 : decode cX3_firstPageOf 2 = .ok (.iload_n 2, 1) := by decide +kernel
theorem dX3_firstPageOf_3 : decode cX3_firstPageOf 3 = .ok (.aload_n 0, 1) := by decide +kernel
theorem dX3_firstPageOf_4 : decode cX3_firstPageOf 4 = .ok (.getfield 11, 3) := by decide +kernel
theorem dX3_firstPageOf_7 : decode cX3_firstPageOf 7 = .ok (.arraylength, 1) := by decide +kernel
theorem dX3_firstPageOf_8 : decode cX3_firstPageOf 8 = .ok (.if_icmp .ge 21, 3) := by decide +kernel
theorem dX3_firstPageOf_11 : decode cX3_firstPageOf 11 = .ok (.aload_n 0, 1) := by decide +kernel
theorem dX3_firstPageOf_12 : decode cX3_firstPageOf 12 = .ok (.getfield 11, 3) := by decide +kernel
theorem dX3_firstPageOf_15 : decode cX3_firstPageOf 15 = .ok (.iload_n 2, 1) := by decide +kernel
theorem dX3_firstPageOf_16 : decode cX3_firstPageOf 16 = .ok (.aaload, 1) := by decide +kernel
theorem dX3_firstPageOf_17 : decode cX3_firstPageOf 17 = .ok (.aload_n 1, 1) := by decide +kernel
theorem dX3_firstPageOf_18 : decode cX3_firstPageOf 18 = .ok (.if_acmp .ne 5, 3) := by decide +kernel
theorem dX3_firstPageOf_21 : decode cX3_firstPageOf 21 = .ok (.iload_n 2, 1) := by decide +kernel
theorem dX3_firstPageOf_22 : decode cX3_firstPageOf 22 = .ok (.ireturn, 1) := by decide +kernel
theorem dX3_firstPageOf_23 : decode cX3_firstPageOf 23 = .ok (.iinc 2 1, 3) := by decide +kernel
theorem dX3_firstPageOf_26 : decode cX3_firstPageOf 26 = .ok (.goto (-24), 3) := by decide +kernel
theorem dX3_firstPageOf_29 : decode cX3_firstPageOf 29 = .ok (.aload_n 0, 1) := by decide +kernel
theorem dX3_firstPageOf_30 : decode cX3_firstPageOf 30 = .ok (.getfield 11, 3) := by decide +kernel
theorem dX3_firstPageOf_33 : decode cX3_firstPageOf 33 = .ok (.arraylength, 1) := by decide +kernel
theorem dX3_firstPageOf_34 : decode cX3_firstPageOf 34 = .ok (.ireturn, 1) := by decide +kernel
theorem dX3_gatherCluster_0 : decode cX3_gatherCluster 0 = .ok (.aload_n 1, 1) := by decide +kernel
theorem dX3_gatherCluster_1 : decode cX3_gatherCluster 1 = .ok (.getfield 129, 3) := by decide +kernel
theorem dX3_gatherCluster_4 : decode cX3_gatherCluster 4 = .ok (.ifCond .eq 10, 3) := by decide +kernel
theorem dX3_gatherCluster_7 : decode cX3_gatherCluster 7 = .ok (.aload_n 0, 1) := by decide +kernel
theorem dX3_gatherCluster_8 : decode cX3_gatherCluster 8 = .ok (.getfield 19, 3) := by decide +kernel
theorem dX3_gatherCluster_11 : decode cX3_gatherCluster 11 = .ok (.goto 7, 3) := by decide +kernel
theorem dX3_gatherCluster_14 : decode cX3_gatherCluster 14 = .ok (.aload_n 0, 1) := by decide +kernel
theorem dX3_gatherCluster_15 : decode cX3_gatherCluster 15 = .ok (.getfield 11, 3) := by decide +kernel
theorem dX3_gatherCluster_18 : decode cX3_gatherCluster 18 = .ok (.astore_n 3, 1) := by decide +kernel
theorem dX3_gatherCluster_19 : decode cX3_gatherCluster 19 = .ok (.aload_n 1, 1) := by decide +kernel
theorem dX3_gatherCluster_20 : decode cX3_gatherCluster 20 = .ok (.getfield 129, 3) := by decide +kernel
theorem dX3_gatherCluster_23 : decode cX3_gatherCluster 23 = .ok (.ifCond .eq 15, 3) := by decide +kernel
theorem dX3_gatherCluster_26 : decode cX3_gatherCluster 26 = .ok (.iload_n 2, 1) := by decide +kernel
theorem dX3_gatherCluster_27 : decode cX3_gatherCluster 27 = .ok (.bipush 6, 2) := by decide +kernel
theorem dX3_gatherCluster_29 : decode cX3_gatherCluster 29 = .ok (.idiv, 1) := by decide +kernel
theorem dX3_gatherCluster_30 : decode cX3_gatherCluster 30 = .ok (.iconst 1, 1) := by decide +kernel
theorem dX3_gatherCluster_31 : decode cX3_gatherCluster 31 = .ok (.iadd, 1) := by decide +kernel
theorem dX3_gatherCluster_32 : decode cX3_gatherCluster 32 = .ok (.bipush 6, 2) := by decide +kernel
theorem dX3_gatherCluster_34 : decode cX3_gatherCluster 34 = .ok (.imul, 1) := by decide +kernel
theorem dX3_gatherCluster_35 : decode cX3_gatherCluster 35 = .ok (.goto 12, 3) := by decide +kernel
theorem dX3_gatherCluster_38 : decode cX3_gatherCluster 38 = .ok (.iload_n 2, 1) := by decide +kernel
theorem dX3_gatherCluster_39 : decode cX3_gatherCluster 39 = .ok (.bipush 16, 2) := by decide +kernel
theorem dX3_gatherCluster_41 : decode cX3_gatherCluster 41 = .ok (.idiv, 1) := by decide +kernel
theorem dX3_gatherCluster_42 : decode cX3_gatherCluster 42 = .ok (.iconst 1, 1) := by decide +kernel
theorem dX3_gatherCluster_43 : decode cX3_gatherCluster 43 = .ok (.iadd, 1) := by decide +kernel
theorem dX3_gatherCluster_44 : decode cX3_gatherCluster 44 = .ok (.bipush 16, 2) := by decide +kernel
theorem dX3_gatherCluster_46 : decode cX3_gatherCluster 46 = .ok (.imul, 1) := by decide +kernel
theorem dX3_gatherCluster_47 : decode cX3_gatherCluster 47 = .ok (.istore 4, 2) := by decide +kernel
theorem dX3_gatherCluster_49 : decode cX3_gatherCluster 49 = .ok (.aload_n 0, 1) := by decide +kernel
theorem dX3_gatherCluster_50 : decode cX3_gatherCluster 50 = .ok (.getfield 36, 3) := by decide +kernel
theorem dX3_gatherCluster_53 : decode cX3_gatherCluster 53 = .ok (.iconst 0, 1) := by decide +kernel
theorem dX3_gatherCluster_54 : decode cX3_gatherCluster 54 = .ok (.aload_n 1, 1) := by decide +kernel
theorem dX3_gatherCluster_55 : decode cX3_gatherCluster 55 = .ok (.aastore, 1) := by decide +kernel
theorem dX3_gatherCluster_56 : decode cX3_gatherCluster 56 = .ok (.iconst 1, 1) := by decide +kernel
theorem dX3_gatherCluster_57 : decode cX3_gatherCluster 57 = .ok (.istore 5, 2) := by decide +kernel
theorem dX3_gatherCluster_59 : decode cX3_gatherCluster 59 = .ok (.iload_n 2, 1) := by decide +kernel
theorem dX3_gatherCluster_60 : decode cX3_gatherCluster 60 = .ok (.iconst 1, 1) := by decide +kernel
theorem dX3_gatherCluster_61 : decode cX3_gatherCluster 61 = .ok (.iadd, 1) := by decide +kernel
theorem dX3_gatherCluster_62 : decode cX3_gatherCluster 62 = .ok (.istore 6, 2) := by decide +kernel
theorem dX3_gatherCluster_64 : decode cX3_gatherCluster 64 = .ok (.iload 6, 2) := by decide +kernel
theorem dX3_gatherCluster_66 : decode cX3_gatherCluster 66 = .ok (.iload 4, 2) := by decide +kernel
theorem dX3_gatherCluster_68 : decode cX3_gatherCluster 68 = .ok (.if_icmp .ge 68, 3) := by decide +kernel
theorem dX3_gatherCluster_71 : decode cX3_gatherCluster 71 = .ok (.iload 6, 2) := by decide +kernel
theorem dX3_gatherCluster_73 : decode cX3_gatherCluster 73 = .ok (.aload_n 3, 1) := by decide +kernel
theorem dX3_gatherCluster_74 : decode cX3_gatherCluster 74 = .ok (.arraylength, 1) := by decide +kernel
theorem dX3_gatherCluster_75 : decode cX3_gatherCluster 75 = .ok (.if_icmp .ge 61, 3) := by decide +kernel
theorem dX3_gatherCluster_78 : decode cX3_gatherCluster 78 = .ok (.aload_n 3, 1) := by decide +kernel
theorem dX3_gatherCluster_79 : decode cX3_gatherCluster 79 = .ok (.iload 6, 2) := by decide +kernel
theorem dX3_gatherCluster_81 : decode cX3_gatherCluster 81 = .ok (.aaload, 1) := by decide +kernel
theorem dX3_gatherCluster_82 : decode cX3_gatherCluster 82 = .ok (.astore 7, 2) := by decide +kernel
theorem dX3_gatherCluster_84 : decode cX3_gatherCluster 84 = .ok (.iload 5, 2) := by decide +kernel
theorem dX3_gatherCluster_86 : decode cX3_gatherCluster 86 = .ok (.iconst 4, 1) := by decide +kernel
theorem dX3_gatherCluster_87 : decode cX3_gatherCluster 87 = .ok (.if_icmp .eq 49, 3) := by decide +kernel
theorem dX3_gatherCluster_90 : decode cX3_gatherCluster 90 = .ok (.aload 7, 2) := by decide +kernel
theorem dX3_gatherCluster_92 : decode cX3_gatherCluster 92 = .ok (.ifnull 44, 3) := by decide +kernel
theorem dX3_gatherCluster_95 : decode cX3_gatherCluster 95 = .ok (.aload 7, 2) := by decide +kernel
theorem dX3_gatherCluster_97 : decode cX3_gatherCluster 97 = .ok (.getfield 129, 3) := by decide +kernel
theorem dX3_gatherCluster_100 : decode cX3_gatherCluster 100 = .ok (.aload_n 1, 1) := by decide +kernel
theorem dX3_gatherCluster_101 : decode cX3_gatherCluster 101 = .ok (.getfield 129, 3) := by decide +kernel
theorem dX3_gatherCluster_104 : decode cX3_gatherCluster 104 = .ok (.if_icmp .ne 32, 3) := by decide +kernel
theorem dX3_gatherCluster_107 : decode cX3_gatherCluster 107 = .ok (.aload 7, 2) := by decide +kernel
theorem dX3_gatherCluster_109 : decode cX3_gatherCluster 109 = .ok (.getfield 162, 3) := by decide +kernel
theorem dX3_gatherCluster_112 : decode cX3_gatherCluster 112 = .ok (.ifCond .ne 6, 3) := by decide +kernel
theorem dX3_gatherCluster_115 : decode cX3_gatherCluster 115 = .ok (.goto 21, 3) := by decide +kernel
theorem dX3_gatherCluster_118 : decode cX3_gatherCluster 118 = .ok (.aload_n 0, 1) := by decide +kernel
theorem dX3_gatherCluster_119 : decode cX3_gatherCluster 119 = .ok (.getfield 36, 3) := by decide +kernel
theorem dX3_gatherCluster_122 : decode cX3_gatherCluster 122 = .ok (.iload 5, 2) := by decide +kernel
theorem dX3_gatherCluster_124 : decode cX3_gatherCluster 124 = .ok (.aload 7, 2) := by decide +kernel
theorem dX3_gatherCluster_126 : decode cX3_gatherCluster 126 = .ok (.aastore, 1) := by decide +kernel
theorem dX3_gatherCluster_127 : decode cX3_gatherCluster 127 = .ok (.iinc 5 1, 3) := by decide +kernel
theorem dX3_gatherCluster_130 : decode cX3_gatherCluster 130 = .ok (.iinc 6 1, 3) := by decide +kernel
theorem dX3_gatherCluster_133 : decode cX3_gatherCluster 133 = .ok (.goto (-69), 3) := by decide +kernel
theorem dX3_gatherCluster_136 : decode cX3_gatherCluster 136 = .ok (.iload 5, 2) := by decide +kernel
theorem dX3_gatherCluster_138 : decode cX3_gatherCluster 138 = .ok (.ireturn, 1) := by decide +kernel
theorem dX4_init_0 : decode cX4_init 0 = .ok (.aload_n 0, 1) := by decide +kernel
theorem dX4_init_1 : decode cX4_init 1 = .ok (.invokespecial 1, 3) := by decide +kernel
theorem dX4_init_4 : decode cX4_init 4 = .ok (.aload_n 0, 1) := by decide +kernel
theorem dX4_init_5 : decode cX4_init 5 = .ok (.bipush 8, 2) := by decide +kernel
theorem dX4_init_7 : decode cX4_init 7 = .ok (.putfield 7, 3) := by decide +kernel
theorem dX4_init_10 : decode cX4_init 10 = .ok (.aload_n 0, 1) := by decide +kernel
theorem dX4_init_11 : decode cX4_init 11 = .ok (.bipush 6, 2) := by decide +kernel
theorem dX4_init_13 : decode cX4_init 13 = .ok (.putfield 13, 3) := by decide +kernel
theorem dX4_init_16 : decode cX4_init 16 = .ok (.aload_n 0, 1) := by decide +kernel
theorem dX4_init_17 : decode cX4_init 17 = .ok (.bipush 12, 2) := by decide +kernel
theorem dX4_init_19 : decode cX4_init 19 = .ok (.newarray .int, 2) := by decide +kernel
theorem dX4_init_21 : decode cX4_init 21 = .ok (.putfield 16, 3) := by decide +kernel
theorem dX4_init_24 : decode cX4_init 24 = .ok (.aload_n 0, 1) := by decide +kernel
theorem dX4_init_25 : decode cX4_init 25 = .ok (.bipush 12, 2) := by decide +kernel
theorem dX4_init_27 : decode cX4_init 27 = .ok (.newarray .int, 2) := by decide +kernel
theorem dX4_init_29 : decode cX4_init 29 = .ok (.putfield 20, 3) := by decide +kernel
theorem dX4_init_32 : decode cX4_init 32 = .ok (.aload_n 0, 1) := by decide +kernel
theorem dX4_init_33 : decode cX4_init 33 = .ok (.bipush 12, 2) := by decide +kernel
theorem dX4_init_35 : decode cX4_init 35 = .ok (.newarray .boolean, 2) := by decide +kernel
theorem dX4_init_37 : decode cX4_init 37 = .ok (.putfield 23, 3) := by decide +kernel
theorem dX4_init_40 : decode cX4_init 40 = .ok (.aload_n 0, 1) := by decide +kernel
theorem dX4_init_41 : decode cX4_init 41 = .ok (.bipush 24, 2) := by decide +kernel
theorem dX4_init_43 : decode cX4_init 43 = .ok (.newarray .int, 2) := by decide +kernel
theorem dX4_init_45 : decode cX4_init 45 = .ok (.putfield 27, 3) := by decide +kernel
theorem dX4_init_48 : decode cX4_init 48 = .ok (.aload_n 0, 1) := by decide +kernel
theorem dX4_init_49 : decode cX4_init 49 = .ok (.sipush 200, 3) := by decide +kernel
theorem dX4_init_52 : decode cX4_init 52 = .ok (.newarray .boolean, 2) := by decide +kernel
theorem dX4_init_54 : decode cX4_init 54 = .ok (.putfield 30, 3) := by decide +kernel
theorem dX4_init_57 : decode cX4_init 57 = .ok (.aload_n 0, 1) := by decide +kernel
theorem dX4_init_58 : decode cX4_init 58 = .ok (.sipush 200, 3) := by decide +kernel
theorem dX4_init_61 : decode cX4_init 61 = .ok (.newarray .boolean, 2) := by decide +kernel
theorem dX4_init_63 : decode cX4_init 63 = .ok (.putfield 33, 3) := by decide +kernel
theorem dX4_init_66 : decode cX4_init 66 = .ok (.aload_n 0, 1) := by decide +kernel
theorem dX4_init_67 : decode cX4_init 67 = .ok (.sipush 800, 3) := by decide +kernel
theorem dX4_init_70 : decode cX4_init 70 = .ok (.newarray .int, 2) := by decide +kernel
theorem dX4_init_72 : decode cX4_init 72 = .ok (.putfield 36, 3) := by decide +kernel
theorem dX4_init_75 : decode cX4_init 75 = .ok (.aload_n 0, 1) := by decide +kernel
theorem dX4_init_76 : decode cX4_init 76 = .ok (.bipush 10, 2) := by decide +kernel
theorem dX4_init_78 : decode cX4_init 78 = .ok (.newarray .boolean, 2) := by decide +kernel
theorem dX4_init_80 : decode cX4_init 80 = .ok (.putfield 39, 3) := by decide +kernel
theorem dX4_init_83 : decode cX4_init 83 = .ok (.aload_n 0, 1) := by decide +kernel
theorem dX4_init_84 : decode cX4_init 84 = .ok (.sipush 160, 3) := by decide +kernel
theorem dX4_init_87 : decode cX4_init 87 = .ok (.newarray .int, 2) := by decide +kernel
theorem dX4_init_89 : decode cX4_init 89 = .ok (.putfield 42, 3) := by decide +kernel
theorem dX4_init_92 : decode cX4_init 92 = .ok (.aload_n 0, 1) := by decide +kernel
theorem dX4_init_93 : decode cX4_init 93 = .ok (.sipush 160, 3) := by decide +kernel
theorem dX4_init_96 : decode cX4_init 96 = .ok (.newarray .int, 2) := by decide +kernel
theorem dX4_init_98 : decode cX4_init 98 = .ok (.putfield 45, 3) := by decide +kernel
theorem dX4_init_101 : decode cX4_init 101 = .ok (.aload_n 0, 1) := by decide +kernel
theorem dX4_init_102 : decode cX4_init 102 = .ok (.iconst 4, 1) := by decide +kernel
theorem dX4_init_103 : decode cX4_init 103 = .ok (.newarray .int, 2) := by decide +kernel
theorem dX4_init_105 : decode cX4_init 105 = .ok (.putfield 48, 3) := by decide +kernel
theorem dX4_init_108 : decode cX4_init 108 = .ok (.aload_n 0, 1) := by decide +kernel
theorem dX4_init_109 : decode cX4_init 109 = .ok (.bipush 24, 2) := by decide +kernel
theorem dX4_init_111 : decode cX4_init 111 = .ok (.newarray .int, 2) := by decide +kernel
theorem dX4_init_113 : decode cX4_init 113 = .ok (.putfield 51, 3) := by decide +kernel
theorem dX4_init_116 : decode cX4_init 116 = .ok (.aload_n 0, 1) := by decide +kernel
theorem dX4_init_117 : decode cX4_init 117 = .ok (.bipush 6, 2) := by decide +kernel
theorem dX4_init_119 : decode cX4_init 119 = .ok (.newarray .int, 2) := by decide +kernel
theorem dX4_init_121 : decode cX4_init 121 = .ok (.putfield 54, 3) := by decide +kernel
theorem dX4_init_124 : decode cX4_init 124 = .ok (.aload_n 0, 1) := by decide +kernel
theorem dX4_init_125 : decode cX4_init 125 = .ok (.iconst 4, 1) := by decide +kernel
theorem dX4_init_126 : decode cX4_init 126 = .ok (.newarray .int, 2) := by decide +kernel
theorem dX4_init_128 : decode cX4_init 128 = .ok (.putfield 57, 3) := by decide +kernel
theorem dX4_init_131 : decode cX4_init 131 = .ok (.iconst 0, 1) := by decide +kernel
theorem dX4_init_132 : decode cX4_init 132 = .ok (.istore_n 1, 1) := by decide +kernel
theorem dX4_init_133 : decode cX4_init 133 = .ok (.iload_n 1, 1) := by decide +kernel
theorem dX4_init_134 : decode cX4_init 134 = .ok (.bipush 12, 2) := by decide +kernel
theorem dX4_init_136 : decode cX4_init 136 = .ok (.if_icmp .ge 16, 3) := by decide +kernel
theorem dX4_init_139 : decode cX4_init 139 = .ok (.aload_n 0, 1) := by decide +kernel
theorem dX4_init_140 : decode cX4_init 140 = .ok (.getfield 16, 3) := by decide +kernel
theorem dX4_init_143 : decode cX4_init 143 = .ok (.iload_n 1, 1) := by decide +kernel
theorem dX4_init_144 : decode cX4_init 144 = .ok (.iconst (-1), 1) := by decide +kernel
theorem dX4_init_145 : decode cX4_init 145 = .ok (.iastore, 1) := by decide +kernel
theorem dX4_init_146 : decode cX4_init 146 = .ok (.iinc 1 1, 3) := by decide +kernel
theorem dX4_init_149 : decode cX4_init 149 = .ok (.goto (-16), 3) := by decide +kernel
theorem dX4_init_152 : decode cX4_init 152 = .ok (.iconst 0, 1) := by decide +kernel
theorem dX4_init_153 : decode cX4_init 153 = .ok (.istore_n 1, 1) := by decide +kernel
theorem dX4_init_154 : decode cX4_init 154 = .ok (.iload_n 1, 1) := by decide +kernel
theorem dX4_init_155 : decode cX4_init 155 = .ok (.bipush 24, 2) := by decide +kernel
theorem dX4_init_157 : decode cX4_init 157 = .ok (.if_icmp .ge 16, 3) := by decide +kernel
theorem dX4_init_160 : decode cX4_init 160 = .ok (.aload_n 0, 1) := by decide +kernel
theorem dX4_init_161 : decode cX4_init 161 = .ok (.getfield 27, 3) := by decide +kernel
theorem dX4_init_164 : decode cX4_init 164 = .ok (.iload_n 1, 1) := by decide +kernel
theorem dX4_init_165 : decode cX4_init 165 = .ok (.iconst (-1), 1) := by decide +kernel
theorem dX4_init_166 : decode cX4_init 166 = .ok (.iastore, 1) := by decide +kernel
theorem dX4_init_167 : decode cX4_init 167 = .ok (.iinc 1 1, 3) := by decide +kernel
theorem dX4_init_170 : decode cX4_init 170 = .ok (.goto (-16), 3) := by decide +kernel
theorem dX4_init_173 : decode cX4_init 173 = .ok (.return_, 1) := by decide +kernel
theorem dX4_thrown_0 : decode cX4_thrown 0 = .ok (.aload_n 0, 1) := by decide +kernel
theorem dX4_thrown_1 : decode cX4_thrown 1 = .ok (.getfield 60, 3) := by decide +kernel
theorem dX4_thrown_4 : decode cX4_thrown 4 = .ok (.ireturn, 1) := by decide +kernel
theorem dX4_no_0 : decode cX4_no 0 = .ok (.aload_n 0, 1) := by decide +kernel
theorem dX4_no_1 : decode cX4_no 1 = .ok (.iload_n 1, 1) := by decide +kernel
theorem dX4_no_2 : decode cX4_no 2 = .ok (.putfield 60, 3) := by decide +kernel
theorem dX4_no_5 : decode cX4_no 5 = .ok (.iconst 0, 1) := by decide +kernel
theorem dX4_no_6 : decode cX4_no 6 = .ok (.ireturn, 1) := by decide +kernel
theorem dX4_frameWith_0 : decode cX4_frameWith 0 = .ok (.iconst 0, 1) := by decide +kernel
theorem dX4_frameWith_1 : decode cX4_frameWith 1 = .ok (.istore_n 2, 1) := by decide +kernel
theorem dX4_frameWith_2 : decode cX4_frameWith 2 = .ok (.iload_n 2, 1) := by decide +kernel
theorem dX4_frameWith_3 : decode cX4_frameWith 3 = .ok (.aload_n 0, 1) := by decide +kernel
theorem dX4_frameWith_4 : decode cX4_frameWith 4 = .ok (.getfield 13, 3) := by decide +kernel
theorem dX4_frameWith_7 : decode cX4_frameWith 7 = .ok (.if_icmp .ge 21, 3) := by decide +kernel
theorem dX4_frameWith_10 : decode cX4_frameWith 10 = .ok (.aload_n 0, 1) := by decide +kernel
theorem dX4_frameWith_11 : decode cX4_frameWith 11 = .ok (.getfield 16, 3) := by decide +kernel
theorem dX4_frameWith_14 : decode cX4_frameWith 14 = .ok (.iload_n 2, 1) := by decide +kernel
theorem dX4_frameWith_15 : decode cX4_frameWith 15 = .ok (.iaload, 1) := by decide +kernel
theorem dX4_frameWith_16 : decode cX4_frameWith 16 = .ok (.iload_n 1, 1) := by decide +kernel
theorem dX4_frameWith_17 : decode cX4_frameWith 17 = .ok (.if_icmp .ne 5, 3) := by decide +kernel
theorem dX4_frameWith_20 : decode cX4_frameWith 20 = .ok (.iload_n 2, 1) := by decide +kernel
theorem dX4_frameWith_21 : decode cX4_frameWith 21 = .ok (.ireturn, 1) := by decide +kernel
theorem dX4_frameWith_22 : decode cX4_frameWith 22 = .ok (.iinc 2 1, 3) := by decide +kernel
theorem dX4_frameWith_25 : decode cX4_frameWith 25 = .ok (.goto (-23), 3) := by decide +kernel
theorem dX4_frameWith_28 : decode cX4_frameWith 28 = .ok (.iconst (-1), 1) := by decide +kernel
theorem dX4_frameWith_29 : decode cX4_frameWith 29 = .ok (.ireturn, 1) := by decide +kernel
theorem dX4_slotWith_0 : decode cX4_slotWith 0 = .ok (.iconst 0, 1) := by decide +kernel
theorem dX4_slotWith_1 : decode cX4_slotWith 1 = .ok (.istore_n 2, 1) := by decide +kernel
theorem dX4_slotWith_2 : decode cX4_slotWith 2 = .ok (.iload_n 2, 1) := by decide +kernel
theorem dX4_slotWith_3 : decode cX4_slotWith 3 = .ok (.bipush 24, 2) := by decide +kernel
theorem dX4_slotWith_5 : decode cX4_slotWith 5 = .ok (.if_icmp .ge 21, 3) := by decide +kernel
theorem dX4_slotWith_8 : decode cX4_slotWith 8 = .ok (.aload_n 0, 1) := by decide +kernel
theorem dX4_slotWith_9 : decode cX4_slotWith 9 = .ok (.getfield 27, 3) := by decide +kernel
theorem dX4_slotWith_12 : decode cX4_slotWith 12 = .ok (.iload_n 2, 1) := by decide +kernel
theorem dX4_slotWith_13 : decode cX4_slotWith 13 = .ok (.iaload, 1) := by decide +kernel
theorem dX4_slotWith_14 : decode cX4_slotWith 14 = .ok (.iload_n 1, 1) := by decide +kernel
theorem dX4_slotWith_15 : decode cX4_slotWith 15 = .ok (.if_icmp .ne 5, 3) := by decide +kernel
theorem dX4_slotWith_18 : decode cX4_slotWith 18 = .ok (.iload_n 2, 1) := by decide +kernel
theorem dX4_slotWith_19 : decode cX4_slotWith 19 = .ok (.ireturn, 1) := by decide +kernel
theorem dX4_slotWith_20 : decode cX4_slotWith 20 = .ok (.iinc 2 1, 3) := by decide +kernel
theorem dX4_slotWith_23 : decode cX4_slotWith 23 = .ok (.goto (-21), 3) := by decide +kernel
theorem dX4_slotWith_26 : decode cX4_slotWith 26 = .ok (.iconst (-1), 1) := by decide +kernel
theorem dX4_slotWith_27 : decode cX4_slotWith 27 = .ok (.ireturn, 1) := by decide +kernel
theorem dX4_isDirty_0 : decode cX4_isDirty 0 = .ok (.aload_n 0, 1) := by decide +kernel
theorem dX4_isDirty_1 : decode cX4_isDirty 1 = .ok (.getfield 33, 3) := by decide +kernel
theorem dX4_isDirty_4 : decode cX4_isDirty 4 = .ok (.iload_n 1, 1) := by decide +kernel
theorem dX4_isDirty_5 : decode cX4_isDirty 5 = .ok (.baload, 1) := by decide +kernel
theorem dX4_isDirty_6 : decode cX4_isDirty 6 = .ok (.ifCond .eq 16, 3) := by decide +kernel
theorem dX4_isDirty_9 : decode cX4_isDirty 9 = .ok (.aload_n 0, 1) := by decide +kernel
theorem dX4_isDirty_10 : decode cX4_isDirty 10 = .ok (.iload_n 1, 1) := by decide +kernel
theorem dX4_isDirty_11 : decode cX4_isDirty 11 = .ok (.invokevirtual 63, 3) := by decide +kernel
theorem dX4_isDirty_14 : decode cX4_isDirty 14 = .ok (.iconst (-1), 1) := by decide +kernel
theorem dX4_isDirty_15 : decode cX4_isDirty 15 = .ok (.if_icmp .ne 7, 3) := by decide +kernel
theorem dX4_isDirty_18 : decode cX4_isDirty 18 = .ok (.iconst 1, 1) := by decide +kernel
theorem dX4_isDirty_19 : decode cX4_isDirty 19 = .ok (.goto 4, 3) := by decide +kernel
theorem dX4_isDirty_22 : decode cX4_isDirty 22 = .ok (.iconst 0, 1) := by decide +kernel
theorem dX4_isDirty_23 : decode cX4_isDirty 23 = .ok (.ireturn, 1) := by decide +kernel
theorem dX4_create_0 : decode cX4_create 0 = .ok (.iconst 0, 1) := by decide +kernel
theorem dX4_create_1 : decode cX4_create 1 = .ok (.istore_n 1, 1) := by decide +kernel
theorem dX4_create_2 : decode cX4_create 2 = .ok (.aload_n 0, 1) := by decide +kernel
theorem dX4_create_3 : decode cX4_create 3 = .ok (.getfield 30, 3) := by decide +kernel
theorem dX4_create_6 : decode cX4_create 6 = .ok (.iload_n 1, 1) := by decide +kernel
theorem dX4_create_7 : decode cX4_create 7 = .ok (.baload, 1) := by decide +kernel
theorem dX4_create_8 : decode cX4_create 8 = .ok (.ifCond .eq 9, 3) := by decide +kernel
theorem dX4_create_11 : decode cX4_create 11 = .ok (.iinc 1 1, 3) := by decide +kernel
theorem dX4_create_14 : decode cX4_create 14 = .ok (.goto (-12), 3) := by decide +kernel
theorem dX4_create_17 : decode cX4_create 17 = .ok (.aload_n 0, 1) := by decide +kernel
theorem dX4_create_18 : decode cX4_create 18 = .ok (.getfield 30, 3) := by decide +kernel
theorem dX4_create_21 : decode cX4_create 21 = .ok (.iload_n 1, 1) := by decide +kernel
theorem dX4_create_22 : decode cX4_create 22 = .ok (.iconst 1, 1) := by decide +kernel
theorem dX4_create_23 : decode cX4_create 23 = .ok (.bastore, 1) := by decide +kernel
theorem dX4_create_24 : decode cX4_create 24 = .ok (.aload_n 0, 1) := by decide +kernel
theorem dX4_create_25 : decode cX4_create 25 = .ok (.getfield 33, 3) := by decide +kernel
theorem dX4_create_28 : decode cX4_create 28 = .ok (.iload_n 1, 1) := by decide +kernel
theorem dX4_create_29 : decode cX4_create 29 = .ok (.iconst 0, 1) := by decide +kernel
theorem dX4_create_30 : decode cX4_create 30 = .ok (.bastore, 1) := by decide +kernel
theorem dX4_create_31 : decode cX4_create 31 = .ok (.iconst 0, 1) := by decide +kernel
theorem dX4_create_32 : decode cX4_create 32 = .ok (.istore_n 2, 1) := by decide +kernel
theorem dX4_create_33 : decode cX4_create 33 = .ok (.iload_n 2, 1) := by decide +kernel
theorem dX4_create_34 : decode cX4_create 34 = .ok (.iconst 4, 1) := by decide +kernel
theorem dX4_create_35 : decode cX4_create 35 = .ok (.if_icmp .ge 20, 3) := by decide +kernel
theorem dX4_create_38 : decode cX4_create 38 = .ok (.aload_n 0, 1) := by decide +kernel
theorem dX4_create_39 : decode cX4_create 39 = .ok (.getfield 36, 3) := by decide +kernel
theorem dX4_create_42 : decode cX4_create 42 = .ok (.iconst 4, 1) := by decide +kernel
theorem dX4_create_43 : decode cX4_create 43 = .ok (.iload_n 1, 1) := by decide +kernel
theorem dX4_create_44 : decode cX4_create 44 = .ok (.imul, 1) := by decide +kernel
theorem dX4_create_45 : decode cX4_create 45 = .ok (.iload_n 2, 1) := by decide +kernel
theorem dX4_create_46 : decode cX4_create 46 = .ok (.iadd, 1) := by decide +kernel
theorem dX4_create_47 : decode cX4_create 47 = .ok (.iconst 0, 1) := by decide +kernel
theorem dX4_create_48 : decode cX4_create 48 = .ok (.iastore, 1) := by decide +kernel
theorem dX4_create_49 : decode cX4_create 49 = .ok (.iinc 2 1, 3) := by decide +kernel
theorem dX4_create_52 : decode cX4_create 52 = .ok (.goto (-19), 3) := by decide +kernel
theorem dX4_create_55 : decode cX4_create 55 = .ok (.iload_n 1, 1) := by decide +kernel
theorem dX4_create_56 : decode cX4_create 56 = .ok (.ireturn, 1) := by decide +kernel
theorem dX4_at_0 : decode cX4_at 0 = .ok (.bipush 16, 2) := by decide +kernel
theorem dX4_at_2 : decode cX4_at 2 = .ok (.iload_n 0, 1) := by decide +kernel
theorem dX4_at_3 : decode cX4_at 3 = .ok (.imul, 1) := by decide +kernel
theorem dX4_at_4 : decode cX4_at 4 = .ok (.iload_n 1, 1) := by decide +kernel
theorem dX4_at_5 : decode cX4_at 5 = .ok (.iadd, 1) := by decide +kernel
theorem dX4_at_6 : decode cX4_at 6 = .ok (.ireturn, 1) := by decide +kernel
theorem dX4_references_0 : decode cX4_references 0 = .ok (.iconst 0, 1) := by decide +kernel
theorem dX4_references_1 : decode cX4_references 1 = .ok (.istore_n 2, 1) := by decide +kernel
theorem dX4_references_2 : decode cX4_references 2 = .ok (.iconst 0, 1) := by decide +kernel
theorem dX4_references_3 : decode cX4_references 3 = .ok (.istore_n 3, 1) := by decide +kernel
theorem dX4_references_4 : decode cX4_references 4 = .ok (.iload_n 3, 1) := by decide +kernel
theorem dX4_references_5 : decode cX4_references 5 = .ok (.bipush 16, 2) := by decide +kernel
theorem dX4_references_7 : decode cX4_references 7 = .ok (.aload_n 0, 1) := by decide +kernel
theorem dX4_references_8 : decode cX4_references 8 = .ok (.getfield 67, 3) := by decide +kernel
theorem dX4_references_11 : decode cX4_references 11 = .ok (.imul, 1) := by decide +kernel
theorem dX4_references_12 : decode cX4_references 12 = .ok (.if_icmp .ge 36, 3) := by decide +kernel
theorem dX4_references_15 : decode cX4_references 15 = .ok (.iload_n 2, 1) := by decide +kernel
theorem dX4_references_16 : decode cX4_references 16 = .ok (.aload_n 0, 1) := by decide +kernel
theorem dX4_references_17 : decode cX4_references 17 = .ok (.getfield 42, 3) := by decide +kernel
theorem dX4_references_20 : decode cX4_references 20 = .ok (.iload_n 3, 1) := by decide +kernel
theorem dX4_references_21 : decode cX4_references 21 = .ok (.iaload, 1) := by decide +kernel
theorem dX4_references_22 : decode cX4_references 22 = .ok (.ifCond .le 17, 3) := by decide +kernel
theorem dX4_references_25 : decode cX4_references 25 = .ok (.aload_n 0, 1) := by decide +kernel
theorem dX4_references_26 : decode cX4_references 26 = .ok (.getfield 45, 3) := by decide +kernel
theorem dX4_references_29 : decode cX4_references 29 = .ok (.iload_n 3, 1) := by decide +kernel
theorem dX4_references_30 : decode cX4_references 30 = .ok (.iaload, 1) := by decide +kernel
theorem dX4_references_31 : decode cX4_references 31 = .ok (.iload_n 1, 1) := by decide +kernel
theorem dX4_references_32 : decode cX4_references 32 = .ok (.if_icmp .ne 7, 3) := by decide +kernel
theorem dX4_references_35 : decode cX4_references 35 = .ok (.iconst 1, 1) := by decide +kernel
theorem dX4_references_36 : decode cX4_references 36 = .ok (.goto 4, 3) := by decide +kernel
theorem dX4_references_39 : decode cX4_references 39 = .ok (.iconst 0, 1) := by decide +kernel
theorem dX4_references_40 : decode cX4_references 40 = .ok (.iadd, 1) := by decide +kernel
theorem dX4_references_41 : decode cX4_references 41 = .ok (.istore_n 2, 1) := by decide +kernel
theorem dX4_references_42 : decode cX4_references 42 = .ok (.iinc 3 1, 3) := by decide +kernel
theorem dX4_references_45 : decode cX4_references 45 = .ok (.goto (-41), 3) := by decide +kernel
theorem dX4_references_48 : decode cX4_references 48 = .ok (.iload_n 2, 1) := by decide +kernel
theorem dX4_references_49 : decode cX4_references 49 = .ok (.ireturn, 1) := by decide +kernel
theorem dX4_isInSegment_0 : decode cX4_isInSegment 0 = .ok (.aload_n 0, 1) := by decide +kernel
theorem dX4_isInSegment_1 : decode cX4_isInSegment 1 = .ok (.iload_n 1, 1) := by decide +kernel
theorem dX4_isInSegment_2 : decode cX4_isInSegment 2 = .ok (.invokevirtual 70, 3) := by decide +kernel
theorem dX4_isInSegment_5 : decode cX4_isInSegment 5 = .ok (.iconst (-1), 1) := by decide +kernel
theorem dX4_isInSegment_6 : decode cX4_isInSegment 6 = .ok (.if_icmp .eq 7, 3) := by decide +kernel
theorem dX4_isInSegment_9 : decode cX4_isInSegment 9 = .ok (.iconst 1, 1) := by decide +kernel
theorem dX4_isInSegment_10 : decode cX4_isInSegment 10 = .ok (.goto 4, 3) := by decide +kernel
theorem dX4_isInSegment_13 : decode cX4_isInSegment 13 = .ok (.iconst 0, 1) := by decide +kernel
theorem dX4_isInSegment_14 : decode cX4_isInSegment 14 = .ok (.ireturn, 1) := by decide +kernel
theorem dX4_segmentPlace_0 : decode cX4_segmentPlace 0 = .ok (.iconst 0, 1) := by decide +kernel
theorem dX4_segmentPlace_1 : decode cX4_segmentPlace 1 = .ok (.istore_n 2, 1) := by decide +kernel
theorem dX4_segmentPlace_2 : decode cX4_segmentPlace 2 = .ok (.iload_n 2, 1) := by decide +kernel
theorem dX4_segmentPlace_3 : decode cX4_segmentPlace 3 = .ok (.aload_n 0, 1) := by decide +kernel
theorem dX4_segmentPlace_4 : decode cX4_segmentPlace 4 = .ok (.getfield 73, 3) := by decide +kernel
theorem dX4_segmentPlace_7 : decode cX4_segmentPlace 7 = .ok (.if_icmp .ge 49, 3) := by decide +kernel
theorem dX4_segmentPlace_10 : decode cX4_segmentPlace 10 = .ok (.iconst 0, 1) := by decide +kernel
theorem dX4_segmentPlace_11 : decode cX4_segmentPlace 11 = .ok (.istore_n 3, 1) := by decide +kernel
theorem dX4_segmentPlace_12 : decode cX4_segmentPlace 12 = .ok (.iload_n 3, 1) := by decide +kernel
theorem dX4_segmentPlace_13 : decode cX4_segmentPlace 13 = .ok (.aload_n 0, 1) := by decide +kernel
theorem dX4_segmentPlace_14 : decode cX4_segmentPlace 14 = .ok (.getfield 48, 3) := by decide +kernel
theorem dX4_segmentPlace_17 : decode cX4_segmentPlace 17 = .ok (.iload_n 2, 1) := by decide +kernel
theorem dX4_segmentPlace_18 : decode cX4_segmentPlace 18 = .ok (.iaload, 1) := by decide +kernel
theorem dX4_segmentPlace_19 : decode cX4_segmentPlace 19 = .ok (.if_icmp .ge 31, 3) := by decide +kernel
theorem dX4_segmentPlace_22 : decode cX4_segmentPlace 22 = .ok (.aload_n 0, 1) := by decide +kernel
theorem dX4_segmentPlace_23 : decode cX4_segmentPlace 23 = .ok (.getfield 51, 3) := by decide +kernel
theorem dX4_segmentPlace_26 : decode cX4_segmentPlace 26 = .ok (.bipush 6, 2) := by decide +kernel
theorem dX4_segmentPlace_28 : decode cX4_segmentPlace 28 = .ok (.iload_n 2, 1) := by decide +kernel
theorem dX4_segmentPlace_29 : decode cX4_segmentPlace 29 = .ok (.imul, 1) := by decide +kernel
theorem dX4_segmentPlace_30 : decode cX4_segmentPlace 30 = .ok (.iload_n 3, 1) := by decide +kernel
theorem dX4_segmentPlace_31 : decode cX4_segmentPlace 31 = .ok (.iadd, 1) := by decide +kernel
theorem dX4_segmentPlace_32 : decode cX4_segmentPlace 32 = .ok (.iaload, 1) := by decide +kernel
theorem dX4_segmentPlace_33 : decode cX4_segmentPlace 33 = .ok (.iload_n 1, 1) := by decide +kernel
theorem dX4_segmentPlace_34 : decode cX4_segmentPlace 34 = .ok (.if_icmp .ne 10, 3) := by decide +kernel
theorem dX4_segmentPlace_37 : decode cX4_segmentPlace 37 = .ok (.bipush 6, 2) := by decide +kernel
theorem dX4_segmentPlace_39 : decode cX4_segmentPlace 39 = .ok (.iload_n 2, 1) := by decide +kernel
theorem dX4_segmentPlace_40 : decode cX4_segmentPlace 40 = .ok (.imul, 1) := by decide +kernel
theorem dX4_segmentPlace_41 : decode cX4_segmentPlace 41 = .ok (.iload_n 3, 1) := by decide +kernel
theorem dX4_segmentPlace_42 : decode cX4_segmentPlace 42 = .ok (.iadd, 1) := by decide +kernel
theorem dX4_segmentPlace_43 : decode cX4_segmentPlace 43 = .ok (.ireturn, 1) := by decide +kernel
theorem dX4_segmentPlace_44 : decode cX4_segmentPlace 44 = .ok (.iinc 3 1, 3) := by decide +kernel
theorem dX4_segmentPlace_47 : decode cX4_segmentPlace 47 = .ok (.goto (-35), 3) := by decide +kernel
theorem dX4_segmentPlace_50 : decode cX4_segmentPlace 50 = .ok (.iinc 2 1, 3) := by decide +kernel
theorem dX4_segmentPlace_53 : decode cX4_segmentPlace 53 = .ok (.goto (-51), 3) := by decide +kernel
theorem dX4_segmentPlace_56 : decode cX4_segmentPlace 56 = .ok (.iconst (-1), 1) := by decide +kernel
theorem dX4_segmentPlace_57 : decode cX4_segmentPlace 57 = .ok (.ireturn, 1) := by decide +kernel
theorem dX4_vanishes_0 : decode cX4_vanishes 0 = .ok (.aload_n 0, 1) := by decide +kernel
theorem dX4_vanishes_1 : decode cX4_vanishes 1 = .ok (.iload_n 1, 1) := by decide +kernel
theorem dX4_vanishes_2 : decode cX4_vanishes 2 = .ok (.invokevirtual 76, 3) := by decide +kernel
theorem dX4_vanishes_5 : decode cX4_vanishes 5 = .ok (.ifCond .gt 11, 3) := by decide +kernel
theorem dX4_vanishes_8 : decode cX4_vanishes 8 = .ok (.aload_n 0, 1) := by decide +kernel
theorem dX4_vanishes_9 : decode cX4_vanishes 9 = .ok (.iload_n 1, 1) := by decide +kernel
theorem dX4_vanishes_10 : decode cX4_vanishes 10 = .ok (.invokevirtual 79, 3) := by decide +kernel
theorem dX4_vanishes_13 : decode cX4_vanishes 13 = .ok (.ifCond .eq 5, 3) := by decide +kernel
theorem dX4_vanishes_16 : decode cX4_vanishes 16 = .ok (.iconst 0, 1) := by decide +kernel
theorem dX4_vanishes_17 : decode cX4_vanishes 17 = .ok (.ireturn, 1) := by decide +kernel
theorem dX4_vanishes_18 : decode cX4_vanishes 18 = .ok (.aload_n 0, 1) := by decide +kernel
theorem dX4_vanishes_19 : decode cX4_vanishes 19 = .ok (.iload_n 1, 1) := by decide +kernel
theorem dX4_vanishes_20 : decode cX4_vanishes 20 = .ok (.invokevirtual 83, 3) := by decide +kernel
theorem dX4_vanishes_23 : decode cX4_vanishes 23 = .ok (.istore_n 2, 1) := by decide +kernel
theorem dX4_vanishes_24 : decode cX4_vanishes 24 = .ok (.iload_n 2, 1) := by decide +kernel
theorem dX4_vanishes_25 : decode cX4_vanishes 25 = .ok (.iconst (-1), 1) := by decide +kernel
theorem dX4_vanishes_26 : decode cX4_vanishes 26 = .ok (.if_icmp .eq 10, 3) := by decide +kernel
theorem dX4_vanishes_29 : decode cX4_vanishes 29 = .ok (.aload_n 0, 1) := by decide +kernel
theorem dX4_vanishes_30 : decode cX4_vanishes 30 = .ok (.getfield 16, 3) := by decide +kernel
theorem dX4_vanishes_33 : decode cX4_vanishes 33 = .ok (.iload_n 2, 1) := by decide +kernel
theorem dX4_vanishes_34 : decode cX4_vanishes 34 = .ok (.iconst (-1), 1) := by decide +kernel
theorem dX4_vanishes_35 : decode cX4_vanishes 35 = .ok (.iastore, 1) := by decide +kernel
theorem dX4_vanishes_36 : decode cX4_vanishes 36 = .ok (.aload_n 0, 1) := by decide +kernel
theorem dX4_vanishes_37 : decode cX4_vanishes 37 = .ok (.iload_n 1, 1) := by decide +kernel
theorem dX4_vanishes_38 : decode cX4_vanishes 38 = .ok (.invokevirtual 63, 3) := by decide +kernel
theorem dX4_vanishes_41 : decode cX4_vanishes 41 = .ok (.istore_n 3, 1) := by decide +kernel
theorem dX4_vanishes_42 : decode cX4_vanishes 42 = .ok (.iload_n 3, 1) := by decide +kernel
theorem dX4_vanishes_43 : decode cX4_vanishes 43 = .ok (.iconst (-1), 1) := by decide +kernel
theorem dX4_vanishes_44 : decode cX4_vanishes 44 = .ok (.if_icmp .eq 10, 3) := by decide +kernel
theorem dX4_vanishes_47 : decode cX4_vanishes 47 = .ok (.aload_n 0, 1) := by decide +kernel
theorem dX4_vanishes_48 : decode cX4_vanishes 48 = .ok (.getfield 27, 3) := by decide +kernel
theorem dX4_vanishes_51 : decode cX4_vanishes 51 = .ok (.iload_n 3, 1) := by decide +kernel
theorem dX4_vanishes_52 : decode cX4_vanishes 52 = .ok (.iconst (-1), 1) := by decide +kernel
theorem dX4_vanishes_53 : decode cX4_vanishes 53 = .ok (.iastore, 1) := by decide +kernel
theorem dX4_vanishes_54 : decode cX4_vanishes 54 = .ok (.aload_n 0, 1) := by decide +kernel
theorem dX4_vanishes_55 : decode cX4_vanishes 55 = .ok (.getfield 30, 3) := by decide +kernel
theorem dX4_vanishes_58 : decode cX4_vanishes 58 = .ok (.iload_n 1, 1) := by decide +kernel
theorem dX4_vanishes_59 : decode cX4_vanishes 59 = .ok (.iconst 0, 1) := by decide +kernel
theorem dX4_vanishes_60 : decode cX4_vanishes 60 = .ok (.bastore, 1) := by decide +kernel
theorem dX4_vanishes_61 : decode cX4_vanishes 61 = .ok (.iconst 1, 1) := by decide +kernel
theorem dX4_vanishes_62 : decode cX4_vanishes 62 = .ok (.ireturn, 1) := by decide +kernel
theorem dX4_used_0 : decode cX4_used 0 = .ok (.iconst 0, 1) := by decide +kernel
theorem dX4_used_1 : decode cX4_used 1 = .ok (.istore_n 1, 1) := by decide +kernel
theorem dX4_used_2 : decode cX4_used 2 = .ok (.iconst 0, 1) := by decide +kernel
theorem dX4_used_3 : decode cX4_used 3 = .ok (.istore_n 2, 1) := by decide +kernel
theorem dX4_used_4 : decode cX4_used 4 = .ok (.iload_n 2, 1) := by decide +kernel
theorem dX4_used_5 : decode cX4_used 5 = .ok (.aload_n 0, 1) := by decide +kernel
theorem dX4_used_6 : decode cX4_used 6 = .ok (.getfield 13, 3) := by decide +kernel
theorem dX4_used_9 : decode cX4_used 9 = .ok (.if_icmp .ge 27, 3) := by decide +kernel
theorem dX4_used_12 : decode cX4_used 12 = .ok (.iload_n 1, 1) := by decide +kernel
theorem dX4_used_13 : decode cX4_used 13 = .ok (.aload_n 0, 1) := by decide +kernel
theorem dX4_used_14 : decode cX4_used 14 = .ok (.getfield 16, 3) := by decide +kernel
theorem dX4_used_17 : decode cX4_used 17 = .ok (.iload_n 2, 1) := by decide +kernel
theorem dX4_used_18 : decode cX4_used 18 = .ok (.iaload, 1) := by decide +kernel
theorem dX4_used_19 : decode cX4_used 19 = .ok (.iconst (-1), 1) := by decide +kernel
theorem dX4_used_20 : decode cX4_used 20 = .ok (.if_icmp .ne 7, 3) := by decide +kernel
theorem dX4_used_23 : decode cX4_used 23 = .ok (.iconst 0, 1) := by decide +kernel
theorem dX4_used_24 : decode cX4_used 24 = .ok (.goto 4, 3) := by decide +kernel
theorem dX4_used_27 : decode cX4_used 27 = .ok (.iconst 1, 1) := by decide +kernel
theorem dX4_used_28 : decode cX4_used 28 = .ok (.iadd, 1) := by decide +kernel
theorem dX4_used_29 : decode cX4_used 29 = .ok (.istore_n 1, 1) := by decide +kernel
theorem dX4_used_30 : decode cX4_used 30 = .ok (.iinc 2 1, 3) := by decide +kernel
theorem dX4_used_33 : decode cX4_used 33 = .ok (.goto (-29), 3) := by decide +kernel
theorem dX4_used_36 : decode cX4_used 36 = .ok (.iload_n 1, 1) := by decide +kernel
theorem dX4_used_37 : decode cX4_used 37 = .ok (.ireturn, 1) := by decide +kernel
theorem dX4_setFrames_0 : decode cX4_setFrames 0 = .ok (.aload_n 0, 1) := by decide +kernel
theorem dX4_setFrames_1 : decode cX4_setFrames 1 = .ok (.iconst 0, 1) := by decide +kernel
theorem dX4_setFrames_2 : decode cX4_setFrames 2 = .ok (.putfield 60, 3) := by decide +kernel
theorem dX4_setFrames_5 : decode cX4_setFrames 5 = .ok (.iload_n 1, 1) := by decide +kernel
theorem dX4_setFrames_6 : decode cX4_setFrames 6 = .ok (.iconst 4, 1) := by decide +kernel
theorem dX4_setFrames_7 : decode cX4_setFrames 7 = .ok (.if_icmp .lt 9, 3) := by decide +kernel
theorem dX4_setFrames_10 : decode cX4_setFrames 10 = .ok (.iload_n 1, 1) := by decide +kernel
theorem dX4_setFrames_11 : decode cX4_setFrames 11 = .ok (.bipush 12, 2) := by decide +kernel
theorem dX4_setFrames_13 : decode cX4_setFrames 13 = .ok (.if_icmp .le 9, 3) := by decide +kernel
theorem dX4_setFrames_16 : decode cX4_setFrames 16 = .ok (.aload_n 0, 1) := by decide +kernel
theorem dX4_setFrames_17 : decode cX4_setFrames 17 = .ok (.iconst 1, 1) := by decide +kernel
theorem dX4_setFrames_18 : decode cX4_setFrames 18 = .ok (.invokevirtual 86, 3) := by decide +kernel
theorem dX4_setFrames_21 : decode cX4_setFrames 21 = .ok (.ireturn, 1) := by decide +kernel
theorem dX4_setFrames_22 : decode cX4_setFrames 22 = .ok (.aload_n 0, 1) := by decide +kernel
theorem dX4_setFrames_23 : decode cX4_setFrames 23 = .ok (.invokevirtual 89, 3) := by decide +kernel
theorem dX4_setFrames_26 : decode cX4_setFrames 26 = .ok (.ifCond .le 9, 3) := by decide +kernel
theorem dX4_setFrames_29 : decode cX4_setFrames 29 = .ok (.aload_n 0, 1) := by decide +kernel
theorem dX4_setFrames_30 : decode cX4_setFrames 30 = .ok (.iconst 2, 1) := by decide +kernel
theorem dX4_setFrames_31 : decode cX4_setFrames 31 = .ok (.invokevirtual 86, 3) := by decide +kernel
theorem dX4_setFrames_34 : decode cX4_setFrames 34 = .ok (.ireturn, 1) := by decide +kernel
theorem dX4_setFrames_35 : decode cX4_setFrames 35 = .ok (.aload_n 0, 1) := by decide +kernel
theorem dX4_setFrames_36 : decode cX4_setFrames 36 = .ok (.getfield 13, 3) := by decide +kernel
theorem dX4_setFrames_39 : decode cX4_setFrames 39 = .ok (.istore_n 2, 1) := by decide +kernel
theorem dX4_setFrames_40 : decode cX4_setFrames 40 = .ok (.aload_n 0, 1) := by decide +kernel
theorem dX4_setFrames_41 : decode cX4_setFrames 41 = .ok (.iload_n 1, 1) := by decide +kernel
theorem dX4_setFrames_42 : decode cX4_setFrames 42 = .ok (.putfield 13, 3) := by decide +kernel
theorem dX4_setFrames_45 : decode cX4_setFrames 45 = .ok (.aload_n 0, 1) := by decide +kernel
theorem dX4_setFrames_46 : decode cX4_setFrames 46 = .ok (.iconst 0, 1) := by decide +kernel
theorem dX4_setFrames_47 : decode cX4_setFrames 47 = .ok (.putfield 93, 3) := by decide +kernel
theorem dX4_setFrames_50 : decode cX4_setFrames 50 = .ok (.iload_n 2, 1) := by decide +kernel
theorem dX4_setFrames_51 : decode cX4_setFrames 51 = .ok (.ireturn, 1) := by decide +kernel
theorem dX4_setWindow_0 : decode cX4_setWindow 0 = .ok (.aload_n 0, 1) := by decide +kernel
theorem dX4_setWindow_1 : decode cX4_setWindow 1 = .ok (.iconst 0, 1) := by decide +kernel
theorem dX4_setWindow_2 : decode cX4_setWindow 2 = .ok (.putfield 60, 3) := by decide +kernel
theorem dX4_setWindow_5 : decode cX4_setWindow 5 = .ok (.iload_n 1, 1) := by decide +kernel
theorem dX4_setWindow_6 : decode cX4_setWindow 6 = .ok (.ifCond .lt 9, 3) := by decide +kernel
theorem dX4_setWindow_9 : decode cX4_setWindow 9 = .ok (.iload_n 1, 1) := by decide +kernel
theorem dX4_setWindow_10 : decode cX4_setWindow 10 = .ok (.bipush 50, 2) := by decide +kernel
theorem dX4_setWindow_12 : decode cX4_setWindow 12 = .ok (.if_icmp .le 9, 3) := by decide +kernel
theorem dX4_setWindow_15 : decode cX4_setWindow 15 = .ok (.aload_n 0, 1) := by decide +kernel
theorem dX4_setWindow_16 : decode cX4_setWindow 16 = .ok (.iconst 1, 1) := by decide +kernel
theorem dX4_setWindow_17 : decode cX4_setWindow 17 = .ok (.invokevirtual 86, 3) := by decide +kernel
theorem dX4_setWindow_20 : decode cX4_setWindow 20 = .ok (.ireturn, 1) := by decide +kernel
theorem dX4_setWindow_21 : decode cX4_setWindow 21 = .ok (.aload_n 0, 1) := by decide +kernel
theorem dX4_setWindow_22 : decode cX4_setWindow 22 = .ok (.getfield 7, 3) := by decide +kernel
theorem dX4_setWindow_25 : decode cX4_setWindow 25 = .ok (.istore_n 2, 1) := by decide +kernel
theorem dX4_setWindow_26 : decode cX4_setWindow 26 = .ok (.aload_n 0, 1) := by decide +kernel
theorem dX4_setWindow_27 : decode cX4_setWindow 27 = .ok (.iload_n 1, 1) := by decide +kernel
theorem dX4_setWindow_28 : decode cX4_setWindow 28 = .ok (.putfield 7, 3) := by decide +kernel
theorem dX4_setWindow_31 : decode cX4_setWindow 31 = .ok (.iload_n 2, 1) := by decide +kernel
theorem dX4_setWindow_32 : decode cX4_setWindow 32 = .ok (.ireturn, 1) := by decide +kernel
theorem dX4_isProcess_0 : decode cX4_isProcess 0 = .ok (.iload_n 1, 1) := by decide +kernel
theorem dX4_isProcess_1 : decode cX4_isProcess 1 = .ok (.ifCond .lt 15, 3) := by decide +kernel
theorem dX4_isProcess_4 : decode cX4_isProcess 4 = .ok (.iload_n 1, 1) := by decide +kernel
theorem dX4_isProcess_5 : decode cX4_isProcess 5 = .ok (.aload_n 0, 1) := by decide +kernel
theorem dX4_isProcess_6 : decode cX4_isProcess 6 = .ok (.getfield 67, 3) := by decide +kernel
theorem dX4_isProcess_9 : decode cX4_isProcess 9 = .ok (.if_icmp .ge 7, 3) := by decide +kernel
theorem dX4_isProcess_12 : decode cX4_isProcess 12 = .ok (.iconst 1, 1) := by decide +kernel
theorem dX4_isProcess_13 : decode cX4_isProcess 13 = .ok (.goto 4, 3) := by decide +kernel
theorem dX4_isProcess_16 : decode cX4_isProcess 16 = .ok (.iconst 0, 1) := by decide +kernel
theorem dX4_isProcess_17 : decode cX4_isProcess 17 = .ok (.ireturn, 1) := by decide +kernel
theorem dX4_isPage_0 : decode cX4_isPage 0 = .ok (.iload_n 0, 1) := by decide +kernel
theorem dX4_isPage_1 : decode cX4_isPage 1 = .ok (.ifCond .lt 13, 3) := by decide +kernel
theorem dX4_isPage_4 : decode cX4_isPage 4 = .ok (.iload_n 0, 1) := by decide +kernel
theorem dX4_isPage_5 : decode cX4_isPage 5 = .ok (.bipush 16, 2) := by decide +kernel
theorem dX4_isPage_7 : decode cX4_isPage 7 = .ok (.if_icmp .ge 7, 3) := by decide +kernel
theorem dX4_isPage_10 : decode cX4_isPage 10 = .ok (.iconst 1, 1) := by decide +kernel
theorem dX4_isPage_11 : decode cX4_isPage 11 = .ok (.goto 4, 3) := by decide +kernel
theorem dX4_isPage_14 : decode cX4_isPage 14 = .ok (.iconst 0, 1) := by decide +kernel
theorem dX4_isPage_15 : decode cX4_isPage 15 = .ok (.ireturn, 1) := by decide +kernel
theorem dX4_start_0 : decode cX4_start 0 = .ok (.aload_n 0, 1) := by decide +kernel
theorem dX4_start_1 : decode cX4_start 1 = .ok (.iconst 0, 1) := by decide +kernel
theorem dX4_start_2 : decode cX4_start 2 = .ok (.putfield 60, 3) := by decide +kernel
theorem dX4_start_5 : decode cX4_start 5 = .ok (.aload_n 0, 1) := by decide +kernel
theorem dX4_start_6 : decode cX4_start 6 = .ok (.getfield 67, 3) := by decide +kernel
theorem dX4_start_9 : decode cX4_start 9 = .ok (.bipush 10, 2) := by decide +kernel
theorem dX4_start_11 : decode cX4_start 11 = .ok (.if_icmp .ne 9, 3) := by decide +kernel
theorem dX4_start_14 : decode cX4_start 14 = .ok (.aload_n 0, 1) := by decide +kernel
theorem dX4_start_15 : decode cX4_start 15 = .ok (.iconst 1, 1) := by decide +kernel
theorem dX4_start_16 : decode cX4_start 16 = .ok (.invokevirtual 86, 3) := by decide +kernel
theorem dX4_start_19 : decode cX4_start 19 = .ok (.ireturn, 1) := by decide +kernel
theorem dX4_start_20 : decode cX4_start 20 = .ok (.aload_n 0, 1) := by decide +kernel
theorem dX4_start_21 : decode cX4_start 21 = .ok (.getfield 39, 3) := by decide +kernel
theorem dX4_start_24 : decode cX4_start 24 = .ok (.aload_n 0, 1) := by decide +kernel
theorem dX4_start_25 : decode cX4_start 25 = .ok (.getfield 67, 3) := by decide +kernel
theorem dX4_start_28 : decode cX4_start 28 = .ok (.iconst 1, 1) := by decide +kernel
theorem dX4_start_29 : decode cX4_start 29 = .ok (.bastore, 1) := by decide +kernel
theorem dX4_start_30 : decode cX4_start 30 = .ok (.iconst 0, 1) := by decide +kernel
theorem dX4_start_31 : decode cX4_start 31 = .ok (.istore_n 1, 1) := by decide +kernel
theorem dX4_start_32 : decode cX4_start 32 = .ok (.iload_n 1, 1) := by decide +kernel
theorem dX4_start_33 : decode cX4_start 33 = .ok (.bipush 16, 2) := by decide +kernel
theorem dX4_start_35 : decode cX4_start 35 = .ok (.if_icmp .ge 23, 3) := by decide +kernel
theorem dX4_start_38 : decode cX4_start 38 = .ok (.aload_n 0, 1) := by decide +kernel
theorem dX4_start_39 : decode cX4_start 39 = .ok (.getfield 42, 3) := by decide +kernel
theorem dX4_start_42 : decode cX4_start 42 = .ok (.aload_n 0, 1) := by decide +kernel
theorem dX4_start_43 : decode cX4_start 43 = .ok (.getfield 67, 3) := by decide +kernel
theorem dX4_start_46 : decode cX4_start 46 = .ok (.iload_n 1, 1) := by decide +kernel
theorem dX4_start_47 : decode cX4_start 47 = .ok (.invokestatic 96, 3) := by decide +kernel
theorem dX4_start_50 : decode cX4_start 50 = .ok (.iconst 0, 1) := by decide +kernel
theorem dX4_start_51 : decode cX4_start 51 = .ok (.iastore, 1) := by decide +kernel
theorem dX4_start_52 : decode cX4_start 52 = .ok (.iinc 1 1, 3) := by decide +kernel
theorem dX4_start_55 : decode cX4_start 55 = .ok (.goto (-23), 3) := by decide +kernel
theorem dX4_start_58 : decode cX4_start 58 = .ok (.aload_n 0, 1) := by decide +kernel
theorem dX4_start_59 : decode cX4_start 59 = .ok (.dup, 1) := by decide +kernel
theorem dX4_start_60 : decode cX4_start 60 = .ok (.getfield 67, 3) := by decide +kernel
theorem dX4_start_63 : decode cX4_start 63 = .ok (.iconst 1, 1) := by decide +kernel
theorem dX4_start_64 : decode cX4_start 64 = .ok (.iadd, 1) := by decide +kernel
theorem dX4_start_65 : decode cX4_start 65 = .ok (.putfield 67, 3) := by decide +kernel
theorem dX4_start_68 : decode cX4_start 68 = .ok (.aload_n 0, 1) := by decide +kernel
theorem dX4_start_69 : decode cX4_start 69 = .ok (.getfield 67, 3) := by decide +kernel
theorem dX4_start_72 : decode cX4_start 72 = .ok (.iconst 1, 1) := by decide +kernel
theorem dX4_start_73 : decode cX4_start 73 = .ok (.isub, 1) := by decide +kernel
theorem dX4_start_74 : decode cX4_start 74 = .ok (.ireturn, 1) := by decide +kernel
theorem dX4_fork_0 : decode cX4_fork 0 = .ok (.aload_n 0, 1) := by decide +kernel
theorem dX4_fork_1 : decode cX4_fork 1 = .ok (.aload_n 0, 1) := by decide +kernel
theorem dX4_fork_2 : decode cX4_fork 2 = .ok (.iload_n 1, 1) := by decide +kernel
theorem dX4_fork_3 : decode cX4_fork 3 = .ok (.invokevirtual 100, 3) := by decide +kernel
theorem dX4_fork_6 : decode cX4_fork 6 = .ok (.ifCond .ne 7, 3) := by decide +kernel
theorem dX4_fork_9 : decode cX4_fork 9 = .ok (.iconst 1, 1) := by decide +kernel
theorem dX4_fork_10 : decode cX4_fork 10 = .ok (.goto 30, 3) := by decide +kernel
theorem dX4_fork_13 : decode cX4_fork 13 = .ok (.aload_n 0, 1) := by decide +kernel
theorem dX4_fork_14 : decode cX4_fork 14 = .ok (.getfield 39, 3) := by decide +kernel
theorem dX4_fork_17 : decode cX4_fork 17 = .ok (.iload_n 1, 1) := by decide +kernel
theorem dX4_fork_18 : decode cX4_fork 18 = .ok (.baload, 1) := by decide +kernel
theorem dX4_fork_19 : decode cX4_fork 19 = .ok (.ifCond .ne 7, 3) := by decide +kernel
theorem dX4_fork_22 : decode cX4_fork 22 = .ok (.iconst 2, 1) := by decide +kernel
theorem dX4_fork_23 : decode cX4_fork 23 = .ok (.goto 17, 3) := by decide +kernel
theorem dX4_fork_26 : decode cX4_fork 26 = .ok (.aload_n 0, 1) := by decide +kernel
theorem dX4_fork_27 : decode cX4_fork 27 = .ok (.getfield 67, 3) := by decide +kernel
theorem dX4_fork_30 : decode cX4_fork 30 = .ok (.bipush 10, 2) := by decide +kernel
theorem dX4_fork_32 : decode cX4_fork 32 = .ok (.if_icmp .ne 7, 3) := by decide +kernel
theorem dX4_fork_35 : decode cX4_fork 35 = .ok (.iconst 3, 1) := by decide +kernel
theorem dX4_fork_36 : decode cX4_fork 36 = .ok (.goto 4, 3) := by decide +kernel
theorem dX4_fork_39 : decode cX4_fork 39 = .ok (.iconst 0, 1) := by decide +kernel
theorem dX4_fork_40 : decode cX4_fork 40 = .ok (.putfield 60, 3) := by decide +kernel
theorem dX4_fork_43 : decode cX4_fork 43 = .ok (.aload_n 0, 1) := by decide +kernel
theorem dX4_fork_44 : decode cX4_fork 44 = .ok (.getfield 60, 3) := by decide +kernel
theorem dX4_fork_47 : decode cX4_fork 47 = .ok (.ifCond .le 5, 3) := by decide +kernel
theorem dX4_fork_50 : decode cX4_fork 50 = .ok (.iconst 0, 1) := by decide +kernel
theorem dX4_fork_51 : decode cX4_fork 51 = .ok (.ireturn, 1) := by decide +kernel
theorem dX4_fork_52 : decode cX4_fork 52 = .ok (.aload_n 0, 1) := by decide +kernel
theorem dX4_fork_53 : decode cX4_fork 53 = .ok (.invokevirtual 103, 3) := by decide +kernel
theorem dX4_fork_56 : decode cX4_fork 56 = .ok (.istore_n 2, 1) := by decide +kernel
theorem dX4_fork_57 : decode cX4_fork 57 = .ok (.iconst 0, 1) := by decide +kernel
theorem dX4_fork_58 : decode cX4_fork 58 = .ok (.istore_n 3, 1) := by decide +kernel
theorem dX4_fork_59 : decode cX4_fork 59 = .ok (.iload_n 3, 1) := by decide +kernel
theorem dX4_fork_60 : decode cX4_fork 60 = .ok (.bipush 16, 2) := by decide +kernel
theorem dX4_fork_62 : decode cX4_fork 62 = .ok (.if_icmp .ge 49, 3) := by decide +kernel
theorem dX4_fork_65 : decode cX4_fork 65 = .ok (.aload_n 0, 1) := by decide +kernel
theorem dX4_fork_66 : decode cX4_fork 66 = .ok (.getfield 42, 3) := by decide +kernel
theorem dX4_fork_69 : decode cX4_fork 69 = .ok (.iload_n 2, 1) := by decide +kernel
theorem dX4_fork_70 : decode cX4_fork 70 = .ok (.iload_n 3, 1) := by decide +kernel
theorem dX4_fork_71 : decode cX4_fork 71 = .ok (.invokestatic 96, 3) := by decide +kernel
theorem dX4_fork_74 : decode cX4_fork 74 = .ok (.aload_n 0, 1) := by decide +kernel
theorem dX4_fork_75 : decode cX4_fork 75 = .ok (.getfield 42, 3) := by decide +kernel
theorem dX4_fork_78 : decode cX4_fork 78 = .ok (.iload_n 1, 1) := by decide +kernel
theorem dX4_fork_79 : decode cX4_fork 79 = .ok (.iload_n 3, 1) := by decide +kernel
theorem dX4_fork_80 : decode cX4_fork 80 = .ok (.invokestatic 96, 3) := by decide +kernel
theorem dX4_fork_83 : decode cX4_fork 83 = .ok (.iaload, 1) := by decide +kernel
theorem dX4_fork_84 : decode cX4_fork 84 = .ok (.iastore, 1) := by decide +kernel
theorem dX4_fork_85 : decode cX4_fork 85 = .ok (.aload_n 0, 1) := by decide +kernel
theorem dX4_fork_86 : decode cX4_fork 86 = .ok (.getfield 45, 3) := by decide +kernel
theorem dX4_fork_89 : decode cX4_fork 89 = .ok (.iload_n 2, 1) := by decide +kernel
theorem dX4_fork_90 : decode cX4_fork 90 = .ok (.iload_n 3, 1) := by decide +kernel
theorem dX4_fork_91 : decode cX4_fork 91 = .ok (.invokestatic 96, 3) := by decide +kernel
theorem dX4_fork_94 : decode cX4_fork 94 = .ok (.aload_n 0, 1) := by decide +kernel
theorem dX4_fork_95 : decode cX4_fork 95 = .ok (.getfield 45, 3) := by decide +kernel
theorem dX4_fork_98 : decode cX4_fork 98 = .ok (.iload_n 1, 1) := by decide +kernel
theorem dX4_fork_99 : decode cX4_fork 99 = .ok (.iload_n 3, 1) := by decide +kernel
theorem dX4_fork_100 : decode cX4_fork 100 = .ok (.invokestatic 96, 3) := by decide +kernel
theorem dX4_fork_103 : decode cX4_fork 103 = .ok (.iaload, 1) := by decide +kernel
theorem dX4_fork_104 : decode cX4_fork 104 = .ok (.iastore, 1) := by decide +kernel
theorem dX4_fork_105 : decode cX4_fork 105 = .ok (.iinc 3 1, 3) := by decide +kernel
theorem dX4_fork_108 : decode cX4_fork 108 = .ok (.goto (-49), 3) := by decide +kernel
theorem dX4_fork_111 : decode cX4_fork 111 = .ok (.iload_n 2, 1) := by decide +kernel
theorem dX4_fork_112 : decode cX4_fork 112 = .ok (.ireturn, 1) := by decide +kernel
theorem dX4_clear_0 : decode cX4_clear 0 = .ok (.aload_n 0, 1) := by decide +kernel
theorem dX4_clear_1 : decode cX4_clear 1 = .ok (.getfield 42, 3) := by decide +kernel
theorem dX4_clear_4 : decode cX4_clear 4 = .ok (.iload_n 1, 1) := by decide +kernel
theorem dX4_clear_5 : decode cX4_clear 5 = .ok (.iload_n 2, 1) := by decide +kernel
theorem dX4_clear_6 : decode cX4_clear 6 = .ok (.invokestatic 96, 3) := by decide +kernel
theorem dX4_clear_9 : decode cX4_clear 9 = .ok (.iconst 0, 1) := by decide +kernel
theorem dX4_clear_10 : decode cX4_clear 10 = .ok (.iastore, 1) := by decide +kernel
theorem dX4_clear_11 : decode cX4_clear 11 = .ok (.aload_n 0, 1) := by decide +kernel
theorem dX4_clear_12 : decode cX4_clear 12 = .ok (.aload_n 0, 1) := by decide +kernel
theorem dX4_clear_13 : decode cX4_clear 13 = .ok (.getfield 45, 3) := by decide +kernel
theorem dX4_clear_16 : decode cX4_clear 16 = .ok (.iload_n 1, 1) := by decide +kernel
theorem dX4_clear_17 : decode cX4_clear 17 = .ok (.iload_n 2, 1) := by decide +kernel
theorem dX4_clear_18 : decode cX4_clear 18 = .ok (.invokestatic 96, 3) := by decide +kernel
theorem dX4_clear_21 : decode cX4_clear 21 = .ok (.iaload, 1) := by decide +kernel
theorem dX4_clear_22 : decode cX4_clear 22 = .ok (.invokevirtual 106, 3) := by decide +kernel
theorem dX4_clear_25 : decode cX4_clear 25 = .ok (.ireturn, 1) := by decide +kernel
theorem dX4_exit_0 : decode cX4_exit 0 = .ok (.aload_n 0, 1) := by decide +kernel
theorem dX4_exit_1 : decode cX4_exit 1 = .ok (.aload_n 0, 1) := by decide +kernel
theorem dX4_exit_2 : decode cX4_exit 2 = .ok (.iload_n 1, 1) := by decide +kernel
theorem dX4_exit_3 : decode cX4_exit 3 = .ok (.invokevirtual 100, 3) := by decide +kernel
theorem dX4_exit_6 : decode cX4_exit 6 = .ok (.ifCond .ne 7, 3) := by decide +kernel
theorem dX4_exit_9 : decode cX4_exit 9 = .ok (.iconst 1, 1) := by decide +kernel
theorem dX4_exit_10 : decode cX4_exit 10 = .ok (.goto 17, 3) := by decide +kernel
theorem dX4_exit_13 : decode cX4_exit 13 = .ok (.aload_n 0, 1) := by decide +kernel
theorem dX4_exit_14 : decode cX4_exit 14 = .ok (.getfield 39, 3) := by decide +kernel
theorem dX4_exit_17 : decode cX4_exit 17 = .ok (.iload_n 1, 1) := by decide +kernel
theorem dX4_exit_18 : decode cX4_exit 18 = .ok (.baload, 1) := by decide +kernel
theorem dX4_exit_19 : decode cX4_exit 19 = .ok (.ifCond .ne 7, 3) := by decide +kernel
theorem dX4_exit_22 : decode cX4_exit 22 = .ok (.iconst 2, 1) := by decide +kernel
theorem dX4_exit_23 : decode cX4_exit 23 = .ok (.goto 4, 3) := by decide +kernel
theorem dX4_exit_26 : decode cX4_exit 26 = .ok (.iconst 0, 1) := by decide +kernel
theorem dX4_exit_27 : decode cX4_exit 27 = .ok (.putfield 60, 3) := by decide +kernel
theorem dX4_exit_30 : decode cX4_exit 30 = .ok (.aload_n 0, 1) := by decide +kernel
theorem dX4_exit_31 : decode cX4_exit 31 = .ok (.getfield 60, 3) := by decide +kernel
theorem dX4_exit_34 : decode cX4_exit 34 = .ok (.ifCond .le 5, 3) := by decide +kernel
theorem dX4_exit_37 : decode cX4_exit 37 = .ok (.iconst 0, 1) := by decide +kernel
theorem dX4_exit_38 : decode cX4_exit 38 = .ok (.ireturn, 1) := by decide +kernel
theorem dX4_exit_39 : decode cX4_exit 39 = .ok (.aload_n 0, 1) := by decide +kernel
theorem dX4_exit_40 : decode cX4_exit 40 = .ok (.getfield 39, 3) := by decide +kernel
theorem dX4_exit_43 : decode cX4_exit 43 = .ok (.iload_n 1, 1) := by decide +kernel
theorem dX4_exit_44 : decode cX4_exit 44 = .ok (.iconst 0, 1) := by decide +kernel
theorem dX4_exit_45 : decode cX4_exit 45 = .ok (.bastore, 1) := by decide +kernel
theorem dX4_exit_46 : decode cX4_exit 46 = .ok (.iconst 0, 1) := by decide +kernel
theorem dX4_exit_47 : decode cX4_exit 47 = .ok (.istore_n 2, 1) := by decide +kernel
theorem dX4_exit_48 : decode cX4_exit 48 = .ok (.iconst 0, 1) := by decide +kernel
theorem dX4_exit_49 : decode cX4_exit 49 = .ok (.istore_n 3, 1) := by decide +kernel
theorem dX4_exit_50 : decode cX4_exit 50 = .ok (.iload_n 3, 1) := by decide +kernel
theorem dX4_exit_51 : decode cX4_exit 51 = .ok (.bipush 16, 2) := by decide +kernel
theorem dX4_exit_53 : decode cX4_exit 53 = .ok (.if_icmp .ge 39, 3) := by decide +kernel
theorem dX4_exit_56 : decode cX4_exit 56 = .ok (.iload_n 2, 1) := by decide +kernel
theorem dX4_exit_57 : decode cX4_exit 57 = .ok (.aload_n 0, 1) := by decide +kernel
theorem dX4_exit_58 : decode cX4_exit 58 = .ok (.getfield 42, 3) := by decide +kernel
theorem dX4_exit_61 : decode cX4_exit 61 = .ok (.iload_n 1, 1) := by decide +kernel
theorem dX4_exit_62 : decode cX4_exit 62 = .ok (.iload_n 3, 1) := by decide +kernel
theorem dX4_exit_63 : decode cX4_exit 63 = .ok (.invokestatic 96, 3) := by decide +kernel
theorem dX4_exit_66 : decode cX4_exit 66 = .ok (.iaload, 1) := by decide +kernel
theorem dX4_exit_67 : decode cX4_exit 67 = .ok (.ifCond .le 16, 3) := by decide +kernel
theorem dX4_exit_70 : decode cX4_exit 70 = .ok (.aload_n 0, 1) := by decide +kernel
theorem dX4_exit_71 : decode cX4_exit 71 = .ok (.iload_n 1, 1) := by decide +kernel
theorem dX4_exit_72 : decode cX4_exit 72 = .ok (.iload_n 3, 1) := by decide +kernel
theorem dX4_exit_73 : decode cX4_exit 73 = .ok (.invokevirtual 109, 3) := by decide +kernel
theorem dX4_exit_76 : decode cX4_exit 76 = .ok (.ifCond .eq 7, 3) := by decide +kernel
theorem dX4_exit_79 : decode cX4_exit 79 = .ok (.iconst 1, 1) := by decide +kernel
theorem dX4_exit_80 : decode cX4_exit 80 = .ok (.goto 4, 3) := by decide +kernel
theorem dX4_exit_83 : decode cX4_exit 83 = .ok (.iconst 0, 1) := by decide +kernel
theorem dX4_exit_84 : decode cX4_exit 84 = .ok (.iadd, 1) := by decide +kernel
theorem dX4_exit_85 : decode cX4_exit 85 = .ok (.istore_n 2, 1) := by decide +kernel
theorem dX4_exit_86 : decode cX4_exit 86 = .ok (.iinc 3 1, 3) := by decide +kernel
theorem dX4_exit_89 : decode cX4_exit 89 = .ok (.goto (-39), 3) := by decide +kernel
theorem dX4_exit_92 : decode cX4_exit 92 = .ok (.iload_n 2, 1) := by decide +kernel
theorem dX4_exit_93 : decode cX4_exit 93 = .ok (.ireturn, 1) := by decide +kernel
theorem dX4_mapped_0 : decode cX4_mapped 0 = .ok (.iconst 0, 1) := by decide +kernel
theorem dX4_mapped_1 : decode cX4_mapped 1 = .ok (.istore_n 2, 1) := by decide +kernel
theorem dX4_mapped_2 : decode cX4_mapped 2 = .ok (.iconst 0, 1) := by decide +kernel
theorem dX4_mapped_3 : decode cX4_mapped 3 = .ok (.istore_n 3, 1) := by decide +kernel
theorem dX4_mapped_4 : decode cX4_mapped 4 = .ok (.iload_n 3, 1) := by decide +kernel
theorem dX4_mapped_5 : decode cX4_mapped 5 = .ok (.bipush 16, 2) := by decide +kernel
theorem dX4_mapped_7 : decode cX4_mapped 7 = .ok (.if_icmp .ge 30, 3) := by decide +kernel
theorem dX4_mapped_10 : decode cX4_mapped 10 = .ok (.iload_n 2, 1) := by decide +kernel
theorem dX4_mapped_11 : decode cX4_mapped 11 = .ok (.aload_n 0, 1) := by decide +kernel
theorem dX4_mapped_12 : decode cX4_mapped 12 = .ok (.getfield 42, 3) := by decide +kernel
theorem dX4_mapped_15 : decode cX4_mapped 15 = .ok (.iload_n 1, 1) := by decide +kernel
theorem dX4_mapped_16 : decode cX4_mapped 16 = .ok (.iload_n 3, 1) := by decide +kernel
theorem dX4_mapped_17 : decode cX4_mapped 17 = .ok (.invokestatic 96, 3) := by decide +kernel
theorem dX4_mapped_20 : decode cX4_mapped 20 = .ok (.iaload, 1) := by decide +kernel
theorem dX4_mapped_21 : decode cX4_mapped 21 = .ok (.ifCond .le 7, 3) := by decide +kernel
theorem dX4_mapped_24 : decode cX4_mapped 24 = .ok (.iconst 1, 1) := by decide +kernel
theorem dX4_mapped_25 : decode cX4_mapped 25 = .ok (.goto 4, 3) := by decide +kernel
theorem dX4_mapped_28 : decode cX4_mapped 28 = .ok (.iconst 0, 1) := by decide +kernel
theorem dX4_mapped_29 : decode cX4_mapped 29 = .ok (.iadd, 1) := by decide +kernel
theorem dX4_mapped_30 : decode cX4_mapped 30 = .ok (.istore_n 2, 1) := by decide +kernel
theorem dX4_mapped_31 : decode cX4_mapped 31 = .ok (.iinc 3 1, 3) := by decide +kernel
theorem dX4_mapped_34 : decode cX4_mapped 34 = .ok (.goto (-30), 3) := by decide +kernel
theorem dX4_mapped_37 : decode cX4_mapped 37 = .ok (.iload_n 2, 1) := by decide +kernel
theorem dX4_mapped_38 : decode cX4_mapped 38 = .ok (.ireturn, 1) := by decide +kernel
theorem dX4_canMap_0 : decode cX4_canMap 0 = .ok (.aload_n 0, 1) := by decide +kernel
theorem dX4_canMap_1 : decode cX4_canMap 1 = .ok (.aload_n 0, 1) := by decide +kernel
theorem dX4_canMap_2 : decode cX4_canMap 2 = .ok (.iload_n 1, 1) := by decide +kernel
theorem dX4_canMap_3 : decode cX4_canMap 3 = .ok (.invokevirtual 100, 3) := by decide +kernel
theorem dX4_canMap_6 : decode cX4_canMap 6 = .ok (.ifCond .eq 14, 3) := by decide +kernel
theorem dX4_canMap_9 : decode cX4_canMap 9 = .ok (.iload_n 2, 1) := by decide +kernel
theorem dX4_canMap_10 : decode cX4_canMap 10 = .ok (.invokestatic 113, 3) := by decide +kernel
theorem dX4_canMap_13 : decode cX4_canMap 13 = .ok (.ifCond .eq 7, 3) := by decide +kernel
theorem dX4_canMap_16 : decode cX4_canMap 16 = .ok (.iload_n 3, 1) := by decide +kernel
theorem dX4_canMap_17 : decode cX4_canMap 17 = .ok (.ifCond .ne 7, 3) := by decide +kernel
theorem dX4_canMap_20 : decode cX4_canMap 20 = .ok (.iconst 1, 1) := by decide +kernel
theorem dX4_canMap_21 : decode cX4_canMap 21 = .ok (.goto 34, 3) := by decide +kernel
theorem dX4_canMap_24 : decode cX4_canMap 24 = .ok (.aload_n 0, 1) := by decide +kernel
theorem dX4_canMap_25 : decode cX4_canMap 25 = .ok (.getfield 39, 3) := by decide +kernel
theorem dX4_canMap_28 : decode cX4_canMap 28 = .ok (.iload_n 1, 1) := by decide +kernel
theorem dX4_canMap_29 : decode cX4_canMap 29 = .ok (.baload, 1) := by decide +kernel
theorem dX4_canMap_30 : decode cX4_canMap 30 = .ok (.ifCond .ne 7, 3) := by decide +kernel
theorem dX4_canMap_33 : decode cX4_canMap 33 = .ok (.iconst 2, 1) := by decide +kernel
theorem dX4_canMap_34 : decode cX4_canMap 34 = .ok (.goto 21, 3) := by decide +kernel
theorem dX4_canMap_37 : decode cX4_canMap 37 = .ok (.aload_n 0, 1) := by decide +kernel
theorem dX4_canMap_38 : decode cX4_canMap 38 = .ok (.getfield 42, 3) := by decide +kernel
theorem dX4_canMap_41 : decode cX4_canMap 41 = .ok (.iload_n 1, 1) := by decide +kernel
theorem dX4_canMap_42 : decode cX4_canMap 42 = .ok (.iload_n 2, 1) := by decide +kernel
theorem dX4_canMap_43 : decode cX4_canMap 43 = .ok (.invokestatic 96, 3) := by decide +kernel
theorem dX4_canMap_46 : decode cX4_canMap 46 = .ok (.iaload, 1) := by decide +kernel
theorem dX4_canMap_47 : decode cX4_canMap 47 = .ok (.ifCond .le 7, 3) := by decide +kernel
theorem dX4_canMap_50 : decode cX4_canMap 50 = .ok (.iconst 3, 1) := by decide +kernel
theorem dX4_canMap_51 : decode cX4_canMap 51 = .ok (.goto 4, 3) := by decide +kernel
theorem dX4_canMap_54 : decode cX4_canMap 54 = .ok (.iconst 0, 1) := by decide +kernel
theorem dX4_canMap_55 : decode cX4_canMap 55 = .ok (.putfield 60, 3) := by decide +kernel
theorem dX4_canMap_58 : decode cX4_canMap 58 = .ok (.aload_n 0, 1) := by decide +kernel
theorem dX4_canMap_59 : decode cX4_canMap 59 = .ok (.getfield 60, 3) := by decide +kernel
theorem dX4_canMap_62 : decode cX4_canMap 62 = .ok (.ifCond .ne 7, 3) := by decide +kernel
theorem dX4_canMap_65 : decode cX4_canMap 65 = .ok (.iconst 1, 1) := by decide +kernel
theorem dX4_canMap_66 : decode cX4_canMap 66 = .ok (.goto 4, 3) := by decide +kernel
theorem dX4_canMap_69 : decode cX4_canMap 69 = .ok (.iconst 0, 1) := by decide +kernel
theorem dX4_canMap_70 : decode cX4_canMap 70 = .ok (.ireturn, 1) := by decide +kernel
theorem dX4_map_0 : decode cX4_map 0 = .ok (.aload_n 0, 1) := by decide +kernel
theorem dX4_map_1 : decode cX4_map 1 = .ok (.iload_n 1, 1) := by decide +kernel
theorem dX4_map_2 : decode cX4_map 2 = .ok (.iload_n 2, 1) := by decide +kernel
theorem dX4_map_3 : decode cX4_map 3 = .ok (.iconst 1, 1) := by decide +kernel
theorem dX4_map_4 : decode cX4_map 4 = .ok (.invokevirtual 116, 3) := by decide +kernel
theorem dX4_map_7 : decode cX4_map 7 = .ok (.ifCond .ne 5, 3) := by decide +kernel
theorem dX4_map_10 : decode cX4_map 10 = .ok (.iconst 0, 1) := by decide +kernel
theorem dX4_map_11 : decode cX4_map 11 = .ok (.ireturn, 1) := by decide +kernel
theorem dX4_map_12 : decode cX4_map 12 = .ok (.aload_n 0, 1) := by decide +kernel
theorem dX4_map_13 : decode cX4_map 13 = .ok (.getfield 42, 3) := by decide +kernel
theorem dX4_map_16 : decode cX4_map 16 = .ok (.iload_n 1, 1) := by decide +kernel
theorem dX4_map_17 : decode cX4_map 17 = .ok (.iload_n 2, 1) := by decide +kernel
theorem dX4_map_18 : decode cX4_map 18 = .ok (.invokestatic 96, 3) := by decide +kernel
theorem dX4_map_21 : decode cX4_map 21 = .ok (.iconst 1, 1) := by decide +kernel
theorem dX4_map_22 : decode cX4_map 22 = .ok (.iastore, 1) := by decide +kernel
theorem dX4_map_23 : decode cX4_map 23 = .ok (.aload_n 0, 1) := by decide +kernel
theorem dX4_map_24 : decode cX4_map 24 = .ok (.getfield 45, 3) := by decide +kernel
theorem dX4_map_27 : decode cX4_map 27 = .ok (.iload_n 1, 1) := by decide +kernel
theorem dX4_map_28 : decode cX4_map 28 = .ok (.iload_n 2, 1) := by decide +kernel
theorem dX4_map_29 : decode cX4_map 29 = .ok (.invokestatic 96, 3) := by decide +kernel
theorem dX4_map_32 : decode cX4_map 32 = .ok (.aload_n 0, 1) := by decide +kernel
theorem dX4_map_33 : decode cX4_map 33 = .ok (.invokevirtual 120, 3) := by decide +kernel
theorem dX4_map_36 : decode cX4_map 36 = .ok (.iastore, 1) := by decide +kernel
theorem dX4_map_37 : decode cX4_map 37 = .ok (.aload_n 0, 1) := by decide +kernel
theorem dX4_map_38 : decode cX4_map 38 = .ok (.iload_n 1, 1) := by decide +kernel
theorem dX4_map_39 : decode cX4_map 39 = .ok (.invokevirtual 123, 3) := by decide +kernel
theorem dX4_map_42 : decode cX4_map 42 = .ok (.ireturn, 1) := by decide +kernel
theorem dX4_createSegment_0 : decode cX4_createSegment 0 = .ok (.aload_n 0, 1) := by decide +kernel
theorem dX4_createSegment_1 : decode cX4_createSegment 1 = .ok (.iconst 0, 1) := by decide +kernel
theorem dX4_createSegment_2 : decode cX4_createSegment 2 = .ok (.putfield 60, 3) := by decide +kernel
theorem dX4_createSegment_5 : decode cX4_createSegment 5 = .ok (.iload_n 1, 1) := by decide +kernel
theorem dX4_createSegment_6 : decode cX4_createSegment 6 = .ok (.iconst 1, 1) := by decide +kernel
theorem dX4_createSegment_7 : decode cX4_createSegment 7 = .ok (.if_icmp .lt 9, 3) := by decide +kernel
theorem dX4_createSegment_10 : decode cX4_createSegment 10 = .ok (.iload_n 1, 1) := by decide +kernel
theorem dX4_createSegment_11 : decode cX4_createSegment 11 = .ok (.bipush 6, 2) := by decide +kernel
theorem dX4_createSegment_13 : decode cX4_createSegment 13 = .ok (.if_icmp .le 9, 3) := by decide +kernel
theorem dX4_createSegment_16 : decode cX4_createSegment 16 = .ok (.aload_n 0, 1) := by decide +kernel
theorem dX4_createSegment_17 : decode cX4_createSegment 17 = .ok (.iconst 1, 1) := by decide +kernel
theorem dX4_createSegment_18 : decode cX4_createSegment 18 = .ok (.invokevirtual 86, 3) := by decide +kernel
theorem dX4_createSegment_21 : decode cX4_createSegment 21 = .ok (.ireturn, 1) := by decide +kernel
theorem dX4_createSegment_22 : decode cX4_createSegment 22 = .ok (.aload_n 0, 1) := by decide +kernel
theorem dX4_createSegment_23 : decode cX4_createSegment 23 = .ok (.getfield 73, 3) := by decide +kernel
theorem dX4_createSegment_26 : decode cX4_createSegment 26 = .ok (.iconst 4, 1) := by decide +kernel
theorem dX4_createSegment_27 : decode cX4_createSegment 27 = .ok (.if_icmp .ne 9, 3) := by decide +kernel
theorem dX4_createSegment_30 : decode cX4_createSegment 30 = .ok (.aload_n 0, 1) := by decide +kernel
theorem dX4_createSegment_31 : decode cX4_createSegment 31 = .ok (.iconst 2, 1) := by decide +kernel
theorem dX4_createSegment_32 : decode cX4_createSegment 32 = .ok (.invokevirtual 86, 3) := by decide +kernel
theorem dX4_createSegment_35 : decode cX4_createSegment 35 = .ok (.ireturn, 1) := by decide +kernel
theorem dX4_createSegment_36 : decode cX4_createSegment 36 = .ok (.iconst 0, 1) := by decide +kernel
theorem dX4_createSegment_37 : decode cX4_createSegment 37 = .ok (.istore_n 2, 1) := by decide +kernel
theorem dX4_createSegment_38 : decode cX4_createSegment 38 = .ok (.iload_n 2, 1) := by decide +kernel
theorem dX4_createSegment_39 : decode cX4_createSegment 39 = .ok (.iload_n 1, 1) := by decide +kernel
theorem dX4_createSegment_40 : decode cX4_createSegment 40 = .ok (.if_icmp .ge 27, 3) := by decide +kernel
theorem dX4_createSegment_43 : decode cX4_createSegment 43 = .ok (.aload_n 0, 1) := by decide +kernel
theorem dX4_createSegment_44 : decode cX4_createSegment 44 = .ok (.getfield 51, 3) := by decide +kernel
theorem dX4_createSegment_47 : decode cX4_createSegment 47 = .ok (.bipush 6, 2) := by decide +kernel
theorem dX4_createSegment_49 : decode cX4_createSegment 49 = .ok (.aload_n 0, 1) := by decide +kernel
theorem dX4_createSegment_50 : decode cX4_createSegment 50 = .ok (.getfield 73, 3) := by decide +kernel
theorem dX4_createSegment_53 : decode cX4_createSegment 53 = .ok (.imul, 1) := by decide +kernel
theorem dX4_createSegment_54 : decode cX4_createSegment 54 = .ok (.iload_n 2, 1) := by decide +kernel
theorem dX4_createSegment_55 : decode cX4_createSegment 55 = .ok (.iadd, 1) := by decide +kernel
theorem dX4_createSegment_56 : decode cX4_createSegment 56 = .ok (.aload_n 0, 1) := by decide +kernel
theorem dX4_createSegment_57 : decode cX4_createSegment 57 = .ok (.invokevirtual 120, 3) := by decide +kernel
theorem dX4_createSegment_60 : decode cX4_createSegment 60 = .ok (.iastore, 1) := by decide +kernel
theorem dX4_createSegment_61 : decode cX4_createSegment 61 = .ok (.iinc 2 1, 3) := by decide +kernel
theorem dX4_createSegment_64 : decode cX4_createSegment 64 = .ok (.goto (-26), 3) := by decide +kernel
theorem dX4_createSegment_67 : decode cX4_createSegment 67 = .ok (.aload_n 0, 1) := by decide +kernel
theorem dX4_createSegment_68 : decode cX4_createSegment 68 = .ok (.getfield 48, 3) := by decide +kernel
theorem dX4_createSegment_71 : decode cX4_createSegment 71 = .ok (.aload_n 0, 1) := by decide +kernel
theorem dX4_createSegment_72 : decode cX4_createSegment 72 = .ok (.getfield 73, 3) := by decide +kernel
theorem dX4_createSegment_75 : decode cX4_createSegment 75 = .ok (.iload_n 1, 1) := by decide +kernel
theorem dX4_createSegment_76 : decode cX4_createSegment 76 = .ok (.iastore, 1) := by decide +kernel
theorem dX4_createSegment_77 : decode cX4_createSegment 77 = .ok (.aload_n 0, 1) := by decide +kernel
theorem dX4_createSegment_78 : decode cX4_createSegment 78 = .ok (.dup, 1) := by decide +kernel
theorem dX4_createSegment_79 : decode cX4_createSegment 79 = .ok (.getfield 73, 3) := by decide +kernel
theorem dX4_createSegment_82 : decode cX4_createSegment 82 = .ok (.iconst 1, 1) := by decide +kernel
theorem dX4_createSegment_83 : decode cX4_createSegment 83 = .ok (.iadd, 1) := by decide +kernel
theorem dX4_createSegment_84 : decode cX4_createSegment 84 = .ok (.putfield 73, 3) := by decide +kernel
theorem dX4_createSegment_87 : decode cX4_createSegment 87 = .ok (.aload_n 0, 1) := by decide +kernel
theorem dX4_createSegment_88 : decode cX4_createSegment 88 = .ok (.getfield 73, 3) := by decide +kernel
theorem dX4_createSegment_91 : decode cX4_createSegment 91 = .ok (.iconst 1, 1) := by decide +kernel
theorem dX4_createSegment_92 : decode cX4_createSegment 92 = .ok (.isub, 1) := by decide +kernel
theorem dX4_createSegment_93 : decode cX4_createSegment 93 = .ok (.ireturn, 1) := by decide +kernel
theorem dX4_attach_0 : decode cX4_attach 0 = .ok (.iload_n 3, 1) := by decide +kernel
theorem dX4_attach_1 : decode cX4_attach 1 = .ok (.ifCond .lt 31, 3) := by decide +kernel
theorem dX4_attach_4 : decode cX4_attach 4 = .ok (.iload_n 3, 1) := by decide +kernel
theorem dX4_attach_5 : decode cX4_attach 5 = .ok (.aload_n 0, 1) := by decide +kernel
theorem dX4_attach_6 : decode cX4_attach 6 = .ok (.getfield 73, 3) := by decide +kernel
theorem dX4_attach_9 : decode cX4_attach 9 = .ok (.if_icmp .ge 23, 3) := by decide +kernel
theorem dX4_attach_12 : decode cX4_attach 12 = .ok (.iload 4, 2) := by decide +kernel
theorem dX4_attach_14 : decode cX4_attach 14 = .ok (.ifCond .lt 18, 3) := by decide +kernel
theorem dX4_attach_17 : decode cX4_attach 17 = .ok (.iload 4, 2) := by decide +kernel
theorem dX4_attach_19 : decode cX4_attach 19 = .ok (.aload_n 0, 1) := by decide +kernel
theorem dX4_attach_20 : decode cX4_attach 20 = .ok (.getfield 48, 3) := by decide +kernel
theorem dX4_attach_23 : decode cX4_attach 23 = .ok (.iload_n 3, 1) := by decide +kernel
theorem dX4_attach_24 : decode cX4_attach 24 = .ok (.iaload, 1) := by decide +kernel
theorem dX4_attach_25 : decode cX4_attach 25 = .ok (.if_icmp .ge 7, 3) := by decide +kernel
theorem dX4_attach_28 : decode cX4_attach 28 = .ok (.iconst 1, 1) := by decide +kernel
theorem dX4_attach_29 : decode cX4_attach 29 = .ok (.goto 4, 3) := by decide +kernel
theorem dX4_attach_32 : decode cX4_attach 32 = .ok (.iconst 0, 1) := by decide +kernel
theorem dX4_attach_33 : decode cX4_attach 33 = .ok (.istore 5, 2) := by decide +kernel
theorem dX4_attach_35 : decode cX4_attach 35 = .ok (.aload_n 0, 1) := by decide +kernel
theorem dX4_attach_36 : decode cX4_attach 36 = .ok (.iload_n 1, 1) := by decide +kernel
theorem dX4_attach_37 : decode cX4_attach 37 = .ok (.iload_n 2, 1) := by decide +kernel
theorem dX4_attach_38 : decode cX4_attach 38 = .ok (.iload 5, 2) := by decide +kernel
theorem dX4_attach_40 : decode cX4_attach 40 = .ok (.invokevirtual 116, 3) := by decide +kernel
theorem dX4_attach_43 : decode cX4_attach 43 = .ok (.ifCond .ne 5, 3) := by decide +kernel
theorem dX4_attach_46 : decode cX4_attach 46 = .ok (.iconst 0, 1) := by decide +kernel
theorem dX4_attach_47 : decode cX4_attach 47 = .ok (.ireturn, 1) := by decide +kernel
theorem dX4_attach_48 : decode cX4_attach 48 = .ok (.aload_n 0, 1) := by decide +kernel
theorem dX4_attach_49 : decode cX4_attach 49 = .ok (.getfield 42, 3) := by decide +kernel
theorem dX4_attach_52 : decode cX4_attach 52 = .ok (.iload_n 1, 1) := by decide +kernel
theorem dX4_attach_53 : decode cX4_attach 53 = .ok (.iload_n 2, 1) := by decide +kernel
theorem dX4_attach_54 : decode cX4_attach 54 = .ok (.invokestatic 96, 3) := by decide +kernel
theorem dX4_attach_57 : decode cX4_attach 57 = .ok (.iconst 2, 1) := by decide +kernel
theorem dX4_attach_58 : decode cX4_attach 58 = .ok (.iastore, 1) := by decide +kernel
theorem dX4_attach_59 : decode cX4_attach 59 = .ok (.aload_n 0, 1) := by decide +kernel
theorem dX4_attach_60 : decode cX4_attach 60 = .ok (.getfield 45, 3) := by decide +kernel
theorem dX4_attach_63 : decode cX4_attach 63 = .ok (.iload_n 1, 1) := by decide +kernel
theorem dX4_attach_64 : decode cX4_attach 64 = .ok (.iload_n 2, 1) := by decide +kernel
theorem dX4_attach_65 : decode cX4_attach 65 = .ok (.invokestatic 96, 3) := by decide +kernel
theorem dX4_attach_68 : decode cX4_attach 68 = .ok (.aload_n 0, 1) := by decide +kernel
theorem dX4_attach_69 : decode cX4_attach 69 = .ok (.getfield 51, 3) := by decide +kernel
theorem dX4_attach_72 : decode cX4_attach 72 = .ok (.bipush 6, 2) := by decide +kernel
theorem dX4_attach_74 : decode cX4_attach 74 = .ok (.iload_n 3, 1) := by decide +kernel
theorem dX4_attach_75 : decode cX4_attach 75 = .ok (.imul, 1) := by decide +kernel
theorem dX4_attach_76 : decode cX4_attach 76 = .ok (.iload 4, 2) := by decide +kernel
theorem dX4_attach_78 : decode cX4_attach 78 = .ok (.iadd, 1) := by decide +kernel
theorem dX4_attach_79 : decode cX4_attach 79 = .ok (.iaload, 1) := by decide +kernel
theorem dX4_attach_80 : decode cX4_attach 80 = .ok (.iastore, 1) := by decide +kernel
theorem dX4_attach_81 : decode cX4_attach 81 = .ok (.aload_n 0, 1) := by decide +kernel
theorem dX4_attach_82 : decode cX4_attach 82 = .ok (.iload_n 1, 1) := by decide +kernel
theorem dX4_attach_83 : decode cX4_attach 83 = .ok (.invokevirtual 123, 3) := by decide +kernel
theorem dX4_attach_86 : decode cX4_attach 86 = .ok (.ireturn, 1) := by decide +kernel
theorem dX4_unmap_0 : decode cX4_unmap 0 = .ok (.aload_n 0, 1) := by decide +kernel
theorem dX4_unmap_1 : decode cX4_unmap 1 = .ok (.aload_n 0, 1) := by decide +kernel
theorem dX4_unmap_2 : decode cX4_unmap 2 = .ok (.iload_n 1, 1) := by decide +kernel
theorem dX4_unmap_3 : decode cX4_unmap 3 = .ok (.invokevirtual 100, 3) := by decide +kernel
theorem dX4_unmap_6 : decode cX4_unmap 6 = .ok (.ifCond .eq 10, 3) := by decide +kernel
theorem dX4_unmap_9 : decode cX4_unmap 9 = .ok (.iload_n 2, 1) := by decide +kernel
theorem dX4_unmap_10 : decode cX4_unmap 10 = .ok (.invokestatic 113, 3) := by decide +kernel
theorem dX4_unmap_13 : decode cX4_unmap 13 = .ok (.ifCond .ne 7, 3) := by decide +kernel
theorem dX4_unmap_16 : decode cX4_unmap 16 = .ok (.iconst 1, 1) := by decide +kernel
theorem dX4_unmap_17 : decode cX4_unmap 17 = .ok (.goto 34, 3) := by decide +kernel
theorem dX4_unmap_20 : decode cX4_unmap 20 = .ok (.aload_n 0, 1) := by decide +kernel
theorem dX4_unmap_21 : decode cX4_unmap 21 = .ok (.getfield 39, 3) := by decide +kernel
theorem dX4_unmap_24 : decode cX4_unmap 24 = .ok (.iload_n 1, 1) := by decide +kernel
theorem dX4_unmap_25 : decode cX4_unmap 25 = .ok (.baload, 1) := by decide +kernel
theorem dX4_unmap_26 : decode cX4_unmap 26 = .ok (.ifCond .ne 7, 3) := by decide +kernel
theorem dX4_unmap_29 : decode cX4_unmap 29 = .ok (.iconst 2, 1) := by decide +kernel
theorem dX4_unmap_30 : decode cX4_unmap 30 = .ok (.goto 21, 3) := by decide +kernel
theorem dX4_unmap_33 : decode cX4_unmap 33 = .ok (.aload_n 0, 1) := by decide +kernel
theorem dX4_unmap_34 : decode cX4_unmap 34 = .ok (.getfield 42, 3) := by decide +kernel
theorem dX4_unmap_37 : decode cX4_unmap 37 = .ok (.iload_n 1, 1) := by decide +kernel
theorem dX4_unmap_38 : decode cX4_unmap 38 = .ok (.iload_n 2, 1) := by decide +kernel
theorem dX4_unmap_39 : decode cX4_unmap 39 = .ok (.invokestatic 96, 3) := by decide +kernel
theorem dX4_unmap_42 : decode cX4_unmap 42 = .ok (.iaload, 1) := by decide +kernel
theorem dX4_unmap_43 : decode cX4_unmap 43 = .ok (.ifCond .ne 7, 3) := by decide +kernel
theorem dX4_unmap_46 : decode cX4_unmap 46 = .ok (.iconst 3, 1) := by decide +kernel
theorem dX4_unmap_47 : decode cX4_unmap 47 = .ok (.goto 4, 3) := by decide +kernel
theorem dX4_unmap_50 : decode cX4_unmap 50 = .ok (.iconst 0, 1) := by decide +kernel
theorem dX4_unmap_51 : decode cX4_unmap 51 = .ok (.putfield 60, 3) := by decide +kernel
theorem dX4_unmap_54 : decode cX4_unmap 54 = .ok (.aload_n 0, 1) := by decide +kernel
theorem dX4_unmap_55 : decode cX4_unmap 55 = .ok (.getfield 60, 3) := by decide +kernel
theorem dX4_unmap_58 : decode cX4_unmap 58 = .ok (.ifCond .ne 16, 3) := by decide +kernel
theorem dX4_unmap_61 : decode cX4_unmap 61 = .ok (.aload_n 0, 1) := by decide +kernel
theorem dX4_unmap_62 : decode cX4_unmap 62 = .ok (.iload_n 1, 1) := by decide +kernel
theorem dX4_unmap_63 : decode cX4_unmap 63 = .ok (.iload_n 2, 1) := by decide +kernel
theorem dX4_unmap_64 : decode cX4_unmap 64 = .ok (.invokevirtual 109, 3) := by decide +kernel
theorem dX4_unmap_67 : decode cX4_unmap 67 = .ok (.ifCond .eq 7, 3) := by decide +kernel
theorem dX4_unmap_70 : decode cX4_unmap 70 = .ok (.iconst 1, 1) := by decide +kernel
theorem dX4_unmap_71 : decode cX4_unmap 71 = .ok (.goto 4, 3) := by decide +kernel
theorem dX4_unmap_74 : decode cX4_unmap 74 = .ok (.iconst 0, 1) := by decide +kernel
theorem dX4_unmap_75 : decode cX4_unmap 75 = .ok (.ireturn, 1) := by decide +kernel
theorem dX4_isLive_0 : decode cX4_isLive 0 = .ok (.aload_n 0, 1) := by decide +kernel
theorem dX4_isLive_1 : decode cX4_isLive 1 = .ok (.aload_n 0, 1) := by decide +kernel
theorem dX4_isLive_2 : decode cX4_isLive 2 = .ok (.iload_n 1, 1) := by decide +kernel
theorem dX4_isLive_3 : decode cX4_isLive 3 = .ok (.invokevirtual 100, 3) := by decide +kernel
theorem dX4_isLive_6 : decode cX4_isLive 6 = .ok (.ifCond .eq 7, 3) := by decide +kernel
theorem dX4_isLive_9 : decode cX4_isLive 9 = .ok (.iconst 0, 1) := by decide +kernel
theorem dX4_isLive_10 : decode cX4_isLive 10 = .ok (.goto 4, 3) := by decide +kernel
theorem dX4_isLive_13 : decode cX4_isLive 13 = .ok (.iconst 1, 1) := by decide +kernel
theorem dX4_isLive_14 : decode cX4_isLive 14 = .ok (.putfield 60, 3) := by decide +kernel
theorem dX4_isLive_17 : decode cX4_isLive 17 = .ok (.aload_n 0, 1) := by decide +kernel
theorem dX4_isLive_18 : decode cX4_isLive 18 = .ok (.getfield 60, 3) := by decide +kernel
theorem dX4_isLive_21 : decode cX4_isLive 21 = .ok (.ifCond .ne 16, 3) := by decide +kernel
theorem dX4_isLive_24 : decode cX4_isLive 24 = .ok (.aload_n 0, 1) := by decide +kernel
theorem dX4_isLive_25 : decode cX4_isLive 25 = .ok (.getfield 39, 3) := by decide +kernel
theorem dX4_isLive_28 : decode cX4_isLive 28 = .ok (.iload_n 1, 1) := by decide +kernel
theorem dX4_isLive_29 : decode cX4_isLive 29 = .ok (.baload, 1) := by decide +kernel
theorem dX4_isLive_30 : decode cX4_isLive 30 = .ok (.ifCond .eq 7, 3) := by decide +kernel
theorem dX4_isLive_33 : decode cX4_isLive 33 = .ok (.iconst 1, 1) := by decide +kernel
theorem dX4_isLive_34 : decode cX4_isLive 34 = .ok (.goto 4, 3) := by decide +kernel
theorem dX4_isLive_37 : decode cX4_isLive 37 = .ok (.iconst 0, 1) := by decide +kernel
theorem dX4_isLive_38 : decode cX4_isLive 38 = .ok (.ireturn, 1) := by decide +kernel
theorem dX4_asks_0 : decode cX4_asks 0 = .ok (.aload_n 0, 1) := by decide +kernel
theorem dX4_asks_1 : decode cX4_asks 1 = .ok (.aload_n 0, 1) := by decide +kernel
theorem dX4_asks_2 : decode cX4_asks 2 = .ok (.iload_n 1, 1) := by decide +kernel
theorem dX4_asks_3 : decode cX4_asks 3 = .ok (.invokevirtual 100, 3) := by decide +kernel
theorem dX4_asks_6 : decode cX4_asks 6 = .ok (.ifCond .eq 14, 3) := by decide +kernel
theorem dX4_asks_9 : decode cX4_asks 9 = .ok (.iload_n 2, 1) := by decide +kernel
theorem dX4_asks_10 : decode cX4_asks 10 = .ok (.invokestatic 113, 3) := by decide +kernel
theorem dX4_asks_13 : decode cX4_asks 13 = .ok (.ifCond .eq 7, 3) := by decide +kernel
theorem dX4_asks_16 : decode cX4_asks 16 = .ok (.iconst 0, 1) := by decide +kernel
theorem dX4_asks_17 : decode cX4_asks 17 = .ok (.goto 4, 3) := by decide +kernel
theorem dX4_asks_20 : decode cX4_asks 20 = .ok (.iconst 1, 1) := by decide +kernel
theorem dX4_asks_21 : decode cX4_asks 21 = .ok (.putfield 60, 3) := by decide +kernel
theorem dX4_asks_24 : decode cX4_asks 24 = .ok (.aload_n 0, 1) := by decide +kernel
theorem dX4_asks_25 : decode cX4_asks 25 = .ok (.getfield 60, 3) := by decide +kernel
theorem dX4_asks_28 : decode cX4_asks 28 = .ok (.ifCond .ne 7, 3) := by decide +kernel
theorem dX4_asks_31 : decode cX4_asks 31 = .ok (.iconst 1, 1) := by decide +kernel
theorem dX4_asks_32 : decode cX4_asks 32 = .ok (.goto 4, 3) := by decide +kernel
theorem dX4_asks_35 : decode cX4_asks 35 = .ok (.iconst 0, 1) := by decide +kernel
theorem dX4_asks_36 : decode cX4_asks 36 = .ok (.ireturn, 1) := by decide +kernel
theorem dX4_mapping_0 : decode cX4_mapping 0 = .ok (.aload_n 0, 1) := by decide +kernel
theorem dX4_mapping_1 : decode cX4_mapping 1 = .ok (.iload_n 1, 1) := by decide +kernel
theorem dX4_mapping_2 : decode cX4_mapping 2 = .ok (.iload_n 2, 1) := by decide +kernel
theorem dX4_mapping_3 : decode cX4_mapping 3 = .ok (.invokevirtual 126, 3) := by decide +kernel
theorem dX4_mapping_6 : decode cX4_mapping 6 = .ok (.ifCond .eq 16, 3) := by decide +kernel
theorem dX4_mapping_9 : decode cX4_mapping 9 = .ok (.aload_n 0, 1) := by decide +kernel
theorem dX4_mapping_10 : decode cX4_mapping 10 = .ok (.getfield 42, 3) := by decide +kernel
theorem dX4_mapping_13 : decode cX4_mapping 13 = .ok (.iload_n 1, 1) := by decide +kernel
theorem dX4_mapping_14 : decode cX4_mapping 14 = .ok (.iload_n 2, 1) := by decide +kernel
theorem dX4_mapping_15 : decode cX4_mapping 15 = .ok (.invokestatic 96, 3) := by decide +kernel
theorem dX4_mapping_18 : decode cX4_mapping 18 = .ok (.iaload, 1) := by decide +kernel
end
section
theorem dX4_mapping_19 : decode cX4_mapping 19 = .ok (.goto 4, 3) := by decide +kernel
theorem dX4_mapping_22 : decode cX4_mapping 22 = .ok (.iconst 0, 1) := by decide +kernel
theorem dX4_mapping_23 : decode cX4_mapping 23 = .ok (.ireturn, 1) := by decide +kernel
theorem dX4_findCluster_0 : decode cX4_findCluster 0 = .ok (.aload_n 0, 1) := by decide +kernel
theorem dX4_findCluster_1 : decode cX4_findCluster 1 = .ok (.getfield 57, 3) := by decide +kernel
theorem dX4_findCluster_4 : decode cX4_findCluster 4 = .ok (.iconst 0, 1) := by decide +kernel
theorem dX4_findCluster_5 : decode cX4_findCluster 5 = .ok (.iload_n 1, 1) := by decide +kernel
theorem dX4_findCluster_6 : decode cX4_findCluster 6 = .ok (.iastore, 1) := by decide +kernel
theorem dX4_findCluster_7 : decode cX4_findCluster 7 = .ok (.aload_n 0, 1) := by decide +kernel
theorem dX4_findCluster_8 : decode cX4_findCluster 8 = .ok (.iload_n 1, 1) := by decide +kernel
theorem dX4_findCluster_9 : decode cX4_findCluster 9 = .ok (.invokevirtual 70, 3) := by decide +kernel
theorem dX4_findCluster_12 : decode cX4_findCluster 12 = .ok (.istore_n 2, 1) := by decide +kernel
theorem dX4_findCluster_13 : decode cX4_findCluster 13 = .ok (.iconst 0, 1) := by decide +kernel
theorem dX4_findCluster_14 : decode cX4_findCluster 14 = .ok (.istore_n 3, 1) := by decide +kernel
theorem dX4_findCluster_15 : decode cX4_findCluster 15 = .ok (.iload_n 2, 1) := by decide +kernel
theorem dX4_findCluster_16 : decode cX4_findCluster 16 = .ok (.iconst (-1), 1) := by decide +kernel
theorem dX4_findCluster_17 : decode cX4_findCluster 17 = .ok (.if_icmp .ne 34, 3) := by decide +kernel
theorem dX4_findCluster_20 : decode cX4_findCluster 20 = .ok (.aload_n 0, 1) := by decide +kernel
theorem dX4_findCluster_21 : decode cX4_findCluster 21 = .ok (.getfield 42, 3) := by decide +kernel
theorem dX4_findCluster_24 : decode cX4_findCluster 24 = .ok (.iload_n 3, 1) := by decide +kernel
theorem dX4_findCluster_25 : decode cX4_findCluster 25 = .ok (.iaload, 1) := by decide +kernel
theorem dX4_findCluster_26 : decode cX4_findCluster 26 = .ok (.iconst 1, 1) := by decide +kernel
theorem dX4_findCluster_27 : decode cX4_findCluster 27 = .ok (.if_icmp .ne 13, 3) := by decide +kernel
theorem dX4_findCluster_30 : decode cX4_findCluster 30 = .ok (.aload_n 0, 1) := by decide +kernel
theorem dX4_findCluster_31 : decode cX4_findCluster 31 = .ok (.getfield 45, 3) := by decide +kernel
theorem dX4_findCluster_34 : decode cX4_findCluster 34 = .ok (.iload_n 3, 1) := by decide +kernel
theorem dX4_findCluster_35 : decode cX4_findCluster 35 = .ok (.iaload, 1) := by decide +kernel
theorem dX4_findCluster_36 : decode cX4_findCluster 36 = .ok (.iload_n 1, 1) := by decide +kernel
theorem dX4_findCluster_37 : decode cX4_findCluster 37 = .ok (.if_icmp .eq 9, 3) := by decide +kernel
theorem dX4_findCluster_40 : decode cX4_findCluster 40 = .ok (.iinc 3 1, 3) := by decide +kernel
theorem dX4_findCluster_43 : decode cX4_findCluster 43 = .ok (.goto (-23), 3) := by decide +kernel
theorem dX4_findCluster_46 : decode cX4_findCluster 46 = .ok (.iload_n 3, 1) := by decide +kernel
theorem dX4_findCluster_47 : decode cX4_findCluster 47 = .ok (.istore_n 2, 1) := by decide +kernel
theorem dX4_findCluster_48 : decode cX4_findCluster 48 = .ok (.goto 5, 3) := by decide +kernel
theorem dX4_findCluster_51 : decode cX4_findCluster 51 = .ok (.iconst (-1), 1) := by decide +kernel
theorem dX4_findCluster_52 : decode cX4_findCluster 52 = .ok (.istore_n 3, 1) := by decide +kernel
theorem dX4_findCluster_53 : decode cX4_findCluster 53 = .ok (.iconst 1, 1) := by decide +kernel
theorem dX4_findCluster_54 : decode cX4_findCluster 54 = .ok (.istore 4, 2) := by decide +kernel
theorem dX4_findCluster_56 : decode cX4_findCluster 56 = .ok (.iconst 1, 1) := by decide +kernel
theorem dX4_findCluster_57 : decode cX4_findCluster 57 = .ok (.istore 5, 2) := by decide +kernel
theorem dX4_findCluster_59 : decode cX4_findCluster 59 = .ok (.iconst 1, 1) := by decide +kernel
theorem dX4_findCluster_60 : decode cX4_findCluster 60 = .ok (.istore 6, 2) := by decide +kernel
theorem dX4_findCluster_62 : decode cX4_findCluster 62 = .ok (.iload 6, 2) := by decide +kernel
theorem dX4_findCluster_64 : decode cX4_findCluster 64 = .ok (.iconst 4, 1) := by decide +kernel
theorem dX4_findCluster_65 : decode cX4_findCluster 65 = .ok (.if_icmp .ge 128, 3) := by decide +kernel
theorem dX4_findCluster_68 : decode cX4_findCluster 68 = .ok (.iload 5, 2) := by decide +kernel
theorem dX4_findCluster_70 : decode cX4_findCluster 70 = .ok (.ifCond .eq 123, 3) := by decide +kernel
theorem dX4_findCluster_73 : decode cX4_findCluster 73 = .ok (.iload_n 3, 1) := by decide +kernel
theorem dX4_findCluster_74 : decode cX4_findCluster 74 = .ok (.iconst (-1), 1) := by decide +kernel
theorem dX4_findCluster_75 : decode cX4_findCluster 75 = .ok (.if_icmp .ne 13, 3) := by decide +kernel
theorem dX4_findCluster_78 : decode cX4_findCluster 78 = .ok (.aload_n 0, 1) := by decide +kernel
theorem dX4_findCluster_79 : decode cX4_findCluster 79 = .ok (.iload_n 2, 1) := by decide +kernel
theorem dX4_findCluster_80 : decode cX4_findCluster 80 = .ok (.iload 6, 2) := by decide +kernel
theorem dX4_findCluster_82 : decode cX4_findCluster 82 = .ok (.invokevirtual 129, 3) := by decide +kernel
theorem dX4_findCluster_85 : decode cX4_findCluster 85 = .ok (.goto 10, 3) := by decide +kernel
theorem dX4_findCluster_88 : decode cX4_findCluster 88 = .ok (.aload_n 0, 1) := by decide +kernel
theorem dX4_findCluster_89 : decode cX4_findCluster 89 = .ok (.iload_n 2, 1) := by decide +kernel
theorem dX4_findCluster_90 : decode cX4_findCluster 90 = .ok (.iload 6, 2) := by decide +kernel
theorem dX4_findCluster_92 : decode cX4_findCluster 92 = .ok (.invokevirtual 132, 3) := by decide +kernel
theorem dX4_findCluster_95 : decode cX4_findCluster 95 = .ok (.istore 7, 2) := by decide +kernel
theorem dX4_findCluster_97 : decode cX4_findCluster 97 = .ok (.iload 7, 2) := by decide +kernel
theorem dX4_findCluster_99 : decode cX4_findCluster 99 = .ok (.iconst (-1), 1) := by decide +kernel
theorem dX4_findCluster_100 : decode cX4_findCluster 100 = .ok (.if_icmp .eq 26, 3) := by decide +kernel
theorem dX4_findCluster_103 : decode cX4_findCluster 103 = .ok (.aload_n 0, 1) := by decide +kernel
theorem dX4_findCluster_104 : decode cX4_findCluster 104 = .ok (.iload 7, 2) := by decide +kernel
theorem dX4_findCluster_106 : decode cX4_findCluster 106 = .ok (.invokevirtual 83, 3) := by decide +kernel
theorem dX4_findCluster_109 : decode cX4_findCluster 109 = .ok (.iconst (-1), 1) := by decide +kernel
theorem dX4_findCluster_110 : decode cX4_findCluster 110 = .ok (.if_icmp .eq 16, 3) := by decide +kernel
theorem dX4_findCluster_113 : decode cX4_findCluster 113 = .ok (.aload_n 0, 1) := by decide +kernel
theorem dX4_findCluster_114 : decode cX4_findCluster 114 = .ok (.iload 7, 2) := by decide +kernel
theorem dX4_findCluster_116 : decode cX4_findCluster 116 = .ok (.invokevirtual 135, 3) := by decide +kernel
theorem dX4_findCluster_119 : decode cX4_findCluster 119 = .ok (.ifCond .eq 7, 3) := by decide +kernel
theorem dX4_findCluster_122 : decode cX4_findCluster 122 = .ok (.iconst 1, 1) := by decide +kernel
theorem dX4_findCluster_123 : decode cX4_findCluster 123 = .ok (.goto 4, 3) := by decide +kernel
theorem dX4_findCluster_126 : decode cX4_findCluster 126 = .ok (.iconst 0, 1) := by decide +kernel
theorem dX4_findCluster_127 : decode cX4_findCluster 127 = .ok (.istore 5, 2) := by decide +kernel
theorem dX4_findCluster_129 : decode cX4_findCluster 129 = .ok (.iconst 0, 1) := by decide +kernel
theorem dX4_findCluster_130 : decode cX4_findCluster 130 = .ok (.istore 8, 2) := by decide +kernel
theorem dX4_findCluster_132 : decode cX4_findCluster 132 = .ok (.iload 8, 2) := by decide +kernel
theorem dX4_findCluster_134 : decode cX4_findCluster 134 = .ok (.iload 4, 2) := by decide +kernel
theorem dX4_findCluster_136 : decode cX4_findCluster 136 = .ok (.if_icmp .ge 31, 3) := by decide +kernel
theorem dX4_findCluster_139 : decode cX4_findCluster 139 = .ok (.iload 5, 2) := by decide +kernel
theorem dX4_findCluster_141 : decode cX4_findCluster 141 = .ok (.aload_n 0, 1) := by decide +kernel
theorem dX4_findCluster_142 : decode cX4_findCluster 142 = .ok (.getfield 57, 3) := by decide +kernel
theorem dX4_findCluster_145 : decode cX4_findCluster 145 = .ok (.iload 8, 2) := by decide +kernel
theorem dX4_findCluster_147 : decode cX4_findCluster 147 = .ok (.iaload, 1) := by decide +kernel
theorem dX4_findCluster_148 : decode cX4_findCluster 148 = .ok (.iload 7, 2) := by decide +kernel
theorem dX4_findCluster_150 : decode cX4_findCluster 150 = .ok (.if_icmp .eq 7, 3) := by decide +kernel
theorem dX4_findCluster_153 : decode cX4_findCluster 153 = .ok (.iconst 1, 1) := by decide +kernel
theorem dX4_findCluster_154 : decode cX4_findCluster 154 = .ok (.goto 4, 3) := by decide +kernel
theorem dX4_findCluster_157 : decode cX4_findCluster 157 = .ok (.iconst 0, 1) := by decide +kernel
theorem dX4_findCluster_158 : decode cX4_findCluster 158 = .ok (.iand, 1) := by decide +kernel
theorem dX4_findCluster_159 : decode cX4_findCluster 159 = .ok (.istore 5, 2) := by decide +kernel
theorem dX4_findCluster_161 : decode cX4_findCluster 161 = .ok (.iinc 8 1, 3) := by decide +kernel
theorem dX4_findCluster_164 : decode cX4_findCluster 164 = .ok (.goto (-32), 3) := by decide +kernel
theorem dX4_findCluster_167 : decode cX4_findCluster 167 = .ok (.iload 5, 2) := by decide +kernel
theorem dX4_findCluster_169 : decode cX4_findCluster 169 = .ok (.ifCond .ne 6, 3) := by decide +kernel
theorem dX4_findCluster_172 : decode cX4_findCluster 172 = .ok (.goto 15, 3) := by decide +kernel
theorem dX4_findCluster_175 : decode cX4_findCluster 175 = .ok (.aload_n 0, 1) := by decide +kernel
theorem dX4_findCluster_176 : decode cX4_findCluster 176 = .ok (.getfield 57, 3) := by decide +kernel
theorem dX4_findCluster_179 : decode cX4_findCluster 179 = .ok (.iload 4, 2) := by decide +kernel
theorem dX4_findCluster_181 : decode cX4_findCluster 181 = .ok (.iload 7, 2) := by decide +kernel
theorem dX4_findCluster_183 : decode cX4_findCluster 183 = .ok (.iastore, 1) := by decide +kernel
theorem dX4_findCluster_184 : decode cX4_findCluster 184 = .ok (.iinc 4 1, 3) := by decide +kernel
theorem dX4_findCluster_187 : decode cX4_findCluster 187 = .ok (.iinc 6 1, 3) := by decide +kernel
theorem dX4_findCluster_190 : decode cX4_findCluster 190 = .ok (.goto (-128), 3) := by decide +kernel
theorem dX4_findCluster_193 : decode cX4_findCluster 193 = .ok (.iload 4, 2) := by decide +kernel
theorem dX4_findCluster_195 : decode cX4_findCluster 195 = .ok (.ireturn, 1) := by decide +kernel
theorem dX4_nextInSegment_0 : decode cX4_nextInSegment 0 = .ok (.iload_n 1, 1) := by decide +kernel
theorem dX4_nextInSegment_1 : decode cX4_nextInSegment 1 = .ok (.bipush 6, 2) := by decide +kernel
theorem dX4_nextInSegment_3 : decode cX4_nextInSegment 3 = .ok (.idiv, 1) := by decide +kernel
theorem dX4_nextInSegment_4 : decode cX4_nextInSegment 4 = .ok (.istore_n 3, 1) := by decide +kernel
theorem dX4_nextInSegment_5 : decode cX4_nextInSegment 5 = .ok (.iload_n 1, 1) := by decide +kernel
theorem dX4_nextInSegment_6 : decode cX4_nextInSegment 6 = .ok (.bipush 6, 2) := by decide +kernel
theorem dX4_nextInSegment_8 : decode cX4_nextInSegment 8 = .ok (.irem, 1) := by decide +kernel
theorem dX4_nextInSegment_9 : decode cX4_nextInSegment 9 = .ok (.iload_n 2, 1) := by decide +kernel
theorem dX4_nextInSegment_10 : decode cX4_nextInSegment 10 = .ok (.iadd, 1) := by decide +kernel
theorem dX4_nextInSegment_11 : decode cX4_nextInSegment 11 = .ok (.istore 4, 2) := by decide +kernel
theorem dX4_nextInSegment_13 : decode cX4_nextInSegment 13 = .ok (.iload 4, 2) := by decide +kernel
theorem dX4_nextInSegment_15 : decode cX4_nextInSegment 15 = .ok (.aload_n 0, 1) := by decide +kernel
theorem dX4_nextInSegment_16 : decode cX4_nextInSegment 16 = .ok (.getfield 48, 3) := by decide +kernel
theorem dX4_nextInSegment_19 : decode cX4_nextInSegment 19 = .ok (.iload_n 3, 1) := by decide +kernel
theorem dX4_nextInSegment_20 : decode cX4_nextInSegment 20 = .ok (.iaload, 1) := by decide +kernel
theorem dX4_nextInSegment_21 : decode cX4_nextInSegment 21 = .ok (.if_icmp .ge 18, 3) := by decide +kernel
theorem dX4_nextInSegment_24 : decode cX4_nextInSegment 24 = .ok (.aload_n 0, 1) := by decide +kernel
theorem dX4_nextInSegment_25 : decode cX4_nextInSegment 25 = .ok (.getfield 51, 3) := by decide +kernel
theorem dX4_nextInSegment_28 : decode cX4_nextInSegment 28 = .ok (.bipush 6, 2) := by decide +kernel
theorem dX4_nextInSegment_30 : decode cX4_nextInSegment 30 = .ok (.iload_n 3, 1) := by decide +kernel
theorem dX4_nextInSegment_31 : decode cX4_nextInSegment 31 = .ok (.imul, 1) := by decide +kernel
theorem dX4_nextInSegment_32 : decode cX4_nextInSegment 32 = .ok (.iload 4, 2) := by decide +kernel
theorem dX4_nextInSegment_34 : decode cX4_nextInSegment 34 = .ok (.iadd, 1) := by decide +kernel
theorem dX4_nextInSegment_35 : decode cX4_nextInSegment 35 = .ok (.iaload, 1) := by decide +kernel
theorem dX4_nextInSegment_36 : decode cX4_nextInSegment 36 = .ok (.goto 4, 3) := by decide +kernel
theorem dX4_nextInSegment_39 : decode cX4_nextInSegment 39 = .ok (.iconst (-1), 1) := by decide +kernel
theorem dX4_nextInSegment_40 : decode cX4_nextInSegment 40 = .ok (.ireturn, 1) := by decide +kernel
theorem dX4_nextOfProcess_0 : decode cX4_nextOfProcess 0 = .ok (.iload_n 1, 1) := by decide +kernel
theorem dX4_nextOfProcess_1 : decode cX4_nextOfProcess 1 = .ok (.bipush 16, 2) := by decide +kernel
theorem dX4_nextOfProcess_3 : decode cX4_nextOfProcess 3 = .ok (.irem, 1) := by decide +kernel
theorem dX4_nextOfProcess_4 : decode cX4_nextOfProcess 4 = .ok (.iload_n 2, 1) := by decide +kernel
theorem dX4_nextOfProcess_5 : decode cX4_nextOfProcess 5 = .ok (.iadd, 1) := by decide +kernel
theorem dX4_nextOfProcess_6 : decode cX4_nextOfProcess 6 = .ok (.bipush 16, 2) := by decide +kernel
theorem dX4_nextOfProcess_8 : decode cX4_nextOfProcess 8 = .ok (.if_icmp .ge 26, 3) := by decide +kernel
theorem dX4_nextOfProcess_11 : decode cX4_nextOfProcess 11 = .ok (.aload_n 0, 1) := by decide +kernel
theorem dX4_nextOfProcess_12 : decode cX4_nextOfProcess 12 = .ok (.getfield 42, 3) := by decide +kernel
theorem dX4_nextOfProcess_15 : decode cX4_nextOfProcess 15 = .ok (.iload_n 1, 1) := by decide +kernel
theorem dX4_nextOfProcess_16 : decode cX4_nextOfProcess 16 = .ok (.iload_n 2, 1) := by decide +kernel
theorem dX4_nextOfProcess_17 : decode cX4_nextOfProcess 17 = .ok (.iadd, 1) := by decide +kernel
theorem dX4_nextOfProcess_18 : decode cX4_nextOfProcess 18 = .ok (.iaload, 1) := by decide +kernel
theorem dX4_nextOfProcess_19 : decode cX4_nextOfProcess 19 = .ok (.iconst 1, 1) := by decide +kernel
theorem dX4_nextOfProcess_20 : decode cX4_nextOfProcess 20 = .ok (.if_icmp .ne 14, 3) := by decide +kernel
theorem dX4_nextOfProcess_23 : decode cX4_nextOfProcess 23 = .ok (.aload_n 0, 1) := by decide +kernel
theorem dX4_nextOfProcess_24 : decode cX4_nextOfProcess 24 = .ok (.getfield 45, 3) := by decide +kernel
theorem dX4_nextOfProcess_27 : decode cX4_nextOfProcess 27 = .ok (.iload_n 1, 1) := by decide +kernel
theorem dX4_nextOfProcess_28 : decode cX4_nextOfProcess 28 = .ok (.iload_n 2, 1) := by decide +kernel
theorem dX4_nextOfProcess_29 : decode cX4_nextOfProcess 29 = .ok (.iadd, 1) := by decide +kernel
theorem dX4_nextOfProcess_30 : decode cX4_nextOfProcess 30 = .ok (.iaload, 1) := by decide +kernel
theorem dX4_nextOfProcess_31 : decode cX4_nextOfProcess 31 = .ok (.goto 4, 3) := by decide +kernel
theorem dX4_nextOfProcess_34 : decode cX4_nextOfProcess 34 = .ok (.iconst (-1), 1) := by decide +kernel
theorem dX4_nextOfProcess_35 : decode cX4_nextOfProcess 35 = .ok (.ireturn, 1) := by decide +kernel
theorem dX4_room_0 : decode cX4_room 0 = .ok (.iconst 0, 1) := by decide +kernel
theorem dX4_room_1 : decode cX4_room 1 = .ok (.istore_n 2, 1) := by decide +kernel
theorem dX4_room_2 : decode cX4_room 2 = .ok (.iconst 0, 1) := by decide +kernel
theorem dX4_room_3 : decode cX4_room 3 = .ok (.istore_n 3, 1) := by decide +kernel
theorem dX4_room_4 : decode cX4_room 4 = .ok (.iload_n 3, 1) := by decide +kernel
theorem dX4_room_5 : decode cX4_room 5 = .ok (.bipush 24, 2) := by decide +kernel
theorem dX4_room_7 : decode cX4_room 7 = .ok (.if_icmp .ge 38, 3) := by decide +kernel
theorem dX4_room_10 : decode cX4_room 10 = .ok (.aload_n 0, 1) := by decide +kernel
theorem dX4_room_11 : decode cX4_room 11 = .ok (.getfield 27, 3) := by decide +kernel
theorem dX4_room_14 : decode cX4_room 14 = .ok (.iload_n 3, 1) := by decide +kernel
theorem dX4_room_15 : decode cX4_room 15 = .ok (.iaload, 1) := by decide +kernel
theorem dX4_room_16 : decode cX4_room 16 = .ok (.iconst (-1), 1) := by decide +kernel
theorem dX4_room_17 : decode cX4_room 17 = .ok (.if_icmp .ne 9, 3) := by decide +kernel
theorem dX4_room_20 : decode cX4_room 20 = .ok (.iload_n 2, 1) := by decide +kernel
theorem dX4_room_21 : decode cX4_room 21 = .ok (.iconst 1, 1) := by decide +kernel
theorem dX4_room_22 : decode cX4_room 22 = .ok (.iadd, 1) := by decide +kernel
theorem dX4_room_23 : decode cX4_room 23 = .ok (.goto 4, 3) := by decide +kernel
theorem dX4_room_26 : decode cX4_room 26 = .ok (.iconst 0, 1) := by decide +kernel
theorem dX4_room_27 : decode cX4_room 27 = .ok (.istore_n 2, 1) := by decide +kernel
theorem dX4_room_28 : decode cX4_room 28 = .ok (.iload_n 2, 1) := by decide +kernel
theorem dX4_room_29 : decode cX4_room 29 = .ok (.iload_n 1, 1) := by decide +kernel
theorem dX4_room_30 : decode cX4_room 30 = .ok (.if_icmp .ne 9, 3) := by decide +kernel
theorem dX4_room_33 : decode cX4_room 33 = .ok (.iload_n 3, 1) := by decide +kernel
theorem dX4_room_34 : decode cX4_room 34 = .ok (.iload_n 1, 1) := by decide +kernel
theorem dX4_room_35 : decode cX4_room 35 = .ok (.isub, 1) := by decide +kernel
theorem dX4_room_36 : decode cX4_room 36 = .ok (.iconst 1, 1) := by decide +kernel
theorem dX4_room_37 : decode cX4_room 37 = .ok (.iadd, 1) := by decide +kernel
theorem dX4_room_38 : decode cX4_room 38 = .ok (.ireturn, 1) := by decide +kernel
theorem dX4_room_39 : decode cX4_room 39 = .ok (.iinc 3 1, 3) := by decide +kernel
theorem dX4_room_42 : decode cX4_room 42 = .ok (.goto (-38), 3) := by decide +kernel
theorem dX4_room_45 : decode cX4_room 45 = .ok (.iconst (-1), 1) := by decide +kernel
theorem dX4_room_46 : decode cX4_room 46 = .ok (.ireturn, 1) := by decide +kernel
theorem dX4_writeOut_0 : decode cX4_writeOut 0 = .ok (.aload_n 0, 1) := by decide +kernel
theorem dX4_writeOut_1 : decode cX4_writeOut 1 = .ok (.iload_n 1, 1) := by decide +kernel
theorem dX4_writeOut_2 : decode cX4_writeOut 2 = .ok (.invokevirtual 138, 3) := by decide +kernel
theorem dX4_writeOut_5 : decode cX4_writeOut 5 = .ok (.istore_n 2, 1) := by decide +kernel
theorem dX4_writeOut_6 : decode cX4_writeOut 6 = .ok (.iload_n 2, 1) := by decide +kernel
theorem dX4_writeOut_7 : decode cX4_writeOut 7 = .ok (.ifCond .le 18, 3) := by decide +kernel
theorem dX4_writeOut_10 : decode cX4_writeOut 10 = .ok (.aload_n 0, 1) := by decide +kernel
theorem dX4_writeOut_11 : decode cX4_writeOut 11 = .ok (.iload_n 2, 1) := by decide +kernel
theorem dX4_writeOut_12 : decode cX4_writeOut 12 = .ok (.invokevirtual 141, 3) := by decide +kernel
theorem dX4_writeOut_15 : decode cX4_writeOut 15 = .ok (.iconst (-1), 1) := by decide +kernel
theorem dX4_writeOut_16 : decode cX4_writeOut 16 = .ok (.if_icmp .ne 9, 3) := by decide +kernel
theorem dX4_writeOut_19 : decode cX4_writeOut 19 = .ok (.iinc 2 (-1), 3) := by decide +kernel
theorem dX4_writeOut_22 : decode cX4_writeOut 22 = .ok (.goto (-16), 3) := by decide +kernel
theorem dX4_writeOut_25 : decode cX4_writeOut 25 = .ok (.iload_n 2, 1) := by decide +kernel
theorem dX4_writeOut_26 : decode cX4_writeOut 26 = .ok (.ifCond .le 11, 3) := by decide +kernel
theorem dX4_writeOut_29 : decode cX4_writeOut 29 = .ok (.aload_n 0, 1) := by decide +kernel
theorem dX4_writeOut_30 : decode cX4_writeOut 30 = .ok (.iload_n 2, 1) := by decide +kernel
theorem dX4_writeOut_31 : decode cX4_writeOut 31 = .ok (.invokevirtual 141, 3) := by decide +kernel
theorem dX4_writeOut_34 : decode cX4_writeOut 34 = .ok (.goto 4, 3) := by decide +kernel
theorem dX4_writeOut_37 : decode cX4_writeOut 37 = .ok (.iconst 0, 1) := by decide +kernel
theorem dX4_writeOut_38 : decode cX4_writeOut 38 = .ok (.istore_n 3, 1) := by decide +kernel
theorem dX4_writeOut_39 : decode cX4_writeOut 39 = .ok (.iconst 0, 1) := by decide +kernel
theorem dX4_writeOut_40 : decode cX4_writeOut 40 = .ok (.istore 4, 2) := by decide +kernel
theorem dX4_writeOut_42 : decode cX4_writeOut 42 = .ok (.iload 4, 2) := by decide +kernel
theorem dX4_writeOut_44 : decode cX4_writeOut 44 = .ok (.iload_n 2, 1) := by decide +kernel
theorem dX4_writeOut_45 : decode cX4_writeOut 45 = .ok (.if_icmp .ge 25, 3) := by decide +kernel
theorem dX4_writeOut_48 : decode cX4_writeOut 48 = .ok (.aload_n 0, 1) := by decide +kernel
theorem dX4_writeOut_49 : decode cX4_writeOut 49 = .ok (.getfield 27, 3) := by decide +kernel
theorem dX4_writeOut_52 : decode cX4_writeOut 52 = .ok (.iload_n 3, 1) := by decide +kernel
theorem dX4_writeOut_53 : decode cX4_writeOut 53 = .ok (.iload 4, 2) := by decide +kernel
theorem dX4_writeOut_55 : decode cX4_writeOut 55 = .ok (.iadd, 1) := by decide +kernel
theorem dX4_writeOut_56 : decode cX4_writeOut 56 = .ok (.aload_n 0, 1) := by decide +kernel
theorem dX4_writeOut_57 : decode cX4_writeOut 57 = .ok (.getfield 57, 3) := by decide +kernel
theorem dX4_writeOut_60 : decode cX4_writeOut 60 = .ok (.iload 4, 2) := by decide +kernel
theorem dX4_writeOut_62 : decode cX4_writeOut 62 = .ok (.iaload, 1) := by decide +kernel
theorem dX4_writeOut_63 : decode cX4_writeOut 63 = .ok (.iastore, 1) := by decide +kernel
theorem dX4_writeOut_64 : decode cX4_writeOut 64 = .ok (.iinc 4 1, 3) := by decide +kernel
theorem dX4_writeOut_67 : decode cX4_writeOut 67 = .ok (.goto (-25), 3) := by decide +kernel
theorem dX4_writeOut_70 : decode cX4_writeOut 70 = .ok (.aload_n 0, 1) := by decide +kernel
theorem dX4_writeOut_71 : decode cX4_writeOut 71 = .ok (.getfield 54, 3) := by decide +kernel
theorem dX4_writeOut_74 : decode cX4_writeOut 74 = .ok (.iconst 5, 1) := by decide +kernel
theorem dX4_writeOut_75 : decode cX4_writeOut 75 = .ok (.dup2, 1) := by decide +kernel
theorem dX4_writeOut_76 : decode cX4_writeOut 76 = .ok (.iaload, 1) := by decide +kernel
theorem dX4_writeOut_77 : decode cX4_writeOut 77 = .ok (.iload_n 2, 1) := by decide +kernel
theorem dX4_writeOut_78 : decode cX4_writeOut 78 = .ok (.iadd, 1) := by decide +kernel
theorem dX4_writeOut_79 : decode cX4_writeOut 79 = .ok (.iastore, 1) := by decide +kernel
theorem dX4_writeOut_80 : decode cX4_writeOut 80 = .ok (.iload_n 2, 1) := by decide +kernel
theorem dX4_writeOut_81 : decode cX4_writeOut 81 = .ok (.ireturn, 1) := by decide +kernel
theorem dX4_evict_0 : decode cX4_evict 0 = .ok (.aload_n 0, 1) := by decide +kernel
theorem dX4_evict_1 : decode cX4_evict 1 = .ok (.getfield 16, 3) := by decide +kernel
theorem dX4_evict_4 : decode cX4_evict 4 = .ok (.iload_n 1, 1) := by decide +kernel
theorem dX4_evict_5 : decode cX4_evict 5 = .ok (.iaload, 1) := by decide +kernel
theorem dX4_evict_6 : decode cX4_evict 6 = .ok (.istore_n 2, 1) := by decide +kernel
theorem dX4_evict_7 : decode cX4_evict 7 = .ok (.aload_n 0, 1) := by decide +kernel
theorem dX4_evict_8 : decode cX4_evict 8 = .ok (.getfield 16, 3) := by decide +kernel
theorem dX4_evict_11 : decode cX4_evict 11 = .ok (.iload_n 1, 1) := by decide +kernel
theorem dX4_evict_12 : decode cX4_evict 12 = .ok (.iconst (-1), 1) := by decide +kernel
theorem dX4_evict_13 : decode cX4_evict 13 = .ok (.iastore, 1) := by decide +kernel
theorem dX4_evict_14 : decode cX4_evict 14 = .ok (.aload_n 0, 1) := by decide +kernel
theorem dX4_evict_15 : decode cX4_evict 15 = .ok (.getfield 23, 3) := by decide +kernel
theorem dX4_evict_18 : decode cX4_evict 18 = .ok (.iload_n 1, 1) := by decide +kernel
theorem dX4_evict_19 : decode cX4_evict 19 = .ok (.iconst 0, 1) := by decide +kernel
theorem dX4_evict_20 : decode cX4_evict 20 = .ok (.bastore, 1) := by decide +kernel
theorem dX4_evict_21 : decode cX4_evict 21 = .ok (.aload_n 0, 1) := by decide +kernel
theorem dX4_evict_22 : decode cX4_evict 22 = .ok (.getfield 54, 3) := by decide +kernel
theorem dX4_evict_25 : decode cX4_evict 25 = .ok (.iconst 4, 1) := by decide +kernel
theorem dX4_evict_26 : decode cX4_evict 26 = .ok (.dup2, 1) := by decide +kernel
theorem dX4_evict_27 : decode cX4_evict 27 = .ok (.iaload, 1) := by decide +kernel
theorem dX4_evict_28 : decode cX4_evict 28 = .ok (.iconst 1, 1) := by decide +kernel
theorem dX4_evict_29 : decode cX4_evict 29 = .ok (.iadd, 1) := by decide +kernel
theorem dX4_evict_30 : decode cX4_evict 30 = .ok (.iastore, 1) := by decide +kernel
theorem dX4_evict_31 : decode cX4_evict 31 = .ok (.aload_n 0, 1) := by decide +kernel
theorem dX4_evict_32 : decode cX4_evict 32 = .ok (.iload_n 1, 1) := by decide +kernel
theorem dX4_evict_33 : decode cX4_evict 33 = .ok (.iconst 1, 1) := by decide +kernel
theorem dX4_evict_34 : decode cX4_evict 34 = .ok (.iadd, 1) := by decide +kernel
theorem dX4_evict_35 : decode cX4_evict 35 = .ok (.aload_n 0, 1) := by decide +kernel
theorem dX4_evict_36 : decode cX4_evict 36 = .ok (.getfield 13, 3) := by decide +kernel
theorem dX4_evict_39 : decode cX4_evict 39 = .ok (.irem, 1) := by decide +kernel
theorem dX4_evict_40 : decode cX4_evict 40 = .ok (.putfield 93, 3) := by decide +kernel
theorem dX4_evict_43 : decode cX4_evict 43 = .ok (.aload_n 0, 1) := by decide +kernel
theorem dX4_evict_44 : decode cX4_evict 44 = .ok (.iload_n 2, 1) := by decide +kernel
theorem dX4_evict_45 : decode cX4_evict 45 = .ok (.invokevirtual 63, 3) := by decide +kernel
theorem dX4_evict_48 : decode cX4_evict 48 = .ok (.iconst (-1), 1) := by decide +kernel
theorem dX4_evict_49 : decode cX4_evict 49 = .ok (.if_icmp .ne 10, 3) := by decide +kernel
theorem dX4_evict_52 : decode cX4_evict 52 = .ok (.aload_n 0, 1) := by decide +kernel
theorem dX4_evict_53 : decode cX4_evict 53 = .ok (.getfield 33, 3) := by decide +kernel
theorem dX4_evict_56 : decode cX4_evict 56 = .ok (.iload_n 2, 1) := by decide +kernel
theorem dX4_evict_57 : decode cX4_evict 57 = .ok (.iconst 0, 1) := by decide +kernel
theorem dX4_evict_58 : decode cX4_evict 58 = .ok (.bastore, 1) := by decide +kernel
theorem dX4_evict_59 : decode cX4_evict 59 = .ok (.return_, 1) := by decide +kernel
theorem dX4_take_0 : decode cX4_take 0 = .ok (.aload_n 0, 1) := by decide +kernel
theorem dX4_take_1 : decode cX4_take 1 = .ok (.iconst (-1), 1) := by decide +kernel
theorem dX4_take_2 : decode cX4_take 2 = .ok (.invokevirtual 83, 3) := by decide +kernel
theorem dX4_take_5 : decode cX4_take 5 = .ok (.istore_n 3, 1) := by decide +kernel
theorem dX4_take_6 : decode cX4_take 6 = .ok (.iload_n 3, 1) := by decide +kernel
theorem dX4_take_7 : decode cX4_take 7 = .ok (.iconst (-1), 1) := by decide +kernel
theorem dX4_take_8 : decode cX4_take 8 = .ok (.if_icmp .ne 8, 3) := by decide +kernel
theorem dX4_take_11 : decode cX4_take 11 = .ok (.aload_n 0, 1) := by decide +kernel
theorem dX4_take_12 : decode cX4_take 12 = .ok (.invokevirtual 144, 3) := by decide +kernel
theorem dX4_take_15 : decode cX4_take 15 = .ok (.istore_n 3, 1) := by decide +kernel
theorem dX4_take_16 : decode cX4_take 16 = .ok (.aload_n 0, 1) := by decide +kernel
theorem dX4_take_17 : decode cX4_take 17 = .ok (.getfield 16, 3) := by decide +kernel
theorem dX4_take_20 : decode cX4_take 20 = .ok (.iload_n 3, 1) := by decide +kernel
theorem dX4_take_21 : decode cX4_take 21 = .ok (.iload_n 1, 1) := by decide +kernel
theorem dX4_take_22 : decode cX4_take 22 = .ok (.iastore, 1) := by decide +kernel
theorem dX4_take_23 : decode cX4_take 23 = .ok (.aload_n 0, 1) := by decide +kernel
theorem dX4_take_24 : decode cX4_take 24 = .ok (.getfield 20, 3) := by decide +kernel
theorem dX4_take_27 : decode cX4_take 27 = .ok (.iload_n 3, 1) := by decide +kernel
theorem dX4_take_28 : decode cX4_take 28 = .ok (.aload_n 0, 1) := by decide +kernel
theorem dX4_take_29 : decode cX4_take 29 = .ok (.getfield 147, 3) := by decide +kernel
theorem dX4_take_32 : decode cX4_take 32 = .ok (.iastore, 1) := by decide +kernel
theorem dX4_take_33 : decode cX4_take 33 = .ok (.aload_n 0, 1) := by decide +kernel
theorem dX4_take_34 : decode cX4_take 34 = .ok (.getfield 23, 3) := by decide +kernel
theorem dX4_take_37 : decode cX4_take 37 = .ok (.iload_n 3, 1) := by decide +kernel
theorem dX4_take_38 : decode cX4_take 38 = .ok (.iconst 0, 1) := by decide +kernel
theorem dX4_take_39 : decode cX4_take 39 = .ok (.bastore, 1) := by decide +kernel
theorem dX4_take_40 : decode cX4_take 40 = .ok (.aload_n 0, 1) := by decide +kernel
theorem dX4_take_41 : decode cX4_take 41 = .ok (.getfield 54, 3) := by decide +kernel
theorem dX4_take_44 : decode cX4_take 44 = .ok (.iload_n 2, 1) := by decide +kernel
theorem dX4_take_45 : decode cX4_take 45 = .ok (.dup2, 1) := by decide +kernel
theorem dX4_take_46 : decode cX4_take 46 = .ok (.iaload, 1) := by decide +kernel
theorem dX4_take_47 : decode cX4_take 47 = .ok (.iconst 1, 1) := by decide +kernel
theorem dX4_take_48 : decode cX4_take 48 = .ok (.iadd, 1) := by decide +kernel
theorem dX4_take_49 : decode cX4_take 49 = .ok (.iastore, 1) := by decide +kernel
theorem dX4_take_50 : decode cX4_take 50 = .ok (.return_, 1) := by decide +kernel
theorem dX4_freed_0 : decode cX4_freed 0 = .ok (.iconst 0, 1) := by decide +kernel
theorem dX4_freed_1 : decode cX4_freed 1 = .ok (.istore_n 1, 1) := by decide +kernel
theorem dX4_freed_2 : decode cX4_freed 2 = .ok (.iload_n 1, 1) := by decide +kernel
theorem dX4_freed_3 : decode cX4_freed 3 = .ok (.iconst 2, 1) := by decide +kernel
theorem dX4_freed_4 : decode cX4_freed 4 = .ok (.aload_n 0, 1) := by decide +kernel
theorem dX4_freed_5 : decode cX4_freed 5 = .ok (.getfield 13, 3) := by decide +kernel
theorem dX4_freed_8 : decode cX4_freed 8 = .ok (.imul, 1) := by decide +kernel
theorem dX4_freed_9 : decode cX4_freed 9 = .ok (.if_icmp .ge 107, 3) := by decide +kernel
theorem dX4_freed_12 : decode cX4_freed 12 = .ok (.aload_n 0, 1) := by decide +kernel
theorem dX4_freed_13 : decode cX4_freed 13 = .ok (.getfield 93, 3) := by decide +kernel
theorem dX4_freed_16 : decode cX4_freed 16 = .ok (.istore_n 2, 1) := by decide +kernel
theorem dX4_freed_17 : decode cX4_freed 17 = .ok (.aload_n 0, 1) := by decide +kernel
theorem dX4_freed_18 : decode cX4_freed 18 = .ok (.getfield 23, 3) := by decide +kernel
theorem dX4_freed_21 : decode cX4_freed 21 = .ok (.iload_n 2, 1) := by decide +kernel
theorem dX4_freed_22 : decode cX4_freed 22 = .ok (.baload, 1) := by decide +kernel
theorem dX4_freed_23 : decode cX4_freed 23 = .ok (.ifCond .eq 23, 3) := by decide +kernel
theorem dX4_freed_26 : decode cX4_freed 26 = .ok (.aload_n 0, 1) := by decide +kernel
theorem dX4_freed_27 : decode cX4_freed 27 = .ok (.getfield 23, 3) := by decide +kernel
theorem dX4_freed_30 : decode cX4_freed 30 = .ok (.iload_n 2, 1) := by decide +kernel
theorem dX4_freed_31 : decode cX4_freed 31 = .ok (.iconst 0, 1) := by decide +kernel
theorem dX4_freed_32 : decode cX4_freed 32 = .ok (.bastore, 1) := by decide +kernel
theorem dX4_freed_33 : decode cX4_freed 33 = .ok (.aload_n 0, 1) := by decide +kernel
theorem dX4_freed_34 : decode cX4_freed 34 = .ok (.getfield 20, 3) := by decide +kernel
theorem dX4_freed_37 : decode cX4_freed 37 = .ok (.iload_n 2, 1) := by decide +kernel
theorem dX4_freed_38 : decode cX4_freed 38 = .ok (.aload_n 0, 1) := by decide +kernel
theorem dX4_freed_39 : decode cX4_freed 39 = .ok (.getfield 147, 3) := by decide +kernel
theorem dX4_freed_42 : decode cX4_freed 42 = .ok (.iastore, 1) := by decide +kernel
theorem dX4_freed_43 : decode cX4_freed 43 = .ok (.goto 52, 3) := by decide +kernel
theorem dX4_freed_46 : decode cX4_freed 46 = .ok (.aload_n 0, 1) := by decide +kernel
theorem dX4_freed_47 : decode cX4_freed 47 = .ok (.getfield 147, 3) := by decide +kernel
theorem dX4_freed_50 : decode cX4_freed 50 = .ok (.aload_n 0, 1) := by decide +kernel
theorem dX4_freed_51 : decode cX4_freed 51 = .ok (.getfield 20, 3) := by decide +kernel
theorem dX4_freed_54 : decode cX4_freed 54 = .ok (.iload_n 2, 1) := by decide +kernel
theorem dX4_freed_55 : decode cX4_freed 55 = .ok (.iaload, 1) := by decide +kernel
theorem dX4_freed_56 : decode cX4_freed 56 = .ok (.isub, 1) := by decide +kernel
theorem dX4_freed_57 : decode cX4_freed 57 = .ok (.aload_n 0, 1) := by decide +kernel
theorem dX4_freed_58 : decode cX4_freed 58 = .ok (.getfield 7, 3) := by decide +kernel
theorem dX4_freed_61 : decode cX4_freed 61 = .ok (.if_icmp .le 34, 3) := by decide +kernel
theorem dX4_freed_64 : decode cX4_freed 64 = .ok (.aload_n 0, 1) := by decide +kernel
theorem dX4_freed_65 : decode cX4_freed 65 = .ok (.aload_n 0, 1) := by decide +kernel
theorem dX4_freed_66 : decode cX4_freed 66 = .ok (.getfield 16, 3) := by decide +kernel
theorem dX4_freed_69 : decode cX4_freed 69 = .ok (.iload_n 2, 1) := by decide +kernel
theorem dX4_freed_70 : decode cX4_freed 70 = .ok (.iaload, 1) := by decide +kernel
theorem dX4_freed_71 : decode cX4_freed 71 = .ok (.invokevirtual 135, 3) := by decide +kernel
theorem dX4_freed_74 : decode cX4_freed 74 = .ok (.ifCond .ne 10, 3) := by decide +kernel
theorem dX4_freed_77 : decode cX4_freed 77 = .ok (.aload_n 0, 1) := by decide +kernel
theorem dX4_freed_78 : decode cX4_freed 78 = .ok (.iload_n 2, 1) := by decide +kernel
theorem dX4_freed_79 : decode cX4_freed 79 = .ok (.invokevirtual 150, 3) := by decide +kernel
theorem dX4_freed_82 : decode cX4_freed 82 = .ok (.iload_n 2, 1) := by decide +kernel
theorem dX4_freed_83 : decode cX4_freed 83 = .ok (.ireturn, 1) := by decide +kernel
theorem dX4_freed_84 : decode cX4_freed 84 = .ok (.aload_n 0, 1) := by decide +kernel
theorem dX4_freed_85 : decode cX4_freed 85 = .ok (.aload_n 0, 1) := by decide +kernel
theorem dX4_freed_86 : decode cX4_freed 86 = .ok (.getfield 16, 3) := by decide +kernel
theorem dX4_freed_89 : decode cX4_freed 89 = .ok (.iload_n 2, 1) := by decide +kernel
theorem dX4_freed_90 : decode cX4_freed 90 = .ok (.iaload, 1) := by decide +kernel
theorem dX4_freed_91 : decode cX4_freed 91 = .ok (.invokevirtual 154, 3) := by decide +kernel
theorem dX4_freed_94 : decode cX4_freed 94 = .ok (.pop, 1) := by decide +kernel
theorem dX4_freed_95 : decode cX4_freed 95 = .ok (.aload_n 0, 1) := by decide +kernel
theorem dX4_freed_96 : decode cX4_freed 96 = .ok (.aload_n 0, 1) := by decide +kernel
theorem dX4_freed_97 : decode cX4_freed 97 = .ok (.getfield 93, 3) := by decide +kernel
theorem dX4_freed_100 : decode cX4_freed 100 = .ok (.iconst 1, 1) := by decide +kernel
theorem dX4_freed_101 : decode cX4_freed 101 = .ok (.iadd, 1) := by decide +kernel
theorem dX4_freed_102 : decode cX4_freed 102 = .ok (.aload_n 0, 1) := by decide +kernel
theorem dX4_freed_103 : decode cX4_freed 103 = .ok (.getfield 13, 3) := by decide +kernel
theorem dX4_freed_106 : decode cX4_freed 106 = .ok (.irem, 1) := by decide +kernel
theorem dX4_freed_107 : decode cX4_freed 107 = .ok (.putfield 93, 3) := by decide +kernel
theorem dX4_freed_110 : decode cX4_freed 110 = .ok (.iinc 1 1, 3) := by decide +kernel
theorem dX4_freed_113 : decode cX4_freed 113 = .ok (.goto (-111), 3) := by decide +kernel
theorem dX4_freed_116 : decode cX4_freed 116 = .ok (.iconst 0, 1) := by decide +kernel
theorem dX4_freed_117 : decode cX4_freed 117 = .ok (.istore_n 1, 1) := by decide +kernel
theorem dX4_freed_118 : decode cX4_freed 118 = .ok (.iconst 0, 1) := by decide +kernel
theorem dX4_freed_119 : decode cX4_freed 119 = .ok (.istore_n 2, 1) := by decide +kernel
theorem dX4_freed_120 : decode cX4_freed 120 = .ok (.iload_n 2, 1) := by decide +kernel
theorem dX4_freed_121 : decode cX4_freed 121 = .ok (.aload_n 0, 1) := by decide +kernel
theorem dX4_freed_122 : decode cX4_freed 122 = .ok (.getfield 13, 3) := by decide +kernel
theorem dX4_freed_125 : decode cX4_freed 125 = .ok (.if_icmp .ge 30, 3) := by decide +kernel
theorem dX4_freed_128 : decode cX4_freed 128 = .ok (.iload_n 1, 1) := by decide +kernel
theorem dX4_freed_129 : decode cX4_freed 129 = .ok (.aload_n 0, 1) := by decide +kernel
theorem dX4_freed_130 : decode cX4_freed 130 = .ok (.aload_n 0, 1) := by decide +kernel
theorem dX4_freed_131 : decode cX4_freed 131 = .ok (.getfield 16, 3) := by decide +kernel
theorem dX4_freed_134 : decode cX4_freed 134 = .ok (.iload_n 2, 1) := by decide +kernel
theorem dX4_freed_135 : decode cX4_freed 135 = .ok (.iaload, 1) := by decide +kernel
theorem dX4_freed_136 : decode cX4_freed 136 = .ok (.invokevirtual 135, 3) := by decide +kernel
theorem dX4_freed_139 : decode cX4_freed 139 = .ok (.ifCond .ne 7, 3) := by decide +kernel
theorem dX4_freed_142 : decode cX4_freed 142 = .ok (.iconst 1, 1) := by decide +kernel
theorem dX4_freed_143 : decode cX4_freed 143 = .ok (.goto 4, 3) := by decide +kernel
theorem dX4_freed_146 : decode cX4_freed 146 = .ok (.iconst 0, 1) := by decide +kernel
theorem dX4_freed_147 : decode cX4_freed 147 = .ok (.ior, 1) := by decide +kernel
theorem dX4_freed_148 : decode cX4_freed 148 = .ok (.istore_n 1, 1) := by decide +kernel
theorem dX4_freed_149 : decode cX4_freed 149 = .ok (.iinc 2 1, 3) := by decide +kernel
theorem dX4_freed_152 : decode cX4_freed 152 = .ok (.goto (-32), 3) := by decide +kernel
theorem dX4_freed_155 : decode cX4_freed 155 = .ok (.iconst (-1), 1) := by decide +kernel
theorem dX4_freed_156 : decode cX4_freed 156 = .ok (.istore_n 2, 1) := by decide +kernel
theorem dX4_freed_157 : decode cX4_freed 157 = .ok (.iconst 0, 1) := by decide +kernel
theorem dX4_freed_158 : decode cX4_freed 158 = .ok (.istore_n 3, 1) := by decide +kernel
theorem dX4_freed_159 : decode cX4_freed 159 = .ok (.iload_n 3, 1) := by decide +kernel
theorem dX4_freed_160 : decode cX4_freed 160 = .ok (.aload_n 0, 1) := by decide +kernel
theorem dX4_freed_161 : decode cX4_freed 161 = .ok (.getfield 13, 3) := by decide +kernel
theorem dX4_freed_164 : decode cX4_freed 164 = .ok (.if_icmp .ge 48, 3) := by decide +kernel
theorem dX4_freed_167 : decode cX4_freed 167 = .ok (.iload_n 1, 1) := by decide +kernel
theorem dX4_freed_168 : decode cX4_freed 168 = .ok (.ifCond .eq 16, 3) := by decide +kernel
theorem dX4_freed_171 : decode cX4_freed 171 = .ok (.aload_n 0, 1) := by decide +kernel
theorem dX4_freed_172 : decode cX4_freed 172 = .ok (.aload_n 0, 1) := by decide +kernel
theorem dX4_freed_173 : decode cX4_freed 173 = .ok (.getfield 16, 3) := by decide +kernel
theorem dX4_freed_176 : decode cX4_freed 176 = .ok (.iload_n 3, 1) := by decide +kernel
theorem dX4_freed_177 : decode cX4_freed 177 = .ok (.iaload, 1) := by decide +kernel
theorem dX4_freed_178 : decode cX4_freed 178 = .ok (.invokevirtual 135, 3) := by decide +kernel
theorem dX4_freed_181 : decode cX4_freed 181 = .ok (.ifCond .ne 25, 3) := by decide +kernel
theorem dX4_freed_184 : decode cX4_freed 184 = .ok (.iload_n 2, 1) := by decide +kernel
theorem dX4_freed_185 : decode cX4_freed 185 = .ok (.iconst (-1), 1) := by decide +kernel
theorem dX4_freed_186 : decode cX4_freed 186 = .ok (.if_icmp .eq 18, 3) := by decide +kernel
theorem dX4_freed_189 : decode cX4_freed 189 = .ok (.aload_n 0, 1) := by decide +kernel
theorem dX4_freed_190 : decode cX4_freed 190 = .ok (.getfield 20, 3) := by decide +kernel
theorem dX4_freed_193 : decode cX4_freed 193 = .ok (.iload_n 3, 1) := by decide +kernel
theorem dX4_freed_194 : decode cX4_freed 194 = .ok (.iaload, 1) := by decide +kernel
theorem dX4_freed_195 : decode cX4_freed 195 = .ok (.aload_n 0, 1) := by decide +kernel
theorem dX4_freed_196 : decode cX4_freed 196 = .ok (.getfield 20, 3) := by decide +kernel
theorem dX4_freed_199 : decode cX4_freed 199 = .ok (.iload_n 2, 1) := by decide +kernel
theorem dX4_freed_200 : decode cX4_freed 200 = .ok (.iaload, 1) := by decide +kernel
theorem dX4_freed_201 : decode cX4_freed 201 = .ok (.if_icmp .ge 5, 3) := by decide +kernel
theorem dX4_freed_204 : decode cX4_freed 204 = .ok (.iload_n 3, 1) := by decide +kernel
theorem dX4_freed_205 : decode cX4_freed 205 = .ok (.istore_n 2, 1) := by decide +kernel
theorem dX4_freed_206 : decode cX4_freed 206 = .ok (.iinc 3 1, 3) := by decide +kernel
theorem dX4_freed_209 : decode cX4_freed 209 = .ok (.goto (-50), 3) := by decide +kernel
theorem dX4_freed_212 : decode cX4_freed 212 = .ok (.iload_n 1, 1) := by decide +kernel
theorem dX4_freed_213 : decode cX4_freed 213 = .ok (.ifCond .ne 14, 3) := by decide +kernel
theorem dX4_freed_216 : decode cX4_freed 216 = .ok (.aload_n 0, 1) := by decide +kernel
theorem dX4_freed_217 : decode cX4_freed 217 = .ok (.aload_n 0, 1) := by decide +kernel
theorem dX4_freed_218 : decode cX4_freed 218 = .ok (.getfield 16, 3) := by decide +kernel
theorem dX4_freed_221 : decode cX4_freed 221 = .ok (.iload_n 2, 1) := by decide +kernel
theorem dX4_freed_222 : decode cX4_freed 222 = .ok (.iaload, 1) := by decide +kernel
theorem dX4_freed_223 : decode cX4_freed 223 = .ok (.invokevirtual 154, 3) := by decide +kernel
theorem dX4_freed_226 : decode cX4_freed 226 = .ok (.pop, 1) := by decide +kernel
theorem dX4_freed_227 : decode cX4_freed 227 = .ok (.aload_n 0, 1) := by decide +kernel
theorem dX4_freed_228 : decode cX4_freed 228 = .ok (.iload_n 2, 1) := by decide +kernel
theorem dX4_freed_229 : decode cX4_freed 229 = .ok (.invokevirtual 150, 3) := by decide +kernel
theorem dX4_freed_232 : decode cX4_freed 232 = .ok (.iload_n 2, 1) := by decide +kernel
theorem dX4_freed_233 : decode cX4_freed 233 = .ok (.ireturn, 1) := by decide +kernel
theorem dX4_bring_0 : decode cX4_bring 0 = .ok (.aload_n 0, 1) := by decide +kernel
theorem dX4_bring_1 : decode cX4_bring 1 = .ok (.iload_n 1, 1) := by decide +kernel
theorem dX4_bring_2 : decode cX4_bring 2 = .ok (.invokevirtual 83, 3) := by decide +kernel
theorem dX4_bring_5 : decode cX4_bring 5 = .ok (.iconst (-1), 1) := by decide +kernel
theorem dX4_bring_6 : decode cX4_bring 6 = .ok (.if_icmp .eq 4, 3) := by decide +kernel
theorem dX4_bring_9 : decode cX4_bring 9 = .ok (.return_, 1) := by decide +kernel
theorem dX4_bring_10 : decode cX4_bring 10 = .ok (.aload_n 0, 1) := by decide +kernel
theorem dX4_bring_11 : decode cX4_bring 11 = .ok (.iload_n 1, 1) := by decide +kernel
theorem dX4_bring_12 : decode cX4_bring 12 = .ok (.invokevirtual 63, 3) := by decide +kernel
theorem dX4_bring_15 : decode cX4_bring 15 = .ok (.istore_n 2, 1) := by decide +kernel
theorem dX4_bring_16 : decode cX4_bring 16 = .ok (.aload_n 0, 1) := by decide +kernel
theorem dX4_bring_17 : decode cX4_bring 17 = .ok (.iload_n 1, 1) := by decide +kernel
theorem dX4_bring_18 : decode cX4_bring 18 = .ok (.iload_n 2, 1) := by decide +kernel
theorem dX4_bring_19 : decode cX4_bring 19 = .ok (.iconst (-1), 1) := by decide +kernel
theorem dX4_bring_20 : decode cX4_bring 20 = .ok (.if_icmp .ne 7, 3) := by decide +kernel
theorem dX4_bring_23 : decode cX4_bring 23 = .ok (.iconst 0, 1) := by decide +kernel
theorem dX4_bring_24 : decode cX4_bring 24 = .ok (.goto 4, 3) := by decide +kernel
theorem dX4_bring_27 : decode cX4_bring 27 = .ok (.iconst 1, 1) := by decide +kernel
theorem dX4_bring_28 : decode cX4_bring 28 = .ok (.invokevirtual 157, 3) := by decide +kernel
theorem dX4_bring_31 : decode cX4_bring 31 = .ok (.iconst 1, 1) := by decide +kernel
theorem dX4_bring_32 : decode cX4_bring 32 = .ok (.istore_n 3, 1) := by decide +kernel
theorem dX4_bring_33 : decode cX4_bring 33 = .ok (.iload_n 3, 1) := by decide +kernel
theorem dX4_bring_34 : decode cX4_bring 34 = .ok (.iconst 3, 1) := by decide +kernel
theorem dX4_bring_35 : decode cX4_bring 35 = .ok (.if_icmp .gt 64, 3) := by decide +kernel
theorem dX4_bring_38 : decode cX4_bring 38 = .ok (.iload_n 2, 1) := by decide +kernel
theorem dX4_bring_39 : decode cX4_bring 39 = .ok (.iconst (-1), 1) := by decide +kernel
theorem dX4_bring_40 : decode cX4_bring 40 = .ok (.if_icmp .eq 59, 3) := by decide +kernel
theorem dX4_bring_43 : decode cX4_bring 43 = .ok (.iload_n 2, 1) := by decide +kernel
theorem dX4_bring_44 : decode cX4_bring 44 = .ok (.iload_n 3, 1) := by decide +kernel
theorem dX4_bring_45 : decode cX4_bring 45 = .ok (.iadd, 1) := by decide +kernel
theorem dX4_bring_46 : decode cX4_bring 46 = .ok (.bipush 24, 2) := by decide +kernel
theorem dX4_bring_48 : decode cX4_bring 48 = .ok (.if_icmp .ge 51, 3) := by decide +kernel
theorem dX4_bring_51 : decode cX4_bring 51 = .ok (.aload_n 0, 1) := by decide +kernel
theorem dX4_bring_52 : decode cX4_bring 52 = .ok (.getfield 27, 3) := by decide +kernel
theorem dX4_bring_55 : decode cX4_bring 55 = .ok (.iload_n 2, 1) := by decide +kernel
theorem dX4_bring_56 : decode cX4_bring 56 = .ok (.iload_n 3, 1) := by decide +kernel
theorem dX4_bring_57 : decode cX4_bring 57 = .ok (.iadd, 1) := by decide +kernel
theorem dX4_bring_58 : decode cX4_bring 58 = .ok (.iaload, 1) := by decide +kernel
theorem dX4_bring_59 : decode cX4_bring 59 = .ok (.istore 4, 2) := by decide +kernel
theorem dX4_bring_61 : decode cX4_bring 61 = .ok (.iload 4, 2) := by decide +kernel
theorem dX4_bring_63 : decode cX4_bring 63 = .ok (.iconst (-1), 1) := by decide +kernel
theorem dX4_bring_64 : decode cX4_bring 64 = .ok (.if_icmp .eq 29, 3) := by decide +kernel
theorem dX4_bring_67 : decode cX4_bring 67 = .ok (.aload_n 0, 1) := by decide +kernel
theorem dX4_bring_68 : decode cX4_bring 68 = .ok (.iload 4, 2) := by decide +kernel
theorem dX4_bring_70 : decode cX4_bring 70 = .ok (.invokevirtual 83, 3) := by decide +kernel
theorem dX4_bring_73 : decode cX4_bring 73 = .ok (.iconst (-1), 1) := by decide +kernel
theorem dX4_bring_74 : decode cX4_bring 74 = .ok (.if_icmp .ne 19, 3) := by decide +kernel
theorem dX4_bring_77 : decode cX4_bring 77 = .ok (.aload_n 0, 1) := by decide +kernel
theorem dX4_bring_78 : decode cX4_bring 78 = .ok (.iconst (-1), 1) := by decide +kernel
theorem dX4_bring_79 : decode cX4_bring 79 = .ok (.invokevirtual 83, 3) := by decide +kernel
theorem dX4_bring_82 : decode cX4_bring 82 = .ok (.iconst (-1), 1) := by decide +kernel
theorem dX4_bring_83 : decode cX4_bring 83 = .ok (.if_icmp .eq 10, 3) := by decide +kernel
theorem dX4_bring_86 : decode cX4_bring 86 = .ok (.aload_n 0, 1) := by decide +kernel
theorem dX4_bring_87 : decode cX4_bring 87 = .ok (.iload 4, 2) := by decide +kernel
theorem dX4_bring_89 : decode cX4_bring 89 = .ok (.iconst 3, 1) := by decide +kernel
theorem dX4_bring_90 : decode cX4_bring 90 = .ok (.invokevirtual 157, 3) := by decide +kernel
theorem dX4_bring_93 : decode cX4_bring 93 = .ok (.iinc 3 1, 3) := by decide +kernel
theorem dX4_bring_96 : decode cX4_bring 96 = .ok (.goto (-63), 3) := by decide +kernel
theorem dX4_bring_99 : decode cX4_bring 99 = .ok (.return_, 1) := by decide +kernel
theorem dX4_isPossible_0 : decode cX4_isPossible 0 = .ok (.iload_n 1, 1) := by decide +kernel
theorem dX4_isPossible_1 : decode cX4_isPossible 1 = .ok (.ifCond .eq 21, 3) := by decide +kernel
theorem dX4_isPossible_4 : decode cX4_isPossible 4 = .ok (.aload_n 0, 1) := by decide +kernel
theorem dX4_isPossible_5 : decode cX4_isPossible 5 = .ok (.iconst (-1), 1) := by decide +kernel
theorem dX4_isPossible_6 : decode cX4_isPossible 6 = .ok (.invokevirtual 83, 3) := by decide +kernel
theorem dX4_isPossible_9 : decode cX4_isPossible 9 = .ok (.iconst (-1), 1) := by decide +kernel
theorem dX4_isPossible_10 : decode cX4_isPossible 10 = .ok (.if_icmp .ne 12, 3) := by decide +kernel
theorem dX4_isPossible_13 : decode cX4_isPossible 13 = .ok (.aload_n 0, 1) := by decide +kernel
theorem dX4_isPossible_14 : decode cX4_isPossible 14 = .ok (.iconst 1, 1) := by decide +kernel
theorem dX4_isPossible_15 : decode cX4_isPossible 15 = .ok (.invokevirtual 141, 3) := by decide +kernel
theorem dX4_isPossible_18 : decode cX4_isPossible 18 = .ok (.iconst (-1), 1) := by decide +kernel
theorem dX4_isPossible_19 : decode cX4_isPossible 19 = .ok (.if_icmp .eq 7, 3) := by decide +kernel
theorem dX4_isPossible_22 : decode cX4_isPossible 22 = .ok (.iconst 1, 1) := by decide +kernel
theorem dX4_isPossible_23 : decode cX4_isPossible 23 = .ok (.goto 4, 3) := by decide +kernel
theorem dX4_isPossible_26 : decode cX4_isPossible 26 = .ok (.iconst 0, 1) := by decide +kernel
theorem dX4_isPossible_27 : decode cX4_isPossible 27 = .ok (.istore_n 2, 1) := by decide +kernel
theorem dX4_isPossible_28 : decode cX4_isPossible 28 = .ok (.iconst 0, 1) := by decide +kernel
theorem dX4_isPossible_29 : decode cX4_isPossible 29 = .ok (.istore_n 3, 1) := by decide +kernel
theorem dX4_isPossible_30 : decode cX4_isPossible 30 = .ok (.iload_n 3, 1) := by decide +kernel
theorem dX4_isPossible_31 : decode cX4_isPossible 31 = .ok (.aload_n 0, 1) := by decide +kernel
theorem dX4_isPossible_32 : decode cX4_isPossible 32 = .ok (.getfield 13, 3) := by decide +kernel
theorem dX4_isPossible_35 : decode cX4_isPossible 35 = .ok (.if_icmp .ge 40, 3) := by decide +kernel
theorem dX4_isPossible_38 : decode cX4_isPossible 38 = .ok (.iload_n 2, 1) := by decide +kernel
theorem dX4_isPossible_39 : decode cX4_isPossible 39 = .ok (.aload_n 0, 1) := by decide +kernel
theorem dX4_isPossible_40 : decode cX4_isPossible 40 = .ok (.getfield 16, 3) := by decide +kernel
theorem dX4_isPossible_43 : decode cX4_isPossible 43 = .ok (.iload_n 3, 1) := by decide +kernel
theorem dX4_isPossible_44 : decode cX4_isPossible 44 = .ok (.iaload, 1) := by decide +kernel
theorem dX4_isPossible_45 : decode cX4_isPossible 45 = .ok (.iconst (-1), 1) := by decide +kernel
theorem dX4_isPossible_46 : decode cX4_isPossible 46 = .ok (.if_icmp .eq 20, 3) := by decide +kernel
theorem dX4_isPossible_49 : decode cX4_isPossible 49 = .ok (.aload_n 0, 1) := by decide +kernel
theorem dX4_isPossible_50 : decode cX4_isPossible 50 = .ok (.aload_n 0, 1) := by decide +kernel
theorem dX4_isPossible_51 : decode cX4_isPossible 51 = .ok (.getfield 16, 3) := by decide +kernel
theorem dX4_isPossible_54 : decode cX4_isPossible 54 = .ok (.iload_n 3, 1) := by decide +kernel
theorem dX4_isPossible_55 : decode cX4_isPossible 55 = .ok (.iaload, 1) := by decide +kernel
theorem dX4_isPossible_56 : decode cX4_isPossible 56 = .ok (.invokevirtual 135, 3) := by decide +kernel
theorem dX4_isPossible_59 : decode cX4_isPossible 59 = .ok (.ifCond .ne 7, 3) := by decide +kernel
theorem dX4_isPossible_62 : decode cX4_isPossible 62 = .ok (.iconst 1, 1) := by decide +kernel
theorem dX4_isPossible_63 : decode cX4_isPossible 63 = .ok (.goto 4, 3) := by decide +kernel
theorem dX4_isPossible_66 : decode cX4_isPossible 66 = .ok (.iconst 0, 1) := by decide +kernel
theorem dX4_isPossible_67 : decode cX4_isPossible 67 = .ok (.ior, 1) := by decide +kernel
theorem dX4_isPossible_68 : decode cX4_isPossible 68 = .ok (.istore_n 2, 1) := by decide +kernel
theorem dX4_isPossible_69 : decode cX4_isPossible 69 = .ok (.iinc 3 1, 3) := by decide +kernel
theorem dX4_isPossible_72 : decode cX4_isPossible 72 = .ok (.goto (-42), 3) := by decide +kernel
theorem dX4_isPossible_75 : decode cX4_isPossible 75 = .ok (.iload_n 2, 1) := by decide +kernel
theorem dX4_isPossible_76 : decode cX4_isPossible 76 = .ok (.ireturn, 1) := by decide +kernel
theorem dX4_begins_0 : decode cX4_begins 0 = .ok (.aload_n 0, 1) := by decide +kernel
theorem dX4_begins_1 : decode cX4_begins 1 = .ok (.aload_n 0, 1) := by decide +kernel
theorem dX4_begins_2 : decode cX4_begins 2 = .ok (.iload_n 1, 1) := by decide +kernel
theorem dX4_begins_3 : decode cX4_begins 3 = .ok (.invokevirtual 100, 3) := by decide +kernel
theorem dX4_begins_6 : decode cX4_begins 6 = .ok (.ifCond .eq 13, 3) := by decide +kernel
theorem dX4_begins_9 : decode cX4_begins 9 = .ok (.iload_n 2, 1) := by decide +kernel
theorem dX4_begins_10 : decode cX4_begins 10 = .ok (.ifCond .lt 9, 3) := by decide +kernel
theorem dX4_begins_13 : decode cX4_begins 13 = .ok (.iload_n 2, 1) := by decide +kernel
theorem dX4_begins_14 : decode cX4_begins 14 = .ok (.bipush 64, 2) := by decide +kernel
theorem dX4_begins_16 : decode cX4_begins 16 = .ok (.if_icmp .lt 7, 3) := by decide +kernel
theorem dX4_begins_19 : decode cX4_begins 19 = .ok (.iconst 1, 1) := by decide +kernel
theorem dX4_begins_20 : decode cX4_begins 20 = .ok (.goto 36, 3) := by decide +kernel
theorem dX4_begins_23 : decode cX4_begins 23 = .ok (.aload_n 0, 1) := by decide +kernel
theorem dX4_begins_24 : decode cX4_begins 24 = .ok (.getfield 39, 3) := by decide +kernel
theorem dX4_begins_27 : decode cX4_begins 27 = .ok (.iload_n 1, 1) := by decide +kernel
theorem dX4_begins_28 : decode cX4_begins 28 = .ok (.baload, 1) := by decide +kernel
theorem dX4_begins_29 : decode cX4_begins 29 = .ok (.ifCond .ne 7, 3) := by decide +kernel
theorem dX4_begins_32 : decode cX4_begins 32 = .ok (.iconst 2, 1) := by decide +kernel
theorem dX4_begins_33 : decode cX4_begins 33 = .ok (.goto 23, 3) := by decide +kernel
theorem dX4_begins_36 : decode cX4_begins 36 = .ok (.aload_n 0, 1) := by decide +kernel
theorem dX4_begins_37 : decode cX4_begins 37 = .ok (.getfield 42, 3) := by decide +kernel
theorem dX4_begins_40 : decode cX4_begins 40 = .ok (.iload_n 1, 1) := by decide +kernel
theorem dX4_begins_41 : decode cX4_begins 41 = .ok (.iload_n 2, 1) := by decide +kernel
theorem dX4_begins_42 : decode cX4_begins 42 = .ok (.iconst 4, 1) := by decide +kernel
theorem dX4_begins_43 : decode cX4_begins 43 = .ok (.idiv, 1) := by decide +kernel
theorem dX4_begins_44 : decode cX4_begins 44 = .ok (.invokestatic 96, 3) := by decide +kernel
theorem dX4_begins_47 : decode cX4_begins 47 = .ok (.iaload, 1) := by decide +kernel
theorem dX4_begins_48 : decode cX4_begins 48 = .ok (.ifCond .ne 7, 3) := by decide +kernel
theorem dX4_begins_51 : decode cX4_begins 51 = .ok (.iconst 3, 1) := by decide +kernel
theorem dX4_begins_52 : decode cX4_begins 52 = .ok (.goto 4, 3) := by decide +kernel
theorem dX4_begins_55 : decode cX4_begins 55 = .ok (.iconst 0, 1) := by decide +kernel
theorem dX4_begins_56 : decode cX4_begins 56 = .ok (.putfield 60, 3) := by decide +kernel
theorem dX4_begins_59 : decode cX4_begins 59 = .ok (.aload_n 0, 1) := by decide +kernel
theorem dX4_begins_60 : decode cX4_begins 60 = .ok (.getfield 60, 3) := by decide +kernel
theorem dX4_begins_63 : decode cX4_begins 63 = .ok (.ifCond .le 5, 3) := by decide +kernel
theorem dX4_begins_66 : decode cX4_begins 66 = .ok (.iconst 0, 1) := by decide +kernel
theorem dX4_begins_67 : decode cX4_begins 67 = .ok (.ireturn, 1) := by decide +kernel
theorem dX4_begins_68 : decode cX4_begins 68 = .ok (.aload_n 0, 1) := by decide +kernel
theorem dX4_begins_69 : decode cX4_begins 69 = .ok (.getfield 45, 3) := by decide +kernel
theorem dX4_begins_72 : decode cX4_begins 72 = .ok (.iload_n 1, 1) := by decide +kernel
theorem dX4_begins_73 : decode cX4_begins 73 = .ok (.iload_n 2, 1) := by decide +kernel
theorem dX4_begins_74 : decode cX4_begins 74 = .ok (.iconst 4, 1) := by decide +kernel
theorem dX4_begins_75 : decode cX4_begins 75 = .ok (.idiv, 1) := by decide +kernel
theorem dX4_begins_76 : decode cX4_begins 76 = .ok (.invokestatic 96, 3) := by decide +kernel
theorem dX4_begins_79 : decode cX4_begins 79 = .ok (.iaload, 1) := by decide +kernel
theorem dX4_begins_80 : decode cX4_begins 80 = .ok (.istore 4, 2) := by decide +kernel
theorem dX4_begins_82 : decode cX4_begins 82 = .ok (.iload_n 3, 1) := by decide +kernel
theorem dX4_begins_83 : decode cX4_begins 83 = .ok (.ifCond .eq 33, 3) := by decide +kernel
theorem dX4_begins_86 : decode cX4_begins 86 = .ok (.aload_n 0, 1) := by decide +kernel
theorem dX4_begins_87 : decode cX4_begins 87 = .ok (.getfield 42, 3) := by decide +kernel
theorem dX4_begins_90 : decode cX4_begins 90 = .ok (.iload_n 1, 1) := by decide +kernel
theorem dX4_begins_91 : decode cX4_begins 91 = .ok (.iload_n 2, 1) := by decide +kernel
theorem dX4_begins_92 : decode cX4_begins 92 = .ok (.iconst 4, 1) := by decide +kernel
theorem dX4_begins_93 : decode cX4_begins 93 = .ok (.idiv, 1) := by decide +kernel
theorem dX4_begins_94 : decode cX4_begins 94 = .ok (.invokestatic 96, 3) := by decide +kernel
theorem dX4_begins_97 : decode cX4_begins 97 = .ok (.iaload, 1) := by decide +kernel
theorem dX4_begins_98 : decode cX4_begins 98 = .ok (.iconst 1, 1) := by decide +kernel
theorem dX4_begins_99 : decode cX4_begins 99 = .ok (.if_icmp .ne 17, 3) := by decide +kernel
theorem dX4_begins_102 : decode cX4_begins 102 = .ok (.aload_n 0, 1) := by decide +kernel
theorem dX4_begins_103 : decode cX4_begins 103 = .ok (.iload 4, 2) := by decide +kernel
theorem dX4_begins_105 : decode cX4_begins 105 = .ok (.invokevirtual 76, 3) := by decide +kernel
theorem dX4_begins_108 : decode cX4_begins 108 = .ok (.iconst 1, 1) := by decide +kernel
theorem dX4_begins_109 : decode cX4_begins 109 = .ok (.if_icmp .le 7, 3) := by decide +kernel
theorem dX4_begins_112 : decode cX4_begins 112 = .ok (.iconst 1, 1) := by decide +kernel
theorem dX4_begins_113 : decode cX4_begins 113 = .ok (.goto 4, 3) := by decide +kernel
theorem dX4_begins_116 : decode cX4_begins 116 = .ok (.iconst 0, 1) := by decide +kernel
theorem dX4_begins_117 : decode cX4_begins 117 = .ok (.istore 5, 2) := by decide +kernel
theorem dX4_begins_119 : decode cX4_begins 119 = .ok (.aload_n 0, 1) := by decide +kernel
theorem dX4_begins_120 : decode cX4_begins 120 = .ok (.iload 5, 2) := by decide +kernel
theorem dX4_begins_122 : decode cX4_begins 122 = .ok (.ifCond .ne 13, 3) := by decide +kernel
theorem dX4_begins_125 : decode cX4_begins 125 = .ok (.aload_n 0, 1) := by decide +kernel
theorem dX4_begins_126 : decode cX4_begins 126 = .ok (.iload 4, 2) := by decide +kernel
theorem dX4_begins_128 : decode cX4_begins 128 = .ok (.invokevirtual 83, 3) := by decide +kernel
theorem dX4_begins_131 : decode cX4_begins 131 = .ok (.iconst (-1), 1) := by decide +kernel
theorem dX4_begins_132 : decode cX4_begins 132 = .ok (.if_icmp .ne 7, 3) := by decide +kernel
theorem dX4_begins_135 : decode cX4_begins 135 = .ok (.iconst 1, 1) := by decide +kernel
theorem dX4_begins_136 : decode cX4_begins 136 = .ok (.goto 4, 3) := by decide +kernel
theorem dX4_begins_139 : decode cX4_begins 139 = .ok (.iconst 0, 1) := by decide +kernel
theorem dX4_begins_140 : decode cX4_begins 140 = .ok (.invokevirtual 161, 3) := by decide +kernel
theorem dX4_begins_143 : decode cX4_begins 143 = .ok (.ifCond .ne 8, 3) := by decide +kernel
theorem dX4_begins_146 : decode cX4_begins 146 = .ok (.aload_n 0, 1) := by decide +kernel
theorem dX4_begins_147 : decode cX4_begins 147 = .ok (.iconst 4, 1) := by decide +kernel
theorem dX4_begins_148 : decode cX4_begins 148 = .ok (.putfield 60, 3) := by decide +kernel
theorem dX4_begins_151 : decode cX4_begins 151 = .ok (.aload_n 0, 1) := by decide +kernel
theorem dX4_begins_152 : decode cX4_begins 152 = .ok (.getfield 60, 3) := by decide +kernel
theorem dX4_begins_155 : decode cX4_begins 155 = .ok (.ifCond .ne 7, 3) := by decide +kernel
theorem dX4_begins_158 : decode cX4_begins 158 = .ok (.iconst 1, 1) := by decide +kernel
theorem dX4_begins_159 : decode cX4_begins 159 = .ok (.goto 4, 3) := by decide +kernel
theorem dX4_begins_162 : decode cX4_begins 162 = .ok (.iconst 0, 1) := by decide +kernel
theorem dX4_begins_163 : decode cX4_begins 163 = .ok (.ireturn, 1) := by decide +kernel
theorem dX4_use_0 : decode cX4_use 0 = .ok (.aload_n 0, 1) := by decide +kernel
theorem dX4_use_1 : decode cX4_use 1 = .ok (.iload_n 1, 1) := by decide +kernel
theorem dX4_use_2 : decode cX4_use 2 = .ok (.invokevirtual 83, 3) := by decide +kernel
theorem dX4_use_5 : decode cX4_use 5 = .ok (.istore_n 2, 1) := by decide +kernel
theorem dX4_use_6 : decode cX4_use 6 = .ok (.aload_n 0, 1) := by decide +kernel
theorem dX4_use_7 : decode cX4_use 7 = .ok (.getfield 20, 3) := by decide +kernel
theorem dX4_use_10 : decode cX4_use 10 = .ok (.iload_n 2, 1) := by decide +kernel
theorem dX4_use_11 : decode cX4_use 11 = .ok (.aload_n 0, 1) := by decide +kernel
theorem dX4_use_12 : decode cX4_use 12 = .ok (.getfield 147, 3) := by decide +kernel
theorem dX4_use_15 : decode cX4_use 15 = .ok (.iastore, 1) := by decide +kernel
theorem dX4_use_16 : decode cX4_use 16 = .ok (.aload_n 0, 1) := by decide +kernel
theorem dX4_use_17 : decode cX4_use 17 = .ok (.getfield 23, 3) := by decide +kernel
theorem dX4_use_20 : decode cX4_use 20 = .ok (.iload_n 2, 1) := by decide +kernel
theorem dX4_use_21 : decode cX4_use 21 = .ok (.iconst 1, 1) := by decide +kernel
theorem dX4_use_22 : decode cX4_use 22 = .ok (.bastore, 1) := by decide +kernel
theorem dX4_use_23 : decode cX4_use 23 = .ok (.return_, 1) := by decide +kernel
theorem dX4_read_0 : decode cX4_read 0 = .ok (.aload_n 0, 1) := by decide +kernel
theorem dX4_read_1 : decode cX4_read 1 = .ok (.iload_n 1, 1) := by decide +kernel
theorem dX4_read_2 : decode cX4_read 2 = .ok (.iload_n 2, 1) := by decide +kernel
theorem dX4_read_3 : decode cX4_read 3 = .ok (.iconst 0, 1) := by decide +kernel
theorem dX4_read_4 : decode cX4_read 4 = .ok (.invokevirtual 165, 3) := by decide +kernel
theorem dX4_read_7 : decode cX4_read 7 = .ok (.ifCond .ne 5, 3) := by decide +kernel
theorem dX4_read_10 : decode cX4_read 10 = .ok (.iconst 0, 1) := by decide +kernel
theorem dX4_read_11 : decode cX4_read 11 = .ok (.ireturn, 1) := by decide +kernel
theorem dX4_read_12 : decode cX4_read 12 = .ok (.aload_n 0, 1) := by decide +kernel
theorem dX4_read_13 : decode cX4_read 13 = .ok (.dup, 1) := by decide +kernel
theorem dX4_read_14 : decode cX4_read 14 = .ok (.getfield 147, 3) := by decide +kernel
theorem dX4_read_17 : decode cX4_read 17 = .ok (.iconst 1, 1) := by decide +kernel
theorem dX4_read_18 : decode cX4_read 18 = .ok (.iadd, 1) := by decide +kernel
theorem dX4_read_19 : decode cX4_read 19 = .ok (.putfield 147, 3) := by decide +kernel
theorem dX4_read_22 : decode cX4_read 22 = .ok (.aload_n 0, 1) := by decide +kernel
theorem dX4_read_23 : decode cX4_read 23 = .ok (.getfield 45, 3) := by decide +kernel
theorem dX4_read_26 : decode cX4_read 26 = .ok (.iload_n 1, 1) := by decide +kernel
theorem dX4_read_27 : decode cX4_read 27 = .ok (.iload_n 2, 1) := by decide +kernel
theorem dX4_read_28 : decode cX4_read 28 = .ok (.iconst 4, 1) := by decide +kernel
theorem dX4_read_29 : decode cX4_read 29 = .ok (.idiv, 1) := by decide +kernel
theorem dX4_read_30 : decode cX4_read 30 = .ok (.invokestatic 96, 3) := by decide +kernel
theorem dX4_read_33 : decode cX4_read 33 = .ok (.iaload, 1) := by decide +kernel
theorem dX4_read_34 : decode cX4_read 34 = .ok (.istore_n 3, 1) := by decide +kernel
theorem dX4_read_35 : decode cX4_read 35 = .ok (.aload_n 0, 1) := by decide +kernel
theorem dX4_read_36 : decode cX4_read 36 = .ok (.iload_n 3, 1) := by decide +kernel
theorem dX4_read_37 : decode cX4_read 37 = .ok (.invokevirtual 168, 3) := by decide +kernel
theorem dX4_read_40 : decode cX4_read 40 = .ok (.aload_n 0, 1) := by decide +kernel
theorem dX4_read_41 : decode cX4_read 41 = .ok (.iload_n 3, 1) := by decide +kernel
theorem dX4_read_42 : decode cX4_read 42 = .ok (.invokevirtual 171, 3) := by decide +kernel
theorem dX4_read_45 : decode cX4_read 45 = .ok (.aload_n 0, 1) := by decide +kernel
theorem dX4_read_46 : decode cX4_read 46 = .ok (.getfield 36, 3) := by decide +kernel
theorem dX4_read_49 : decode cX4_read 49 = .ok (.iconst 4, 1) := by decide +kernel
theorem dX4_read_50 : decode cX4_read 50 = .ok (.iload_n 3, 1) := by decide +kernel
theorem dX4_read_51 : decode cX4_read 51 = .ok (.imul, 1) := by decide +kernel
theorem dX4_read_52 : decode cX4_read 52 = .ok (.iload_n 2, 1) := by decide +kernel
theorem dX4_read_53 : decode cX4_read 53 = .ok (.iconst 4, 1) := by decide +kernel
theorem dX4_read_54 : decode cX4_read 54 = .ok (.irem, 1) := by decide +kernel
theorem dX4_read_55 : decode cX4_read 55 = .ok (.iadd, 1) := by decide +kernel
theorem dX4_read_56 : decode cX4_read 56 = .ok (.iaload, 1) := by decide +kernel
theorem dX4_read_57 : decode cX4_read 57 = .ok (.ireturn, 1) := by decide +kernel
theorem dX4_write_0 : decode cX4_write 0 = .ok (.aload_n 0, 1) := by decide +kernel
theorem dX4_write_1 : decode cX4_write 1 = .ok (.iload_n 1, 1) := by decide +kernel
theorem dX4_write_2 : decode cX4_write 2 = .ok (.iload_n 2, 1) := by decide +kernel
theorem dX4_write_3 : decode cX4_write 3 = .ok (.iconst 1, 1) := by decide +kernel
theorem dX4_write_4 : decode cX4_write 4 = .ok (.invokevirtual 165, 3) := by decide +kernel
theorem dX4_write_7 : decode cX4_write 7 = .ok (.ifCond .ne 5, 3) := by decide +kernel
theorem dX4_write_10 : decode cX4_write 10 = .ok (.iconst 0, 1) := by decide +kernel
theorem dX4_write_11 : decode cX4_write 11 = .ok (.ireturn, 1) := by decide +kernel
theorem dX4_write_12 : decode cX4_write 12 = .ok (.aload_n 0, 1) := by decide +kernel
theorem dX4_write_13 : decode cX4_write 13 = .ok (.dup, 1) := by decide +kernel
theorem dX4_write_14 : decode cX4_write 14 = .ok (.getfield 147, 3) := by decide +kernel
theorem dX4_write_17 : decode cX4_write 17 = .ok (.iconst 1, 1) := by decide +kernel
theorem dX4_write_18 : decode cX4_write 18 = .ok (.iadd, 1) := by decide +kernel
theorem dX4_write_19 : decode cX4_write 19 = .ok (.putfield 147, 3) := by decide +kernel
theorem dX4_write_22 : decode cX4_write 22 = .ok (.iload_n 1, 1) := by decide +kernel
theorem dX4_write_23 : decode cX4_write 23 = .ok (.iload_n 2, 1) := by decide +kernel
theorem dX4_write_24 : decode cX4_write 24 = .ok (.iconst 4, 1) := by decide +kernel
theorem dX4_write_25 : decode cX4_write 25 = .ok (.idiv, 1) := by decide +kernel
theorem dX4_write_26 : decode cX4_write 26 = .ok (.invokestatic 96, 3) := by decide +kernel
theorem dX4_write_29 : decode cX4_write 29 = .ok (.istore 4, 2) := by decide +kernel
theorem dX4_write_31 : decode cX4_write 31 = .ok (.aload_n 0, 1) := by decide +kernel
theorem dX4_write_32 : decode cX4_write 32 = .ok (.getfield 45, 3) := by decide +kernel
theorem dX4_write_35 : decode cX4_write 35 = .ok (.iload 4, 2) := by decide +kernel
theorem dX4_write_37 : decode cX4_write 37 = .ok (.iaload, 1) := by decide +kernel
theorem dX4_write_38 : decode cX4_write 38 = .ok (.istore 5, 2) := by decide +kernel
theorem dX4_write_40 : decode cX4_write 40 = .ok (.aload_n 0, 1) := by decide +kernel
theorem dX4_write_41 : decode cX4_write 41 = .ok (.iload 5, 2) := by decide +kernel
theorem dX4_write_43 : decode cX4_write 43 = .ok (.invokevirtual 168, 3) := by decide +kernel
theorem dX4_write_46 : decode cX4_write 46 = .ok (.aload_n 0, 1) := by decide +kernel
theorem dX4_write_47 : decode cX4_write 47 = .ok (.getfield 42, 3) := by decide +kernel
theorem dX4_write_50 : decode cX4_write 50 = .ok (.iload 4, 2) := by decide +kernel
theorem dX4_write_52 : decode cX4_write 52 = .ok (.iaload, 1) := by decide +kernel
theorem dX4_write_53 : decode cX4_write 53 = .ok (.iconst 1, 1) := by decide +kernel
theorem dX4_write_54 : decode cX4_write 54 = .ok (.if_icmp .ne 78, 3) := by decide +kernel
theorem dX4_write_57 : decode cX4_write 57 = .ok (.aload_n 0, 1) := by decide +kernel
theorem dX4_write_58 : decode cX4_write 58 = .ok (.iload 5, 2) := by decide +kernel
theorem dX4_write_60 : decode cX4_write 60 = .ok (.invokevirtual 76, 3) := by decide +kernel
theorem dX4_write_63 : decode cX4_write 63 = .ok (.iconst 1, 1) := by decide +kernel
theorem dX4_write_64 : decode cX4_write 64 = .ok (.if_icmp .le 68, 3) := by decide +kernel
theorem dX4_write_67 : decode cX4_write 67 = .ok (.aload_n 0, 1) := by decide +kernel
theorem dX4_write_68 : decode cX4_write 68 = .ok (.invokevirtual 120, 3) := by decide +kernel
theorem dX4_write_71 : decode cX4_write 71 = .ok (.istore 6, 2) := by decide +kernel
theorem dX4_write_73 : decode cX4_write 73 = .ok (.iconst 0, 1) := by decide +kernel
theorem dX4_write_74 : decode cX4_write 74 = .ok (.istore 7, 2) := by decide +kernel
theorem dX4_write_76 : decode cX4_write 76 = .ok (.iload 7, 2) := by decide +kernel
theorem dX4_write_78 : decode cX4_write 78 = .ok (.iconst 4, 1) := by decide +kernel
theorem dX4_write_79 : decode cX4_write 79 = .ok (.if_icmp .ge 33, 3) := by decide +kernel
theorem dX4_write_82 : decode cX4_write 82 = .ok (.aload_n 0, 1) := by decide +kernel
theorem dX4_write_83 : decode cX4_write 83 = .ok (.getfield 36, 3) := by decide +kernel
theorem dX4_write_86 : decode cX4_write 86 = .ok (.iconst 4, 1) := by decide +kernel
theorem dX4_write_87 : decode cX4_write 87 = .ok (.iload 6, 2) := by decide +kernel
theorem dX4_write_89 : decode cX4_write 89 = .ok (.imul, 1) := by decide +kernel
theorem dX4_write_90 : decode cX4_write 90 = .ok (.iload 7, 2) := by decide +kernel
theorem dX4_write_92 : decode cX4_write 92 = .ok (.iadd, 1) := by decide +kernel
theorem dX4_write_93 : decode cX4_write 93 = .ok (.aload_n 0, 1) := by decide +kernel
theorem dX4_write_94 : decode cX4_write 94 = .ok (.getfield 36, 3) := by decide +kernel
theorem dX4_write_97 : decode cX4_write 97 = .ok (.iconst 4, 1) := by decide +kernel
theorem dX4_write_98 : decode cX4_write 98 = .ok (.iload 5, 2) := by decide +kernel
theorem dX4_write_100 : decode cX4_write 100 = .ok (.imul, 1) := by decide +kernel
theorem dX4_write_101 : decode cX4_write 101 = .ok (.iload 7, 2) := by decide +kernel
theorem dX4_write_103 : decode cX4_write 103 = .ok (.iadd, 1) := by decide +kernel
theorem dX4_write_104 : decode cX4_write 104 = .ok (.iaload, 1) := by decide +kernel
theorem dX4_write_105 : decode cX4_write 105 = .ok (.iastore, 1) := by decide +kernel
theorem dX4_write_106 : decode cX4_write 106 = .ok (.iinc 7 1, 3) := by decide +kernel
theorem dX4_write_109 : decode cX4_write 109 = .ok (.goto (-33), 3) := by decide +kernel
theorem dX4_write_112 : decode cX4_write 112 = .ok (.aload_n 0, 1) := by decide +kernel
theorem dX4_write_113 : decode cX4_write 113 = .ok (.iload 6, 2) := by decide +kernel
theorem dX4_write_115 : decode cX4_write 115 = .ok (.iconst 2, 1) := by decide +kernel
theorem dX4_write_116 : decode cX4_write 116 = .ok (.invokevirtual 157, 3) := by decide +kernel
theorem dX4_write_119 : decode cX4_write 119 = .ok (.aload_n 0, 1) := by decide +kernel
theorem dX4_write_120 : decode cX4_write 120 = .ok (.getfield 45, 3) := by decide +kernel
theorem dX4_write_123 : decode cX4_write 123 = .ok (.iload 4, 2) := by decide +kernel
theorem dX4_write_125 : decode cX4_write 125 = .ok (.iload 6, 2) := by decide +kernel
theorem dX4_write_127 : decode cX4_write 127 = .ok (.iastore, 1) := by decide +kernel
theorem dX4_write_128 : decode cX4_write 128 = .ok (.iload 6, 2) := by decide +kernel
theorem dX4_write_130 : decode cX4_write 130 = .ok (.istore 5, 2) := by decide +kernel
theorem dX4_write_132 : decode cX4_write 132 = .ok (.aload_n 0, 1) := by decide +kernel
theorem dX4_write_133 : decode cX4_write 133 = .ok (.iload 5, 2) := by decide +kernel
theorem dX4_write_135 : decode cX4_write 135 = .ok (.invokevirtual 171, 3) := by decide +kernel
theorem dX4_write_138 : decode cX4_write 138 = .ok (.aload_n 0, 1) := by decide +kernel
theorem dX4_write_139 : decode cX4_write 139 = .ok (.iload 5, 2) := by decide +kernel
theorem dX4_write_141 : decode cX4_write 141 = .ok (.invokevirtual 63, 3) := by decide +kernel
theorem dX4_write_144 : decode cX4_write 144 = .ok (.istore 6, 2) := by decide +kernel
theorem dX4_write_146 : decode cX4_write 146 = .ok (.iload 6, 2) := by decide +kernel
theorem dX4_write_148 : decode cX4_write 148 = .ok (.iconst (-1), 1) := by decide +kernel
theorem dX4_write_149 : decode cX4_write 149 = .ok (.if_icmp .eq 11, 3) := by decide +kernel
theorem dX4_write_152 : decode cX4_write 152 = .ok (.aload_n 0, 1) := by decide +kernel
theorem dX4_write_153 : decode cX4_write 153 = .ok (.getfield 27, 3) := by decide +kernel
theorem dX4_write_156 : decode cX4_write 156 = .ok (.iload 6, 2) := by decide +kernel
theorem dX4_write_158 : decode cX4_write 158 = .ok (.iconst (-1), 1) := by decide +kernel
theorem dX4_write_159 : decode cX4_write 159 = .ok (.iastore, 1) := by decide +kernel
theorem dX4_write_160 : decode cX4_write 160 = .ok (.aload_n 0, 1) := by decide +kernel
theorem dX4_write_161 : decode cX4_write 161 = .ok (.getfield 33, 3) := by decide +kernel
theorem dX4_write_164 : decode cX4_write 164 = .ok (.iload 5, 2) := by decide +kernel
theorem dX4_write_166 : decode cX4_write 166 = .ok (.iconst 1, 1) := by decide +kernel
theorem dX4_write_167 : decode cX4_write 167 = .ok (.bastore, 1) := by decide +kernel
theorem dX4_write_168 : decode cX4_write 168 = .ok (.aload_n 0, 1) := by decide +kernel
theorem dX4_write_169 : decode cX4_write 169 = .ok (.getfield 36, 3) := by decide +kernel
theorem dX4_write_172 : decode cX4_write 172 = .ok (.iconst 4, 1) := by decide +kernel
theorem dX4_write_173 : decode cX4_write 173 = .ok (.iload 5, 2) := by decide +kernel
theorem dX4_write_175 : decode cX4_write 175 = .ok (.imul, 1) := by decide +kernel
theorem dX4_write_176 : decode cX4_write 176 = .ok (.iload_n 2, 1) := by decide +kernel
theorem dX4_write_177 : decode cX4_write 177 = .ok (.iconst 4, 1) := by decide +kernel
theorem dX4_write_178 : decode cX4_write 178 = .ok (.irem, 1) := by decide +kernel
theorem dX4_write_179 : decode cX4_write 179 = .ok (.iadd, 1) := by decide +kernel
theorem dX4_write_180 : decode cX4_write 180 = .ok (.iaload, 1) := by decide +kernel
theorem dX4_write_181 : decode cX4_write 181 = .ok (.istore 7, 2) := by decide +kernel
theorem dX4_write_183 : decode cX4_write 183 = .ok (.aload_n 0, 1) := by decide +kernel
theorem dX4_write_184 : decode cX4_write 184 = .ok (.getfield 36, 3) := by decide +kernel
theorem dX4_write_187 : decode cX4_write 187 = .ok (.iconst 4, 1) := by decide +kernel
theorem dX4_write_188 : decode cX4_write 188 = .ok (.iload 5, 2) := by decide +kernel
theorem dX4_write_190 : decode cX4_write 190 = .ok (.imul, 1) := by decide +kernel
theorem dX4_write_191 : decode cX4_write 191 = .ok (.iload_n 2, 1) := by decide +kernel
theorem dX4_write_192 : decode cX4_write 192 = .ok (.iconst 4, 1) := by decide +kernel
theorem dX4_write_193 : decode cX4_write 193 = .ok (.irem, 1) := by decide +kernel
theorem dX4_write_194 : decode cX4_write 194 = .ok (.iadd, 1) := by decide +kernel
theorem dX4_write_195 : decode cX4_write 195 = .ok (.iload_n 3, 1) := by decide +kernel
theorem dX4_write_196 : decode cX4_write 196 = .ok (.iastore, 1) := by decide +kernel
theorem dX4_write_197 : decode cX4_write 197 = .ok (.iload 7, 2) := by decide +kernel
theorem dX4_write_199 : decode cX4_write 199 = .ok (.ireturn, 1) := by decide +kernel
theorem dX4_sync_0 : decode cX4_sync 0 = .ok (.aload_n 0, 1) := by decide +kernel
theorem dX4_sync_1 : decode cX4_sync 1 = .ok (.iconst 0, 1) := by decide +kernel
theorem dX4_sync_2 : decode cX4_sync 2 = .ok (.putfield 60, 3) := by decide +kernel
theorem dX4_sync_5 : decode cX4_sync 5 = .ok (.iconst 0, 1) := by decide +kernel
theorem dX4_sync_6 : decode cX4_sync 6 = .ok (.istore_n 1, 1) := by decide +kernel
theorem dX4_sync_7 : decode cX4_sync 7 = .ok (.iconst 0, 1) := by decide +kernel
theorem dX4_sync_8 : decode cX4_sync 8 = .ok (.istore_n 2, 1) := by decide +kernel
theorem dX4_sync_9 : decode cX4_sync 9 = .ok (.iload_n 2, 1) := by decide +kernel
theorem dX4_sync_10 : decode cX4_sync 10 = .ok (.aload_n 0, 1) := by decide +kernel
theorem dX4_sync_11 : decode cX4_sync 11 = .ok (.getfield 13, 3) := by decide +kernel
theorem dX4_sync_14 : decode cX4_sync 14 = .ok (.if_icmp .ge 45, 3) := by decide +kernel
theorem dX4_sync_17 : decode cX4_sync 17 = .ok (.aload_n 0, 1) := by decide +kernel
theorem dX4_sync_18 : decode cX4_sync 18 = .ok (.getfield 16, 3) := by decide +kernel
theorem dX4_sync_21 : decode cX4_sync 21 = .ok (.iload_n 2, 1) := by decide +kernel
theorem dX4_sync_22 : decode cX4_sync 22 = .ok (.iaload, 1) := by decide +kernel
theorem dX4_sync_23 : decode cX4_sync 23 = .ok (.iconst (-1), 1) := by decide +kernel
theorem dX4_sync_24 : decode cX4_sync 24 = .ok (.if_icmp .eq 29, 3) := by decide +kernel
theorem dX4_sync_27 : decode cX4_sync 27 = .ok (.aload_n 0, 1) := by decide +kernel
theorem dX4_sync_28 : decode cX4_sync 28 = .ok (.aload_n 0, 1) := by decide +kernel
theorem dX4_sync_29 : decode cX4_sync 29 = .ok (.getfield 16, 3) := by decide +kernel
theorem dX4_sync_32 : decode cX4_sync 32 = .ok (.iload_n 2, 1) := by decide +kernel
theorem dX4_sync_33 : decode cX4_sync 33 = .ok (.iaload, 1) := by decide +kernel
theorem dX4_sync_34 : decode cX4_sync 34 = .ok (.invokevirtual 135, 3) := by decide +kernel
theorem dX4_sync_37 : decode cX4_sync 37 = .ok (.ifCond .eq 16, 3) := by decide +kernel
theorem dX4_sync_40 : decode cX4_sync 40 = .ok (.iload_n 1, 1) := by decide +kernel
theorem dX4_sync_41 : decode cX4_sync 41 = .ok (.aload_n 0, 1) := by decide +kernel
theorem dX4_sync_42 : decode cX4_sync 42 = .ok (.aload_n 0, 1) := by decide +kernel
theorem dX4_sync_43 : decode cX4_sync 43 = .ok (.getfield 16, 3) := by decide +kernel
theorem dX4_sync_46 : decode cX4_sync 46 = .ok (.iload_n 2, 1) := by decide +kernel
theorem dX4_sync_47 : decode cX4_sync 47 = .ok (.iaload, 1) := by decide +kernel
theorem dX4_sync_48 : decode cX4_sync 48 = .ok (.invokevirtual 154, 3) := by decide +kernel
theorem dX4_sync_51 : decode cX4_sync 51 = .ok (.iadd, 1) := by decide +kernel
theorem dX4_sync_52 : decode cX4_sync 52 = .ok (.istore_n 1, 1) := by decide +kernel
theorem dX4_sync_53 : decode cX4_sync 53 = .ok (.iinc 2 1, 3) := by decide +kernel
theorem dX4_sync_56 : decode cX4_sync 56 = .ok (.goto (-47), 3) := by decide +kernel
theorem dX4_sync_59 : decode cX4_sync 59 = .ok (.iload_n 1, 1) := by decide +kernel
theorem dX4_sync_60 : decode cX4_sync 60 = .ok (.ireturn, 1) := by decide +kernel
theorem dX4_time_0 : decode cX4_time 0 = .ok (.aload_n 0, 1) := by decide +kernel
theorem dX4_time_1 : decode cX4_time 1 = .ok (.iconst 0, 1) := by decide +kernel
theorem dX4_time_2 : decode cX4_time 2 = .ok (.putfield 60, 3) := by decide +kernel
theorem dX4_time_5 : decode cX4_time 5 = .ok (.aload_n 0, 1) := by decide +kernel
theorem dX4_time_6 : decode cX4_time 6 = .ok (.getfield 147, 3) := by decide +kernel
theorem dX4_time_9 : decode cX4_time 9 = .ok (.ireturn, 1) := by decide +kernel
theorem dX4_hand_0 : decode cX4_hand 0 = .ok (.aload_n 0, 1) := by decide +kernel
theorem dX4_hand_1 : decode cX4_hand 1 = .ok (.iconst 0, 1) := by decide +kernel
theorem dX4_hand_2 : decode cX4_hand 2 = .ok (.putfield 60, 3) := by decide +kernel
theorem dX4_hand_5 : decode cX4_hand 5 = .ok (.aload_n 0, 1) := by decide +kernel
theorem dX4_hand_6 : decode cX4_hand 6 = .ok (.getfield 93, 3) := by decide +kernel
theorem dX4_hand_9 : decode cX4_hand 9 = .ok (.ireturn, 1) := by decide +kernel
theorem dX4_frameAt_0 : decode cX4_frameAt 0 = .ok (.aload_n 0, 1) := by decide +kernel
theorem dX4_frameAt_1 : decode cX4_frameAt 1 = .ok (.getfield 42, 3) := by decide +kernel
theorem dX4_frameAt_4 : decode cX4_frameAt 4 = .ok (.iload_n 1, 1) := by decide +kernel
theorem dX4_frameAt_5 : decode cX4_frameAt 5 = .ok (.iaload, 1) := by decide +kernel
theorem dX4_frameAt_6 : decode cX4_frameAt 6 = .ok (.ifCond .le 16, 3) := by decide +kernel
theorem dX4_frameAt_9 : decode cX4_frameAt 9 = .ok (.aload_n 0, 1) := by decide +kernel
theorem dX4_frameAt_10 : decode cX4_frameAt 10 = .ok (.aload_n 0, 1) := by decide +kernel
theorem dX4_frameAt_11 : decode cX4_frameAt 11 = .ok (.getfield 45, 3) := by decide +kernel
theorem dX4_frameAt_14 : decode cX4_frameAt 14 = .ok (.iload_n 1, 1) := by decide +kernel
theorem dX4_frameAt_15 : decode cX4_frameAt 15 = .ok (.iaload, 1) := by decide +kernel
theorem dX4_frameAt_16 : decode cX4_frameAt 16 = .ok (.invokevirtual 83, 3) := by decide +kernel
theorem dX4_frameAt_19 : decode cX4_frameAt 19 = .ok (.goto 4, 3) := by decide +kernel
theorem dX4_frameAt_22 : decode cX4_frameAt 22 = .ok (.iconst (-1), 1) := by decide +kernel
theorem dX4_frameAt_23 : decode cX4_frameAt 23 = .ok (.ireturn, 1) := by decide +kernel
theorem dX4_slotAt_0 : decode cX4_slotAt 0 = .ok (.aload_n 0, 1) := by decide +kernel
theorem dX4_slotAt_1 : decode cX4_slotAt 1 = .ok (.getfield 42, 3) := by decide +kernel
theorem dX4_slotAt_4 : decode cX4_slotAt 4 = .ok (.iload_n 1, 1) := by decide +kernel
theorem dX4_slotAt_5 : decode cX4_slotAt 5 = .ok (.iaload, 1) := by decide +kernel
theorem dX4_slotAt_6 : decode cX4_slotAt 6 = .ok (.ifCond .le 16, 3) := by decide +kernel
theorem dX4_slotAt_9 : decode cX4_slotAt 9 = .ok (.aload_n 0, 1) := by decide +kernel
theorem dX4_slotAt_10 : decode cX4_slotAt 10 = .ok (.aload_n 0, 1) := by decide +kernel
theorem dX4_slotAt_11 : decode cX4_slotAt 11 = .ok (.getfield 45, 3) := by decide +kernel
theorem dX4_slotAt_14 : decode cX4_slotAt 14 = .ok (.iload_n 1, 1) := by decide +kernel
theorem dX4_slotAt_15 : decode cX4_slotAt 15 = .ok (.iaload, 1) := by decide +kernel
theorem dX4_slotAt_16 : decode cX4_slotAt 16 = .ok (.invokevirtual 63, 3) := by decide +kernel
theorem dX4_slotAt_19 : decode cX4_slotAt 19 = .ok (.goto 4, 3) := by decide +kernel
theorem dX4_slotAt_22 : decode cX4_slotAt 22 = .ok (.iconst (-1), 1) := by decide +kernel
theorem dX4_slotAt_23 : decode cX4_slotAt 23 = .ok (.ireturn, 1) := by decide +kernel
theorem dX4_frameOf_0 : decode cX4_frameOf 0 = .ok (.aload_n 0, 1) := by decide +kernel
theorem dX4_frameOf_1 : decode cX4_frameOf 1 = .ok (.iload_n 1, 1) := by decide +kernel
theorem dX4_frameOf_2 : decode cX4_frameOf 2 = .ok (.iload_n 2, 1) := by decide +kernel
theorem dX4_frameOf_3 : decode cX4_frameOf 3 = .ok (.invokevirtual 126, 3) := by decide +kernel
theorem dX4_frameOf_6 : decode cX4_frameOf 6 = .ok (.ifCond .eq 15, 3) := by decide +kernel
theorem dX4_frameOf_9 : decode cX4_frameOf 9 = .ok (.aload_n 0, 1) := by decide +kernel
theorem dX4_frameOf_10 : decode cX4_frameOf 10 = .ok (.iload_n 1, 1) := by decide +kernel
theorem dX4_frameOf_11 : decode cX4_frameOf 11 = .ok (.iload_n 2, 1) := by decide +kernel
theorem dX4_frameOf_12 : decode cX4_frameOf 12 = .ok (.invokestatic 96, 3) := by decide +kernel
theorem dX4_frameOf_15 : decode cX4_frameOf 15 = .ok (.invokevirtual 174, 3) := by decide +kernel
theorem dX4_frameOf_18 : decode cX4_frameOf 18 = .ok (.goto 4, 3) := by decide +kernel
theorem dX4_frameOf_21 : decode cX4_frameOf 21 = .ok (.iconst 0, 1) := by decide +kernel
theorem dX4_frameOf_22 : decode cX4_frameOf 22 = .ok (.ireturn, 1) := by decide +kernel
theorem dX4_slotOf_0 : decode cX4_slotOf 0 = .ok (.aload_n 0, 1) := by decide +kernel
theorem dX4_slotOf_1 : decode cX4_slotOf 1 = .ok (.iload_n 1, 1) := by decide +kernel
theorem dX4_slotOf_2 : decode cX4_slotOf 2 = .ok (.iload_n 2, 1) := by decide +kernel
theorem dX4_slotOf_3 : decode cX4_slotOf 3 = .ok (.invokevirtual 126, 3) := by decide +kernel
theorem dX4_slotOf_6 : decode cX4_slotOf 6 = .ok (.ifCond .eq 15, 3) := by decide +kernel
theorem dX4_slotOf_9 : decode cX4_slotOf 9 = .ok (.aload_n 0, 1) := by decide +kernel
theorem dX4_slotOf_10 : decode cX4_slotOf 10 = .ok (.iload_n 1, 1) := by decide +kernel
theorem dX4_slotOf_11 : decode cX4_slotOf 11 = .ok (.iload_n 2, 1) := by decide +kernel
theorem dX4_slotOf_12 : decode cX4_slotOf 12 = .ok (.invokestatic 96, 3) := by decide +kernel
theorem dX4_slotOf_15 : decode cX4_slotOf 15 = .ok (.invokevirtual 177, 3) := by decide +kernel
theorem dX4_slotOf_18 : decode cX4_slotOf 18 = .ok (.goto 4, 3) := by decide +kernel
theorem dX4_slotOf_21 : decode cX4_slotOf 21 = .ok (.iconst 0, 1) := by decide +kernel
theorem dX4_slotOf_22 : decode cX4_slotOf 22 = .ok (.ireturn, 1) := by decide +kernel
theorem dX4_sharersOf_0 : decode cX4_sharersOf 0 = .ok (.aload_n 0, 1) := by decide +kernel
theorem dX4_sharersOf_1 : decode cX4_sharersOf 1 = .ok (.iload_n 1, 1) := by decide +kernel
theorem dX4_sharersOf_2 : decode cX4_sharersOf 2 = .ok (.iload_n 2, 1) := by decide +kernel
theorem dX4_sharersOf_3 : decode cX4_sharersOf 3 = .ok (.invokevirtual 126, 3) := by decide +kernel
theorem dX4_sharersOf_6 : decode cX4_sharersOf 6 = .ok (.ifCond .eq 33, 3) := by decide +kernel
theorem dX4_sharersOf_9 : decode cX4_sharersOf 9 = .ok (.aload_n 0, 1) := by decide +kernel
theorem dX4_sharersOf_10 : decode cX4_sharersOf 10 = .ok (.getfield 42, 3) := by decide +kernel
theorem dX4_sharersOf_13 : decode cX4_sharersOf 13 = .ok (.iload_n 1, 1) := by decide +kernel
theorem dX4_sharersOf_14 : decode cX4_sharersOf 14 = .ok (.iload_n 2, 1) := by decide +kernel
theorem dX4_sharersOf_15 : decode cX4_sharersOf 15 = .ok (.invokestatic 96, 3) := by decide +kernel
theorem dX4_sharersOf_18 : decode cX4_sharersOf 18 = .ok (.iaload, 1) := by decide +kernel
theorem dX4_sharersOf_19 : decode cX4_sharersOf 19 = .ok (.ifCond .le 20, 3) := by decide +kernel
theorem dX4_sharersOf_22 : decode cX4_sharersOf 22 = .ok (.aload_n 0, 1) := by decide +kernel
theorem dX4_sharersOf_23 : decode cX4_sharersOf 23 = .ok (.aload_n 0, 1) := by decide +kernel
theorem dX4_sharersOf_24 : decode cX4_sharersOf 24 = .ok (.getfield 45, 3) := by decide +kernel
theorem dX4_sharersOf_27 : decode cX4_sharersOf 27 = .ok (.iload_n 1, 1) := by decide +kernel
theorem dX4_sharersOf_28 : decode cX4_sharersOf 28 = .ok (.iload_n 2, 1) := by decide +kernel
theorem dX4_sharersOf_29 : decode cX4_sharersOf 29 = .ok (.invokestatic 96, 3) := by decide +kernel
theorem dX4_sharersOf_32 : decode cX4_sharersOf 32 = .ok (.iaload, 1) := by decide +kernel
theorem dX4_sharersOf_33 : decode cX4_sharersOf 33 = .ok (.invokevirtual 76, 3) := by decide +kernel
theorem dX4_sharersOf_36 : decode cX4_sharersOf 36 = .ok (.goto 4, 3) := by decide +kernel
theorem dX4_sharersOf_39 : decode cX4_sharersOf 39 = .ok (.iconst 0, 1) := by decide +kernel
theorem dX4_sharersOf_40 : decode cX4_sharersOf 40 = .ok (.ireturn, 1) := by decide +kernel
theorem dX4_asksFrame_0 : decode cX4_asksFrame 0 = .ok (.aload_n 0, 1) := by decide +kernel
theorem dX4_asksFrame_1 : decode cX4_asksFrame 1 = .ok (.iload_n 1, 1) := by decide +kernel
theorem dX4_asksFrame_2 : decode cX4_asksFrame 2 = .ok (.ifCond .lt 15, 3) := by decide +kernel
theorem dX4_asksFrame_5 : decode cX4_asksFrame 5 = .ok (.iload_n 1, 1) := by decide +kernel
theorem dX4_asksFrame_6 : decode cX4_asksFrame 6 = .ok (.aload_n 0, 1) := by decide +kernel
theorem dX4_asksFrame_7 : decode cX4_asksFrame 7 = .ok (.getfield 13, 3) := by decide +kernel
theorem dX4_asksFrame_10 : decode cX4_asksFrame 10 = .ok (.if_icmp .ge 7, 3) := by decide +kernel
theorem dX4_asksFrame_13 : decode cX4_asksFrame 13 = .ok (.iconst 0, 1) := by decide +kernel
theorem dX4_asksFrame_14 : decode cX4_asksFrame 14 = .ok (.goto 4, 3) := by decide +kernel
theorem dX4_asksFrame_17 : decode cX4_asksFrame 17 = .ok (.iconst 1, 1) := by decide +kernel
theorem dX4_asksFrame_18 : decode cX4_asksFrame 18 = .ok (.putfield 60, 3) := by decide +kernel
theorem dX4_asksFrame_21 : decode cX4_asksFrame 21 = .ok (.aload_n 0, 1) := by decide +kernel
theorem dX4_asksFrame_22 : decode cX4_asksFrame 22 = .ok (.getfield 60, 3) := by decide +kernel
theorem dX4_asksFrame_25 : decode cX4_asksFrame 25 = .ok (.ifCond .ne 7, 3) := by decide +kernel
theorem dX4_asksFrame_28 : decode cX4_asksFrame 28 = .ok (.iconst 1, 1) := by decide +kernel
theorem dX4_asksFrame_29 : decode cX4_asksFrame 29 = .ok (.goto 4, 3) := by decide +kernel
theorem dX4_asksFrame_32 : decode cX4_asksFrame 32 = .ok (.iconst 0, 1) := by decide +kernel
theorem dX4_asksFrame_33 : decode cX4_asksFrame 33 = .ok (.ireturn, 1) := by decide +kernel
theorem dX4_stateOf_0 : decode cX4_stateOf 0 = .ok (.aload_n 0, 1) := by decide +kernel
theorem dX4_stateOf_1 : decode cX4_stateOf 1 = .ok (.getfield 16, 3) := by decide +kernel
theorem dX4_stateOf_4 : decode cX4_stateOf 4 = .ok (.iload_n 1, 1) := by decide +kernel
theorem dX4_stateOf_5 : decode cX4_stateOf 5 = .ok (.iaload, 1) := by decide +kernel
theorem dX4_stateOf_6 : decode cX4_stateOf 6 = .ok (.iconst (-1), 1) := by decide +kernel
theorem dX4_stateOf_7 : decode cX4_stateOf 7 = .ok (.if_icmp .ne 7, 3) := by decide +kernel
theorem dX4_stateOf_10 : decode cX4_stateOf 10 = .ok (.iconst 0, 1) := by decide +kernel
theorem dX4_stateOf_11 : decode cX4_stateOf 11 = .ok (.goto 21, 3) := by decide +kernel
theorem dX4_stateOf_14 : decode cX4_stateOf 14 = .ok (.aload_n 0, 1) := by decide +kernel
theorem dX4_stateOf_15 : decode cX4_stateOf 15 = .ok (.aload_n 0, 1) := by decide +kernel
theorem dX4_stateOf_16 : decode cX4_stateOf 16 = .ok (.getfield 16, 3) := by decide +kernel
theorem dX4_stateOf_19 : decode cX4_stateOf 19 = .ok (.iload_n 1, 1) := by decide +kernel
theorem dX4_stateOf_20 : decode cX4_stateOf 20 = .ok (.iaload, 1) := by decide +kernel
theorem dX4_stateOf_21 : decode cX4_stateOf 21 = .ok (.invokevirtual 135, 3) := by decide +kernel
theorem dX4_stateOf_24 : decode cX4_stateOf 24 = .ok (.ifCond .eq 7, 3) := by decide +kernel
theorem dX4_stateOf_27 : decode cX4_stateOf 27 = .ok (.iconst 2, 1) := by decide +kernel
theorem dX4_stateOf_28 : decode cX4_stateOf 28 = .ok (.goto 4, 3) := by decide +kernel
theorem dX4_stateOf_31 : decode cX4_stateOf 31 = .ok (.iconst 1, 1) := by decide +kernel
theorem dX4_stateOf_32 : decode cX4_stateOf 32 = .ok (.ireturn, 1) := by decide +kernel
theorem dX4_useOf_0 : decode cX4_useOf 0 = .ok (.aload_n 0, 1) := by decide +kernel
theorem dX4_useOf_1 : decode cX4_useOf 1 = .ok (.getfield 16, 3) := by decide +kernel
theorem dX4_useOf_4 : decode cX4_useOf 4 = .ok (.iload_n 1, 1) := by decide +kernel
theorem dX4_useOf_5 : decode cX4_useOf 5 = .ok (.iaload, 1) := by decide +kernel
theorem dX4_useOf_6 : decode cX4_useOf 6 = .ok (.iconst (-1), 1) := by decide +kernel
theorem dX4_useOf_7 : decode cX4_useOf 7 = .ok (.if_icmp .ne 7, 3) := by decide +kernel
theorem dX4_useOf_10 : decode cX4_useOf 10 = .ok (.iconst (-1), 1) := by decide +kernel
theorem dX4_useOf_11 : decode cX4_useOf 11 = .ok (.goto 9, 3) := by decide +kernel
theorem dX4_useOf_14 : decode cX4_useOf 14 = .ok (.aload_n 0, 1) := by decide +kernel
theorem dX4_useOf_15 : decode cX4_useOf 15 = .ok (.getfield 20, 3) := by decide +kernel
theorem dX4_useOf_18 : decode cX4_useOf 18 = .ok (.iload_n 1, 1) := by decide +kernel
theorem dX4_useOf_19 : decode cX4_useOf 19 = .ok (.iaload, 1) := by decide +kernel
theorem dX4_useOf_20 : decode cX4_useOf 20 = .ok (.ireturn, 1) := by decide +kernel
theorem dX4_frameState_0 : decode cX4_frameState 0 = .ok (.aload_n 0, 1) := by decide +kernel
theorem dX4_frameState_1 : decode cX4_frameState 1 = .ok (.iload_n 1, 1) := by decide +kernel
theorem dX4_frameState_2 : decode cX4_frameState 2 = .ok (.invokevirtual 180, 3) := by decide +kernel
theorem dX4_frameState_5 : decode cX4_frameState 5 = .ok (.ifCond .eq 11, 3) := by decide +kernel
theorem dX4_frameState_8 : decode cX4_frameState 8 = .ok (.aload_n 0, 1) := by decide +kernel
theorem dX4_frameState_9 : decode cX4_frameState 9 = .ok (.iload_n 1, 1) := by decide +kernel
theorem dX4_frameState_10 : decode cX4_frameState 10 = .ok (.invokevirtual 183, 3) := by decide +kernel
theorem dX4_frameState_13 : decode cX4_frameState 13 = .ok (.goto 4, 3) := by decide +kernel
theorem dX4_frameState_16 : decode cX4_frameState 16 = .ok (.iconst 0, 1) := by decide +kernel
theorem dX4_frameState_17 : decode cX4_frameState 17 = .ok (.ireturn, 1) := by decide +kernel
theorem dX4_latestUse_0 : decode cX4_latestUse 0 = .ok (.aload_n 0, 1) := by decide +kernel
theorem dX4_latestUse_1 : decode cX4_latestUse 1 = .ok (.iload_n 1, 1) := by decide +kernel
theorem dX4_latestUse_2 : decode cX4_latestUse 2 = .ok (.invokevirtual 180, 3) := by decide +kernel
theorem dX4_latestUse_5 : decode cX4_latestUse 5 = .ok (.ifCond .eq 11, 3) := by decide +kernel
theorem dX4_latestUse_8 : decode cX4_latestUse 8 = .ok (.aload_n 0, 1) := by decide +kernel
theorem dX4_latestUse_9 : decode cX4_latestUse 9 = .ok (.iload_n 1, 1) := by decide +kernel
theorem dX4_latestUse_10 : decode cX4_latestUse 10 = .ok (.invokevirtual 186, 3) := by decide +kernel
theorem dX4_latestUse_13 : decode cX4_latestUse 13 = .ok (.goto 4, 3) := by decide +kernel
theorem dX4_latestUse_16 : decode cX4_latestUse 16 = .ok (.iconst 0, 1) := by decide +kernel
theorem dX4_latestUse_17 : decode cX4_latestUse 17 = .ok (.ireturn, 1) := by decide +kernel
theorem dX4_isReferenced_0 : decode cX4_isReferenced 0 = .ok (.aload_n 0, 1) := by decide +kernel
theorem dX4_isReferenced_1 : decode cX4_isReferenced 1 = .ok (.iload_n 1, 1) := by decide +kernel
theorem dX4_isReferenced_2 : decode cX4_isReferenced 2 = .ok (.invokevirtual 180, 3) := by decide +kernel
theorem dX4_isReferenced_5 : decode cX4_isReferenced 5 = .ok (.ifCond .eq 26, 3) := by decide +kernel
theorem dX4_isReferenced_8 : decode cX4_isReferenced 8 = .ok (.aload_n 0, 1) := by decide +kernel
theorem dX4_isReferenced_9 : decode cX4_isReferenced 9 = .ok (.getfield 16, 3) := by decide +kernel
theorem dX4_isReferenced_12 : decode cX4_isReferenced 12 = .ok (.iload_n 1, 1) := by decide +kernel
theorem dX4_isReferenced_13 : decode cX4_isReferenced 13 = .ok (.iaload, 1) := by decide +kernel
theorem dX4_isReferenced_14 : decode cX4_isReferenced 14 = .ok (.iconst (-1), 1) := by decide +kernel
theorem dX4_isReferenced_15 : decode cX4_isReferenced 15 = .ok (.if_icmp .eq 16, 3) := by decide +kernel
theorem dX4_isReferenced_18 : decode cX4_isReferenced 18 = .ok (.aload_n 0, 1) := by decide +kernel
theorem dX4_isReferenced_19 : decode cX4_isReferenced 19 = .ok (.getfield 23, 3) := by decide +kernel
theorem dX4_isReferenced_22 : decode cX4_isReferenced 22 = .ok (.iload_n 1, 1) := by decide +kernel
theorem dX4_isReferenced_23 : decode cX4_isReferenced 23 = .ok (.baload, 1) := by decide +kernel
theorem dX4_isReferenced_24 : decode cX4_isReferenced 24 = .ok (.ifCond .eq 7, 3) := by decide +kernel
theorem dX4_isReferenced_27 : decode cX4_isReferenced 27 = .ok (.iconst 1, 1) := by decide +kernel
theorem dX4_isReferenced_28 : decode cX4_isReferenced 28 = .ok (.goto 4, 3) := by decide +kernel
theorem dX4_isReferenced_31 : decode cX4_isReferenced 31 = .ok (.iconst 0, 1) := by decide +kernel
theorem dX4_isReferenced_32 : decode cX4_isReferenced 32 = .ok (.ireturn, 1) := by decide +kernel
theorem dX4_freeFrames_0 : decode cX4_freeFrames 0 = .ok (.aload_n 0, 1) := by decide +kernel
theorem dX4_freeFrames_1 : decode cX4_freeFrames 1 = .ok (.iconst 0, 1) := by decide +kernel
theorem dX4_freeFrames_2 : decode cX4_freeFrames 2 = .ok (.putfield 60, 3) := by decide +kernel
theorem dX4_freeFrames_5 : decode cX4_freeFrames 5 = .ok (.aload_n 0, 1) := by decide +kernel
theorem dX4_freeFrames_6 : decode cX4_freeFrames 6 = .ok (.getfield 13, 3) := by decide +kernel
theorem dX4_freeFrames_9 : decode cX4_freeFrames 9 = .ok (.aload_n 0, 1) := by decide +kernel
theorem dX4_freeFrames_10 : decode cX4_freeFrames 10 = .ok (.invokevirtual 89, 3) := by decide +kernel
theorem dX4_freeFrames_13 : decode cX4_freeFrames 13 = .ok (.isub, 1) := by decide +kernel
theorem dX4_freeFrames_14 : decode cX4_freeFrames 14 = .ok (.ireturn, 1) := by decide +kernel
theorem dX4_slotsLeft_0 : decode cX4_slotsLeft 0 = .ok (.iconst 0, 1) := by decide +kernel
theorem dX4_slotsLeft_1 : decode cX4_slotsLeft 1 = .ok (.istore_n 1, 1) := by decide +kernel
theorem dX4_slotsLeft_2 : decode cX4_slotsLeft 2 = .ok (.iconst 0, 1) := by decide +kernel
theorem dX4_slotsLeft_3 : decode cX4_slotsLeft 3 = .ok (.istore_n 2, 1) := by decide +kernel
theorem dX4_slotsLeft_4 : decode cX4_slotsLeft 4 = .ok (.iload_n 2, 1) := by decide +kernel
theorem dX4_slotsLeft_5 : decode cX4_slotsLeft 5 = .ok (.bipush 24, 2) := by decide +kernel
theorem dX4_slotsLeft_7 : decode cX4_slotsLeft 7 = .ok (.if_icmp .ge 27, 3) := by decide +kernel
theorem dX4_slotsLeft_10 : decode cX4_slotsLeft 10 = .ok (.iload_n 1, 1) := by decide +kernel
theorem dX4_slotsLeft_11 : decode cX4_slotsLeft 11 = .ok (.aload_n 0, 1) := by decide +kernel
theorem dX4_slotsLeft_12 : decode cX4_slotsLeft 12 = .ok (.getfield 27, 3) := by decide +kernel
theorem dX4_slotsLeft_15 : decode cX4_slotsLeft 15 = .ok (.iload_n 2, 1) := by decide +kernel
theorem dX4_slotsLeft_16 : decode cX4_slotsLeft 16 = .ok (.iaload, 1) := by decide +kernel
theorem dX4_slotsLeft_17 : decode cX4_slotsLeft 17 = .ok (.iconst (-1), 1) := by decide +kernel
theorem dX4_slotsLeft_18 : decode cX4_slotsLeft 18 = .ok (.if_icmp .ne 7, 3) := by decide +kernel
theorem dX4_slotsLeft_21 : decode cX4_slotsLeft 21 = .ok (.iconst 1, 1) := by decide +kernel
theorem dX4_slotsLeft_22 : decode cX4_slotsLeft 22 = .ok (.goto 4, 3) := by decide +kernel
theorem dX4_slotsLeft_25 : decode cX4_slotsLeft 25 = .ok (.iconst 0, 1) := by decide +kernel
theorem dX4_slotsLeft_26 : decode cX4_slotsLeft 26 = .ok (.iadd, 1) := by decide +kernel
theorem dX4_slotsLeft_27 : decode cX4_slotsLeft 27 = .ok (.istore_n 1, 1) := by decide +kernel
theorem dX4_slotsLeft_28 : decode cX4_slotsLeft 28 = .ok (.iinc 2 1, 3) := by decide +kernel
theorem dX4_slotsLeft_31 : decode cX4_slotsLeft 31 = .ok (.goto (-27), 3) := by decide +kernel
theorem dX4_slotsLeft_34 : decode cX4_slotsLeft 34 = .ok (.iload_n 1, 1) := by decide +kernel
theorem dX4_slotsLeft_35 : decode cX4_slotsLeft 35 = .ok (.ireturn, 1) := by decide +kernel
theorem dX4_freeSlots_0 : decode cX4_freeSlots 0 = .ok (.aload_n 0, 1) := by decide +kernel
theorem dX4_freeSlots_1 : decode cX4_freeSlots 1 = .ok (.iconst 0, 1) := by decide +kernel
theorem dX4_freeSlots_2 : decode cX4_freeSlots 2 = .ok (.putfield 60, 3) := by decide +kernel
theorem dX4_freeSlots_5 : decode cX4_freeSlots 5 = .ok (.aload_n 0, 1) := by decide +kernel
theorem dX4_freeSlots_6 : decode cX4_freeSlots 6 = .ok (.invokevirtual 189, 3) := by decide +kernel
theorem dX4_freeSlots_9 : decode cX4_freeSlots 9 = .ok (.ireturn, 1) := by decide +kernel
theorem dX4_workingSet_0 : decode cX4_workingSet 0 = .ok (.aload_n 0, 1) := by decide +kernel
theorem dX4_workingSet_1 : decode cX4_workingSet 1 = .ok (.aload_n 0, 1) := by decide +kernel
theorem dX4_workingSet_2 : decode cX4_workingSet 2 = .ok (.iload_n 1, 1) := by decide +kernel
theorem dX4_workingSet_3 : decode cX4_workingSet 3 = .ok (.invokevirtual 100, 3) := by decide +kernel
theorem dX4_workingSet_6 : decode cX4_workingSet 6 = .ok (.ifCond .eq 7, 3) := by decide +kernel
theorem dX4_workingSet_9 : decode cX4_workingSet 9 = .ok (.iconst 0, 1) := by decide +kernel
theorem dX4_workingSet_10 : decode cX4_workingSet 10 = .ok (.goto 4, 3) := by decide +kernel
theorem dX4_workingSet_13 : decode cX4_workingSet 13 = .ok (.iconst 1, 1) := by decide +kernel
theorem dX4_workingSet_14 : decode cX4_workingSet 14 = .ok (.putfield 60, 3) := by decide +kernel
theorem dX4_workingSet_17 : decode cX4_workingSet 17 = .ok (.iconst 0, 1) := by decide +kernel
theorem dX4_workingSet_18 : decode cX4_workingSet 18 = .ok (.istore_n 2, 1) := by decide +kernel
theorem dX4_workingSet_19 : decode cX4_workingSet 19 = .ok (.iconst 0, 1) := by decide +kernel
theorem dX4_workingSet_20 : decode cX4_workingSet 20 = .ok (.istore_n 3, 1) := by decide +kernel
theorem dX4_workingSet_21 : decode cX4_workingSet 21 = .ok (.iload_n 3, 1) := by decide +kernel
theorem dX4_workingSet_22 : decode cX4_workingSet 22 = .ok (.bipush 16, 2) := by decide +kernel
theorem dX4_workingSet_24 : decode cX4_workingSet 24 = .ok (.if_icmp .ge 60, 3) := by decide +kernel
theorem dX4_workingSet_27 : decode cX4_workingSet 27 = .ok (.aload_n 0, 1) := by decide +kernel
theorem dX4_workingSet_28 : decode cX4_workingSet 28 = .ok (.getfield 60, 3) := by decide +kernel
theorem dX4_workingSet_31 : decode cX4_workingSet 31 = .ok (.ifCond .ne 53, 3) := by decide +kernel
theorem dX4_workingSet_34 : decode cX4_workingSet 34 = .ok (.aload_n 0, 1) := by decide +kernel
theorem dX4_workingSet_35 : decode cX4_workingSet 35 = .ok (.iload_n 1, 1) := by decide +kernel
theorem dX4_workingSet_36 : decode cX4_workingSet 36 = .ok (.iload_n 3, 1) := by decide +kernel
theorem dX4_workingSet_37 : decode cX4_workingSet 37 = .ok (.invokestatic 96, 3) := by decide +kernel
theorem dX4_workingSet_40 : decode cX4_workingSet 40 = .ok (.invokevirtual 174, 3) := by decide +kernel
theorem dX4_workingSet_43 : decode cX4_workingSet 43 = .ok (.istore 4, 2) := by decide +kernel
theorem dX4_workingSet_45 : decode cX4_workingSet 45 = .ok (.iload_n 2, 1) := by decide +kernel
theorem dX4_workingSet_46 : decode cX4_workingSet 46 = .ok (.iload 4, 2) := by decide +kernel
theorem dX4_workingSet_48 : decode cX4_workingSet 48 = .ok (.iconst (-1), 1) := by decide +kernel
theorem dX4_workingSet_49 : decode cX4_workingSet 49 = .ok (.if_icmp .eq 26, 3) := by decide +kernel
theorem dX4_workingSet_52 : decode cX4_workingSet 52 = .ok (.aload_n 0, 1) := by decide +kernel
theorem dX4_workingSet_53 : decode cX4_workingSet 53 = .ok (.getfield 147, 3) := by decide +kernel
theorem dX4_workingSet_56 : decode cX4_workingSet 56 = .ok (.aload_n 0, 1) := by decide +kernel
theorem dX4_workingSet_57 : decode cX4_workingSet 57 = .ok (.getfield 20, 3) := by decide +kernel
theorem dX4_workingSet_60 : decode cX4_workingSet 60 = .ok (.iload 4, 2) := by decide +kernel
theorem dX4_workingSet_62 : decode cX4_workingSet 62 = .ok (.iaload, 1) := by decide +kernel
theorem dX4_workingSet_63 : decode cX4_workingSet 63 = .ok (.isub, 1) := by decide +kernel
theorem dX4_workingSet_64 : decode cX4_workingSet 64 = .ok (.aload_n 0, 1) := by decide +kernel
theorem dX4_workingSet_65 : decode cX4_workingSet 65 = .ok (.getfield 7, 3) := by decide +kernel
theorem dX4_workingSet_68 : decode cX4_workingSet 68 = .ok (.if_icmp .gt 7, 3) := by decide +kernel
theorem dX4_workingSet_71 : decode cX4_workingSet 71 = .ok (.iconst 1, 1) := by decide +kernel
theorem dX4_workingSet_72 : decode cX4_workingSet 72 = .ok (.goto 4, 3) := by decide +kernel
theorem dX4_workingSet_75 : decode cX4_workingSet 75 = .ok (.iconst 0, 1) := by decide +kernel
theorem dX4_workingSet_76 : decode cX4_workingSet 76 = .ok (.iadd, 1) := by decide +kernel
theorem dX4_workingSet_77 : decode cX4_workingSet 77 = .ok (.istore_n 2, 1) := by decide +kernel
theorem dX4_workingSet_78 : decode cX4_workingSet 78 = .ok (.iinc 3 1, 3) := by decide +kernel
theorem dX4_workingSet_81 : decode cX4_workingSet 81 = .ok (.goto (-60), 3) := by decide +kernel
theorem dX4_workingSet_84 : decode cX4_workingSet 84 = .ok (.iload_n 2, 1) := by decide +kernel
theorem dX4_workingSet_85 : decode cX4_workingSet 85 = .ok (.ireturn, 1) := by decide +kernel
theorem dX4_count_0 : decode cX4_count 0 = .ok (.aload_n 0, 1) := by decide +kernel
theorem dX4_count_1 : decode cX4_count 1 = .ok (.iconst 0, 1) := by decide +kernel
theorem dX4_count_2 : decode cX4_count 2 = .ok (.putfield 60, 3) := by decide +kernel
theorem dX4_count_5 : decode cX4_count 5 = .ok (.iload_n 1, 1) := by decide +kernel
theorem dX4_count_6 : decode cX4_count 6 = .ok (.ifCond .lt 17, 3) := by decide +kernel
theorem dX4_count_9 : decode cX4_count 9 = .ok (.iload_n 1, 1) := by decide +kernel
theorem dX4_count_10 : decode cX4_count 10 = .ok (.iconst 5, 1) := by decide +kernel
theorem dX4_count_11 : decode cX4_count 11 = .ok (.if_icmp .gt 12, 3) := by decide +kernel
theorem dX4_count_14 : decode cX4_count 14 = .ok (.aload_n 0, 1) := by decide +kernel
theorem dX4_count_15 : decode cX4_count 15 = .ok (.getfield 54, 3) := by decide +kernel
theorem dX4_count_18 : decode cX4_count 18 = .ok (.iload_n 1, 1) := by decide +kernel
theorem dX4_count_19 : decode cX4_count 19 = .ok (.iaload, 1) := by decide +kernel
theorem dX4_count_20 : decode cX4_count 20 = .ok (.goto 8, 3) := by decide +kernel
theorem dX4_count_23 : decode cX4_count 23 = .ok (.aload_n 0, 1) := by decide +kernel
theorem dX4_count_24 : decode cX4_count 24 = .ok (.iconst 1, 1) := by decide +kernel
theorem dX4_count_25 : decode cX4_count 25 = .ok (.invokevirtual 86, 3) := by decide +kernel
theorem dX4_count_28 : decode cX4_count 28 = .ok (.ireturn, 1) := by decide +kernel
theorem dX4_swapRate_0 : decode cX4_swapRate 0 = .ok (.aload_n 0, 1) := by decide +kernel
theorem dX4_swapRate_1 : decode cX4_swapRate 1 = .ok (.iconst 0, 1) := by decide +kernel
theorem dX4_swapRate_2 : decode cX4_swapRate 2 = .ok (.putfield 60, 3) := by decide +kernel
theorem dX4_swapRate_5 : decode cX4_swapRate 5 = .ok (.aload_n 0, 1) := by decide +kernel
theorem dX4_swapRate_6 : decode cX4_swapRate 6 = .ok (.getfield 147, 3) := by decide +kernel
theorem dX4_swapRate_9 : decode cX4_swapRate 9 = .ok (.ifCond .ne 7, 3) := by decide +kernel
theorem dX4_swapRate_12 : decode cX4_swapRate 12 = .ok (.dconst 0, 1) := by decide +kernel
theorem dX4_swapRate_13 : decode cX4_swapRate 13 = .ok (.goto 16, 3) := by decide +kernel
theorem dX4_swapRate_16 : decode cX4_swapRate 16 = .ok (.aload_n 0, 1) := by decide +kernel
theorem dX4_swapRate_17 : decode cX4_swapRate 17 = .ok (.getfield 54, 3) := by decide +kernel
theorem dX4_swapRate_20 : decode cX4_swapRate 20 = .ok (.iconst 1, 1) := by decide +kernel
theorem dX4_swapRate_21 : decode cX4_swapRate 21 = .ok (.iaload, 1) := by decide +kernel
theorem dX4_swapRate_22 : decode cX4_swapRate 22 = .ok (.i2d, 1) := by decide +kernel
theorem dX4_swapRate_23 : decode cX4_swapRate 23 = .ok (.aload_n 0, 1) := by decide +kernel
theorem dX4_swapRate_24 : decode cX4_swapRate 24 = .ok (.getfield 147, 3) := by decide +kernel
theorem dX4_swapRate_27 : decode cX4_swapRate 27 = .ok (.i2d, 1) := by decide +kernel
theorem dX4_swapRate_28 : decode cX4_swapRate 28 = .ok (.ddiv, 1) := by decide +kernel
theorem dX4_swapRate_29 : decode cX4_swapRate 29 = .ok (.dreturn, 1) := by decide +kernel
theorem dX4_digest_0 : decode cX4_digest 0 = .ok (.aload_n 0, 1) := by decide +kernel
theorem dX4_digest_1 : decode cX4_digest 1 = .ok (.iconst 0, 1) := by decide +kernel
theorem dX4_digest_2 : decode cX4_digest 2 = .ok (.putfield 60, 3) := by decide +kernel
theorem dX4_digest_5 : decode cX4_digest 5 = .ok (.ldc2_w 192, 3) := by decide +kernel
theorem dX4_digest_8 : decode cX4_digest 8 = .ok (.aload_n 0, 1) := by decide +kernel
theorem dX4_digest_9 : decode cX4_digest 9 = .ok (.getfield 147, 3) := by decide +kernel
theorem dX4_digest_12 : decode cX4_digest 12 = .ok (.i2l, 1) := by decide +kernel
theorem dX4_digest_13 : decode cX4_digest 13 = .ok (.ladd, 1) := by decide +kernel
theorem dX4_digest_14 : decode cX4_digest 14 = .ok (.ldc2_w 194, 3) := by decide +kernel
theorem dX4_digest_17 : decode cX4_digest 17 = .ok (.lmul, 1) := by decide +kernel
theorem dX4_digest_18 : decode cX4_digest 18 = .ok (.aload_n 0, 1) := by decide +kernel
theorem dX4_digest_19 : decode cX4_digest 19 = .ok (.getfield 93, 3) := by decide +kernel
theorem dX4_digest_22 : decode cX4_digest 22 = .ok (.i2l, 1) := by decide +kernel
theorem dX4_digest_23 : decode cX4_digest 23 = .ok (.ladd, 1) := by decide +kernel
theorem dX4_digest_24 : decode cX4_digest 24 = .ok (.ldc2_w 194, 3) := by decide +kernel
theorem dX4_digest_27 : decode cX4_digest 27 = .ok (.lmul, 1) := by decide +kernel
theorem dX4_digest_28 : decode cX4_digest 28 = .ok (.aload_n 0, 1) := by decide +kernel
theorem dX4_digest_29 : decode cX4_digest 29 = .ok (.getfield 67, 3) := by decide +kernel
theorem dX4_digest_32 : decode cX4_digest 32 = .ok (.i2l, 1) := by decide +kernel
theorem dX4_digest_33 : decode cX4_digest 33 = .ok (.ladd, 1) := by decide +kernel
theorem dX4_digest_34 : decode cX4_digest 34 = .ok (.lstore_n 1, 1) := by decide +kernel
theorem dX4_digest_35 : decode cX4_digest 35 = .ok (.iconst 0, 1) := by decide +kernel
theorem dX4_digest_36 : decode cX4_digest 36 = .ok (.istore_n 3, 1) := by decide +kernel
theorem dX4_digest_37 : decode cX4_digest 37 = .ok (.iload_n 3, 1) := by decide +kernel
theorem dX4_digest_38 : decode cX4_digest 38 = .ok (.aload_n 0, 1) := by decide +kernel
theorem dX4_digest_39 : decode cX4_digest 39 = .ok (.getfield 67, 3) := by decide +kernel
theorem dX4_digest_42 : decode cX4_digest 42 = .ok (.if_icmp .ge 93, 3) := by decide +kernel
theorem dX4_digest_45 : decode cX4_digest 45 = .ok (.lload_n 1, 1) := by decide +kernel
theorem dX4_digest_46 : decode cX4_digest 46 = .ok (.ldc2_w 194, 3) := by decide +kernel
theorem dX4_digest_49 : decode cX4_digest 49 = .ok (.lmul, 1) := by decide +kernel
theorem dX4_digest_50 : decode cX4_digest 50 = .ok (.aload_n 0, 1) := by decide +kernel
theorem dX4_digest_51 : decode cX4_digest 51 = .ok (.getfield 39, 3) := by decide +kernel
theorem dX4_digest_54 : decode cX4_digest 54 = .ok (.iload_n 3, 1) := by decide +kernel
theorem dX4_digest_55 : decode cX4_digest 55 = .ok (.baload, 1) := by decide +kernel
theorem dX4_digest_56 : decode cX4_digest 56 = .ok (.ifCond .eq 7, 3) := by decide +kernel
theorem dX4_digest_59 : decode cX4_digest 59 = .ok (.lconst 1, 1) := by decide +kernel
theorem dX4_digest_60 : decode cX4_digest 60 = .ok (.goto 4, 3) := by decide +kernel
theorem dX4_digest_63 : decode cX4_digest 63 = .ok (.lconst 0, 1) := by decide +kernel
theorem dX4_digest_64 : decode cX4_digest 64 = .ok (.ladd, 1) := by decide +kernel
theorem dX4_digest_65 : decode cX4_digest 65 = .ok (.lstore_n 1, 1) := by decide +kernel
theorem dX4_digest_66 : decode cX4_digest 66 = .ok (.iload_n 3, 1) := by decide +kernel
theorem dX4_digest_67 : decode cX4_digest 67 = .ok (.iconst 0, 1) := by decide +kernel
theorem dX4_digest_68 : decode cX4_digest 68 = .ok (.invokestatic 96, 3) := by decide +kernel
theorem dX4_digest_71 : decode cX4_digest 71 = .ok (.istore 4, 2) := by decide +kernel
theorem dX4_digest_73 : decode cX4_digest 73 = .ok (.iload 4, 2) := by decide +kernel
theorem dX4_digest_75 : decode cX4_digest 75 = .ok (.iload_n 3, 1) := by decide +kernel
theorem dX4_digest_76 : decode cX4_digest 76 = .ok (.bipush 16, 2) := by decide +kernel
theorem dX4_digest_78 : decode cX4_digest 78 = .ok (.invokestatic 96, 3) := by decide +kernel
theorem dX4_digest_81 : decode cX4_digest 81 = .ok (.if_icmp .ge 48, 3) := by decide +kernel
theorem dX4_digest_84 : decode cX4_digest 84 = .ok (.lload_n 1, 1) := by decide +kernel
theorem dX4_digest_85 : decode cX4_digest 85 = .ok (.ldc2_w 194, 3) := by decide +kernel
theorem dX4_digest_88 : decode cX4_digest 88 = .ok (.lmul, 1) := by decide +kernel
theorem dX4_digest_89 : decode cX4_digest 89 = .ok (.aload_n 0, 1) := by decide +kernel
theorem dX4_digest_90 : decode cX4_digest 90 = .ok (.getfield 42, 3) := by decide +kernel
theorem dX4_digest_93 : decode cX4_digest 93 = .ok (.iload 4, 2) := by decide +kernel
theorem dX4_digest_95 : decode cX4_digest 95 = .ok (.iaload, 1) := by decide +kernel
theorem dX4_digest_96 : decode cX4_digest 96 = .ok (.i2l, 1) := by decide +kernel
theorem dX4_digest_97 : decode cX4_digest 97 = .ok (.ladd, 1) := by decide +kernel
theorem dX4_digest_98 : decode cX4_digest 98 = .ok (.ldc2_w 194, 3) := by decide +kernel
theorem dX4_digest_101 : decode cX4_digest 101 = .ok (.lmul, 1) := by decide +kernel
theorem dX4_digest_102 : decode cX4_digest 102 = .ok (.aload_n 0, 1) := by decide +kernel
theorem dX4_digest_103 : decode cX4_digest 103 = .ok (.iload 4, 2) := by decide +kernel
theorem dX4_digest_105 : decode cX4_digest 105 = .ok (.invokevirtual 174, 3) := by decide +kernel
theorem dX4_digest_108 : decode cX4_digest 108 = .ok (.i2l, 1) := by decide +kernel
theorem dX4_digest_109 : decode cX4_digest 109 = .ok (.ladd, 1) := by decide +kernel
theorem dX4_digest_110 : decode cX4_digest 110 = .ok (.ldc2_w 194, 3) := by decide +kernel
theorem dX4_digest_113 : decode cX4_digest 113 = .ok (.lmul, 1) := by decide +kernel
theorem dX4_digest_114 : decode cX4_digest 114 = .ok (.aload_n 0, 1) := by decide +kernel
theorem dX4_digest_115 : decode cX4_digest 115 = .ok (.iload 4, 2) := by decide +kernel
theorem dX4_digest_117 : decode cX4_digest 117 = .ok (.invokevirtual 177, 3) := by decide +kernel
theorem dX4_digest_120 : decode cX4_digest 120 = .ok (.i2l, 1) := by decide +kernel
theorem dX4_digest_121 : decode cX4_digest 121 = .ok (.ladd, 1) := by decide +kernel
theorem dX4_digest_122 : decode cX4_digest 122 = .ok (.lstore_n 1, 1) := by decide +kernel
theorem dX4_digest_123 : decode cX4_digest 123 = .ok (.iinc 4 1, 3) := by decide +kernel
theorem dX4_digest_126 : decode cX4_digest 126 = .ok (.goto (-53), 3) := by decide +kernel
theorem dX4_digest_129 : decode cX4_digest 129 = .ok (.iinc 3 1, 3) := by decide +kernel
theorem dX4_digest_132 : decode cX4_digest 132 = .ok (.goto (-95), 3) := by decide +kernel
theorem dX4_digest_135 : decode cX4_digest 135 = .ok (.iconst 0, 1) := by decide +kernel
theorem dX4_digest_136 : decode cX4_digest 136 = .ok (.istore_n 3, 1) := by decide +kernel
theorem dX4_digest_137 : decode cX4_digest 137 = .ok (.iload_n 3, 1) := by decide +kernel
theorem dX4_digest_138 : decode cX4_digest 138 = .ok (.aload_n 0, 1) := by decide +kernel
theorem dX4_digest_139 : decode cX4_digest 139 = .ok (.getfield 13, 3) := by decide +kernel
theorem dX4_digest_142 : decode cX4_digest 142 = .ok (.if_icmp .ge 62, 3) := by decide +kernel
theorem dX4_digest_145 : decode cX4_digest 145 = .ok (.lload_n 1, 1) := by decide +kernel
theorem dX4_digest_146 : decode cX4_digest 146 = .ok (.ldc2_w 194, 3) := by decide +kernel
theorem dX4_digest_149 : decode cX4_digest 149 = .ok (.lmul, 1) := by decide +kernel
theorem dX4_digest_150 : decode cX4_digest 150 = .ok (.aload_n 0, 1) := by decide +kernel
theorem dX4_digest_151 : decode cX4_digest 151 = .ok (.iload_n 3, 1) := by decide +kernel
theorem dX4_digest_152 : decode cX4_digest 152 = .ok (.invokevirtual 183, 3) := by decide +kernel
theorem dX4_digest_155 : decode cX4_digest 155 = .ok (.i2l, 1) := by decide +kernel
theorem dX4_digest_156 : decode cX4_digest 156 = .ok (.ladd, 1) := by decide +kernel
theorem dX4_digest_157 : decode cX4_digest 157 = .ok (.ldc2_w 194, 3) := by decide +kernel
theorem dX4_digest_160 : decode cX4_digest 160 = .ok (.lmul, 1) := by decide +kernel
theorem dX4_digest_161 : decode cX4_digest 161 = .ok (.aload_n 0, 1) := by decide +kernel
theorem dX4_digest_162 : decode cX4_digest 162 = .ok (.iload_n 3, 1) := by decide +kernel
theorem dX4_digest_163 : decode cX4_digest 163 = .ok (.invokevirtual 186, 3) := by decide +kernel
theorem dX4_digest_166 : decode cX4_digest 166 = .ok (.i2l, 1) := by decide +kernel
theorem dX4_digest_167 : decode cX4_digest 167 = .ok (.ladd, 1) := by decide +kernel
theorem dX4_digest_168 : decode cX4_digest 168 = .ok (.ldc2_w 194, 3) := by decide +kernel
theorem dX4_digest_171 : decode cX4_digest 171 = .ok (.lmul, 1) := by decide +kernel
theorem dX4_digest_172 : decode cX4_digest 172 = .ok (.aload_n 0, 1) := by decide +kernel
theorem dX4_digest_173 : decode cX4_digest 173 = .ok (.getfield 16, 3) := by decide +kernel
theorem dX4_digest_176 : decode cX4_digest 176 = .ok (.iload_n 3, 1) := by decide +kernel
theorem dX4_digest_177 : decode cX4_digest 177 = .ok (.iaload, 1) := by decide +kernel
theorem dX4_digest_178 : decode cX4_digest 178 = .ok (.iconst (-1), 1) := by decide +kernel
theorem dX4_digest_179 : decode cX4_digest 179 = .ok (.if_icmp .eq 16, 3) := by decide +kernel
theorem dX4_digest_182 : decode cX4_digest 182 = .ok (.aload_n 0, 1) := by decide +kernel
theorem dX4_digest_183 : decode cX4_digest 183 = .ok (.getfield 23, 3) := by decide +kernel
theorem dX4_digest_186 : decode cX4_digest 186 = .ok (.iload_n 3, 1) := by decide +kernel
theorem dX4_digest_187 : decode cX4_digest 187 = .ok (.baload, 1) := by decide +kernel
theorem dX4_digest_188 : decode cX4_digest 188 = .ok (.ifCond .eq 7, 3) := by decide +kernel
theorem dX4_digest_191 : decode cX4_digest 191 = .ok (.lconst 1, 1) := by decide +kernel
theorem dX4_digest_192 : decode cX4_digest 192 = .ok (.goto 4, 3) := by decide +kernel
theorem dX4_digest_195 : decode cX4_digest 195 = .ok (.lconst 0, 1) := by decide +kernel
theorem dX4_digest_196 : decode cX4_digest 196 = .ok (.ladd, 1) := by decide +kernel
theorem dX4_digest_197 : decode cX4_digest 197 = .ok (.lstore_n 1, 1) := by decide +kernel
theorem dX4_digest_198 : decode cX4_digest 198 = .ok (.iinc 3 1, 3) := by decide +kernel
theorem dX4_digest_201 : decode cX4_digest 201 = .ok (.goto (-64), 3) := by decide +kernel
theorem dX4_digest_204 : decode cX4_digest 204 = .ok (.lload_n 1, 1) := by decide +kernel
theorem dX4_digest_205 : decode cX4_digest 205 = .ok (.ldc2_w 194, 3) := by decide +kernel
theorem dX4_digest_208 : decode cX4_digest 208 = .ok (.lmul, 1) := by decide +kernel
theorem dX4_digest_209 : decode cX4_digest 209 = .ok (.aload_n 0, 1) := by decide +kernel
theorem dX4_digest_210 : decode cX4_digest 210 = .ok (.invokevirtual 189, 3) := by decide +kernel
theorem dX4_digest_213 : decode cX4_digest 213 = .ok (.i2l, 1) := by decide +kernel
theorem dX4_digest_214 : decode cX4_digest 214 = .ok (.ladd, 1) := by decide +kernel
theorem dX4_digest_215 : decode cX4_digest 215 = .ok (.lstore_n 1, 1) := by decide +kernel
theorem dX4_digest_216 : decode cX4_digest 216 = .ok (.iconst 0, 1) := by decide +kernel
theorem dX4_digest_217 : decode cX4_digest 217 = .ok (.istore_n 3, 1) := by decide +kernel
theorem dX4_digest_218 : decode cX4_digest 218 = .ok (.iload_n 3, 1) := by decide +kernel
theorem dX4_digest_219 : decode cX4_digest 219 = .ok (.aload_n 0, 1) := by decide +kernel
theorem dX4_digest_220 : decode cX4_digest 220 = .ok (.getfield 54, 3) := by decide +kernel
theorem dX4_digest_223 : decode cX4_digest 223 = .ok (.arraylength, 1) := by decide +kernel
theorem dX4_digest_224 : decode cX4_digest 224 = .ok (.if_icmp .ge 23, 3) := by decide +kernel
theorem dX4_digest_227 : decode cX4_digest 227 = .ok (.lload_n 1, 1) := by decide +kernel
theorem dX4_digest_228 : decode cX4_digest 228 = .ok (.ldc2_w 194, 3) := by decide +kernel
theorem dX4_digest_231 : decode cX4_digest 231 = .ok (.lmul, 1) := by decide +kernel
theorem dX4_digest_232 : decode cX4_digest 232 = .ok (.aload_n 0, 1) := by decide +kernel
theorem dX4_digest_233 : decode cX4_digest 233 = .ok (.getfield 54, 3) := by decide +kernel
theorem dX4_digest_236 : decode cX4_digest 236 = .ok (.iload_n 3, 1) := by decide +kernel
theorem dX4_digest_237 : decode cX4_digest 237 = .ok (.iaload, 1) := by decide +kernel
theorem dX4_digest_238 : decode cX4_digest 238 = .ok (.i2l, 1) := by decide +kernel
theorem dX4_digest_239 : decode cX4_digest 239 = .ok (.ladd, 1) := by decide +kernel
theorem dX4_digest_240 : decode cX4_digest 240 = .ok (.lstore_n 1, 1) := by decide +kernel
theorem dX4_digest_241 : decode cX4_digest 241 = .ok (.iinc 3 1, 3) := by decide +kernel
theorem dX4_digest_244 : decode cX4_digest 244 = .ok (.goto (-26), 3) := by decide +kernel
theorem dX4_digest_247 : decode cX4_digest 247 = .ok (.lload_n 1, 1) := by decide +kernel
theorem dX4_digest_248 : decode cX4_digest 248 = .ok (.lreturn, 1) := by decide +kernel
theorem dL_setFrames_0 : decode cL_setFrames 0 = .ok (.aload_n 2, 1) := by decide +kernel
theorem dL_setFrames_1 : decode cL_setFrames 1 = .ok (.iconst 0, 1) := by decide +kernel
theorem dL_setFrames_2 : decode cL_setFrames 2 = .ok (.aload_n 0, 1) := by decide +kernel
theorem dL_setFrames_3 : decode cL_setFrames 3 = .ok (.iload_n 1, 1) := by decide +kernel
theorem dL_setFrames_4 : decode cL_setFrames 4 = .ok (.invokevirtual 7, 3) := by decide +kernel
theorem dL_setFrames_7 : decode cL_setFrames 7 = .ok (.i2l, 1) := by decide +kernel
theorem dL_setFrames_8 : decode cL_setFrames 8 = .ok (.lastore, 1) := by decide +kernel
theorem dL_setFrames_9 : decode cL_setFrames 9 = .ok (.goto 9, 3) := by decide +kernel
theorem dL_setFrames_12 : decode cL_setFrames 12 = .ok (.astore_n 3, 1) := by decide +kernel
theorem dL_setFrames_13 : decode cL_setFrames 13 = .ok (.iconst 1, 1) := by decide +kernel
theorem dL_setFrames_14 : decode cL_setFrames 14 = .ok (.ireturn, 1) := by decide +kernel
theorem dL_setFrames_15 : decode cL_setFrames 15 = .ok (.astore_n 3, 1) := by decide +kernel
theorem dL_setFrames_16 : decode cL_setFrames 16 = .ok (.iconst 2, 1) := by decide +kernel
end
section
theorem dL_setFrames_17 : decode cL_setFrames 17 = .ok (.ireturn, 1) := by decide +kernel
theorem dL_setFrames_18 : decode cL_setFrames 18 = .ok (.iconst 0, 1) := by decide +kernel
theorem dL_setFrames_19 : decode cL_setFrames 19 = .ok (.ireturn, 1) := by decide +kernel
theorem dL_setWindow_0 : decode cL_setWindow 0 = .ok (.aload_n 2, 1) := by decide +kernel
theorem dL_setWindow_1 : decode cL_setWindow 1 = .ok (.iconst 0, 1) := by decide +kernel
theorem dL_setWindow_2 : decode cL_setWindow 2 = .ok (.aload_n 0, 1) := by decide +kernel
theorem dL_setWindow_3 : decode cL_setWindow 3 = .ok (.iload_n 1, 1) := by decide +kernel
theorem dL_setWindow_4 : decode cL_setWindow 4 = .ok (.invokevirtual 17, 3) := by decide +kernel
theorem dL_setWindow_7 : decode cL_setWindow 7 = .ok (.i2l, 1) := by decide +kernel
theorem dL_setWindow_8 : decode cL_setWindow 8 = .ok (.lastore, 1) := by decide +kernel
theorem dL_setWindow_9 : decode cL_setWindow 9 = .ok (.goto 6, 3) := by decide +kernel
theorem dL_setWindow_12 : decode cL_setWindow 12 = .ok (.astore_n 3, 1) := by decide +kernel
theorem dL_setWindow_13 : decode cL_setWindow 13 = .ok (.iconst 1, 1) := by decide +kernel
theorem dL_setWindow_14 : decode cL_setWindow 14 = .ok (.ireturn, 1) := by decide +kernel
theorem dL_setWindow_15 : decode cL_setWindow 15 = .ok (.iconst 0, 1) := by decide +kernel
theorem dL_setWindow_16 : decode cL_setWindow 16 = .ok (.ireturn, 1) := by decide +kernel
theorem dL_start_0 : decode cL_start 0 = .ok (.aload_n 1, 1) := by decide +kernel
theorem dL_start_1 : decode cL_start 1 = .ok (.iconst 0, 1) := by decide +kernel
theorem dL_start_2 : decode cL_start 2 = .ok (.aload_n 0, 1) := by decide +kernel
theorem dL_start_3 : decode cL_start 3 = .ok (.invokevirtual 20, 3) := by decide +kernel
theorem dL_start_6 : decode cL_start 6 = .ok (.i2l, 1) := by decide +kernel
theorem dL_start_7 : decode cL_start 7 = .ok (.lastore, 1) := by decide +kernel
theorem dL_start_8 : decode cL_start 8 = .ok (.goto 6, 3) := by decide +kernel
theorem dL_start_11 : decode cL_start 11 = .ok (.astore_n 2, 1) := by decide +kernel
theorem dL_start_12 : decode cL_start 12 = .ok (.iconst 1, 1) := by decide +kernel
theorem dL_start_13 : decode cL_start 13 = .ok (.ireturn, 1) := by decide +kernel
theorem dL_start_14 : decode cL_start 14 = .ok (.iconst 0, 1) := by decide +kernel
theorem dL_start_15 : decode cL_start 15 = .ok (.ireturn, 1) := by decide +kernel
theorem dL_fork_0 : decode cL_fork 0 = .ok (.aload_n 2, 1) := by decide +kernel
theorem dL_fork_1 : decode cL_fork 1 = .ok (.iconst 0, 1) := by decide +kernel
theorem dL_fork_2 : decode cL_fork 2 = .ok (.aload_n 0, 1) := by decide +kernel
theorem dL_fork_3 : decode cL_fork 3 = .ok (.iload_n 1, 1) := by decide +kernel
theorem dL_fork_4 : decode cL_fork 4 = .ok (.invokevirtual 24, 3) := by decide +kernel
theorem dL_fork_7 : decode cL_fork 7 = .ok (.i2l, 1) := by decide +kernel
theorem dL_fork_8 : decode cL_fork 8 = .ok (.lastore, 1) := by decide +kernel
theorem dL_fork_9 : decode cL_fork 9 = .ok (.goto 12, 3) := by decide +kernel
theorem dL_fork_12 : decode cL_fork 12 = .ok (.astore_n 3, 1) := by decide +kernel
theorem dL_fork_13 : decode cL_fork 13 = .ok (.iconst 1, 1) := by decide +kernel
theorem dL_fork_14 : decode cL_fork 14 = .ok (.ireturn, 1) := by decide +kernel
theorem dL_fork_15 : decode cL_fork 15 = .ok (.astore_n 3, 1) := by decide +kernel
theorem dL_fork_16 : decode cL_fork 16 = .ok (.iconst 2, 1) := by decide +kernel
theorem dL_fork_17 : decode cL_fork 17 = .ok (.ireturn, 1) := by decide +kernel
theorem dL_fork_18 : decode cL_fork 18 = .ok (.astore_n 3, 1) := by decide +kernel
theorem dL_fork_19 : decode cL_fork 19 = .ok (.iconst 3, 1) := by decide +kernel
theorem dL_fork_20 : decode cL_fork 20 = .ok (.ireturn, 1) := by decide +kernel
theorem dL_fork_21 : decode cL_fork 21 = .ok (.iconst 0, 1) := by decide +kernel
theorem dL_fork_22 : decode cL_fork 22 = .ok (.ireturn, 1) := by decide +kernel
theorem dL_exit_0 : decode cL_exit 0 = .ok (.aload_n 2, 1) := by decide +kernel
theorem dL_exit_1 : decode cL_exit 1 = .ok (.iconst 0, 1) := by decide +kernel
theorem dL_exit_2 : decode cL_exit 2 = .ok (.aload_n 0, 1) := by decide +kernel
theorem dL_exit_3 : decode cL_exit 3 = .ok (.iload_n 1, 1) := by decide +kernel
theorem dL_exit_4 : decode cL_exit 4 = .ok (.invokevirtual 31, 3) := by decide +kernel
theorem dL_exit_7 : decode cL_exit 7 = .ok (.i2l, 1) := by decide +kernel
theorem dL_exit_8 : decode cL_exit 8 = .ok (.lastore, 1) := by decide +kernel
theorem dL_exit_9 : decode cL_exit 9 = .ok (.goto 9, 3) := by decide +kernel
theorem dL_exit_12 : decode cL_exit 12 = .ok (.astore_n 3, 1) := by decide +kernel
theorem dL_exit_13 : decode cL_exit 13 = .ok (.iconst 1, 1) := by decide +kernel
theorem dL_exit_14 : decode cL_exit 14 = .ok (.ireturn, 1) := by decide +kernel
theorem dL_exit_15 : decode cL_exit 15 = .ok (.astore_n 3, 1) := by decide +kernel
theorem dL_exit_16 : decode cL_exit 16 = .ok (.iconst 2, 1) := by decide +kernel
theorem dL_exit_17 : decode cL_exit 17 = .ok (.ireturn, 1) := by decide +kernel
theorem dL_exit_18 : decode cL_exit 18 = .ok (.iconst 0, 1) := by decide +kernel
theorem dL_exit_19 : decode cL_exit 19 = .ok (.ireturn, 1) := by decide +kernel
theorem dL_map_0 : decode cL_map 0 = .ok (.aload_n 3, 1) := by decide +kernel
theorem dL_map_1 : decode cL_map 1 = .ok (.iconst 0, 1) := by decide +kernel
theorem dL_map_2 : decode cL_map 2 = .ok (.aload_n 0, 1) := by decide +kernel
theorem dL_map_3 : decode cL_map 3 = .ok (.iload_n 1, 1) := by decide +kernel
theorem dL_map_4 : decode cL_map 4 = .ok (.iload_n 2, 1) := by decide +kernel
theorem dL_map_5 : decode cL_map 5 = .ok (.invokevirtual 34, 3) := by decide +kernel
theorem dL_map_8 : decode cL_map 8 = .ok (.i2l, 1) := by decide +kernel
theorem dL_map_9 : decode cL_map 9 = .ok (.lastore, 1) := by decide +kernel
theorem dL_map_10 : decode cL_map 10 = .ok (.goto 15, 3) := by decide +kernel
theorem dL_map_13 : decode cL_map 13 = .ok (.astore 4, 2) := by decide +kernel
theorem dL_map_15 : decode cL_map 15 = .ok (.iconst 1, 1) := by decide +kernel
theorem dL_map_16 : decode cL_map 16 = .ok (.ireturn, 1) := by decide +kernel
theorem dL_map_17 : decode cL_map 17 = .ok (.astore 4, 2) := by decide +kernel
theorem dL_map_19 : decode cL_map 19 = .ok (.iconst 2, 1) := by decide +kernel
theorem dL_map_20 : decode cL_map 20 = .ok (.ireturn, 1) := by decide +kernel
theorem dL_map_21 : decode cL_map 21 = .ok (.astore 4, 2) := by decide +kernel
theorem dL_map_23 : decode cL_map 23 = .ok (.iconst 3, 1) := by decide +kernel
theorem dL_map_24 : decode cL_map 24 = .ok (.ireturn, 1) := by decide +kernel
theorem dL_map_25 : decode cL_map 25 = .ok (.iconst 0, 1) := by decide +kernel
theorem dL_map_26 : decode cL_map 26 = .ok (.ireturn, 1) := by decide +kernel
theorem dL_createSegment_0 : decode cL_createSegment 0 = .ok (.aload_n 2, 1) := by decide +kernel
theorem dL_createSegment_1 : decode cL_createSegment 1 = .ok (.iconst 0, 1) := by decide +kernel
theorem dL_createSegment_2 : decode cL_createSegment 2 = .ok (.aload_n 0, 1) := by decide +kernel
theorem dL_createSegment_3 : decode cL_createSegment 3 = .ok (.iload_n 1, 1) := by decide +kernel
theorem dL_createSegment_4 : decode cL_createSegment 4 = .ok (.invokevirtual 38, 3) := by decide +kernel
theorem dL_createSegment_7 : decode cL_createSegment 7 = .ok (.i2l, 1) := by decide +kernel
theorem dL_createSegment_8 : decode cL_createSegment 8 = .ok (.lastore, 1) := by decide +kernel
theorem dL_createSegment_9 : decode cL_createSegment 9 = .ok (.goto 9, 3) := by decide +kernel
theorem dL_createSegment_12 : decode cL_createSegment 12 = .ok (.astore_n 3, 1) := by decide +kernel
theorem dL_createSegment_13 : decode cL_createSegment 13 = .ok (.iconst 1, 1) := by decide +kernel
theorem dL_createSegment_14 : decode cL_createSegment 14 = .ok (.ireturn, 1) := by decide +kernel
theorem dL_createSegment_15 : decode cL_createSegment 15 = .ok (.astore_n 3, 1) := by decide +kernel
theorem dL_createSegment_16 : decode cL_createSegment 16 = .ok (.iconst 2, 1) := by decide +kernel
theorem dL_createSegment_17 : decode cL_createSegment 17 = .ok (.ireturn, 1) := by decide +kernel
theorem dL_createSegment_18 : decode cL_createSegment 18 = .ok (.iconst 0, 1) := by decide +kernel
theorem dL_createSegment_19 : decode cL_createSegment 19 = .ok (.ireturn, 1) := by decide +kernel
theorem dL_attach_0 : decode cL_attach 0 = .ok (.aload 5, 2) := by decide +kernel
theorem dL_attach_2 : decode cL_attach 2 = .ok (.iconst 0, 1) := by decide +kernel
theorem dL_attach_3 : decode cL_attach 3 = .ok (.aload_n 0, 1) := by decide +kernel
theorem dL_attach_4 : decode cL_attach 4 = .ok (.iload_n 1, 1) := by decide +kernel
theorem dL_attach_5 : decode cL_attach 5 = .ok (.iload_n 2, 1) := by decide +kernel
theorem dL_attach_6 : decode cL_attach 6 = .ok (.iload_n 3, 1) := by decide +kernel
theorem dL_attach_7 : decode cL_attach 7 = .ok (.iload 4, 2) := by decide +kernel
theorem dL_attach_9 : decode cL_attach 9 = .ok (.invokevirtual 41, 3) := by decide +kernel
theorem dL_attach_12 : decode cL_attach 12 = .ok (.i2l, 1) := by decide +kernel
theorem dL_attach_13 : decode cL_attach 13 = .ok (.lastore, 1) := by decide +kernel
theorem dL_attach_14 : decode cL_attach 14 = .ok (.goto 15, 3) := by decide +kernel
theorem dL_attach_17 : decode cL_attach 17 = .ok (.astore 6, 2) := by decide +kernel
theorem dL_attach_19 : decode cL_attach 19 = .ok (.iconst 1, 1) := by decide +kernel
theorem dL_attach_20 : decode cL_attach 20 = .ok (.ireturn, 1) := by decide +kernel
theorem dL_attach_21 : decode cL_attach 21 = .ok (.astore 6, 2) := by decide +kernel
theorem dL_attach_23 : decode cL_attach 23 = .ok (.iconst 2, 1) := by decide +kernel
theorem dL_attach_24 : decode cL_attach 24 = .ok (.ireturn, 1) := by decide +kernel
theorem dL_attach_25 : decode cL_attach 25 = .ok (.astore 6, 2) := by decide +kernel
theorem dL_attach_27 : decode cL_attach 27 = .ok (.iconst 3, 1) := by decide +kernel
theorem dL_attach_28 : decode cL_attach 28 = .ok (.ireturn, 1) := by decide +kernel
theorem dL_attach_29 : decode cL_attach 29 = .ok (.iconst 0, 1) := by decide +kernel
theorem dL_attach_30 : decode cL_attach 30 = .ok (.ireturn, 1) := by decide +kernel
theorem dL_unmap_0 : decode cL_unmap 0 = .ok (.aload_n 3, 1) := by decide +kernel
theorem dL_unmap_1 : decode cL_unmap 1 = .ok (.iconst 0, 1) := by decide +kernel
theorem dL_unmap_2 : decode cL_unmap 2 = .ok (.aload_n 0, 1) := by decide +kernel
theorem dL_unmap_3 : decode cL_unmap 3 = .ok (.iload_n 1, 1) := by decide +kernel
theorem dL_unmap_4 : decode cL_unmap 4 = .ok (.iload_n 2, 1) := by decide +kernel
theorem dL_unmap_5 : decode cL_unmap 5 = .ok (.invokevirtual 45, 3) := by decide +kernel
theorem dL_unmap_8 : decode cL_unmap 8 = .ok (.ifCond .eq 7, 3) := by decide +kernel
theorem dL_unmap_11 : decode cL_unmap 11 = .ok (.lconst 1, 1) := by decide +kernel
theorem dL_unmap_12 : decode cL_unmap 12 = .ok (.goto 4, 3) := by decide +kernel
theorem dL_unmap_15 : decode cL_unmap 15 = .ok (.lconst 0, 1) := by decide +kernel
theorem dL_unmap_16 : decode cL_unmap 16 = .ok (.lastore, 1) := by decide +kernel
theorem dL_unmap_17 : decode cL_unmap 17 = .ok (.goto 15, 3) := by decide +kernel
theorem dL_unmap_20 : decode cL_unmap 20 = .ok (.astore 4, 2) := by decide +kernel
theorem dL_unmap_22 : decode cL_unmap 22 = .ok (.iconst 1, 1) := by decide +kernel
theorem dL_unmap_23 : decode cL_unmap 23 = .ok (.ireturn, 1) := by decide +kernel
theorem dL_unmap_24 : decode cL_unmap 24 = .ok (.astore 4, 2) := by decide +kernel
theorem dL_unmap_26 : decode cL_unmap 26 = .ok (.iconst 2, 1) := by decide +kernel
theorem dL_unmap_27 : decode cL_unmap 27 = .ok (.ireturn, 1) := by decide +kernel
theorem dL_unmap_28 : decode cL_unmap 28 = .ok (.astore 4, 2) := by decide +kernel
theorem dL_unmap_30 : decode cL_unmap 30 = .ok (.iconst 3, 1) := by decide +kernel
theorem dL_unmap_31 : decode cL_unmap 31 = .ok (.ireturn, 1) := by decide +kernel
theorem dL_unmap_32 : decode cL_unmap 32 = .ok (.iconst 0, 1) := by decide +kernel
theorem dL_unmap_33 : decode cL_unmap 33 = .ok (.ireturn, 1) := by decide +kernel
theorem dL_isLive_0 : decode cL_isLive 0 = .ok (.aload_n 2, 1) := by decide +kernel
theorem dL_isLive_1 : decode cL_isLive 1 = .ok (.iconst 0, 1) := by decide +kernel
theorem dL_isLive_2 : decode cL_isLive 2 = .ok (.aload_n 0, 1) := by decide +kernel
theorem dL_isLive_3 : decode cL_isLive 3 = .ok (.iload_n 1, 1) := by decide +kernel
theorem dL_isLive_4 : decode cL_isLive 4 = .ok (.invokevirtual 49, 3) := by decide +kernel
theorem dL_isLive_7 : decode cL_isLive 7 = .ok (.ifCond .eq 7, 3) := by decide +kernel
theorem dL_isLive_10 : decode cL_isLive 10 = .ok (.lconst 1, 1) := by decide +kernel
theorem dL_isLive_11 : decode cL_isLive 11 = .ok (.goto 4, 3) := by decide +kernel
theorem dL_isLive_14 : decode cL_isLive 14 = .ok (.lconst 0, 1) := by decide +kernel
theorem dL_isLive_15 : decode cL_isLive 15 = .ok (.lastore, 1) := by decide +kernel
theorem dL_isLive_16 : decode cL_isLive 16 = .ok (.goto 6, 3) := by decide +kernel
theorem dL_isLive_19 : decode cL_isLive 19 = .ok (.astore_n 3, 1) := by decide +kernel
theorem dL_isLive_20 : decode cL_isLive 20 = .ok (.iconst 1, 1) := by decide +kernel
theorem dL_isLive_21 : decode cL_isLive 21 = .ok (.ireturn, 1) := by decide +kernel
theorem dL_isLive_22 : decode cL_isLive 22 = .ok (.iconst 0, 1) := by decide +kernel
theorem dL_isLive_23 : decode cL_isLive 23 = .ok (.ireturn, 1) := by decide +kernel
theorem dL_mapping_0 : decode cL_mapping 0 = .ok (.aload_n 3, 1) := by decide +kernel
theorem dL_mapping_1 : decode cL_mapping 1 = .ok (.iconst 0, 1) := by decide +kernel
theorem dL_mapping_2 : decode cL_mapping 2 = .ok (.aload_n 0, 1) := by decide +kernel
theorem dL_mapping_3 : decode cL_mapping 3 = .ok (.iload_n 1, 1) := by decide +kernel
theorem dL_mapping_4 : decode cL_mapping 4 = .ok (.iload_n 2, 1) := by decide +kernel
theorem dL_mapping_5 : decode cL_mapping 5 = .ok (.invokevirtual 53, 3) := by decide +kernel
theorem dL_mapping_8 : decode cL_mapping 8 = .ok (.i2l, 1) := by decide +kernel
theorem dL_mapping_9 : decode cL_mapping 9 = .ok (.lastore, 1) := by decide +kernel
theorem dL_mapping_10 : decode cL_mapping 10 = .ok (.goto 7, 3) := by decide +kernel
theorem dL_mapping_13 : decode cL_mapping 13 = .ok (.astore 4, 2) := by decide +kernel
theorem dL_mapping_15 : decode cL_mapping 15 = .ok (.iconst 1, 1) := by decide +kernel
theorem dL_mapping_16 : decode cL_mapping 16 = .ok (.ireturn, 1) := by decide +kernel
theorem dL_mapping_17 : decode cL_mapping 17 = .ok (.iconst 0, 1) := by decide +kernel
theorem dL_mapping_18 : decode cL_mapping 18 = .ok (.ireturn, 1) := by decide +kernel
theorem dL_read_0 : decode cL_read 0 = .ok (.aload_n 3, 1) := by decide +kernel
theorem dL_read_1 : decode cL_read 1 = .ok (.iconst 0, 1) := by decide +kernel
theorem dL_read_2 : decode cL_read 2 = .ok (.aload_n 0, 1) := by decide +kernel
theorem dL_read_3 : decode cL_read 3 = .ok (.iload_n 1, 1) := by decide +kernel
theorem dL_read_4 : decode cL_read 4 = .ok (.iload_n 2, 1) := by decide +kernel
theorem dL_read_5 : decode cL_read 5 = .ok (.invokevirtual 56, 3) := by decide +kernel
theorem dL_read_8 : decode cL_read 8 = .ok (.i2l, 1) := by decide +kernel
theorem dL_read_9 : decode cL_read 9 = .ok (.lastore, 1) := by decide +kernel
theorem dL_read_10 : decode cL_read 10 = .ok (.goto 19, 3) := by decide +kernel
theorem dL_read_13 : decode cL_read 13 = .ok (.astore 4, 2) := by decide +kernel
theorem dL_read_15 : decode cL_read 15 = .ok (.iconst 1, 1) := by decide +kernel
theorem dL_read_16 : decode cL_read 16 = .ok (.ireturn, 1) := by decide +kernel
theorem dL_read_17 : decode cL_read 17 = .ok (.astore 4, 2) := by decide +kernel
theorem dL_read_19 : decode cL_read 19 = .ok (.iconst 2, 1) := by decide +kernel
theorem dL_read_20 : decode cL_read 20 = .ok (.ireturn, 1) := by decide +kernel
theorem dL_read_21 : decode cL_read 21 = .ok (.astore 4, 2) := by decide +kernel
theorem dL_read_23 : decode cL_read 23 = .ok (.iconst 3, 1) := by decide +kernel
theorem dL_read_24 : decode cL_read 24 = .ok (.ireturn, 1) := by decide +kernel
theorem dL_read_25 : decode cL_read 25 = .ok (.astore 4, 2) := by decide +kernel
theorem dL_read_27 : decode cL_read 27 = .ok (.iconst 4, 1) := by decide +kernel
theorem dL_read_28 : decode cL_read 28 = .ok (.ireturn, 1) := by decide +kernel
theorem dL_read_29 : decode cL_read 29 = .ok (.iconst 0, 1) := by decide +kernel
theorem dL_read_30 : decode cL_read 30 = .ok (.ireturn, 1) := by decide +kernel
theorem dL_write_0 : decode cL_write 0 = .ok (.aload 4, 2) := by decide +kernel
theorem dL_write_2 : decode cL_write 2 = .ok (.iconst 0, 1) := by decide +kernel
theorem dL_write_3 : decode cL_write 3 = .ok (.aload_n 0, 1) := by decide +kernel
theorem dL_write_4 : decode cL_write 4 = .ok (.iload_n 1, 1) := by decide +kernel
theorem dL_write_5 : decode cL_write 5 = .ok (.iload_n 2, 1) := by decide +kernel
theorem dL_write_6 : decode cL_write 6 = .ok (.iload_n 3, 1) := by decide +kernel
theorem dL_write_7 : decode cL_write 7 = .ok (.invokevirtual 59, 3) := by decide +kernel
theorem dL_write_10 : decode cL_write 10 = .ok (.i2l, 1) := by decide +kernel
theorem dL_write_11 : decode cL_write 11 = .ok (.lastore, 1) := by decide +kernel
theorem dL_write_12 : decode cL_write 12 = .ok (.goto 19, 3) := by decide +kernel
theorem dL_write_15 : decode cL_write 15 = .ok (.astore 5, 2) := by decide +kernel
theorem dL_write_17 : decode cL_write 17 = .ok (.iconst 1, 1) := by decide +kernel
theorem dL_write_18 : decode cL_write 18 = .ok (.ireturn, 1) := by decide +kernel
theorem dL_write_19 : decode cL_write 19 = .ok (.astore 5, 2) := by decide +kernel
theorem dL_write_21 : decode cL_write 21 = .ok (.iconst 2, 1) := by decide +kernel
theorem dL_write_22 : decode cL_write 22 = .ok (.ireturn, 1) := by decide +kernel
theorem dL_write_23 : decode cL_write 23 = .ok (.astore 5, 2) := by decide +kernel
theorem dL_write_25 : decode cL_write 25 = .ok (.iconst 3, 1) := by decide +kernel
theorem dL_write_26 : decode cL_write 26 = .ok (.ireturn, 1) := by decide +kernel
theorem dL_write_27 : decode cL_write 27 = .ok (.astore 5, 2) := by decide +kernel
theorem dL_write_29 : decode cL_write 29 = .ok (.iconst 4, 1) := by decide +kernel
theorem dL_write_30 : decode cL_write 30 = .ok (.ireturn, 1) := by decide +kernel
theorem dL_write_31 : decode cL_write 31 = .ok (.iconst 0, 1) := by decide +kernel
theorem dL_write_32 : decode cL_write 32 = .ok (.ireturn, 1) := by decide +kernel
theorem dL_frameOf_0 : decode cL_frameOf 0 = .ok (.aload_n 3, 1) := by decide +kernel
theorem dL_frameOf_1 : decode cL_frameOf 1 = .ok (.iconst 0, 1) := by decide +kernel
theorem dL_frameOf_2 : decode cL_frameOf 2 = .ok (.aload_n 0, 1) := by decide +kernel
theorem dL_frameOf_3 : decode cL_frameOf 3 = .ok (.iload_n 1, 1) := by decide +kernel
theorem dL_frameOf_4 : decode cL_frameOf 4 = .ok (.iload_n 2, 1) := by decide +kernel
theorem dL_frameOf_5 : decode cL_frameOf 5 = .ok (.invokevirtual 63, 3) := by decide +kernel
theorem dL_frameOf_8 : decode cL_frameOf 8 = .ok (.i2l, 1) := by decide +kernel
theorem dL_frameOf_9 : decode cL_frameOf 9 = .ok (.lastore, 1) := by decide +kernel
theorem dL_frameOf_10 : decode cL_frameOf 10 = .ok (.goto 7, 3) := by decide +kernel
theorem dL_frameOf_13 : decode cL_frameOf 13 = .ok (.astore 4, 2) := by decide +kernel
theorem dL_frameOf_15 : decode cL_frameOf 15 = .ok (.iconst 1, 1) := by decide +kernel
theorem dL_frameOf_16 : decode cL_frameOf 16 = .ok (.ireturn, 1) := by decide +kernel
theorem dL_frameOf_17 : decode cL_frameOf 17 = .ok (.iconst 0, 1) := by decide +kernel
theorem dL_frameOf_18 : decode cL_frameOf 18 = .ok (.ireturn, 1) := by decide +kernel
theorem dL_slotOf_0 : decode cL_slotOf 0 = .ok (.aload_n 3, 1) := by decide +kernel
theorem dL_slotOf_1 : decode cL_slotOf 1 = .ok (.iconst 0, 1) := by decide +kernel
theorem dL_slotOf_2 : decode cL_slotOf 2 = .ok (.aload_n 0, 1) := by decide +kernel
theorem dL_slotOf_3 : decode cL_slotOf 3 = .ok (.iload_n 1, 1) := by decide +kernel
theorem dL_slotOf_4 : decode cL_slotOf 4 = .ok (.iload_n 2, 1) := by decide +kernel
theorem dL_slotOf_5 : decode cL_slotOf 5 = .ok (.invokevirtual 66, 3) := by decide +kernel
theorem dL_slotOf_8 : decode cL_slotOf 8 = .ok (.i2l, 1) := by decide +kernel
theorem dL_slotOf_9 : decode cL_slotOf 9 = .ok (.lastore, 1) := by decide +kernel
theorem dL_slotOf_10 : decode cL_slotOf 10 = .ok (.goto 7, 3) := by decide +kernel
theorem dL_slotOf_13 : decode cL_slotOf 13 = .ok (.astore 4, 2) := by decide +kernel
theorem dL_slotOf_15 : decode cL_slotOf 15 = .ok (.iconst 1, 1) := by decide +kernel
theorem dL_slotOf_16 : decode cL_slotOf 16 = .ok (.ireturn, 1) := by decide +kernel
theorem dL_slotOf_17 : decode cL_slotOf 17 = .ok (.iconst 0, 1) := by decide +kernel
theorem dL_slotOf_18 : decode cL_slotOf 18 = .ok (.ireturn, 1) := by decide +kernel
theorem dL_sharersOf_0 : decode cL_sharersOf 0 = .ok (.aload_n 3, 1) := by decide +kernel
theorem dL_sharersOf_1 : decode cL_sharersOf 1 = .ok (.iconst 0, 1) := by decide +kernel
theorem dL_sharersOf_2 : decode cL_sharersOf 2 = .ok (.aload_n 0, 1) := by decide +kernel
theorem dL_sharersOf_3 : decode cL_sharersOf 3 = .ok (.iload_n 1, 1) := by decide +kernel
theorem dL_sharersOf_4 : decode cL_sharersOf 4 = .ok (.iload_n 2, 1) := by decide +kernel
theorem dL_sharersOf_5 : decode cL_sharersOf 5 = .ok (.invokevirtual 69, 3) := by decide +kernel
theorem dL_sharersOf_8 : decode cL_sharersOf 8 = .ok (.i2l, 1) := by decide +kernel
theorem dL_sharersOf_9 : decode cL_sharersOf 9 = .ok (.lastore, 1) := by decide +kernel
theorem dL_sharersOf_10 : decode cL_sharersOf 10 = .ok (.goto 7, 3) := by decide +kernel
theorem dL_sharersOf_13 : decode cL_sharersOf 13 = .ok (.astore 4, 2) := by decide +kernel
theorem dL_sharersOf_15 : decode cL_sharersOf 15 = .ok (.iconst 1, 1) := by decide +kernel
theorem dL_sharersOf_16 : decode cL_sharersOf 16 = .ok (.ireturn, 1) := by decide +kernel
theorem dL_sharersOf_17 : decode cL_sharersOf 17 = .ok (.iconst 0, 1) := by decide +kernel
theorem dL_sharersOf_18 : decode cL_sharersOf 18 = .ok (.ireturn, 1) := by decide +kernel
theorem dL_frameState_0 : decode cL_frameState 0 = .ok (.aload_n 2, 1) := by decide +kernel
theorem dL_frameState_1 : decode cL_frameState 1 = .ok (.iconst 0, 1) := by decide +kernel
theorem dL_frameState_2 : decode cL_frameState 2 = .ok (.aload_n 0, 1) := by decide +kernel
theorem dL_frameState_3 : decode cL_frameState 3 = .ok (.iload_n 1, 1) := by decide +kernel
theorem dL_frameState_4 : decode cL_frameState 4 = .ok (.invokevirtual 72, 3) := by decide +kernel
theorem dL_frameState_7 : decode cL_frameState 7 = .ok (.i2l, 1) := by decide +kernel
theorem dL_frameState_8 : decode cL_frameState 8 = .ok (.lastore, 1) := by decide +kernel
theorem dL_frameState_9 : decode cL_frameState 9 = .ok (.goto 6, 3) := by decide +kernel
theorem dL_frameState_12 : decode cL_frameState 12 = .ok (.astore_n 3, 1) := by decide +kernel
theorem dL_frameState_13 : decode cL_frameState 13 = .ok (.iconst 1, 1) := by decide +kernel
theorem dL_frameState_14 : decode cL_frameState 14 = .ok (.ireturn, 1) := by decide +kernel
theorem dL_frameState_15 : decode cL_frameState 15 = .ok (.iconst 0, 1) := by decide +kernel
theorem dL_frameState_16 : decode cL_frameState 16 = .ok (.ireturn, 1) := by decide +kernel
theorem dL_latestUse_0 : decode cL_latestUse 0 = .ok (.aload_n 2, 1) := by decide +kernel
theorem dL_latestUse_1 : decode cL_latestUse 1 = .ok (.iconst 0, 1) := by decide +kernel
theorem dL_latestUse_2 : decode cL_latestUse 2 = .ok (.aload_n 0, 1) := by decide +kernel
theorem dL_latestUse_3 : decode cL_latestUse 3 = .ok (.iload_n 1, 1) := by decide +kernel
theorem dL_latestUse_4 : decode cL_latestUse 4 = .ok (.invokevirtual 75, 3) := by decide +kernel
theorem dL_latestUse_7 : decode cL_latestUse 7 = .ok (.i2l, 1) := by decide +kernel
theorem dL_latestUse_8 : decode cL_latestUse 8 = .ok (.lastore, 1) := by decide +kernel
theorem dL_latestUse_9 : decode cL_latestUse 9 = .ok (.goto 6, 3) := by decide +kernel
theorem dL_latestUse_12 : decode cL_latestUse 12 = .ok (.astore_n 3, 1) := by decide +kernel
theorem dL_latestUse_13 : decode cL_latestUse 13 = .ok (.iconst 1, 1) := by decide +kernel
theorem dL_latestUse_14 : decode cL_latestUse 14 = .ok (.ireturn, 1) := by decide +kernel
theorem dL_latestUse_15 : decode cL_latestUse 15 = .ok (.iconst 0, 1) := by decide +kernel
theorem dL_latestUse_16 : decode cL_latestUse 16 = .ok (.ireturn, 1) := by decide +kernel
theorem dL_isReferenced_0 : decode cL_isReferenced 0 = .ok (.aload_n 2, 1) := by decide +kernel
theorem dL_isReferenced_1 : decode cL_isReferenced 1 = .ok (.iconst 0, 1) := by decide +kernel
theorem dL_isReferenced_2 : decode cL_isReferenced 2 = .ok (.aload_n 0, 1) := by decide +kernel
theorem dL_isReferenced_3 : decode cL_isReferenced 3 = .ok (.iload_n 1, 1) := by decide +kernel
theorem dL_isReferenced_4 : decode cL_isReferenced 4 = .ok (.invokevirtual 78, 3) := by decide +kernel
theorem dL_isReferenced_7 : decode cL_isReferenced 7 = .ok (.ifCond .eq 7, 3) := by decide +kernel
theorem dL_isReferenced_10 : decode cL_isReferenced 10 = .ok (.lconst 1, 1) := by decide +kernel
theorem dL_isReferenced_11 : decode cL_isReferenced 11 = .ok (.goto 4, 3) := by decide +kernel
theorem dL_isReferenced_14 : decode cL_isReferenced 14 = .ok (.lconst 0, 1) := by decide +kernel
theorem dL_isReferenced_15 : decode cL_isReferenced 15 = .ok (.lastore, 1) := by decide +kernel
theorem dL_isReferenced_16 : decode cL_isReferenced 16 = .ok (.goto 6, 3) := by decide +kernel
theorem dL_isReferenced_19 : decode cL_isReferenced 19 = .ok (.astore_n 3, 1) := by decide +kernel
theorem dL_isReferenced_20 : decode cL_isReferenced 20 = .ok (.iconst 1, 1) := by decide +kernel
theorem dL_isReferenced_21 : decode cL_isReferenced 21 = .ok (.ireturn, 1) := by decide +kernel
theorem dL_isReferenced_22 : decode cL_isReferenced 22 = .ok (.iconst 0, 1) := by decide +kernel
theorem dL_isReferenced_23 : decode cL_isReferenced 23 = .ok (.ireturn, 1) := by decide +kernel
theorem dL_workingSet_0 : decode cL_workingSet 0 = .ok (.aload_n 2, 1) := by decide +kernel
theorem dL_workingSet_1 : decode cL_workingSet 1 = .ok (.iconst 0, 1) := by decide +kernel
theorem dL_workingSet_2 : decode cL_workingSet 2 = .ok (.aload_n 0, 1) := by decide +kernel
theorem dL_workingSet_3 : decode cL_workingSet 3 = .ok (.iload_n 1, 1) := by decide +kernel
theorem dL_workingSet_4 : decode cL_workingSet 4 = .ok (.invokevirtual 81, 3) := by decide +kernel
theorem dL_workingSet_7 : decode cL_workingSet 7 = .ok (.i2l, 1) := by decide +kernel
theorem dL_workingSet_8 : decode cL_workingSet 8 = .ok (.lastore, 1) := by decide +kernel
theorem dL_workingSet_9 : decode cL_workingSet 9 = .ok (.goto 6, 3) := by decide +kernel
theorem dL_workingSet_12 : decode cL_workingSet 12 = .ok (.astore_n 3, 1) := by decide +kernel
theorem dL_workingSet_13 : decode cL_workingSet 13 = .ok (.iconst 1, 1) := by decide +kernel
theorem dL_workingSet_14 : decode cL_workingSet 14 = .ok (.ireturn, 1) := by decide +kernel
theorem dL_workingSet_15 : decode cL_workingSet 15 = .ok (.iconst 0, 1) := by decide +kernel
theorem dL_workingSet_16 : decode cL_workingSet 16 = .ok (.ireturn, 1) := by decide +kernel
theorem dL_count_0 : decode cL_count 0 = .ok (.aload_n 2, 1) := by decide +kernel
theorem dL_count_1 : decode cL_count 1 = .ok (.iconst 0, 1) := by decide +kernel
theorem dL_count_2 : decode cL_count 2 = .ok (.aload_n 0, 1) := by decide +kernel
theorem dL_count_3 : decode cL_count 3 = .ok (.iload_n 1, 1) := by decide +kernel
theorem dL_count_4 : decode cL_count 4 = .ok (.invokevirtual 84, 3) := by decide +kernel
theorem dL_count_7 : decode cL_count 7 = .ok (.i2l, 1) := by decide +kernel
theorem dL_count_8 : decode cL_count 8 = .ok (.lastore, 1) := by decide +kernel
theorem dL_count_9 : decode cL_count 9 = .ok (.goto 6, 3) := by decide +kernel
theorem dL_count_12 : decode cL_count 12 = .ok (.astore_n 3, 1) := by decide +kernel
theorem dL_count_13 : decode cL_count 13 = .ok (.iconst 1, 1) := by decide +kernel
theorem dL_count_14 : decode cL_count 14 = .ok (.ireturn, 1) := by decide +kernel
theorem dL_count_15 : decode cL_count 15 = .ok (.iconst 0, 1) := by decide +kernel
theorem dL_count_16 : decode cL_count 16 = .ok (.ireturn, 1) := by decide +kernel
theorem dL_law_0 : decode cL_law 0 = .ok (.new 8, 3) := by decide +kernel
theorem dL_law_3 : decode cL_law 3 = .ok (.dup, 1) := by decide +kernel
theorem dL_law_4 : decode cL_law 4 = .ok (.invokespecial 87, 3) := by decide +kernel
theorem dL_law_7 : decode cL_law 7 = .ok (.astore_n 1, 1) := by decide +kernel
theorem dL_law_8 : decode cL_law 8 = .ok (.new 88, 3) := by decide +kernel
theorem dL_law_11 : decode cL_law 11 = .ok (.dup, 1) := by decide +kernel
theorem dL_law_12 : decode cL_law 12 = .ok (.invokespecial 90, 3) := by decide +kernel
theorem dL_law_15 : decode cL_law 15 = .ok (.astore_n 2, 1) := by decide +kernel
theorem dL_law_16 : decode cL_law 16 = .ok (.iconst 1, 1) := by decide +kernel
theorem dL_law_17 : decode cL_law 17 = .ok (.newarray .long, 2) := by decide +kernel
theorem dL_law_19 : decode cL_law 19 = .ok (.astore_n 3, 1) := by decide +kernel
theorem dL_law_20 : decode cL_law 20 = .ok (.iconst 0, 1) := by decide +kernel
theorem dL_law_21 : decode cL_law 21 = .ok (.istore 4, 2) := by decide +kernel
theorem dL_law_23 : decode cL_law 23 = .ok (.iload 4, 2) := by decide +kernel
theorem dL_law_25 : decode cL_law 25 = .ok (.aload_n 0, 1) := by decide +kernel
theorem dL_law_26 : decode cL_law 26 = .ok (.arraylength, 1) := by decide +kernel
theorem dL_law_27 : decode cL_law 27 = .ok (.iconst 5, 1) := by decide +kernel
theorem dL_law_28 : decode cL_law 28 = .ok (.isub, 1) := by decide +kernel
theorem dL_law_29 : decode cL_law 29 = .ok (.if_icmp .gt 1590, 3) := by decide +kernel
theorem dL_law_32 : decode cL_law 32 = .ok (.aload_n 0, 1) := by decide +kernel
theorem dL_law_33 : decode cL_law 33 = .ok (.iload 4, 2) := by decide +kernel
theorem dL_law_35 : decode cL_law 35 = .ok (.iaload, 1) := by decide +kernel
theorem dL_law_36 : decode cL_law 36 = .ok (.bipush 31, 2) := by decide +kernel
theorem dL_law_38 : decode cL_law 38 = .ok (.iand, 1) := by decide +kernel
theorem dL_law_39 : decode cL_law 39 = .ok (.tableswitch 1574 0 27 #[125, 181, 237, 281, 337, 393, 461, 517, 609, 684, 747, 815, 883, 963, 976, 989, 1002, 1070, 1138, 1206, 1262, 1318, 1381, 1394, 1407, 1463, 1519, 1560], 125) := by decide +kernel
theorem dL_law_164 : decode cL_law 164 = .ok (.aload_n 1, 1) := by decide +kernel
theorem dL_law_165 : decode cL_law 165 = .ok (.aload_n 0, 1) := by decide +kernel
theorem dL_law_166 : decode cL_law 166 = .ok (.iload 4, 2) := by decide +kernel
theorem dL_law_168 : decode cL_law 168 = .ok (.iconst 1, 1) := by decide +kernel
theorem dL_law_169 : decode cL_law 169 = .ok (.iadd, 1) := by decide +kernel
theorem dL_law_170 : decode cL_law 170 = .ok (.iaload, 1) := by decide +kernel
theorem dL_law_171 : decode cL_law 171 = .ok (.aload_n 3, 1) := by decide +kernel
theorem dL_law_172 : decode cL_law 172 = .ok (.invokestatic 91, 3) := by decide +kernel
theorem dL_law_175 : decode cL_law 175 = .ok (.istore 5, 2) := by decide +kernel
theorem dL_law_177 : decode cL_law 177 = .ok (.aload_n 2, 1) := by decide +kernel
theorem dL_law_178 : decode cL_law 178 = .ok (.aload_n 0, 1) := by decide +kernel
theorem dL_law_179 : decode cL_law 179 = .ok (.iload 4, 2) := by decide +kernel
theorem dL_law_181 : decode cL_law 181 = .ok (.iconst 1, 1) := by decide +kernel
theorem dL_law_182 : decode cL_law 182 = .ok (.iadd, 1) := by decide +kernel
theorem dL_law_183 : decode cL_law 183 = .ok (.iaload, 1) := by decide +kernel
theorem dL_law_184 : decode cL_law 184 = .ok (.invokevirtual 96, 3) := by decide +kernel
theorem dL_law_187 : decode cL_law 187 = .ok (.istore 6, 2) := by decide +kernel
theorem dL_law_189 : decode cL_law 189 = .ok (.aload_n 2, 1) := by decide +kernel
theorem dL_law_190 : decode cL_law 190 = .ok (.invokevirtual 97, 3) := by decide +kernel
theorem dL_law_193 : decode cL_law 193 = .ok (.iload 5, 2) := by decide +kernel
theorem dL_law_195 : decode cL_law 195 = .ok (.if_icmp .eq 5, 3) := by decide +kernel
theorem dL_law_198 : decode cL_law 198 = .ok (.iconst 0, 1) := by decide +kernel
theorem dL_law_199 : decode cL_law 199 = .ok (.ireturn, 1) := by decide +kernel
theorem dL_law_200 : decode cL_law 200 = .ok (.iload 5, 2) := by decide +kernel
theorem dL_law_202 : decode cL_law 202 = .ok (.ifCond .ne 15, 3) := by decide +kernel
theorem dL_law_205 : decode cL_law 205 = .ok (.aload_n 3, 1) := by decide +kernel
theorem dL_law_206 : decode cL_law 206 = .ok (.iconst 0, 1) := by decide +kernel
theorem dL_law_207 : decode cL_law 207 = .ok (.laload, 1) := by decide +kernel
theorem dL_law_208 : decode cL_law 208 = .ok (.iload 6, 2) := by decide +kernel
theorem dL_law_210 : decode cL_law 210 = .ok (.i2l, 1) := by decide +kernel
theorem dL_law_211 : decode cL_law 211 = .ok (.lcmp, 1) := by decide +kernel
theorem dL_law_212 : decode cL_law 212 = .ok (.ifCond .eq 5, 3) := by decide +kernel
theorem dL_law_215 : decode cL_law 215 = .ok (.iconst 0, 1) := by decide +kernel
theorem dL_law_216 : decode cL_law 216 = .ok (.ireturn, 1) := by decide +kernel
theorem dL_law_217 : decode cL_law 217 = .ok (.goto 1396, 3) := by decide +kernel
theorem dL_law_220 : decode cL_law 220 = .ok (.aload_n 1, 1) := by decide +kernel
theorem dL_law_221 : decode cL_law 221 = .ok (.aload_n 0, 1) := by decide +kernel
theorem dL_law_222 : decode cL_law 222 = .ok (.iload 4, 2) := by decide +kernel
theorem dL_law_224 : decode cL_law 224 = .ok (.iconst 1, 1) := by decide +kernel
theorem dL_law_225 : decode cL_law 225 = .ok (.iadd, 1) := by decide +kernel
theorem dL_law_226 : decode cL_law 226 = .ok (.iaload, 1) := by decide +kernel
theorem dL_law_227 : decode cL_law 227 = .ok (.aload_n 3, 1) := by decide +kernel
theorem dL_law_228 : decode cL_law 228 = .ok (.invokestatic 100, 3) := by decide +kernel
theorem dL_law_231 : decode cL_law 231 = .ok (.istore 5, 2) := by decide +kernel
theorem dL_law_233 : decode cL_law 233 = .ok (.aload_n 2, 1) := by decide +kernel
theorem dL_law_234 : decode cL_law 234 = .ok (.aload_n 0, 1) := by decide +kernel
theorem dL_law_235 : decode cL_law 235 = .ok (.iload 4, 2) := by decide +kernel
theorem dL_law_237 : decode cL_law 237 = .ok (.iconst 1, 1) := by decide +kernel
theorem dL_law_238 : decode cL_law 238 = .ok (.iadd, 1) := by decide +kernel
theorem dL_law_239 : decode cL_law 239 = .ok (.iaload, 1) := by decide +kernel
theorem dL_law_240 : decode cL_law 240 = .ok (.invokevirtual 102, 3) := by decide +kernel
theorem dL_law_243 : decode cL_law 243 = .ok (.istore 6, 2) := by decide +kernel
theorem dL_law_245 : decode cL_law 245 = .ok (.aload_n 2, 1) := by decide +kernel
theorem dL_law_246 : decode cL_law 246 = .ok (.invokevirtual 97, 3) := by decide +kernel
theorem dL_law_249 : decode cL_law 249 = .ok (.iload 5, 2) := by decide +kernel
theorem dL_law_251 : decode cL_law 251 = .ok (.if_icmp .eq 5, 3) := by decide +kernel
theorem dL_law_254 : decode cL_law 254 = .ok (.iconst 0, 1) := by decide +kernel
theorem dL_law_255 : decode cL_law 255 = .ok (.ireturn, 1) := by decide +kernel
theorem dL_law_256 : decode cL_law 256 = .ok (.iload 5, 2) := by decide +kernel
theorem dL_law_258 : decode cL_law 258 = .ok (.ifCond .ne 15, 3) := by decide +kernel
theorem dL_law_261 : decode cL_law 261 = .ok (.aload_n 3, 1) := by decide +kernel
theorem dL_law_262 : decode cL_law 262 = .ok (.iconst 0, 1) := by decide +kernel
theorem dL_law_263 : decode cL_law 263 = .ok (.laload, 1) := by decide +kernel
theorem dL_law_264 : decode cL_law 264 = .ok (.iload 6, 2) := by decide +kernel
theorem dL_law_266 : decode cL_law 266 = .ok (.i2l, 1) := by decide +kernel
theorem dL_law_267 : decode cL_law 267 = .ok (.lcmp, 1) := by decide +kernel
theorem dL_law_268 : decode cL_law 268 = .ok (.ifCond .eq 5, 3) := by decide +kernel
theorem dL_law_271 : decode cL_law 271 = .ok (.iconst 0, 1) := by decide +kernel
theorem dL_law_272 : decode cL_law 272 = .ok (.ireturn, 1) := by decide +kernel
theorem dL_law_273 : decode cL_law 273 = .ok (.goto 1340, 3) := by decide +kernel
theorem dL_law_276 : decode cL_law 276 = .ok (.aload_n 1, 1) := by decide +kernel
theorem dL_law_277 : decode cL_law 277 = .ok (.aload_n 3, 1) := by decide +kernel
theorem dL_law_278 : decode cL_law 278 = .ok (.invokestatic 103, 3) := by decide +kernel
theorem dL_law_281 : decode cL_law 281 = .ok (.istore 5, 2) := by decide +kernel
theorem dL_law_283 : decode cL_law 283 = .ok (.aload_n 2, 1) := by decide +kernel
theorem dL_law_284 : decode cL_law 284 = .ok (.invokevirtual 106, 3) := by decide +kernel
theorem dL_law_287 : decode cL_law 287 = .ok (.istore 6, 2) := by decide +kernel
theorem dL_law_289 : decode cL_law 289 = .ok (.aload_n 2, 1) := by decide +kernel
theorem dL_law_290 : decode cL_law 290 = .ok (.invokevirtual 97, 3) := by decide +kernel
theorem dL_law_293 : decode cL_law 293 = .ok (.iload 5, 2) := by decide +kernel
theorem dL_law_295 : decode cL_law 295 = .ok (.if_icmp .eq 5, 3) := by decide +kernel
theorem dL_law_298 : decode cL_law 298 = .ok (.iconst 0, 1) := by decide +kernel
theorem dL_law_299 : decode cL_law 299 = .ok (.ireturn, 1) := by decide +kernel
theorem dL_law_300 : decode cL_law 300 = .ok (.iload 5, 2) := by decide +kernel
theorem dL_law_302 : decode cL_law 302 = .ok (.ifCond .ne 15, 3) := by decide +kernel
theorem dL_law_305 : decode cL_law 305 = .ok (.aload_n 3, 1) := by decide +kernel
theorem dL_law_306 : decode cL_law 306 = .ok (.iconst 0, 1) := by decide +kernel
theorem dL_law_307 : decode cL_law 307 = .ok (.laload, 1) := by decide +kernel
theorem dL_law_308 : decode cL_law 308 = .ok (.iload 6, 2) := by decide +kernel
theorem dL_law_310 : decode cL_law 310 = .ok (.i2l, 1) := by decide +kernel
theorem dL_law_311 : decode cL_law 311 = .ok (.lcmp, 1) := by decide +kernel
theorem dL_law_312 : decode cL_law 312 = .ok (.ifCond .eq 5, 3) := by decide +kernel
theorem dL_law_315 : decode cL_law 315 = .ok (.iconst 0, 1) := by decide +kernel
theorem dL_law_316 : decode cL_law 316 = .ok (.ireturn, 1) := by decide +kernel
theorem dL_law_317 : decode cL_law 317 = .ok (.goto 1296, 3) := by decide +kernel
theorem dL_law_320 : decode cL_law 320 = .ok (.aload_n 1, 1) := by decide +kernel
theorem dL_law_321 : decode cL_law 321 = .ok (.aload_n 0, 1) := by decide +kernel
theorem dL_law_322 : decode cL_law 322 = .ok (.iload 4, 2) := by decide +kernel
theorem dL_law_324 : decode cL_law 324 = .ok (.iconst 1, 1) := by decide +kernel
theorem dL_law_325 : decode cL_law 325 = .ok (.iadd, 1) := by decide +kernel
theorem dL_law_326 : decode cL_law 326 = .ok (.iaload, 1) := by decide +kernel
theorem dL_law_327 : decode cL_law 327 = .ok (.aload_n 3, 1) := by decide +kernel
theorem dL_law_328 : decode cL_law 328 = .ok (.invokestatic 107, 3) := by decide +kernel
theorem dL_law_331 : decode cL_law 331 = .ok (.istore 5, 2) := by decide +kernel
theorem dL_law_333 : decode cL_law 333 = .ok (.aload_n 2, 1) := by decide +kernel
theorem dL_law_334 : decode cL_law 334 = .ok (.aload_n 0, 1) := by decide +kernel
theorem dL_law_335 : decode cL_law 335 = .ok (.iload 4, 2) := by decide +kernel
theorem dL_law_337 : decode cL_law 337 = .ok (.iconst 1, 1) := by decide +kernel
theorem dL_law_338 : decode cL_law 338 = .ok (.iadd, 1) := by decide +kernel
theorem dL_law_339 : decode cL_law 339 = .ok (.iaload, 1) := by decide +kernel
theorem dL_law_340 : decode cL_law 340 = .ok (.invokevirtual 109, 3) := by decide +kernel
theorem dL_law_343 : decode cL_law 343 = .ok (.istore 6, 2) := by decide +kernel
theorem dL_law_345 : decode cL_law 345 = .ok (.aload_n 2, 1) := by decide +kernel
theorem dL_law_346 : decode cL_law 346 = .ok (.invokevirtual 97, 3) := by decide +kernel
theorem dL_law_349 : decode cL_law 349 = .ok (.iload 5, 2) := by decide +kernel
theorem dL_law_351 : decode cL_law 351 = .ok (.if_icmp .eq 5, 3) := by decide +kernel
theorem dL_law_354 : decode cL_law 354 = .ok (.iconst 0, 1) := by decide +kernel
theorem dL_law_355 : decode cL_law 355 = .ok (.ireturn, 1) := by decide +kernel
theorem dL_law_356 : decode cL_law 356 = .ok (.iload 5, 2) := by decide +kernel
theorem dL_law_358 : decode cL_law 358 = .ok (.ifCond .ne 15, 3) := by decide +kernel
theorem dL_law_361 : decode cL_law 361 = .ok (.aload_n 3, 1) := by decide +kernel
theorem dL_law_362 : decode cL_law 362 = .ok (.iconst 0, 1) := by decide +kernel
theorem dL_law_363 : decode cL_law 363 = .ok (.laload, 1) := by decide +kernel
theorem dL_law_364 : decode cL_law 364 = .ok (.iload 6, 2) := by decide +kernel
theorem dL_law_366 : decode cL_law 366 = .ok (.i2l, 1) := by decide +kernel
theorem dL_law_367 : decode cL_law 367 = .ok (.lcmp, 1) := by decide +kernel
theorem dL_law_368 : decode cL_law 368 = .ok (.ifCond .eq 5, 3) := by decide +kernel
theorem dL_law_371 : decode cL_law 371 = .ok (.iconst 0, 1) := by decide +kernel
theorem dL_law_372 : decode cL_law 372 = .ok (.ireturn, 1) := by decide +kernel
theorem dL_law_373 : decode cL_law 373 = .ok (.goto 1240, 3) := by decide +kernel
theorem dL_law_376 : decode cL_law 376 = .ok (.aload_n 1, 1) := by decide +kernel
theorem dL_law_377 : decode cL_law 377 = .ok (.aload_n 0, 1) := by decide +kernel
theorem dL_law_378 : decode cL_law 378 = .ok (.iload 4, 2) := by decide +kernel
theorem dL_law_380 : decode cL_law 380 = .ok (.iconst 1, 1) := by decide +kernel
theorem dL_law_381 : decode cL_law 381 = .ok (.iadd, 1) := by decide +kernel
theorem dL_law_382 : decode cL_law 382 = .ok (.iaload, 1) := by decide +kernel
theorem dL_law_383 : decode cL_law 383 = .ok (.aload_n 3, 1) := by decide +kernel
theorem dL_law_384 : decode cL_law 384 = .ok (.invokestatic 110, 3) := by decide +kernel
theorem dL_law_387 : decode cL_law 387 = .ok (.istore 5, 2) := by decide +kernel
theorem dL_law_389 : decode cL_law 389 = .ok (.aload_n 2, 1) := by decide +kernel
theorem dL_law_390 : decode cL_law 390 = .ok (.aload_n 0, 1) := by decide +kernel
theorem dL_law_391 : decode cL_law 391 = .ok (.iload 4, 2) := by decide +kernel
theorem dL_law_393 : decode cL_law 393 = .ok (.iconst 1, 1) := by decide +kernel
theorem dL_law_394 : decode cL_law 394 = .ok (.iadd, 1) := by decide +kernel
theorem dL_law_395 : decode cL_law 395 = .ok (.iaload, 1) := by decide +kernel
theorem dL_law_396 : decode cL_law 396 = .ok (.invokevirtual 112, 3) := by decide +kernel
theorem dL_law_399 : decode cL_law 399 = .ok (.istore 6, 2) := by decide +kernel
theorem dL_law_401 : decode cL_law 401 = .ok (.aload_n 2, 1) := by decide +kernel
theorem dL_law_402 : decode cL_law 402 = .ok (.invokevirtual 97, 3) := by decide +kernel
theorem dL_law_405 : decode cL_law 405 = .ok (.iload 5, 2) := by decide +kernel
theorem dL_law_407 : decode cL_law 407 = .ok (.if_icmp .eq 5, 3) := by decide +kernel
theorem dL_law_410 : decode cL_law 410 = .ok (.iconst 0, 1) := by decide +kernel
theorem dL_law_411 : decode cL_law 411 = .ok (.ireturn, 1) := by decide +kernel
theorem dL_law_412 : decode cL_law 412 = .ok (.iload 5, 2) := by decide +kernel
theorem dL_law_414 : decode cL_law 414 = .ok (.ifCond .ne 15, 3) := by decide +kernel
theorem dL_law_417 : decode cL_law 417 = .ok (.aload_n 3, 1) := by decide +kernel
theorem dL_law_418 : decode cL_law 418 = .ok (.iconst 0, 1) := by decide +kernel
theorem dL_law_419 : decode cL_law 419 = .ok (.laload, 1) := by decide +kernel
theorem dL_law_420 : decode cL_law 420 = .ok (.iload 6, 2) := by decide +kernel
theorem dL_law_422 : decode cL_law 422 = .ok (.i2l, 1) := by decide +kernel
theorem dL_law_423 : decode cL_law 423 = .ok (.lcmp, 1) := by decide +kernel
theorem dL_law_424 : decode cL_law 424 = .ok (.ifCond .eq 5, 3) := by decide +kernel
theorem dL_law_427 : decode cL_law 427 = .ok (.iconst 0, 1) := by decide +kernel
theorem dL_law_428 : decode cL_law 428 = .ok (.ireturn, 1) := by decide +kernel
theorem dL_law_429 : decode cL_law 429 = .ok (.goto 1184, 3) := by decide +kernel
theorem dL_law_432 : decode cL_law 432 = .ok (.aload_n 1, 1) := by decide +kernel
theorem dL_law_433 : decode cL_law 433 = .ok (.aload_n 0, 1) := by decide +kernel
theorem dL_law_434 : decode cL_law 434 = .ok (.iload 4, 2) := by decide +kernel
theorem dL_law_436 : decode cL_law 436 = .ok (.iconst 1, 1) := by decide +kernel
theorem dL_law_437 : decode cL_law 437 = .ok (.iadd, 1) := by decide +kernel
theorem dL_law_438 : decode cL_law 438 = .ok (.iaload, 1) := by decide +kernel
theorem dL_law_439 : decode cL_law 439 = .ok (.aload_n 0, 1) := by decide +kernel
theorem dL_law_440 : decode cL_law 440 = .ok (.iload 4, 2) := by decide +kernel
theorem dL_law_442 : decode cL_law 442 = .ok (.iconst 2, 1) := by decide +kernel
theorem dL_law_443 : decode cL_law 443 = .ok (.iadd, 1) := by decide +kernel
theorem dL_law_444 : decode cL_law 444 = .ok (.iaload, 1) := by decide +kernel
theorem dL_law_445 : decode cL_law 445 = .ok (.aload_n 3, 1) := by decide +kernel
theorem dL_law_446 : decode cL_law 446 = .ok (.invokestatic 113, 3) := by decide +kernel
theorem dL_law_449 : decode cL_law 449 = .ok (.istore 5, 2) := by decide +kernel
theorem dL_law_451 : decode cL_law 451 = .ok (.aload_n 2, 1) := by decide +kernel
theorem dL_law_452 : decode cL_law 452 = .ok (.aload_n 0, 1) := by decide +kernel
theorem dL_law_453 : decode cL_law 453 = .ok (.iload 4, 2) := by decide +kernel
theorem dL_law_455 : decode cL_law 455 = .ok (.iconst 1, 1) := by decide +kernel
theorem dL_law_456 : decode cL_law 456 = .ok (.iadd, 1) := by decide +kernel
theorem dL_law_457 : decode cL_law 457 = .ok (.iaload, 1) := by decide +kernel
theorem dL_law_458 : decode cL_law 458 = .ok (.aload_n 0, 1) := by decide +kernel
theorem dL_law_459 : decode cL_law 459 = .ok (.iload 4, 2) := by decide +kernel
theorem dL_law_461 : decode cL_law 461 = .ok (.iconst 2, 1) := by decide +kernel
theorem dL_law_462 : decode cL_law 462 = .ok (.iadd, 1) := by decide +kernel
theorem dL_law_463 : decode cL_law 463 = .ok (.iaload, 1) := by decide +kernel
theorem dL_law_464 : decode cL_law 464 = .ok (.invokevirtual 116, 3) := by decide +kernel
theorem dL_law_467 : decode cL_law 467 = .ok (.istore 6, 2) := by decide +kernel
theorem dL_law_469 : decode cL_law 469 = .ok (.aload_n 2, 1) := by decide +kernel
theorem dL_law_470 : decode cL_law 470 = .ok (.invokevirtual 97, 3) := by decide +kernel
theorem dL_law_473 : decode cL_law 473 = .ok (.iload 5, 2) := by decide +kernel
theorem dL_law_475 : decode cL_law 475 = .ok (.if_icmp .eq 5, 3) := by decide +kernel
theorem dL_law_478 : decode cL_law 478 = .ok (.iconst 0, 1) := by decide +kernel
theorem dL_law_479 : decode cL_law 479 = .ok (.ireturn, 1) := by decide +kernel
theorem dL_law_480 : decode cL_law 480 = .ok (.iload 5, 2) := by decide +kernel
theorem dL_law_482 : decode cL_law 482 = .ok (.ifCond .ne 15, 3) := by decide +kernel
theorem dL_law_485 : decode cL_law 485 = .ok (.aload_n 3, 1) := by decide +kernel
theorem dL_law_486 : decode cL_law 486 = .ok (.iconst 0, 1) := by decide +kernel
theorem dL_law_487 : decode cL_law 487 = .ok (.laload, 1) := by decide +kernel
theorem dL_law_488 : decode cL_law 488 = .ok (.iload 6, 2) := by decide +kernel
theorem dL_law_490 : decode cL_law 490 = .ok (.i2l, 1) := by decide +kernel
theorem dL_law_491 : decode cL_law 491 = .ok (.lcmp, 1) := by decide +kernel
theorem dL_law_492 : decode cL_law 492 = .ok (.ifCond .eq 5, 3) := by decide +kernel
theorem dL_law_495 : decode cL_law 495 = .ok (.iconst 0, 1) := by decide +kernel
theorem dL_law_496 : decode cL_law 496 = .ok (.ireturn, 1) := by decide +kernel
theorem dL_law_497 : decode cL_law 497 = .ok (.goto 1116, 3) := by decide +kernel
theorem dL_law_500 : decode cL_law 500 = .ok (.aload_n 1, 1) := by decide +kernel
theorem dL_law_501 : decode cL_law 501 = .ok (.aload_n 0, 1) := by decide +kernel
theorem dL_law_502 : decode cL_law 502 = .ok (.iload 4, 2) := by decide +kernel
theorem dL_law_504 : decode cL_law 504 = .ok (.iconst 1, 1) := by decide +kernel
theorem dL_law_505 : decode cL_law 505 = .ok (.iadd, 1) := by decide +kernel
theorem dL_law_506 : decode cL_law 506 = .ok (.iaload, 1) := by decide +kernel
theorem dL_law_507 : decode cL_law 507 = .ok (.aload_n 3, 1) := by decide +kernel
theorem dL_law_508 : decode cL_law 508 = .ok (.invokestatic 117, 3) := by decide +kernel
theorem dL_law_511 : decode cL_law 511 = .ok (.istore 5, 2) := by decide +kernel
theorem dL_law_513 : decode cL_law 513 = .ok (.aload_n 2, 1) := by decide +kernel
theorem dL_law_514 : decode cL_law 514 = .ok (.aload_n 0, 1) := by decide +kernel
theorem dL_law_515 : decode cL_law 515 = .ok (.iload 4, 2) := by decide +kernel
theorem dL_law_517 : decode cL_law 517 = .ok (.iconst 1, 1) := by decide +kernel
theorem dL_law_518 : decode cL_law 518 = .ok (.iadd, 1) := by decide +kernel
theorem dL_law_519 : decode cL_law 519 = .ok (.iaload, 1) := by decide +kernel
theorem dL_law_520 : decode cL_law 520 = .ok (.invokevirtual 119, 3) := by decide +kernel
theorem dL_law_523 : decode cL_law 523 = .ok (.istore 6, 2) := by decide +kernel
theorem dL_law_525 : decode cL_law 525 = .ok (.aload_n 2, 1) := by decide +kernel
theorem dL_law_526 : decode cL_law 526 = .ok (.invokevirtual 97, 3) := by decide +kernel
theorem dL_law_529 : decode cL_law 529 = .ok (.iload 5, 2) := by decide +kernel
theorem dL_law_531 : decode cL_law 531 = .ok (.if_icmp .eq 5, 3) := by decide +kernel
theorem dL_law_534 : decode cL_law 534 = .ok (.iconst 0, 1) := by decide +kernel
theorem dL_law_535 : decode cL_law 535 = .ok (.ireturn, 1) := by decide +kernel
theorem dL_law_536 : decode cL_law 536 = .ok (.iload 5, 2) := by decide +kernel
theorem dL_law_538 : decode cL_law 538 = .ok (.ifCond .ne 15, 3) := by decide +kernel
theorem dL_law_541 : decode cL_law 541 = .ok (.aload_n 3, 1) := by decide +kernel
theorem dL_law_542 : decode cL_law 542 = .ok (.iconst 0, 1) := by decide +kernel
theorem dL_law_543 : decode cL_law 543 = .ok (.laload, 1) := by decide +kernel
theorem dL_law_544 : decode cL_law 544 = .ok (.iload 6, 2) := by decide +kernel
theorem dL_law_546 : decode cL_law 546 = .ok (.i2l, 1) := by decide +kernel
theorem dL_law_547 : decode cL_law 547 = .ok (.lcmp, 1) := by decide +kernel
theorem dL_law_548 : decode cL_law 548 = .ok (.ifCond .eq 5, 3) := by decide +kernel
theorem dL_law_551 : decode cL_law 551 = .ok (.iconst 0, 1) := by decide +kernel
theorem dL_law_552 : decode cL_law 552 = .ok (.ireturn, 1) := by decide +kernel
theorem dL_law_553 : decode cL_law 553 = .ok (.goto 1060, 3) := by decide +kernel
theorem dL_law_556 : decode cL_law 556 = .ok (.aload_n 1, 1) := by decide +kernel
theorem dL_law_557 : decode cL_law 557 = .ok (.aload_n 0, 1) := by decide +kernel
theorem dL_law_558 : decode cL_law 558 = .ok (.iload 4, 2) := by decide +kernel
theorem dL_law_560 : decode cL_law 560 = .ok (.iconst 1, 1) := by decide +kernel
theorem dL_law_561 : decode cL_law 561 = .ok (.iadd, 1) := by decide +kernel
theorem dL_law_562 : decode cL_law 562 = .ok (.iaload, 1) := by decide +kernel
theorem dL_law_563 : decode cL_law 563 = .ok (.aload_n 0, 1) := by decide +kernel
theorem dL_law_564 : decode cL_law 564 = .ok (.iload 4, 2) := by decide +kernel
theorem dL_law_566 : decode cL_law 566 = .ok (.iconst 2, 1) := by decide +kernel
theorem dL_law_567 : decode cL_law 567 = .ok (.iadd, 1) := by decide +kernel
theorem dL_law_568 : decode cL_law 568 = .ok (.iaload, 1) := by decide +kernel
theorem dL_law_569 : decode cL_law 569 = .ok (.aload_n 0, 1) := by decide +kernel
theorem dL_law_570 : decode cL_law 570 = .ok (.iload 4, 2) := by decide +kernel
theorem dL_law_572 : decode cL_law 572 = .ok (.iconst 3, 1) := by decide +kernel
theorem dL_law_573 : decode cL_law 573 = .ok (.iadd, 1) := by decide +kernel
theorem dL_law_574 : decode cL_law 574 = .ok (.iaload, 1) := by decide +kernel
theorem dL_law_575 : decode cL_law 575 = .ok (.aload_n 0, 1) := by decide +kernel
theorem dL_law_576 : decode cL_law 576 = .ok (.iload 4, 2) := by decide +kernel
theorem dL_law_578 : decode cL_law 578 = .ok (.iconst 4, 1) := by decide +kernel
theorem dL_law_579 : decode cL_law 579 = .ok (.iadd, 1) := by decide +kernel
theorem dL_law_580 : decode cL_law 580 = .ok (.iaload, 1) := by decide +kernel
theorem dL_law_581 : decode cL_law 581 = .ok (.aload_n 3, 1) := by decide +kernel
theorem dL_law_582 : decode cL_law 582 = .ok (.invokestatic 120, 3) := by decide +kernel
theorem dL_law_585 : decode cL_law 585 = .ok (.istore 5, 2) := by decide +kernel
theorem dL_law_587 : decode cL_law 587 = .ok (.aload_n 2, 1) := by decide +kernel
theorem dL_law_588 : decode cL_law 588 = .ok (.aload_n 0, 1) := by decide +kernel
theorem dL_law_589 : decode cL_law 589 = .ok (.iload 4, 2) := by decide +kernel
theorem dL_law_591 : decode cL_law 591 = .ok (.iconst 1, 1) := by decide +kernel
theorem dL_law_592 : decode cL_law 592 = .ok (.iadd, 1) := by decide +kernel
theorem dL_law_593 : decode cL_law 593 = .ok (.iaload, 1) := by decide +kernel
theorem dL_law_594 : decode cL_law 594 = .ok (.aload_n 0, 1) := by decide +kernel
theorem dL_law_595 : decode cL_law 595 = .ok (.iload 4, 2) := by decide +kernel
theorem dL_law_597 : decode cL_law 597 = .ok (.iconst 2, 1) := by decide +kernel
theorem dL_law_598 : decode cL_law 598 = .ok (.iadd, 1) := by decide +kernel
theorem dL_law_599 : decode cL_law 599 = .ok (.iaload, 1) := by decide +kernel
theorem dL_law_600 : decode cL_law 600 = .ok (.aload_n 0, 1) := by decide +kernel
theorem dL_law_601 : decode cL_law 601 = .ok (.iload 4, 2) := by decide +kernel
theorem dL_law_603 : decode cL_law 603 = .ok (.iconst 3, 1) := by decide +kernel
theorem dL_law_604 : decode cL_law 604 = .ok (.iadd, 1) := by decide +kernel
theorem dL_law_605 : decode cL_law 605 = .ok (.iaload, 1) := by decide +kernel
theorem dL_law_606 : decode cL_law 606 = .ok (.aload_n 0, 1) := by decide +kernel
theorem dL_law_607 : decode cL_law 607 = .ok (.iload 4, 2) := by decide +kernel
theorem dL_law_609 : decode cL_law 609 = .ok (.iconst 4, 1) := by decide +kernel
theorem dL_law_610 : decode cL_law 610 = .ok (.iadd, 1) := by decide +kernel
theorem dL_law_611 : decode cL_law 611 = .ok (.iaload, 1) := by decide +kernel
theorem dL_law_612 : decode cL_law 612 = .ok (.invokevirtual 123, 3) := by decide +kernel
theorem dL_law_615 : decode cL_law 615 = .ok (.istore 6, 2) := by decide +kernel
theorem dL_law_617 : decode cL_law 617 = .ok (.aload_n 2, 1) := by decide +kernel
theorem dL_law_618 : decode cL_law 618 = .ok (.invokevirtual 97, 3) := by decide +kernel
theorem dL_law_621 : decode cL_law 621 = .ok (.iload 5, 2) := by decide +kernel
theorem dL_law_623 : decode cL_law 623 = .ok (.if_icmp .eq 5, 3) := by decide +kernel
theorem dL_law_626 : decode cL_law 626 = .ok (.iconst 0, 1) := by decide +kernel
theorem dL_law_627 : decode cL_law 627 = .ok (.ireturn, 1) := by decide +kernel
theorem dL_law_628 : decode cL_law 628 = .ok (.iload 5, 2) := by decide +kernel
theorem dL_law_630 : decode cL_law 630 = .ok (.ifCond .ne 15, 3) := by decide +kernel
theorem dL_law_633 : decode cL_law 633 = .ok (.aload_n 3, 1) := by decide +kernel
theorem dL_law_634 : decode cL_law 634 = .ok (.iconst 0, 1) := by decide +kernel
theorem dL_law_635 : decode cL_law 635 = .ok (.laload, 1) := by decide +kernel
theorem dL_law_636 : decode cL_law 636 = .ok (.iload 6, 2) := by decide +kernel
theorem dL_law_638 : decode cL_law 638 = .ok (.i2l, 1) := by decide +kernel
theorem dL_law_639 : decode cL_law 639 = .ok (.lcmp, 1) := by decide +kernel
theorem dL_law_640 : decode cL_law 640 = .ok (.ifCond .eq 5, 3) := by decide +kernel
theorem dL_law_643 : decode cL_law 643 = .ok (.iconst 0, 1) := by decide +kernel
theorem dL_law_644 : decode cL_law 644 = .ok (.ireturn, 1) := by decide +kernel
theorem dL_law_645 : decode cL_law 645 = .ok (.goto 968, 3) := by decide +kernel
theorem dL_law_648 : decode cL_law 648 = .ok (.aload_n 1, 1) := by decide +kernel
theorem dL_law_649 : decode cL_law 649 = .ok (.aload_n 0, 1) := by decide +kernel
theorem dL_law_650 : decode cL_law 650 = .ok (.iload 4, 2) := by decide +kernel
theorem dL_law_652 : decode cL_law 652 = .ok (.iconst 1, 1) := by decide +kernel
theorem dL_law_653 : decode cL_law 653 = .ok (.iadd, 1) := by decide +kernel
theorem dL_law_654 : decode cL_law 654 = .ok (.iaload, 1) := by decide +kernel
theorem dL_law_655 : decode cL_law 655 = .ok (.aload_n 0, 1) := by decide +kernel
theorem dL_law_656 : decode cL_law 656 = .ok (.iload 4, 2) := by decide +kernel
theorem dL_law_658 : decode cL_law 658 = .ok (.iconst 2, 1) := by decide +kernel
theorem dL_law_659 : decode cL_law 659 = .ok (.iadd, 1) := by decide +kernel
theorem dL_law_660 : decode cL_law 660 = .ok (.iaload, 1) := by decide +kernel
theorem dL_law_661 : decode cL_law 661 = .ok (.aload_n 3, 1) := by decide +kernel
theorem dL_law_662 : decode cL_law 662 = .ok (.invokestatic 124, 3) := by decide +kernel
theorem dL_law_665 : decode cL_law 665 = .ok (.istore 5, 2) := by decide +kernel
theorem dL_law_667 : decode cL_law 667 = .ok (.aload_n 2, 1) := by decide +kernel
theorem dL_law_668 : decode cL_law 668 = .ok (.aload_n 0, 1) := by decide +kernel
theorem dL_law_669 : decode cL_law 669 = .ok (.iload 4, 2) := by decide +kernel
theorem dL_law_671 : decode cL_law 671 = .ok (.iconst 1, 1) := by decide +kernel
theorem dL_law_672 : decode cL_law 672 = .ok (.iadd, 1) := by decide +kernel
theorem dL_law_673 : decode cL_law 673 = .ok (.iaload, 1) := by decide +kernel
theorem dL_law_674 : decode cL_law 674 = .ok (.aload_n 0, 1) := by decide +kernel
theorem dL_law_675 : decode cL_law 675 = .ok (.iload 4, 2) := by decide +kernel
theorem dL_law_677 : decode cL_law 677 = .ok (.iconst 2, 1) := by decide +kernel
theorem dL_law_678 : decode cL_law 678 = .ok (.iadd, 1) := by decide +kernel
theorem dL_law_679 : decode cL_law 679 = .ok (.iaload, 1) := by decide +kernel
theorem dL_law_680 : decode cL_law 680 = .ok (.invokevirtual 126, 3) := by decide +kernel
theorem dL_law_683 : decode cL_law 683 = .ok (.istore 6, 2) := by decide +kernel
theorem dL_law_685 : decode cL_law 685 = .ok (.aload_n 2, 1) := by decide +kernel
theorem dL_law_686 : decode cL_law 686 = .ok (.invokevirtual 97, 3) := by decide +kernel
theorem dL_law_689 : decode cL_law 689 = .ok (.iload 5, 2) := by decide +kernel
theorem dL_law_691 : decode cL_law 691 = .ok (.if_icmp .eq 5, 3) := by decide +kernel
theorem dL_law_694 : decode cL_law 694 = .ok (.iconst 0, 1) := by decide +kernel
theorem dL_law_695 : decode cL_law 695 = .ok (.ireturn, 1) := by decide +kernel
theorem dL_law_696 : decode cL_law 696 = .ok (.iload 5, 2) := by decide +kernel
theorem dL_law_698 : decode cL_law 698 = .ok (.ifCond .ne 22, 3) := by decide +kernel
theorem dL_law_701 : decode cL_law 701 = .ok (.aload_n 3, 1) := by decide +kernel
theorem dL_law_702 : decode cL_law 702 = .ok (.iconst 0, 1) := by decide +kernel
theorem dL_law_703 : decode cL_law 703 = .ok (.laload, 1) := by decide +kernel
theorem dL_law_704 : decode cL_law 704 = .ok (.iload 6, 2) := by decide +kernel
theorem dL_law_706 : decode cL_law 706 = .ok (.ifCond .eq 7, 3) := by decide +kernel
theorem dL_law_709 : decode cL_law 709 = .ok (.lconst 1, 1) := by decide +kernel
theorem dL_law_710 : decode cL_law 710 = .ok (.goto 4, 3) := by decide +kernel
theorem dL_law_713 : decode cL_law 713 = .ok (.lconst 0, 1) := by decide +kernel
theorem dL_law_714 : decode cL_law 714 = .ok (.lcmp, 1) := by decide +kernel
theorem dL_law_715 : decode cL_law 715 = .ok (.ifCond .eq 5, 3) := by decide +kernel
theorem dL_law_718 : decode cL_law 718 = .ok (.iconst 0, 1) := by decide +kernel
theorem dL_law_719 : decode cL_law 719 = .ok (.ireturn, 1) := by decide +kernel
theorem dL_law_720 : decode cL_law 720 = .ok (.goto 893, 3) := by decide +kernel
theorem dL_law_723 : decode cL_law 723 = .ok (.aload_n 1, 1) := by decide +kernel
theorem dL_law_724 : decode cL_law 724 = .ok (.aload_n 0, 1) := by decide +kernel
theorem dL_law_725 : decode cL_law 725 = .ok (.iload 4, 2) := by decide +kernel
theorem dL_law_727 : decode cL_law 727 = .ok (.iconst 1, 1) := by decide +kernel
theorem dL_law_728 : decode cL_law 728 = .ok (.iadd, 1) := by decide +kernel
theorem dL_law_729 : decode cL_law 729 = .ok (.iaload, 1) := by decide +kernel
theorem dL_law_730 : decode cL_law 730 = .ok (.aload_n 3, 1) := by decide +kernel
theorem dL_law_731 : decode cL_law 731 = .ok (.invokestatic 127, 3) := by decide +kernel
theorem dL_law_734 : decode cL_law 734 = .ok (.istore 5, 2) := by decide +kernel
theorem dL_law_736 : decode cL_law 736 = .ok (.aload_n 2, 1) := by decide +kernel
theorem dL_law_737 : decode cL_law 737 = .ok (.aload_n 0, 1) := by decide +kernel
theorem dL_law_738 : decode cL_law 738 = .ok (.iload 4, 2) := by decide +kernel
theorem dL_law_740 : decode cL_law 740 = .ok (.iconst 1, 1) := by decide +kernel
theorem dL_law_741 : decode cL_law 741 = .ok (.iadd, 1) := by decide +kernel
theorem dL_law_742 : decode cL_law 742 = .ok (.iaload, 1) := by decide +kernel
theorem dL_law_743 : decode cL_law 743 = .ok (.invokevirtual 129, 3) := by decide +kernel
theorem dL_law_746 : decode cL_law 746 = .ok (.istore 6, 2) := by decide +kernel
theorem dL_law_748 : decode cL_law 748 = .ok (.aload_n 2, 1) := by decide +kernel
theorem dL_law_749 : decode cL_law 749 = .ok (.invokevirtual 97, 3) := by decide +kernel
theorem dL_law_752 : decode cL_law 752 = .ok (.iload 5, 2) := by decide +kernel
theorem dL_law_754 : decode cL_law 754 = .ok (.if_icmp .eq 5, 3) := by decide +kernel
theorem dL_law_757 : decode cL_law 757 = .ok (.iconst 0, 1) := by decide +kernel
theorem dL_law_758 : decode cL_law 758 = .ok (.ireturn, 1) := by decide +kernel
theorem dL_law_759 : decode cL_law 759 = .ok (.iload 5, 2) := by decide +kernel
theorem dL_law_761 : decode cL_law 761 = .ok (.ifCond .ne 22, 3) := by decide +kernel
theorem dL_law_764 : decode cL_law 764 = .ok (.aload_n 3, 1) := by decide +kernel
theorem dL_law_765 : decode cL_law 765 = .ok (.iconst 0, 1) := by decide +kernel
theorem dL_law_766 : decode cL_law 766 = .ok (.laload, 1) := by decide +kernel
theorem dL_law_767 : decode cL_law 767 = .ok (.iload 6, 2) := by decide +kernel
theorem dL_law_769 : decode cL_law 769 = .ok (.ifCond .eq 7, 3) := by decide +kernel
theorem dL_law_772 : decode cL_law 772 = .ok (.lconst 1, 1) := by decide +kernel
theorem dL_law_773 : decode cL_law 773 = .ok (.goto 4, 3) := by decide +kernel
theorem dL_law_776 : decode cL_law 776 = .ok (.lconst 0, 1) := by decide +kernel
theorem dL_law_777 : decode cL_law 777 = .ok (.lcmp, 1) := by decide +kernel
theorem dL_law_778 : decode cL_law 778 = .ok (.ifCond .eq 5, 3) := by decide +kernel
theorem dL_law_781 : decode cL_law 781 = .ok (.iconst 0, 1) := by decide +kernel
theorem dL_law_782 : decode cL_law 782 = .ok (.ireturn, 1) := by decide +kernel
theorem dL_law_783 : decode cL_law 783 = .ok (.goto 830, 3) := by decide +kernel
theorem dL_law_786 : decode cL_law 786 = .ok (.aload_n 1, 1) := by decide +kernel
theorem dL_law_787 : decode cL_law 787 = .ok (.aload_n 0, 1) := by decide +kernel
theorem dL_law_788 : decode cL_law 788 = .ok (.iload 4, 2) := by decide +kernel
theorem dL_law_790 : decode cL_law 790 = .ok (.iconst 1, 1) := by decide +kernel
theorem dL_law_791 : decode cL_law 791 = .ok (.iadd, 1) := by decide +kernel
theorem dL_law_792 : decode cL_law 792 = .ok (.iaload, 1) := by decide +kernel
theorem dL_law_793 : decode cL_law 793 = .ok (.aload_n 0, 1) := by decide +kernel
theorem dL_law_794 : decode cL_law 794 = .ok (.iload 4, 2) := by decide +kernel
theorem dL_law_796 : decode cL_law 796 = .ok (.iconst 2, 1) := by decide +kernel
theorem dL_law_797 : decode cL_law 797 = .ok (.iadd, 1) := by decide +kernel
theorem dL_law_798 : decode cL_law 798 = .ok (.iaload, 1) := by decide +kernel
theorem dL_law_799 : decode cL_law 799 = .ok (.aload_n 3, 1) := by decide +kernel
theorem dL_law_800 : decode cL_law 800 = .ok (.invokestatic 130, 3) := by decide +kernel
theorem dL_law_803 : decode cL_law 803 = .ok (.istore 5, 2) := by decide +kernel
theorem dL_law_805 : decode cL_law 805 = .ok (.aload_n 2, 1) := by decide +kernel
theorem dL_law_806 : decode cL_law 806 = .ok (.aload_n 0, 1) := by decide +kernel
theorem dL_law_807 : decode cL_law 807 = .ok (.iload 4, 2) := by decide +kernel
theorem dL_law_809 : decode cL_law 809 = .ok (.iconst 1, 1) := by decide +kernel
theorem dL_law_810 : decode cL_law 810 = .ok (.iadd, 1) := by decide +kernel
theorem dL_law_811 : decode cL_law 811 = .ok (.iaload, 1) := by decide +kernel
theorem dL_law_812 : decode cL_law 812 = .ok (.aload_n 0, 1) := by decide +kernel
theorem dL_law_813 : decode cL_law 813 = .ok (.iload 4, 2) := by decide +kernel
theorem dL_law_815 : decode cL_law 815 = .ok (.iconst 2, 1) := by decide +kernel
theorem dL_law_816 : decode cL_law 816 = .ok (.iadd, 1) := by decide +kernel
theorem dL_law_817 : decode cL_law 817 = .ok (.iaload, 1) := by decide +kernel
theorem dL_law_818 : decode cL_law 818 = .ok (.invokevirtual 132, 3) := by decide +kernel
theorem dL_law_821 : decode cL_law 821 = .ok (.istore 6, 2) := by decide +kernel
theorem dL_law_823 : decode cL_law 823 = .ok (.aload_n 2, 1) := by decide +kernel
theorem dL_law_824 : decode cL_law 824 = .ok (.invokevirtual 97, 3) := by decide +kernel
theorem dL_law_827 : decode cL_law 827 = .ok (.iload 5, 2) := by decide +kernel
theorem dL_law_829 : decode cL_law 829 = .ok (.if_icmp .eq 5, 3) := by decide +kernel
theorem dL_law_832 : decode cL_law 832 = .ok (.iconst 0, 1) := by decide +kernel
theorem dL_law_833 : decode cL_law 833 = .ok (.ireturn, 1) := by decide +kernel
theorem dL_law_834 : decode cL_law 834 = .ok (.iload 5, 2) := by decide +kernel
theorem dL_law_836 : decode cL_law 836 = .ok (.ifCond .ne 15, 3) := by decide +kernel
theorem dL_law_839 : decode cL_law 839 = .ok (.aload_n 3, 1) := by decide +kernel
theorem dL_law_840 : decode cL_law 840 = .ok (.iconst 0, 1) := by decide +kernel
theorem dL_law_841 : decode cL_law 841 = .ok (.laload, 1) := by decide +kernel
theorem dL_law_842 : decode cL_law 842 = .ok (.iload 6, 2) := by decide +kernel
theorem dL_law_844 : decode cL_law 844 = .ok (.i2l, 1) := by decide +kernel
theorem dL_law_845 : decode cL_law 845 = .ok (.lcmp, 1) := by decide +kernel
theorem dL_law_846 : decode cL_law 846 = .ok (.ifCond .eq 5, 3) := by decide +kernel
theorem dL_law_849 : decode cL_law 849 = .ok (.iconst 0, 1) := by decide +kernel
theorem dL_law_850 : decode cL_law 850 = .ok (.ireturn, 1) := by decide +kernel
theorem dL_law_851 : decode cL_law 851 = .ok (.goto 762, 3) := by decide +kernel
theorem dL_law_854 : decode cL_law 854 = .ok (.aload_n 1, 1) := by decide +kernel
theorem dL_law_855 : decode cL_law 855 = .ok (.aload_n 0, 1) := by decide +kernel
theorem dL_law_856 : decode cL_law 856 = .ok (.iload 4, 2) := by decide +kernel
theorem dL_law_858 : decode cL_law 858 = .ok (.iconst 1, 1) := by decide +kernel
theorem dL_law_859 : decode cL_law 859 = .ok (.iadd, 1) := by decide +kernel
theorem dL_law_860 : decode cL_law 860 = .ok (.iaload, 1) := by decide +kernel
theorem dL_law_861 : decode cL_law 861 = .ok (.aload_n 0, 1) := by decide +kernel
theorem dL_law_862 : decode cL_law 862 = .ok (.iload 4, 2) := by decide +kernel
theorem dL_law_864 : decode cL_law 864 = .ok (.iconst 2, 1) := by decide +kernel
theorem dL_law_865 : decode cL_law 865 = .ok (.iadd, 1) := by decide +kernel
theorem dL_law_866 : decode cL_law 866 = .ok (.iaload, 1) := by decide +kernel
theorem dL_law_867 : decode cL_law 867 = .ok (.aload_n 3, 1) := by decide +kernel
theorem dL_law_868 : decode cL_law 868 = .ok (.invokestatic 133, 3) := by decide +kernel
theorem dL_law_871 : decode cL_law 871 = .ok (.istore 5, 2) := by decide +kernel
theorem dL_law_873 : decode cL_law 873 = .ok (.aload_n 2, 1) := by decide +kernel
theorem dL_law_874 : decode cL_law 874 = .ok (.aload_n 0, 1) := by decide +kernel
theorem dL_law_875 : decode cL_law 875 = .ok (.iload 4, 2) := by decide +kernel
theorem dL_law_877 : decode cL_law 877 = .ok (.iconst 1, 1) := by decide +kernel
theorem dL_law_878 : decode cL_law 878 = .ok (.iadd, 1) := by decide +kernel
theorem dL_law_879 : decode cL_law 879 = .ok (.iaload, 1) := by decide +kernel
theorem dL_law_880 : decode cL_law 880 = .ok (.aload_n 0, 1) := by decide +kernel
theorem dL_law_881 : decode cL_law 881 = .ok (.iload 4, 2) := by decide +kernel
theorem dL_law_883 : decode cL_law 883 = .ok (.iconst 2, 1) := by decide +kernel
theorem dL_law_884 : decode cL_law 884 = .ok (.iadd, 1) := by decide +kernel
theorem dL_law_885 : decode cL_law 885 = .ok (.iaload, 1) := by decide +kernel
theorem dL_law_886 : decode cL_law 886 = .ok (.invokevirtual 135, 3) := by decide +kernel
theorem dL_law_889 : decode cL_law 889 = .ok (.istore 6, 2) := by decide +kernel
theorem dL_law_891 : decode cL_law 891 = .ok (.aload_n 2, 1) := by decide +kernel
theorem dL_law_892 : decode cL_law 892 = .ok (.invokevirtual 97, 3) := by decide +kernel
theorem dL_law_895 : decode cL_law 895 = .ok (.iload 5, 2) := by decide +kernel
theorem dL_law_897 : decode cL_law 897 = .ok (.if_icmp .eq 5, 3) := by decide +kernel
theorem dL_law_900 : decode cL_law 900 = .ok (.iconst 0, 1) := by decide +kernel
theorem dL_law_901 : decode cL_law 901 = .ok (.ireturn, 1) := by decide +kernel
theorem dL_law_902 : decode cL_law 902 = .ok (.iload 5, 2) := by decide +kernel
theorem dL_law_904 : decode cL_law 904 = .ok (.ifCond .ne 15, 3) := by decide +kernel
theorem dL_law_907 : decode cL_law 907 = .ok (.aload_n 3, 1) := by decide +kernel
theorem dL_law_908 : decode cL_law 908 = .ok (.iconst 0, 1) := by decide +kernel
theorem dL_law_909 : decode cL_law 909 = .ok (.laload, 1) := by decide +kernel
theorem dL_law_910 : decode cL_law 910 = .ok (.iload 6, 2) := by decide +kernel
theorem dL_law_912 : decode cL_law 912 = .ok (.i2l, 1) := by decide +kernel
theorem dL_law_913 : decode cL_law 913 = .ok (.lcmp, 1) := by decide +kernel
theorem dL_law_914 : decode cL_law 914 = .ok (.ifCond .eq 5, 3) := by decide +kernel
theorem dL_law_917 : decode cL_law 917 = .ok (.iconst 0, 1) := by decide +kernel
theorem dL_law_918 : decode cL_law 918 = .ok (.ireturn, 1) := by decide +kernel
theorem dL_law_919 : decode cL_law 919 = .ok (.goto 694, 3) := by decide +kernel
theorem dL_law_922 : decode cL_law 922 = .ok (.aload_n 1, 1) := by decide +kernel
theorem dL_law_923 : decode cL_law 923 = .ok (.aload_n 0, 1) := by decide +kernel
theorem dL_law_924 : decode cL_law 924 = .ok (.iload 4, 2) := by decide +kernel
theorem dL_law_926 : decode cL_law 926 = .ok (.iconst 1, 1) := by decide +kernel
theorem dL_law_927 : decode cL_law 927 = .ok (.iadd, 1) := by decide +kernel
theorem dL_law_928 : decode cL_law 928 = .ok (.iaload, 1) := by decide +kernel
theorem dL_law_929 : decode cL_law 929 = .ok (.aload_n 0, 1) := by decide +kernel
theorem dL_law_930 : decode cL_law 930 = .ok (.iload 4, 2) := by decide +kernel
theorem dL_law_932 : decode cL_law 932 = .ok (.iconst 2, 1) := by decide +kernel
theorem dL_law_933 : decode cL_law 933 = .ok (.iadd, 1) := by decide +kernel
theorem dL_law_934 : decode cL_law 934 = .ok (.iaload, 1) := by decide +kernel
theorem dL_law_935 : decode cL_law 935 = .ok (.aload_n 0, 1) := by decide +kernel
theorem dL_law_936 : decode cL_law 936 = .ok (.iload 4, 2) := by decide +kernel
theorem dL_law_938 : decode cL_law 938 = .ok (.iconst 3, 1) := by decide +kernel
theorem dL_law_939 : decode cL_law 939 = .ok (.iadd, 1) := by decide +kernel
theorem dL_law_940 : decode cL_law 940 = .ok (.iaload, 1) := by decide +kernel
theorem dL_law_941 : decode cL_law 941 = .ok (.aload_n 3, 1) := by decide +kernel
theorem dL_law_942 : decode cL_law 942 = .ok (.invokestatic 136, 3) := by decide +kernel
theorem dL_law_945 : decode cL_law 945 = .ok (.istore 5, 2) := by decide +kernel
theorem dL_law_947 : decode cL_law 947 = .ok (.aload_n 2, 1) := by decide +kernel
theorem dL_law_948 : decode cL_law 948 = .ok (.aload_n 0, 1) := by decide +kernel
theorem dL_law_949 : decode cL_law 949 = .ok (.iload 4, 2) := by decide +kernel
theorem dL_law_951 : decode cL_law 951 = .ok (.iconst 1, 1) := by decide +kernel
theorem dL_law_952 : decode cL_law 952 = .ok (.iadd, 1) := by decide +kernel
theorem dL_law_953 : decode cL_law 953 = .ok (.iaload, 1) := by decide +kernel
theorem dL_law_954 : decode cL_law 954 = .ok (.aload_n 0, 1) := by decide +kernel
theorem dL_law_955 : decode cL_law 955 = .ok (.iload 4, 2) := by decide +kernel
theorem dL_law_957 : decode cL_law 957 = .ok (.iconst 2, 1) := by decide +kernel
theorem dL_law_958 : decode cL_law 958 = .ok (.iadd, 1) := by decide +kernel
theorem dL_law_959 : decode cL_law 959 = .ok (.iaload, 1) := by decide +kernel
theorem dL_law_960 : decode cL_law 960 = .ok (.aload_n 0, 1) := by decide +kernel
theorem dL_law_961 : decode cL_law 961 = .ok (.iload 4, 2) := by decide +kernel
theorem dL_law_963 : decode cL_law 963 = .ok (.iconst 3, 1) := by decide +kernel
theorem dL_law_964 : decode cL_law 964 = .ok (.iadd, 1) := by decide +kernel
theorem dL_law_965 : decode cL_law 965 = .ok (.iaload, 1) := by decide +kernel
theorem dL_law_966 : decode cL_law 966 = .ok (.invokevirtual 139, 3) := by decide +kernel
theorem dL_law_969 : decode cL_law 969 = .ok (.istore 6, 2) := by decide +kernel
theorem dL_law_971 : decode cL_law 971 = .ok (.aload_n 2, 1) := by decide +kernel
theorem dL_law_972 : decode cL_law 972 = .ok (.invokevirtual 97, 3) := by decide +kernel
theorem dL_law_975 : decode cL_law 975 = .ok (.iload 5, 2) := by decide +kernel
theorem dL_law_977 : decode cL_law 977 = .ok (.if_icmp .eq 5, 3) := by decide +kernel
theorem dL_law_980 : decode cL_law 980 = .ok (.iconst 0, 1) := by decide +kernel
theorem dL_law_981 : decode cL_law 981 = .ok (.ireturn, 1) := by decide +kernel
theorem dL_law_982 : decode cL_law 982 = .ok (.iload 5, 2) := by decide +kernel
theorem dL_law_984 : decode cL_law 984 = .ok (.ifCond .ne 15, 3) := by decide +kernel
theorem dL_law_987 : decode cL_law 987 = .ok (.aload_n 3, 1) := by decide +kernel
theorem dL_law_988 : decode cL_law 988 = .ok (.iconst 0, 1) := by decide +kernel
theorem dL_law_989 : decode cL_law 989 = .ok (.laload, 1) := by decide +kernel
theorem dL_law_990 : decode cL_law 990 = .ok (.iload 6, 2) := by decide +kernel
theorem dL_law_992 : decode cL_law 992 = .ok (.i2l, 1) := by decide +kernel
theorem dL_law_993 : decode cL_law 993 = .ok (.lcmp, 1) := by decide +kernel
theorem dL_law_994 : decode cL_law 994 = .ok (.ifCond .eq 5, 3) := by decide +kernel
theorem dL_law_997 : decode cL_law 997 = .ok (.iconst 0, 1) := by decide +kernel
theorem dL_law_998 : decode cL_law 998 = .ok (.ireturn, 1) := by decide +kernel
theorem dL_law_999 : decode cL_law 999 = .ok (.goto 614, 3) := by decide +kernel
theorem dL_law_1002 : decode cL_law 1002 = .ok (.aload_n 1, 1) := by decide +kernel
theorem dL_law_1003 : decode cL_law 1003 = .ok (.invokevirtual 140, 3) := by decide +kernel
theorem dL_law_1006 : decode cL_law 1006 = .ok (.aload_n 2, 1) := by decide +kernel
theorem dL_law_1007 : decode cL_law 1007 = .ok (.invokevirtual 143, 3) := by decide +kernel
theorem dL_law_1010 : decode cL_law 1010 = .ok (.if_icmp .eq 603, 3) := by decide +kernel
theorem dL_law_1013 : decode cL_law 1013 = .ok (.iconst 0, 1) := by decide +kernel
theorem dL_law_1014 : decode cL_law 1014 = .ok (.ireturn, 1) := by decide +kernel
theorem dL_law_1015 : decode cL_law 1015 = .ok (.aload_n 1, 1) := by decide +kernel
theorem dL_law_1016 : decode cL_law 1016 = .ok (.invokevirtual 144, 3) := by decide +kernel
theorem dL_law_1019 : decode cL_law 1019 = .ok (.aload_n 2, 1) := by decide +kernel
theorem dL_law_1020 : decode cL_law 1020 = .ok (.invokevirtual 147, 3) := by decide +kernel
theorem dL_law_1023 : decode cL_law 1023 = .ok (.if_icmp .eq 590, 3) := by decide +kernel
theorem dL_law_1026 : decode cL_law 1026 = .ok (.iconst 0, 1) := by decide +kernel
theorem dL_law_1027 : decode cL_law 1027 = .ok (.ireturn, 1) := by decide +kernel
theorem dL_law_1028 : decode cL_law 1028 = .ok (.aload_n 1, 1) := by decide +kernel
theorem dL_law_1029 : decode cL_law 1029 = .ok (.invokevirtual 148, 3) := by decide +kernel
theorem dL_law_1032 : decode cL_law 1032 = .ok (.aload_n 2, 1) := by decide +kernel
theorem dL_law_1033 : decode cL_law 1033 = .ok (.invokevirtual 151, 3) := by decide +kernel
theorem dL_law_1036 : decode cL_law 1036 = .ok (.if_icmp .eq 577, 3) := by decide +kernel
theorem dL_law_1039 : decode cL_law 1039 = .ok (.iconst 0, 1) := by decide +kernel
theorem dL_law_1040 : decode cL_law 1040 = .ok (.ireturn, 1) := by decide +kernel
theorem dL_law_1041 : decode cL_law 1041 = .ok (.aload_n 1, 1) := by decide +kernel
theorem dL_law_1042 : decode cL_law 1042 = .ok (.aload_n 0, 1) := by decide +kernel
theorem dL_law_1043 : decode cL_law 1043 = .ok (.iload 4, 2) := by decide +kernel
theorem dL_law_1045 : decode cL_law 1045 = .ok (.iconst 1, 1) := by decide +kernel
theorem dL_law_1046 : decode cL_law 1046 = .ok (.iadd, 1) := by decide +kernel
theorem dL_law_1047 : decode cL_law 1047 = .ok (.iaload, 1) := by decide +kernel
theorem dL_law_1048 : decode cL_law 1048 = .ok (.aload_n 0, 1) := by decide +kernel
theorem dL_law_1049 : decode cL_law 1049 = .ok (.iload 4, 2) := by decide +kernel
theorem dL_law_1051 : decode cL_law 1051 = .ok (.iconst 2, 1) := by decide +kernel
theorem dL_law_1052 : decode cL_law 1052 = .ok (.iadd, 1) := by decide +kernel
theorem dL_law_1053 : decode cL_law 1053 = .ok (.iaload, 1) := by decide +kernel
theorem dL_law_1054 : decode cL_law 1054 = .ok (.aload_n 3, 1) := by decide +kernel
theorem dL_law_1055 : decode cL_law 1055 = .ok (.invokestatic 152, 3) := by decide +kernel
theorem dL_law_1058 : decode cL_law 1058 = .ok (.istore 5, 2) := by decide +kernel
theorem dL_law_1060 : decode cL_law 1060 = .ok (.aload_n 2, 1) := by decide +kernel
theorem dL_law_1061 : decode cL_law 1061 = .ok (.aload_n 0, 1) := by decide +kernel
theorem dL_law_1062 : decode cL_law 1062 = .ok (.iload 4, 2) := by decide +kernel
theorem dL_law_1064 : decode cL_law 1064 = .ok (.iconst 1, 1) := by decide +kernel
theorem dL_law_1065 : decode cL_law 1065 = .ok (.iadd, 1) := by decide +kernel
theorem dL_law_1066 : decode cL_law 1066 = .ok (.iaload, 1) := by decide +kernel
theorem dL_law_1067 : decode cL_law 1067 = .ok (.aload_n 0, 1) := by decide +kernel
theorem dL_law_1068 : decode cL_law 1068 = .ok (.iload 4, 2) := by decide +kernel
theorem dL_law_1070 : decode cL_law 1070 = .ok (.iconst 2, 1) := by decide +kernel
theorem dL_law_1071 : decode cL_law 1071 = .ok (.iadd, 1) := by decide +kernel
theorem dL_law_1072 : decode cL_law 1072 = .ok (.iaload, 1) := by decide +kernel
theorem dL_law_1073 : decode cL_law 1073 = .ok (.invokevirtual 154, 3) := by decide +kernel
theorem dL_law_1076 : decode cL_law 1076 = .ok (.istore 6, 2) := by decide +kernel
theorem dL_law_1078 : decode cL_law 1078 = .ok (.aload_n 2, 1) := by decide +kernel
theorem dL_law_1079 : decode cL_law 1079 = .ok (.invokevirtual 97, 3) := by decide +kernel
theorem dL_law_1082 : decode cL_law 1082 = .ok (.iload 5, 2) := by decide +kernel
theorem dL_law_1084 : decode cL_law 1084 = .ok (.if_icmp .eq 5, 3) := by decide +kernel
theorem dL_law_1087 : decode cL_law 1087 = .ok (.iconst 0, 1) := by decide +kernel
theorem dL_law_1088 : decode cL_law 1088 = .ok (.ireturn, 1) := by decide +kernel
theorem dL_law_1089 : decode cL_law 1089 = .ok (.iload 5, 2) := by decide +kernel
theorem dL_law_1091 : decode cL_law 1091 = .ok (.ifCond .ne 15, 3) := by decide +kernel
theorem dL_law_1094 : decode cL_law 1094 = .ok (.aload_n 3, 1) := by decide +kernel
theorem dL_law_1095 : decode cL_law 1095 = .ok (.iconst 0, 1) := by decide +kernel
theorem dL_law_1096 : decode cL_law 1096 = .ok (.laload, 1) := by decide +kernel
theorem dL_law_1097 : decode cL_law 1097 = .ok (.iload 6, 2) := by decide +kernel
theorem dL_law_1099 : decode cL_law 1099 = .ok (.i2l, 1) := by decide +kernel
theorem dL_law_1100 : decode cL_law 1100 = .ok (.lcmp, 1) := by decide +kernel
theorem dL_law_1101 : decode cL_law 1101 = .ok (.ifCond .eq 5, 3) := by decide +kernel
theorem dL_law_1104 : decode cL_law 1104 = .ok (.iconst 0, 1) := by decide +kernel
theorem dL_law_1105 : decode cL_law 1105 = .ok (.ireturn, 1) := by decide +kernel
theorem dL_law_1106 : decode cL_law 1106 = .ok (.goto 507, 3) := by decide +kernel
theorem dL_law_1109 : decode cL_law 1109 = .ok (.aload_n 1, 1) := by decide +kernel
theorem dL_law_1110 : decode cL_law 1110 = .ok (.aload_n 0, 1) := by decide +kernel
theorem dL_law_1111 : decode cL_law 1111 = .ok (.iload 4, 2) := by decide +kernel
theorem dL_law_1113 : decode cL_law 1113 = .ok (.iconst 1, 1) := by decide +kernel
theorem dL_law_1114 : decode cL_law 1114 = .ok (.iadd, 1) := by decide +kernel
theorem dL_law_1115 : decode cL_law 1115 = .ok (.iaload, 1) := by decide +kernel
theorem dL_law_1116 : decode cL_law 1116 = .ok (.aload_n 0, 1) := by decide +kernel
theorem dL_law_1117 : decode cL_law 1117 = .ok (.iload 4, 2) := by decide +kernel
theorem dL_law_1119 : decode cL_law 1119 = .ok (.iconst 2, 1) := by decide +kernel
theorem dL_law_1120 : decode cL_law 1120 = .ok (.iadd, 1) := by decide +kernel
theorem dL_law_1121 : decode cL_law 1121 = .ok (.iaload, 1) := by decide +kernel
theorem dL_law_1122 : decode cL_law 1122 = .ok (.aload_n 3, 1) := by decide +kernel
theorem dL_law_1123 : decode cL_law 1123 = .ok (.invokestatic 155, 3) := by decide +kernel
theorem dL_law_1126 : decode cL_law 1126 = .ok (.istore 5, 2) := by decide +kernel
theorem dL_law_1128 : decode cL_law 1128 = .ok (.aload_n 2, 1) := by decide +kernel
theorem dL_law_1129 : decode cL_law 1129 = .ok (.aload_n 0, 1) := by decide +kernel
theorem dL_law_1130 : decode cL_law 1130 = .ok (.iload 4, 2) := by decide +kernel
theorem dL_law_1132 : decode cL_law 1132 = .ok (.iconst 1, 1) := by decide +kernel
theorem dL_law_1133 : decode cL_law 1133 = .ok (.iadd, 1) := by decide +kernel
theorem dL_law_1134 : decode cL_law 1134 = .ok (.iaload, 1) := by decide +kernel
theorem dL_law_1135 : decode cL_law 1135 = .ok (.aload_n 0, 1) := by decide +kernel
theorem dL_law_1136 : decode cL_law 1136 = .ok (.iload 4, 2) := by decide +kernel
theorem dL_law_1138 : decode cL_law 1138 = .ok (.iconst 2, 1) := by decide +kernel
theorem dL_law_1139 : decode cL_law 1139 = .ok (.iadd, 1) := by decide +kernel
theorem dL_law_1140 : decode cL_law 1140 = .ok (.iaload, 1) := by decide +kernel
theorem dL_law_1141 : decode cL_law 1141 = .ok (.invokevirtual 157, 3) := by decide +kernel
theorem dL_law_1144 : decode cL_law 1144 = .ok (.istore 6, 2) := by decide +kernel
theorem dL_law_1146 : decode cL_law 1146 = .ok (.aload_n 2, 1) := by decide +kernel
theorem dL_law_1147 : decode cL_law 1147 = .ok (.invokevirtual 97, 3) := by decide +kernel
theorem dL_law_1150 : decode cL_law 1150 = .ok (.iload 5, 2) := by decide +kernel
theorem dL_law_1152 : decode cL_law 1152 = .ok (.if_icmp .eq 5, 3) := by decide +kernel
theorem dL_law_1155 : decode cL_law 1155 = .ok (.iconst 0, 1) := by decide +kernel
theorem dL_law_1156 : decode cL_law 1156 = .ok (.ireturn, 1) := by decide +kernel
theorem dL_law_1157 : decode cL_law 1157 = .ok (.iload 5, 2) := by decide +kernel
theorem dL_law_1159 : decode cL_law 1159 = .ok (.ifCond .ne 15, 3) := by decide +kernel
theorem dL_law_1162 : decode cL_law 1162 = .ok (.aload_n 3, 1) := by decide +kernel
theorem dL_law_1163 : decode cL_law 1163 = .ok (.iconst 0, 1) := by decide +kernel
theorem dL_law_1164 : decode cL_law 1164 = .ok (.laload, 1) := by decide +kernel
theorem dL_law_1165 : decode cL_law 1165 = .ok (.iload 6, 2) := by decide +kernel
theorem dL_law_1167 : decode cL_law 1167 = .ok (.i2l, 1) := by decide +kernel
theorem dL_law_1168 : decode cL_law 1168 = .ok (.lcmp, 1) := by decide +kernel
theorem dL_law_1169 : decode cL_law 1169 = .ok (.ifCond .eq 5, 3) := by decide +kernel
theorem dL_law_1172 : decode cL_law 1172 = .ok (.iconst 0, 1) := by decide +kernel
theorem dL_law_1173 : decode cL_law 1173 = .ok (.ireturn, 1) := by decide +kernel
theorem dL_law_1174 : decode cL_law 1174 = .ok (.goto 439, 3) := by decide +kernel
theorem dL_law_1177 : decode cL_law 1177 = .ok (.aload_n 1, 1) := by decide +kernel
theorem dL_law_1178 : decode cL_law 1178 = .ok (.aload_n 0, 1) := by decide +kernel
theorem dL_law_1179 : decode cL_law 1179 = .ok (.iload 4, 2) := by decide +kernel
theorem dL_law_1181 : decode cL_law 1181 = .ok (.iconst 1, 1) := by decide +kernel
theorem dL_law_1182 : decode cL_law 1182 = .ok (.iadd, 1) := by decide +kernel
theorem dL_law_1183 : decode cL_law 1183 = .ok (.iaload, 1) := by decide +kernel
theorem dL_law_1184 : decode cL_law 1184 = .ok (.aload_n 0, 1) := by decide +kernel
theorem dL_law_1185 : decode cL_law 1185 = .ok (.iload 4, 2) := by decide +kernel
theorem dL_law_1187 : decode cL_law 1187 = .ok (.iconst 2, 1) := by decide +kernel
theorem dL_law_1188 : decode cL_law 1188 = .ok (.iadd, 1) := by decide +kernel
theorem dL_law_1189 : decode cL_law 1189 = .ok (.iaload, 1) := by decide +kernel
theorem dL_law_1190 : decode cL_law 1190 = .ok (.aload_n 3, 1) := by decide +kernel
theorem dL_law_1191 : decode cL_law 1191 = .ok (.invokestatic 158, 3) := by decide +kernel
theorem dL_law_1194 : decode cL_law 1194 = .ok (.istore 5, 2) := by decide +kernel
theorem dL_law_1196 : decode cL_law 1196 = .ok (.aload_n 2, 1) := by decide +kernel
theorem dL_law_1197 : decode cL_law 1197 = .ok (.aload_n 0, 1) := by decide +kernel
theorem dL_law_1198 : decode cL_law 1198 = .ok (.iload 4, 2) := by decide +kernel
theorem dL_law_1200 : decode cL_law 1200 = .ok (.iconst 1, 1) := by decide +kernel
theorem dL_law_1201 : decode cL_law 1201 = .ok (.iadd, 1) := by decide +kernel
theorem dL_law_1202 : decode cL_law 1202 = .ok (.iaload, 1) := by decide +kernel
theorem dL_law_1203 : decode cL_law 1203 = .ok (.aload_n 0, 1) := by decide +kernel
theorem dL_law_1204 : decode cL_law 1204 = .ok (.iload 4, 2) := by decide +kernel
theorem dL_law_1206 : decode cL_law 1206 = .ok (.iconst 2, 1) := by decide +kernel
theorem dL_law_1207 : decode cL_law 1207 = .ok (.iadd, 1) := by decide +kernel
theorem dL_law_1208 : decode cL_law 1208 = .ok (.iaload, 1) := by decide +kernel
theorem dL_law_1209 : decode cL_law 1209 = .ok (.invokevirtual 160, 3) := by decide +kernel
theorem dL_law_1212 : decode cL_law 1212 = .ok (.istore 6, 2) := by decide +kernel
theorem dL_law_1214 : decode cL_law 1214 = .ok (.aload_n 2, 1) := by decide +kernel
theorem dL_law_1215 : decode cL_law 1215 = .ok (.invokevirtual 97, 3) := by decide +kernel
theorem dL_law_1218 : decode cL_law 1218 = .ok (.iload 5, 2) := by decide +kernel
theorem dL_law_1220 : decode cL_law 1220 = .ok (.if_icmp .eq 5, 3) := by decide +kernel
theorem dL_law_1223 : decode cL_law 1223 = .ok (.iconst 0, 1) := by decide +kernel
theorem dL_law_1224 : decode cL_law 1224 = .ok (.ireturn, 1) := by decide +kernel
theorem dL_law_1225 : decode cL_law 1225 = .ok (.iload 5, 2) := by decide +kernel
theorem dL_law_1227 : decode cL_law 1227 = .ok (.ifCond .ne 15, 3) := by decide +kernel
theorem dL_law_1230 : decode cL_law 1230 = .ok (.aload_n 3, 1) := by decide +kernel
theorem dL_law_1231 : decode cL_law 1231 = .ok (.iconst 0, 1) := by decide +kernel
theorem dL_law_1232 : decode cL_law 1232 = .ok (.laload, 1) := by decide +kernel
theorem dL_law_1233 : decode cL_law 1233 = .ok (.iload 6, 2) := by decide +kernel
theorem dL_law_1235 : decode cL_law 1235 = .ok (.i2l, 1) := by decide +kernel
theorem dL_law_1236 : decode cL_law 1236 = .ok (.lcmp, 1) := by decide +kernel
theorem dL_law_1237 : decode cL_law 1237 = .ok (.ifCond .eq 5, 3) := by decide +kernel
theorem dL_law_1240 : decode cL_law 1240 = .ok (.iconst 0, 1) := by decide +kernel
theorem dL_law_1241 : decode cL_law 1241 = .ok (.ireturn, 1) := by decide +kernel
theorem dL_law_1242 : decode cL_law 1242 = .ok (.goto 371, 3) := by decide +kernel
theorem dL_law_1245 : decode cL_law 1245 = .ok (.aload_n 1, 1) := by decide +kernel
theorem dL_law_1246 : decode cL_law 1246 = .ok (.aload_n 0, 1) := by decide +kernel
theorem dL_law_1247 : decode cL_law 1247 = .ok (.iload 4, 2) := by decide +kernel
theorem dL_law_1249 : decode cL_law 1249 = .ok (.iconst 1, 1) := by decide +kernel
theorem dL_law_1250 : decode cL_law 1250 = .ok (.iadd, 1) := by decide +kernel
theorem dL_law_1251 : decode cL_law 1251 = .ok (.iaload, 1) := by decide +kernel
theorem dL_law_1252 : decode cL_law 1252 = .ok (.aload_n 3, 1) := by decide +kernel
theorem dL_law_1253 : decode cL_law 1253 = .ok (.invokestatic 161, 3) := by decide +kernel
theorem dL_law_1256 : decode cL_law 1256 = .ok (.istore 5, 2) := by decide +kernel
theorem dL_law_1258 : decode cL_law 1258 = .ok (.aload_n 2, 1) := by decide +kernel
theorem dL_law_1259 : decode cL_law 1259 = .ok (.aload_n 0, 1) := by decide +kernel
theorem dL_law_1260 : decode cL_law 1260 = .ok (.iload 4, 2) := by decide +kernel
theorem dL_law_1262 : decode cL_law 1262 = .ok (.iconst 1, 1) := by decide +kernel
theorem dL_law_1263 : decode cL_law 1263 = .ok (.iadd, 1) := by decide +kernel
theorem dL_law_1264 : decode cL_law 1264 = .ok (.iaload, 1) := by decide +kernel
theorem dL_law_1265 : decode cL_law 1265 = .ok (.invokevirtual 163, 3) := by decide +kernel
theorem dL_law_1268 : decode cL_law 1268 = .ok (.istore 6, 2) := by decide +kernel
theorem dL_law_1270 : decode cL_law 1270 = .ok (.aload_n 2, 1) := by decide +kernel
theorem dL_law_1271 : decode cL_law 1271 = .ok (.invokevirtual 97, 3) := by decide +kernel
theorem dL_law_1274 : decode cL_law 1274 = .ok (.iload 5, 2) := by decide +kernel
theorem dL_law_1276 : decode cL_law 1276 = .ok (.if_icmp .eq 5, 3) := by decide +kernel
theorem dL_law_1279 : decode cL_law 1279 = .ok (.iconst 0, 1) := by decide +kernel
theorem dL_law_1280 : decode cL_law 1280 = .ok (.ireturn, 1) := by decide +kernel
theorem dL_law_1281 : decode cL_law 1281 = .ok (.iload 5, 2) := by decide +kernel
theorem dL_law_1283 : decode cL_law 1283 = .ok (.ifCond .ne 15, 3) := by decide +kernel
theorem dL_law_1286 : decode cL_law 1286 = .ok (.aload_n 3, 1) := by decide +kernel
theorem dL_law_1287 : decode cL_law 1287 = .ok (.iconst 0, 1) := by decide +kernel
theorem dL_law_1288 : decode cL_law 1288 = .ok (.laload, 1) := by decide +kernel
theorem dL_law_1289 : decode cL_law 1289 = .ok (.iload 6, 2) := by decide +kernel
theorem dL_law_1291 : decode cL_law 1291 = .ok (.i2l, 1) := by decide +kernel
theorem dL_law_1292 : decode cL_law 1292 = .ok (.lcmp, 1) := by decide +kernel
theorem dL_law_1293 : decode cL_law 1293 = .ok (.ifCond .eq 5, 3) := by decide +kernel
theorem dL_law_1296 : decode cL_law 1296 = .ok (.iconst 0, 1) := by decide +kernel
theorem dL_law_1297 : decode cL_law 1297 = .ok (.ireturn, 1) := by decide +kernel
theorem dL_law_1298 : decode cL_law 1298 = .ok (.goto 315, 3) := by decide +kernel
theorem dL_law_1301 : decode cL_law 1301 = .ok (.aload_n 1, 1) := by decide +kernel
theorem dL_law_1302 : decode cL_law 1302 = .ok (.aload_n 0, 1) := by decide +kernel
theorem dL_law_1303 : decode cL_law 1303 = .ok (.iload 4, 2) := by decide +kernel
theorem dL_law_1305 : decode cL_law 1305 = .ok (.iconst 1, 1) := by decide +kernel
theorem dL_law_1306 : decode cL_law 1306 = .ok (.iadd, 1) := by decide +kernel
theorem dL_law_1307 : decode cL_law 1307 = .ok (.iaload, 1) := by decide +kernel
theorem dL_law_1308 : decode cL_law 1308 = .ok (.aload_n 3, 1) := by decide +kernel
theorem dL_law_1309 : decode cL_law 1309 = .ok (.invokestatic 164, 3) := by decide +kernel
theorem dL_law_1312 : decode cL_law 1312 = .ok (.istore 5, 2) := by decide +kernel
theorem dL_law_1314 : decode cL_law 1314 = .ok (.aload_n 2, 1) := by decide +kernel
theorem dL_law_1315 : decode cL_law 1315 = .ok (.aload_n 0, 1) := by decide +kernel
theorem dL_law_1316 : decode cL_law 1316 = .ok (.iload 4, 2) := by decide +kernel
theorem dL_law_1318 : decode cL_law 1318 = .ok (.iconst 1, 1) := by decide +kernel
theorem dL_law_1319 : decode cL_law 1319 = .ok (.iadd, 1) := by decide +kernel
theorem dL_law_1320 : decode cL_law 1320 = .ok (.iaload, 1) := by decide +kernel
theorem dL_law_1321 : decode cL_law 1321 = .ok (.invokevirtual 166, 3) := by decide +kernel
theorem dL_law_1324 : decode cL_law 1324 = .ok (.istore 6, 2) := by decide +kernel
theorem dL_law_1326 : decode cL_law 1326 = .ok (.aload_n 2, 1) := by decide +kernel
theorem dL_law_1327 : decode cL_law 1327 = .ok (.invokevirtual 97, 3) := by decide +kernel
theorem dL_law_1330 : decode cL_law 1330 = .ok (.iload 5, 2) := by decide +kernel
theorem dL_law_1332 : decode cL_law 1332 = .ok (.if_icmp .eq 5, 3) := by decide +kernel
theorem dL_law_1335 : decode cL_law 1335 = .ok (.iconst 0, 1) := by decide +kernel
theorem dL_law_1336 : decode cL_law 1336 = .ok (.ireturn, 1) := by decide +kernel
theorem dL_law_1337 : decode cL_law 1337 = .ok (.iload 5, 2) := by decide +kernel
theorem dL_law_1339 : decode cL_law 1339 = .ok (.ifCond .ne 15, 3) := by decide +kernel
theorem dL_law_1342 : decode cL_law 1342 = .ok (.aload_n 3, 1) := by decide +kernel
theorem dL_law_1343 : decode cL_law 1343 = .ok (.iconst 0, 1) := by decide +kernel
theorem dL_law_1344 : decode cL_law 1344 = .ok (.laload, 1) := by decide +kernel
theorem dL_law_1345 : decode cL_law 1345 = .ok (.iload 6, 2) := by decide +kernel
theorem dL_law_1347 : decode cL_law 1347 = .ok (.i2l, 1) := by decide +kernel
theorem dL_law_1348 : decode cL_law 1348 = .ok (.lcmp, 1) := by decide +kernel
theorem dL_law_1349 : decode cL_law 1349 = .ok (.ifCond .eq 5, 3) := by decide +kernel
theorem dL_law_1352 : decode cL_law 1352 = .ok (.iconst 0, 1) := by decide +kernel
theorem dL_law_1353 : decode cL_law 1353 = .ok (.ireturn, 1) := by decide +kernel
theorem dL_law_1354 : decode cL_law 1354 = .ok (.goto 259, 3) := by decide +kernel
theorem dL_law_1357 : decode cL_law 1357 = .ok (.aload_n 1, 1) := by decide +kernel
theorem dL_law_1358 : decode cL_law 1358 = .ok (.aload_n 0, 1) := by decide +kernel
theorem dL_law_1359 : decode cL_law 1359 = .ok (.iload 4, 2) := by decide +kernel
theorem dL_law_1361 : decode cL_law 1361 = .ok (.iconst 1, 1) := by decide +kernel
theorem dL_law_1362 : decode cL_law 1362 = .ok (.iadd, 1) := by decide +kernel
theorem dL_law_1363 : decode cL_law 1363 = .ok (.iaload, 1) := by decide +kernel
theorem dL_law_1364 : decode cL_law 1364 = .ok (.aload_n 3, 1) := by decide +kernel
theorem dL_law_1365 : decode cL_law 1365 = .ok (.invokestatic 167, 3) := by decide +kernel
theorem dL_law_1368 : decode cL_law 1368 = .ok (.istore 5, 2) := by decide +kernel
theorem dL_law_1370 : decode cL_law 1370 = .ok (.aload_n 2, 1) := by decide +kernel
theorem dL_law_1371 : decode cL_law 1371 = .ok (.aload_n 0, 1) := by decide +kernel
theorem dL_law_1372 : decode cL_law 1372 = .ok (.iload 4, 2) := by decide +kernel
theorem dL_law_1374 : decode cL_law 1374 = .ok (.iconst 1, 1) := by decide +kernel
theorem dL_law_1375 : decode cL_law 1375 = .ok (.iadd, 1) := by decide +kernel
theorem dL_law_1376 : decode cL_law 1376 = .ok (.iaload, 1) := by decide +kernel
theorem dL_law_1377 : decode cL_law 1377 = .ok (.invokevirtual 169, 3) := by decide +kernel
theorem dL_law_1380 : decode cL_law 1380 = .ok (.istore 6, 2) := by decide +kernel
theorem dL_law_1382 : decode cL_law 1382 = .ok (.aload_n 2, 1) := by decide +kernel
theorem dL_law_1383 : decode cL_law 1383 = .ok (.invokevirtual 97, 3) := by decide +kernel
theorem dL_law_1386 : decode cL_law 1386 = .ok (.iload 5, 2) := by decide +kernel
theorem dL_law_1388 : decode cL_law 1388 = .ok (.if_icmp .eq 5, 3) := by decide +kernel
theorem dL_law_1391 : decode cL_law 1391 = .ok (.iconst 0, 1) := by decide +kernel
theorem dL_law_1392 : decode cL_law 1392 = .ok (.ireturn, 1) := by decide +kernel
theorem dL_law_1393 : decode cL_law 1393 = .ok (.iload 5, 2) := by decide +kernel
theorem dL_law_1395 : decode cL_law 1395 = .ok (.ifCond .ne 22, 3) := by decide +kernel
theorem dL_law_1398 : decode cL_law 1398 = .ok (.aload_n 3, 1) := by decide +kernel
theorem dL_law_1399 : decode cL_law 1399 = .ok (.iconst 0, 1) := by decide +kernel
theorem dL_law_1400 : decode cL_law 1400 = .ok (.laload, 1) := by decide +kernel
theorem dL_law_1401 : decode cL_law 1401 = .ok (.iload 6, 2) := by decide +kernel
theorem dL_law_1403 : decode cL_law 1403 = .ok (.ifCond .eq 7, 3) := by decide +kernel
theorem dL_law_1406 : decode cL_law 1406 = .ok (.lconst 1, 1) := by decide +kernel
theorem dL_law_1407 : decode cL_law 1407 = .ok (.goto 4, 3) := by decide +kernel
theorem dL_law_1410 : decode cL_law 1410 = .ok (.lconst 0, 1) := by decide +kernel
theorem dL_law_1411 : decode cL_law 1411 = .ok (.lcmp, 1) := by decide +kernel
theorem dL_law_1412 : decode cL_law 1412 = .ok (.ifCond .eq 5, 3) := by decide +kernel
theorem dL_law_1415 : decode cL_law 1415 = .ok (.iconst 0, 1) := by decide +kernel
theorem dL_law_1416 : decode cL_law 1416 = .ok (.ireturn, 1) := by decide +kernel
theorem dL_law_1417 : decode cL_law 1417 = .ok (.goto 196, 3) := by decide +kernel
theorem dL_law_1420 : decode cL_law 1420 = .ok (.aload_n 1, 1) := by decide +kernel
theorem dL_law_1421 : decode cL_law 1421 = .ok (.invokevirtual 170, 3) := by decide +kernel
theorem dL_law_1424 : decode cL_law 1424 = .ok (.aload_n 2, 1) := by decide +kernel
theorem dL_law_1425 : decode cL_law 1425 = .ok (.invokevirtual 173, 3) := by decide +kernel
theorem dL_law_1428 : decode cL_law 1428 = .ok (.if_icmp .eq 185, 3) := by decide +kernel
theorem dL_law_1431 : decode cL_law 1431 = .ok (.iconst 0, 1) := by decide +kernel
theorem dL_law_1432 : decode cL_law 1432 = .ok (.ireturn, 1) := by decide +kernel
theorem dL_law_1433 : decode cL_law 1433 = .ok (.aload_n 1, 1) := by decide +kernel
theorem dL_law_1434 : decode cL_law 1434 = .ok (.invokevirtual 174, 3) := by decide +kernel
theorem dL_law_1437 : decode cL_law 1437 = .ok (.aload_n 2, 1) := by decide +kernel
theorem dL_law_1438 : decode cL_law 1438 = .ok (.invokevirtual 177, 3) := by decide +kernel
theorem dL_law_1441 : decode cL_law 1441 = .ok (.if_icmp .eq 172, 3) := by decide +kernel
theorem dL_law_1444 : decode cL_law 1444 = .ok (.iconst 0, 1) := by decide +kernel
theorem dL_law_1445 : decode cL_law 1445 = .ok (.ireturn, 1) := by decide +kernel
theorem dL_law_1446 : decode cL_law 1446 = .ok (.aload_n 1, 1) := by decide +kernel
theorem dL_law_1447 : decode cL_law 1447 = .ok (.aload_n 0, 1) := by decide +kernel
theorem dL_law_1448 : decode cL_law 1448 = .ok (.iload 4, 2) := by decide +kernel
theorem dL_law_1450 : decode cL_law 1450 = .ok (.iconst 1, 1) := by decide +kernel
theorem dL_law_1451 : decode cL_law 1451 = .ok (.iadd, 1) := by decide +kernel
theorem dL_law_1452 : decode cL_law 1452 = .ok (.iaload, 1) := by decide +kernel
theorem dL_law_1453 : decode cL_law 1453 = .ok (.aload_n 3, 1) := by decide +kernel
theorem dL_law_1454 : decode cL_law 1454 = .ok (.invokestatic 178, 3) := by decide +kernel
theorem dL_law_1457 : decode cL_law 1457 = .ok (.istore 5, 2) := by decide +kernel
theorem dL_law_1459 : decode cL_law 1459 = .ok (.aload_n 2, 1) := by decide +kernel
theorem dL_law_1460 : decode cL_law 1460 = .ok (.aload_n 0, 1) := by decide +kernel
theorem dL_law_1461 : decode cL_law 1461 = .ok (.iload 4, 2) := by decide +kernel
theorem dL_law_1463 : decode cL_law 1463 = .ok (.iconst 1, 1) := by decide +kernel
theorem dL_law_1464 : decode cL_law 1464 = .ok (.iadd, 1) := by decide +kernel
theorem dL_law_1465 : decode cL_law 1465 = .ok (.iaload, 1) := by decide +kernel
theorem dL_law_1466 : decode cL_law 1466 = .ok (.invokevirtual 180, 3) := by decide +kernel
theorem dL_law_1469 : decode cL_law 1469 = .ok (.istore 6, 2) := by decide +kernel
theorem dL_law_1471 : decode cL_law 1471 = .ok (.aload_n 2, 1) := by decide +kernel
theorem dL_law_1472 : decode cL_law 1472 = .ok (.invokevirtual 97, 3) := by decide +kernel
theorem dL_law_1475 : decode cL_law 1475 = .ok (.iload 5, 2) := by decide +kernel
theorem dL_law_1477 : decode cL_law 1477 = .ok (.if_icmp .eq 5, 3) := by decide +kernel
theorem dL_law_1480 : decode cL_law 1480 = .ok (.iconst 0, 1) := by decide +kernel
theorem dL_law_1481 : decode cL_law 1481 = .ok (.ireturn, 1) := by decide +kernel
theorem dL_law_1482 : decode cL_law 1482 = .ok (.iload 5, 2) := by decide +kernel
theorem dL_law_1484 : decode cL_law 1484 = .ok (.ifCond .ne 15, 3) := by decide +kernel
theorem dL_law_1487 : decode cL_law 1487 = .ok (.aload_n 3, 1) := by decide +kernel
theorem dL_law_1488 : decode cL_law 1488 = .ok (.iconst 0, 1) := by decide +kernel
theorem dL_law_1489 : decode cL_law 1489 = .ok (.laload, 1) := by decide +kernel
theorem dL_law_1490 : decode cL_law 1490 = .ok (.iload 6, 2) := by decide +kernel
theorem dL_law_1492 : decode cL_law 1492 = .ok (.i2l, 1) := by decide +kernel
theorem dL_law_1493 : decode cL_law 1493 = .ok (.lcmp, 1) := by decide +kernel
theorem dL_law_1494 : decode cL_law 1494 = .ok (.ifCond .eq 5, 3) := by decide +kernel
theorem dL_law_1497 : decode cL_law 1497 = .ok (.iconst 0, 1) := by decide +kernel
theorem dL_law_1498 : decode cL_law 1498 = .ok (.ireturn, 1) := by decide +kernel
theorem dL_law_1499 : decode cL_law 1499 = .ok (.goto 114, 3) := by decide +kernel
theorem dL_law_1502 : decode cL_law 1502 = .ok (.aload_n 1, 1) := by decide +kernel
theorem dL_law_1503 : decode cL_law 1503 = .ok (.aload_n 0, 1) := by decide +kernel
theorem dL_law_1504 : decode cL_law 1504 = .ok (.iload 4, 2) := by decide +kernel
theorem dL_law_1506 : decode cL_law 1506 = .ok (.iconst 1, 1) := by decide +kernel
theorem dL_law_1507 : decode cL_law 1507 = .ok (.iadd, 1) := by decide +kernel
theorem dL_law_1508 : decode cL_law 1508 = .ok (.iaload, 1) := by decide +kernel
theorem dL_law_1509 : decode cL_law 1509 = .ok (.aload_n 3, 1) := by decide +kernel
theorem dL_law_1510 : decode cL_law 1510 = .ok (.invokestatic 181, 3) := by decide +kernel
theorem dL_law_1513 : decode cL_law 1513 = .ok (.istore 5, 2) := by decide +kernel
theorem dL_law_1515 : decode cL_law 1515 = .ok (.aload_n 2, 1) := by decide +kernel
theorem dL_law_1516 : decode cL_law 1516 = .ok (.aload_n 0, 1) := by decide +kernel
theorem dL_law_1517 : decode cL_law 1517 = .ok (.iload 4, 2) := by decide +kernel
theorem dL_law_1519 : decode cL_law 1519 = .ok (.iconst 1, 1) := by decide +kernel
theorem dL_law_1520 : decode cL_law 1520 = .ok (.iadd, 1) := by decide +kernel
theorem dL_law_1521 : decode cL_law 1521 = .ok (.iaload, 1) := by decide +kernel
theorem dL_law_1522 : decode cL_law 1522 = .ok (.invokevirtual 183, 3) := by decide +kernel
theorem dL_law_1525 : decode cL_law 1525 = .ok (.istore 6, 2) := by decide +kernel
theorem dL_law_1527 : decode cL_law 1527 = .ok (.aload_n 2, 1) := by decide +kernel
theorem dL_law_1528 : decode cL_law 1528 = .ok (.invokevirtual 97, 3) := by decide +kernel
theorem dL_law_1531 : decode cL_law 1531 = .ok (.iload 5, 2) := by decide +kernel
theorem dL_law_1533 : decode cL_law 1533 = .ok (.if_icmp .eq 5, 3) := by decide +kernel
theorem dL_law_1536 : decode cL_law 1536 = .ok (.iconst 0, 1) := by decide +kernel
theorem dL_law_1537 : decode cL_law 1537 = .ok (.ireturn, 1) := by decide +kernel
theorem dL_law_1538 : decode cL_law 1538 = .ok (.iload 5, 2) := by decide +kernel
theorem dL_law_1540 : decode cL_law 1540 = .ok (.ifCond .ne 15, 3) := by decide +kernel
theorem dL_law_1543 : decode cL_law 1543 = .ok (.aload_n 3, 1) := by decide +kernel
theorem dL_law_1544 : decode cL_law 1544 = .ok (.iconst 0, 1) := by decide +kernel
theorem dL_law_1545 : decode cL_law 1545 = .ok (.laload, 1) := by decide +kernel
theorem dL_law_1546 : decode cL_law 1546 = .ok (.iload 6, 2) := by decide +kernel
theorem dL_law_1548 : decode cL_law 1548 = .ok (.i2l, 1) := by decide +kernel
theorem dL_law_1549 : decode cL_law 1549 = .ok (.lcmp, 1) := by decide +kernel
theorem dL_law_1550 : decode cL_law 1550 = .ok (.ifCond .eq 5, 3) := by decide +kernel
theorem dL_law_1553 : decode cL_law 1553 = .ok (.iconst 0, 1) := by decide +kernel
theorem dL_law_1554 : decode cL_law 1554 = .ok (.ireturn, 1) := by decide +kernel
theorem dL_law_1555 : decode cL_law 1555 = .ok (.goto 58, 3) := by decide +kernel
theorem dL_law_1558 : decode cL_law 1558 = .ok (.aload_n 1, 1) := by decide +kernel
theorem dL_law_1559 : decode cL_law 1559 = .ok (.invokevirtual 184, 3) := by decide +kernel
theorem dL_law_1562 : decode cL_law 1562 = .ok (.dstore 5, 2) := by decide +kernel
theorem dL_law_1564 : decode cL_law 1564 = .ok (.aload_n 2, 1) := by decide +kernel
theorem dL_law_1565 : decode cL_law 1565 = .ok (.invokevirtual 188, 3) := by decide +kernel
theorem dL_law_1568 : decode cL_law 1568 = .ok (.dstore 7, 2) := by decide +kernel
theorem dL_law_1570 : decode cL_law 1570 = .ok (.dload 5, 2) := by decide +kernel
theorem dL_law_1572 : decode cL_law 1572 = .ok (.dload 7, 2) := by decide +kernel
theorem dL_law_1574 : decode cL_law 1574 = .ok (.dcmp .l, 1) := by decide +kernel
theorem dL_law_1575 : decode cL_law 1575 = .ok (.ifCond .eq 21, 3) := by decide +kernel
theorem dL_law_1578 : decode cL_law 1578 = .ok (.dload 5, 2) := by decide +kernel
theorem dL_law_1580 : decode cL_law 1580 = .ok (.dload 5, 2) := by decide +kernel
theorem dL_law_1582 : decode cL_law 1582 = .ok (.dcmp .l, 1) := by decide +kernel
theorem dL_law_1583 : decode cL_law 1583 = .ok (.ifCond .eq 11, 3) := by decide +kernel
theorem dL_law_1586 : decode cL_law 1586 = .ok (.dload 7, 2) := by decide +kernel
theorem dL_law_1588 : decode cL_law 1588 = .ok (.dload 7, 2) := by decide +kernel
theorem dL_law_1590 : decode cL_law 1590 = .ok (.dcmp .l, 1) := by decide +kernel
theorem dL_law_1591 : decode cL_law 1591 = .ok (.ifCond .ne 5, 3) := by decide +kernel
theorem dL_law_1594 : decode cL_law 1594 = .ok (.iconst 0, 1) := by decide +kernel
theorem dL_law_1595 : decode cL_law 1595 = .ok (.ireturn, 1) := by decide +kernel
theorem dL_law_1596 : decode cL_law 1596 = .ok (.goto 17, 3) := by decide +kernel
theorem dL_law_1599 : decode cL_law 1599 = .ok (.aload_n 1, 1) := by decide +kernel
theorem dL_law_1600 : decode cL_law 1600 = .ok (.invokevirtual 189, 3) := by decide +kernel
theorem dL_law_1603 : decode cL_law 1603 = .ok (.aload_n 2, 1) := by decide +kernel
theorem dL_law_1604 : decode cL_law 1604 = .ok (.invokevirtual 193, 3) := by decide +kernel
theorem dL_law_1607 : decode cL_law 1607 = .ok (.lcmp, 1) := by decide +kernel
theorem dL_law_1608 : decode cL_law 1608 = .ok (.ifCond .eq 5, 3) := by decide +kernel
theorem dL_law_1611 : decode cL_law 1611 = .ok (.iconst 0, 1) := by decide +kernel
theorem dL_law_1612 : decode cL_law 1612 = .ok (.ireturn, 1) := by decide +kernel
theorem dL_law_1613 : decode cL_law 1613 = .ok (.iinc 4 5, 3) := by decide +kernel
theorem dL_law_1616 : decode cL_law 1616 = .ok (.goto (-1593), 3) := by decide +kernel
theorem dL_law_1619 : decode cL_law 1619 = .ok (.iconst 1, 1) := by decide +kernel
theorem dL_law_1620 : decode cL_law 1620 = .ok (.ireturn, 1) := by decide +kernel
end
section
/-! THE WORDS of wsL_law, each by its place; what is known of each method by its name (printed by program) -/
theorem wA_0 : Cond.classLink RL 8 RX3 ∈ wsL_law := List.mem_of_getElem? (i := 0) (by decide +kernel)
theorem wA_1 : Cond.instantiable RX3 11 ∈ wsL_law := List.mem_of_getElem? (i := 1) (by decide +kernel)
theorem wA_2 : Cond.initialized RX3 ∈ wsL_law := List.mem_of_getElem? (i := 2) (by decide +kernel)
theorem wA_3 : Cond.classLink RL 88 RX4 ∈ wsL_law := List.mem_of_getElem? (i := 3) (by decide +kernel)
theorem wA_4 : Cond.instantiable RX4 21 ∈ wsL_law := List.mem_of_getElem? (i := 4) (by decide +kernel)
theorem wA_5 : Cond.initialized RX4 ∈ wsL_law := List.mem_of_getElem? (i := 5) (by decide +kernel)
theorem wA_6 : Cond.arrayClass .long ∈ wsL_law := List.mem_of_getElem? (i := 6) (by decide +kernel)
theorem wA_7 : Cond.methodLink RL 87 yX3_init ∈ wsL_law := List.mem_of_getElem? (i := 7) (by decide +kernel)
theorem wA_8 : Cond.instanceMethod yX3_init ∈ wsL_law := List.mem_of_getElem? (i := 8) (by decide +kernel)
theorem wA_9 : Cond.code yX3_init cX3_init 1 none ∈ wsL_law := List.mem_of_getElem? (i := 9) (by decide +kernel)
theorem wA_10 : Cond.methodLink RX3 1 objectInit ∈ wsL_law := List.mem_of_getElem? (i := 10) (by decide +kernel)
theorem wA_11 : Cond.instanceMethod objectInit ∈ wsL_law := List.mem_of_getElem? (i := 11) (by decide +kernel)
theorem wA_12 : Cond.code objectInit ⟨#[0xb1]⟩ 1 none ∈ wsL_law := List.mem_of_getElem? (i := 12) (by decide +kernel)
theorem wA_13 : Cond.classLink RX3 9 RX0 ∈ wsL_law := List.mem_of_getElem? (i := 13) (by decide +kernel)
theorem wA_14 : Cond.fieldLink RX3 11 "PagedMemory" "pages" "[LPagedMemory$Content;" ∈ wsL_law := List.mem_of_getElem? (i := 14) (by decide +kernel)
theorem wA_15 : Cond.arrayClass .boolean ∈ wsL_law := List.mem_of_getElem? (i := 15) (by decide +kernel)
theorem wA_16 : Cond.fieldLink RX3 15 "PagedMemory" "live" "[Z" ∈ wsL_law := List.mem_of_getElem? (i := 16) (by decide +kernel)
theorem wA_17 : Cond.fieldLink RX3 19 "PagedMemory" "segmentContents" "[LPagedMemory$Content;" ∈ wsL_law := List.mem_of_getElem? (i := 17) (by decide +kernel)
theorem wA_18 : Cond.classLink RX3 22 RX1 ∈ wsL_law := List.mem_of_getElem? (i := 18) (by decide +kernel)
theorem wA_19 : Cond.instantiable RX1 5 ∈ wsL_law := List.mem_of_getElem? (i := 19) (by decide +kernel)
theorem wA_20 : Cond.initialized RX1 ∈ wsL_law := List.mem_of_getElem? (i := 20) (by decide +kernel)
theorem wA_21 : Cond.fieldLink RX3 25 "PagedMemory" "frameTable" "LPagedMemory$FrameTable;" ∈ wsL_law := List.mem_of_getElem? (i := 21) (by decide +kernel)
theorem wA_22 : Cond.classLink RX3 29 RX2 ∈ wsL_law := List.mem_of_getElem? (i := 22) (by decide +kernel)
theorem wA_23 : Cond.instantiable RX2 1 ∈ wsL_law := List.mem_of_getElem? (i := 23) (by decide +kernel)
theorem wA_24 : Cond.initialized RX2 ∈ wsL_law := List.mem_of_getElem? (i := 24) (by decide +kernel)
theorem wA_25 : Cond.fieldLink RX3 32 "PagedMemory" "swapArea" "LPagedMemory$SwapArea;" ∈ wsL_law := List.mem_of_getElem? (i := 25) (by decide +kernel)
theorem wA_26 : Cond.fieldLink RX3 36 "PagedMemory" "cluster" "[LPagedMemory$Content;" ∈ wsL_law := List.mem_of_getElem? (i := 26) (by decide +kernel)
theorem wA_27 : Cond.arrayClass .int ∈ wsL_law := List.mem_of_getElem? (i := 27) (by decide +kernel)
theorem wA_28 : Cond.fieldLink RX3 39 "PagedMemory" "counts" "[I" ∈ wsL_law := List.mem_of_getElem? (i := 28) (by decide +kernel)
theorem wA_29 : Cond.fieldLink RX3 43 "PagedMemory" "processesCreated" "I" ∈ wsL_law := List.mem_of_getElem? (i := 29) (by decide +kernel)
theorem wA_30 : Cond.fieldLink RX3 47 "PagedMemory" "segmentsCreated" "I" ∈ wsL_law := List.mem_of_getElem? (i := 30) (by decide +kernel)
theorem wA_31 : Cond.fieldLink RX3 50 "PagedMemory" "windowSize" "I" ∈ wsL_law := List.mem_of_getElem? (i := 31) (by decide +kernel)
theorem wA_32 : Cond.fieldLink RX3 53 "PagedMemory" "now" "I" ∈ wsL_law := List.mem_of_getElem? (i := 32) (by decide +kernel)
theorem wA_33 : Cond.methodLink RX3 24 yX1_init ∈ wsL_law := List.mem_of_getElem? (i := 33) (by decide +kernel)
theorem wA_34 : Cond.instanceMethod yX1_init ∈ wsL_law := List.mem_of_getElem? (i := 34) (by decide +kernel)
theorem wA_35 : Cond.code yX1_init cX1_init 2 none ∈ wsL_law := List.mem_of_getElem? (i := 35) (by decide +kernel)
theorem wA_36 : Cond.methodLink RX1 3 objectInit ∈ wsL_law := List.mem_of_getElem? (i := 36) (by decide +kernel)
theorem wA_37 : Cond.classLink RX1 9 RX0 ∈ wsL_law := List.mem_of_getElem? (i := 37) (by decide +kernel)
theorem wA_38 : Cond.fieldLink RX1 11 "PagedMemory$FrameTable" "contents" "[LPagedMemory$Content;" ∈ wsL_law := List.mem_of_getElem? (i := 38) (by decide +kernel)
theorem wA_39 : Cond.fieldLink RX1 17 "PagedMemory$FrameTable" "usedAt" "[I" ∈ wsL_law := List.mem_of_getElem? (i := 39) (by decide +kernel)
theorem wA_40 : Cond.fieldLink RX1 21 "PagedMemory$FrameTable" "marked" "[Z" ∈ wsL_law := List.mem_of_getElem? (i := 40) (by decide +kernel)
theorem wA_41 : Cond.fieldLink RX1 25 "PagedMemory$FrameTable" "size" "I" ∈ wsL_law := List.mem_of_getElem? (i := 41) (by decide +kernel)
theorem wA_42 : Cond.fieldLink RX1 29 "PagedMemory$FrameTable" "handAt" "I" ∈ wsL_law := List.mem_of_getElem? (i := 42) (by decide +kernel)
theorem wA_43 : Cond.methodLink RX3 31 yX2_init ∈ wsL_law := List.mem_of_getElem? (i := 43) (by decide +kernel)
theorem wA_44 : Cond.instanceMethod yX2_init ∈ wsL_law := List.mem_of_getElem? (i := 44) (by decide +kernel)
theorem wA_45 : Cond.code yX2_init cX2_init 1 none ∈ wsL_law := List.mem_of_getElem? (i := 45) (by decide +kernel)
theorem wA_46 : Cond.methodLink RX2 3 objectInit ∈ wsL_law := List.mem_of_getElem? (i := 46) (by decide +kernel)
theorem wA_47 : Cond.classLink RX2 9 RX0 ∈ wsL_law := List.mem_of_getElem? (i := 47) (by decide +kernel)
theorem wA_48 : Cond.fieldLink RX2 11 "PagedMemory$SwapArea" "contents" "[LPagedMemory$Content;" ∈ wsL_law := List.mem_of_getElem? (i := 48) (by decide +kernel)
theorem wA_49 : Cond.methodLink RL 90 yX4_init ∈ wsL_law := List.mem_of_getElem? (i := 49) (by decide +kernel)
theorem wA_50 : Cond.instanceMethod yX4_init ∈ wsL_law := List.mem_of_getElem? (i := 50) (by decide +kernel)
theorem wA_51 : Cond.code yX4_init cX4_init 2 none ∈ wsL_law := List.mem_of_getElem? (i := 51) (by decide +kernel)
theorem wA_52 : Cond.methodLink RX4 1 objectInit ∈ wsL_law := List.mem_of_getElem? (i := 52) (by decide +kernel)
theorem wA_53 : Cond.fieldLink RX4 7 "PagedMemoryModel" "window" "I" ∈ wsL_law := List.mem_of_getElem? (i := 53) (by decide +kernel)
theorem wA_54 : Cond.fieldLink RX4 13 "PagedMemoryModel" "frames" "I" ∈ wsL_law := List.mem_of_getElem? (i := 54) (by decide +kernel)
theorem wA_55 : Cond.fieldLink RX4 16 "PagedMemoryModel" "contentIn" "[I" ∈ wsL_law := List.mem_of_getElem? (i := 55) (by decide +kernel)
theorem wA_56 : Cond.fieldLink RX4 20 "PagedMemoryModel" "uses" "[I" ∈ wsL_law := List.mem_of_getElem? (i := 56) (by decide +kernel)
theorem wA_57 : Cond.fieldLink RX4 23 "PagedMemoryModel" "isMarked" "[Z" ∈ wsL_law := List.mem_of_getElem? (i := 57) (by decide +kernel)
theorem wA_58 : Cond.fieldLink RX4 27 "PagedMemoryModel" "contentAt" "[I" ∈ wsL_law := List.mem_of_getElem? (i := 58) (by decide +kernel)
theorem wA_59 : Cond.fieldLink RX4 30 "PagedMemoryModel" "isThere" "[Z" ∈ wsL_law := List.mem_of_getElem? (i := 59) (by decide +kernel)
theorem wA_60 : Cond.fieldLink RX4 33 "PagedMemoryModel" "isWritten" "[Z" ∈ wsL_law := List.mem_of_getElem? (i := 60) (by decide +kernel)
theorem wA_61 : Cond.fieldLink RX4 36 "PagedMemoryModel" "words" "[I" ∈ wsL_law := List.mem_of_getElem? (i := 61) (by decide +kernel)
theorem wA_62 : Cond.fieldLink RX4 39 "PagedMemoryModel" "isLive" "[Z" ∈ wsL_law := List.mem_of_getElem? (i := 62) (by decide +kernel)
theorem wA_63 : Cond.fieldLink RX4 42 "PagedMemoryModel" "mappings" "[I" ∈ wsL_law := List.mem_of_getElem? (i := 63) (by decide +kernel)
theorem wA_64 : Cond.fieldLink RX4 45 "PagedMemoryModel" "contents" "[I" ∈ wsL_law := List.mem_of_getElem? (i := 64) (by decide +kernel)
theorem wA_65 : Cond.fieldLink RX4 48 "PagedMemoryModel" "sizes" "[I" ∈ wsL_law := List.mem_of_getElem? (i := 65) (by decide +kernel)
theorem wA_66 : Cond.fieldLink RX4 51 "PagedMemoryModel" "parts" "[I" ∈ wsL_law := List.mem_of_getElem? (i := 66) (by decide +kernel)
theorem wA_67 : Cond.fieldLink RX4 54 "PagedMemoryModel" "counts" "[I" ∈ wsL_law := List.mem_of_getElem? (i := 67) (by decide +kernel)
theorem wA_68 : Cond.fieldLink RX4 57 "PagedMemoryModel" "cluster" "[I" ∈ wsL_law := List.mem_of_getElem? (i := 68) (by decide +kernel)
theorem wA_69 : Cond.methodLink RL 91 yL_setFrames ∈ wsL_law := List.mem_of_getElem? (i := 69) (by decide +kernel)
theorem wA_70 : Cond.static yL_setFrames ∈ wsL_law := List.mem_of_getElem? (i := 70) (by decide +kernel)
theorem wA_71 : Cond.initialized RL ∈ wsL_law := List.mem_of_getElem? (i := 71) (by decide +kernel)
theorem wA_72 : Cond.codeWith yL_setFrames cL_setFrames 4 (some .int) [(0, 9, 12, 13), (0, 9, 15, 15)] ∈ wsL_law := List.mem_of_getElem? (i := 72) (by decide +kernel)
theorem wA_73 : Cond.classLink RL 13 "java/lang/IllegalArgumentException" ∈ wsL_law := List.mem_of_getElem? (i := 73) (by decide +kernel)
theorem wA_74 : Cond.classLink RL 15 "java/lang/IllegalStateException" ∈ wsL_law := List.mem_of_getElem? (i := 74) (by decide +kernel)
theorem wA_75 : Cond.methodLink RL 7 yX3_setFrames ∈ wsL_law := List.mem_of_getElem? (i := 75) (by decide +kernel)
theorem wA_76 : Cond.instanceMethod yX3_setFrames ∈ wsL_law := List.mem_of_getElem? (i := 76) (by decide +kernel)
theorem wA_77 : Cond.selects RX3 yX3_setFrames yX3_setFrames ∈ wsL_law := List.mem_of_getElem? (i := 77) (by decide +kernel)
theorem wA_78 : Cond.code yX3_setFrames cX3_setFrames 3 (some .int) ∈ wsL_law := List.mem_of_getElem? (i := 78) (by decide +kernel)
theorem wA_79 : Cond.classLink RX3 56 "java/lang/IllegalArgumentException" ∈ wsL_law := List.mem_of_getElem? (i := 79) (by decide +kernel)
theorem wA_80 : Cond.initialized "java/lang/IllegalArgumentException" ∈ wsL_law := List.mem_of_getElem? (i := 80) (by decide +kernel)
theorem wA_81 : Cond.classLink RX3 70 "java/lang/IllegalStateException" ∈ wsL_law := List.mem_of_getElem? (i := 81) (by decide +kernel)
theorem wA_82 : Cond.initialized "java/lang/IllegalStateException" ∈ wsL_law := List.mem_of_getElem? (i := 82) (by decide +kernel)
theorem wA_83 : Cond.fieldLink RX3 67 "PagedMemory$FrameTable" "size" "I" ∈ wsL_law := List.mem_of_getElem? (i := 83) (by decide +kernel)
theorem wA_84 : Cond.fieldLink RX3 75 "PagedMemory$FrameTable" "handAt" "I" ∈ wsL_law := List.mem_of_getElem? (i := 84) (by decide +kernel)
theorem wA_85 : Cond.methodLink RX3 63 yX1_freeCount ∈ wsL_law := List.mem_of_getElem? (i := 85) (by decide +kernel)
theorem wA_86 : Cond.instanceMethod yX1_freeCount ∈ wsL_law := List.mem_of_getElem? (i := 86) (by decide +kernel)
theorem wA_87 : Cond.selects RX1 yX1_freeCount yX1_freeCount ∈ wsL_law := List.mem_of_getElem? (i := 87) (by decide +kernel)
theorem wA_88 : Cond.code yX1_freeCount cX1_freeCount 3 (some .int) ∈ wsL_law := List.mem_of_getElem? (i := 88) (by decide +kernel)
theorem wA_89 : Cond.methodLink RL 96 yX4_setFrames ∈ wsL_law := List.mem_of_getElem? (i := 89) (by decide +kernel)
theorem wA_90 : Cond.instanceMethod yX4_setFrames ∈ wsL_law := List.mem_of_getElem? (i := 90) (by decide +kernel)
theorem wA_91 : Cond.selects RX4 yX4_setFrames yX4_setFrames ∈ wsL_law := List.mem_of_getElem? (i := 91) (by decide +kernel)
theorem wA_92 : Cond.code yX4_setFrames cX4_setFrames 3 (some .int) ∈ wsL_law := List.mem_of_getElem? (i := 92) (by decide +kernel)
theorem wA_93 : Cond.fieldLink RX4 60 "PagedMemoryModel" "thrown" "I" ∈ wsL_law := List.mem_of_getElem? (i := 93) (by decide +kernel)
theorem wA_94 : Cond.fieldLink RX4 93 "PagedMemoryModel" "hand" "I" ∈ wsL_law := List.mem_of_getElem? (i := 94) (by decide +kernel)
theorem wA_95 : Cond.methodLink RX4 86 yX4_no ∈ wsL_law := List.mem_of_getElem? (i := 95) (by decide +kernel)
theorem wA_96 : Cond.instanceMethod yX4_no ∈ wsL_law := List.mem_of_getElem? (i := 96) (by decide +kernel)
theorem wA_97 : Cond.selects RX4 yX4_no yX4_no ∈ wsL_law := List.mem_of_getElem? (i := 97) (by decide +kernel)
theorem wA_98 : Cond.code yX4_no cX4_no 2 (some .int) ∈ wsL_law := List.mem_of_getElem? (i := 98) (by decide +kernel)
theorem wA_99 : Cond.methodLink RX4 89 yX4_used ∈ wsL_law := List.mem_of_getElem? (i := 99) (by decide +kernel)
theorem wA_100 : Cond.instanceMethod yX4_used ∈ wsL_law := List.mem_of_getElem? (i := 100) (by decide +kernel)
theorem wA_101 : Cond.selects RX4 yX4_used yX4_used ∈ wsL_law := List.mem_of_getElem? (i := 101) (by decide +kernel)
theorem wA_102 : Cond.code yX4_used cX4_used 3 (some .int) ∈ wsL_law := List.mem_of_getElem? (i := 102) (by decide +kernel)
theorem wA_103 : Cond.methodLink RL 97 yX4_thrown ∈ wsL_law := List.mem_of_getElem? (i := 103) (by decide +kernel)
theorem wA_104 : Cond.instanceMethod yX4_thrown ∈ wsL_law := List.mem_of_getElem? (i := 104) (by decide +kernel)
theorem wA_105 : Cond.selects RX4 yX4_thrown yX4_thrown ∈ wsL_law := List.mem_of_getElem? (i := 105) (by decide +kernel)
theorem wA_106 : Cond.code yX4_thrown cX4_thrown 1 (some .int) ∈ wsL_law := List.mem_of_getElem? (i := 106) (by decide +kernel)
theorem wA_107 : Cond.methodLink RL 100 yL_setWindow ∈ wsL_law := List.mem_of_getElem? (i := 107) (by decide +kernel)
theorem wA_108 : Cond.static yL_setWindow ∈ wsL_law := List.mem_of_getElem? (i := 108) (by decide +kernel)
theorem wA_109 : Cond.codeWith yL_setWindow cL_setWindow 4 (some .int) [(0, 9, 12, 13)] ∈ wsL_law := List.mem_of_getElem? (i := 109) (by decide +kernel)
theorem wA_110 : Cond.methodLink RL 17 yX3_setWindow ∈ wsL_law := List.mem_of_getElem? (i := 110) (by decide +kernel)
theorem wA_111 : Cond.instanceMethod yX3_setWindow ∈ wsL_law := List.mem_of_getElem? (i := 111) (by decide +kernel)
theorem wA_112 : Cond.selects RX3 yX3_setWindow yX3_setWindow ∈ wsL_law := List.mem_of_getElem? (i := 112) (by decide +kernel)
theorem wA_113 : Cond.code yX3_setWindow cX3_setWindow 3 (some .int) ∈ wsL_law := List.mem_of_getElem? (i := 113) (by decide +kernel)
theorem wA_114 : Cond.methodLink RL 102 yX4_setWindow ∈ wsL_law := List.mem_of_getElem? (i := 114) (by decide +kernel)
theorem wA_115 : Cond.instanceMethod yX4_setWindow ∈ wsL_law := List.mem_of_getElem? (i := 115) (by decide +kernel)
theorem wA_116 : Cond.selects RX4 yX4_setWindow yX4_setWindow ∈ wsL_law := List.mem_of_getElem? (i := 116) (by decide +kernel)
theorem wA_117 : Cond.code yX4_setWindow cX4_setWindow 3 (some .int) ∈ wsL_law := List.mem_of_getElem? (i := 117) (by decide +kernel)
theorem wA_118 : Cond.methodLink RL 103 yL_start ∈ wsL_law := List.mem_of_getElem? (i := 118) (by decide +kernel)
theorem wA_119 : Cond.static yL_start ∈ wsL_law := List.mem_of_getElem? (i := 119) (by decide +kernel)
theorem wA_120 : Cond.codeWith yL_start cL_start 3 (some .int) [(0, 8, 11, 15)] ∈ wsL_law := List.mem_of_getElem? (i := 120) (by decide +kernel)
theorem wA_121 : Cond.methodLink RL 20 yX3_start ∈ wsL_law := List.mem_of_getElem? (i := 121) (by decide +kernel)
theorem wA_122 : Cond.instanceMethod yX3_start ∈ wsL_law := List.mem_of_getElem? (i := 122) (by decide +kernel)
theorem wA_123 : Cond.selects RX3 yX3_start yX3_start ∈ wsL_law := List.mem_of_getElem? (i := 123) (by decide +kernel)
theorem wA_124 : Cond.code yX3_start cX3_start 1 (some .int) ∈ wsL_law := List.mem_of_getElem? (i := 124) (by decide +kernel)
theorem wA_125 : Cond.methodLink RX3 80 yX3_requireRoomForProcess ∈ wsL_law := List.mem_of_getElem? (i := 125) (by decide +kernel)
theorem wA_126 : Cond.instanceMethod yX3_requireRoomForProcess ∈ wsL_law := List.mem_of_getElem? (i := 126) (by decide +kernel)
theorem wA_127 : Cond.selects RX3 yX3_requireRoomForProcess yX3_requireRoomForProcess ∈ wsL_law := List.mem_of_getElem? (i := 127) (by decide +kernel)
theorem wA_128 : Cond.code yX3_requireRoomForProcess cX3_requireRoomForProcess 1 none ∈ wsL_law := List.mem_of_getElem? (i := 128) (by decide +kernel)
theorem wA_129 : Cond.methodLink RX3 83 yX3_createProcess ∈ wsL_law := List.mem_of_getElem? (i := 129) (by decide +kernel)
theorem wA_130 : Cond.instanceMethod yX3_createProcess ∈ wsL_law := List.mem_of_getElem? (i := 130) (by decide +kernel)
theorem wA_131 : Cond.selects RX3 yX3_createProcess yX3_createProcess ∈ wsL_law := List.mem_of_getElem? (i := 131) (by decide +kernel)
theorem wA_132 : Cond.code yX3_createProcess cX3_createProcess 2 (some .int) ∈ wsL_law := List.mem_of_getElem? (i := 132) (by decide +kernel)
theorem wA_133 : Cond.methodLink RL 106 yX4_start ∈ wsL_law := List.mem_of_getElem? (i := 133) (by decide +kernel)
theorem wA_134 : Cond.instanceMethod yX4_start ∈ wsL_law := List.mem_of_getElem? (i := 134) (by decide +kernel)
theorem wA_135 : Cond.selects RX4 yX4_start yX4_start ∈ wsL_law := List.mem_of_getElem? (i := 135) (by decide +kernel)
theorem wA_136 : Cond.code yX4_start cX4_start 2 (some .int) ∈ wsL_law := List.mem_of_getElem? (i := 136) (by decide +kernel)
theorem wA_137 : Cond.fieldLink RX4 67 "PagedMemoryModel" "processes" "I" ∈ wsL_law := List.mem_of_getElem? (i := 137) (by decide +kernel)
theorem wA_138 : Cond.methodLink RX4 96 yX4_at ∈ wsL_law := List.mem_of_getElem? (i := 138) (by decide +kernel)
theorem wA_139 : Cond.static yX4_at ∈ wsL_law := List.mem_of_getElem? (i := 139) (by decide +kernel)
theorem wA_140 : Cond.code yX4_at cX4_at 2 (some .int) ∈ wsL_law := List.mem_of_getElem? (i := 140) (by decide +kernel)
theorem wA_141 : Cond.methodLink RL 107 yL_fork ∈ wsL_law := List.mem_of_getElem? (i := 141) (by decide +kernel)
theorem wA_142 : Cond.static yL_fork ∈ wsL_law := List.mem_of_getElem? (i := 142) (by decide +kernel)
theorem wA_143 : Cond.codeWith yL_fork cL_fork 4 (some .int) [(0, 9, 12, 27), (0, 9, 15, 29), (0, 9, 18, 15)] ∈ wsL_law := List.mem_of_getElem? (i := 143) (by decide +kernel)
theorem wA_144 : Cond.classLink RL 27 "java/lang/IndexOutOfBoundsException" ∈ wsL_law := List.mem_of_getElem? (i := 144) (by decide +kernel)
theorem wA_145 : Cond.classLink RL 29 "java/util/NoSuchElementException" ∈ wsL_law := List.mem_of_getElem? (i := 145) (by decide +kernel)
theorem wA_146 : Cond.methodLink RL 24 yX3_fork ∈ wsL_law := List.mem_of_getElem? (i := 146) (by decide +kernel)
theorem wA_147 : Cond.instanceMethod yX3_fork ∈ wsL_law := List.mem_of_getElem? (i := 147) (by decide +kernel)
theorem wA_148 : Cond.selects RX3 yX3_fork yX3_fork ∈ wsL_law := List.mem_of_getElem? (i := 148) (by decide +kernel)
theorem wA_149 : Cond.code yX3_fork cX3_fork 5 (some .int) ∈ wsL_law := List.mem_of_getElem? (i := 149) (by decide +kernel)
theorem wA_150 : Cond.methodLink RX3 86 yX3_requireProcess ∈ wsL_law := List.mem_of_getElem? (i := 150) (by decide +kernel)
theorem wA_151 : Cond.instanceMethod yX3_requireProcess ∈ wsL_law := List.mem_of_getElem? (i := 151) (by decide +kernel)
theorem wA_152 : Cond.selects RX3 yX3_requireProcess yX3_requireProcess ∈ wsL_law := List.mem_of_getElem? (i := 152) (by decide +kernel)
theorem wA_153 : Cond.code yX3_requireProcess cX3_requireProcess 2 none ∈ wsL_law := List.mem_of_getElem? (i := 153) (by decide +kernel)
theorem wA_154 : Cond.classLink RX3 188 "java/lang/IndexOutOfBoundsException" ∈ wsL_law := List.mem_of_getElem? (i := 154) (by decide +kernel)
theorem wA_155 : Cond.initialized "java/lang/IndexOutOfBoundsException" ∈ wsL_law := List.mem_of_getElem? (i := 155) (by decide +kernel)
theorem wA_156 : Cond.methodLink RX3 90 yX3_requireLive ∈ wsL_law := List.mem_of_getElem? (i := 156) (by decide +kernel)
theorem wA_157 : Cond.instanceMethod yX3_requireLive ∈ wsL_law := List.mem_of_getElem? (i := 157) (by decide +kernel)
theorem wA_158 : Cond.selects RX3 yX3_requireLive yX3_requireLive ∈ wsL_law := List.mem_of_getElem? (i := 158) (by decide +kernel)
theorem wA_159 : Cond.code yX3_requireLive cX3_requireLive 2 none ∈ wsL_law := List.mem_of_getElem? (i := 159) (by decide +kernel)
theorem wA_160 : Cond.classLink RX3 225 "java/util/NoSuchElementException" ∈ wsL_law := List.mem_of_getElem? (i := 160) (by decide +kernel)
theorem wA_161 : Cond.initialized "java/util/NoSuchElementException" ∈ wsL_law := List.mem_of_getElem? (i := 161) (by decide +kernel)
theorem wA_162 : Cond.methodLink RX3 93 yX3_placeOf ∈ wsL_law := List.mem_of_getElem? (i := 162) (by decide +kernel)
theorem wA_163 : Cond.static yX3_placeOf ∈ wsL_law := List.mem_of_getElem? (i := 163) (by decide +kernel)
theorem wA_164 : Cond.code yX3_placeOf cX3_placeOf 2 (some .int) ∈ wsL_law := List.mem_of_getElem? (i := 164) (by decide +kernel)
theorem wA_165 : Cond.methodLink RX3 97 yX3_refer ∈ wsL_law := List.mem_of_getElem? (i := 165) (by decide +kernel)
theorem wA_166 : Cond.instanceMethod yX3_refer ∈ wsL_law := List.mem_of_getElem? (i := 166) (by decide +kernel)
theorem wA_167 : Cond.selects RX3 yX3_refer yX3_refer ∈ wsL_law := List.mem_of_getElem? (i := 167) (by decide +kernel)
theorem wA_168 : Cond.code yX3_refer cX3_refer 3 none ∈ wsL_law := List.mem_of_getElem? (i := 168) (by decide +kernel)
theorem wA_169 : Cond.fieldLink RX3 152 "PagedMemory$Content" "sharers" "I" ∈ wsL_law := List.mem_of_getElem? (i := 169) (by decide +kernel)
theorem wA_170 : Cond.methodLink RL 109 yX4_fork ∈ wsL_law := List.mem_of_getElem? (i := 170) (by decide +kernel)
theorem wA_171 : Cond.instanceMethod yX4_fork ∈ wsL_law := List.mem_of_getElem? (i := 171) (by decide +kernel)
theorem wA_172 : Cond.selects RX4 yX4_fork yX4_fork ∈ wsL_law := List.mem_of_getElem? (i := 172) (by decide +kernel)
theorem wA_173 : Cond.code yX4_fork cX4_fork 4 (some .int) ∈ wsL_law := List.mem_of_getElem? (i := 173) (by decide +kernel)
theorem wA_174 : Cond.methodLink RX4 100 yX4_isProcess ∈ wsL_law := List.mem_of_getElem? (i := 174) (by decide +kernel)
theorem wA_175 : Cond.instanceMethod yX4_isProcess ∈ wsL_law := List.mem_of_getElem? (i := 175) (by decide +kernel)
theorem wA_176 : Cond.selects RX4 yX4_isProcess yX4_isProcess ∈ wsL_law := List.mem_of_getElem? (i := 176) (by decide +kernel)
theorem wA_177 : Cond.code yX4_isProcess cX4_isProcess 2 (some .boolean) ∈ wsL_law := List.mem_of_getElem? (i := 177) (by decide +kernel)
theorem wA_178 : Cond.methodLink RX4 103 yX4_start ∈ wsL_law := List.mem_of_getElem? (i := 178) (by decide +kernel)
theorem wA_179 : Cond.methodLink RL 110 yL_exit ∈ wsL_law := List.mem_of_getElem? (i := 179) (by decide +kernel)
theorem wA_180 : Cond.static yL_exit ∈ wsL_law := List.mem_of_getElem? (i := 180) (by decide +kernel)
theorem wA_181 : Cond.codeWith yL_exit cL_exit 4 (some .int) [(0, 9, 12, 27), (0, 9, 15, 29)] ∈ wsL_law := List.mem_of_getElem? (i := 181) (by decide +kernel)
theorem wA_182 : Cond.methodLink RL 31 yX3_exit ∈ wsL_law := List.mem_of_getElem? (i := 182) (by decide +kernel)
theorem wA_183 : Cond.instanceMethod yX3_exit ∈ wsL_law := List.mem_of_getElem? (i := 183) (by decide +kernel)
theorem wA_184 : Cond.selects RX3 yX3_exit yX3_exit ∈ wsL_law := List.mem_of_getElem? (i := 184) (by decide +kernel)
theorem wA_185 : Cond.code yX3_exit cX3_exit 4 (some .int) ∈ wsL_law := List.mem_of_getElem? (i := 185) (by decide +kernel)
theorem wA_186 : Cond.methodLink RX3 101 yX3_dropReference ∈ wsL_law := List.mem_of_getElem? (i := 186) (by decide +kernel)
theorem wA_187 : Cond.instanceMethod yX3_dropReference ∈ wsL_law := List.mem_of_getElem? (i := 187) (by decide +kernel)
theorem wA_188 : Cond.selects RX3 yX3_dropReference yX3_dropReference ∈ wsL_law := List.mem_of_getElem? (i := 188) (by decide +kernel)
theorem wA_189 : Cond.code yX3_dropReference cX3_dropReference 3 (some .boolean) ∈ wsL_law := List.mem_of_getElem? (i := 189) (by decide +kernel)
theorem wA_190 : Cond.fieldLink RX3 129 "PagedMemory$Content" "shared" "Z" ∈ wsL_law := List.mem_of_getElem? (i := 190) (by decide +kernel)
theorem wA_191 : Cond.fieldLink RX3 136 "PagedMemory$Content" "frame" "I" ∈ wsL_law := List.mem_of_getElem? (i := 191) (by decide +kernel)
theorem wA_192 : Cond.methodLink RX3 252 yX1_vacate ∈ wsL_law := List.mem_of_getElem? (i := 192) (by decide +kernel)
theorem wA_193 : Cond.instanceMethod yX1_vacate ∈ wsL_law := List.mem_of_getElem? (i := 193) (by decide +kernel)
theorem wA_194 : Cond.selects RX1 yX1_vacate yX1_vacate ∈ wsL_law := List.mem_of_getElem? (i := 194) (by decide +kernel)
theorem wA_195 : Cond.code yX1_vacate cX1_vacate 3 none ∈ wsL_law := List.mem_of_getElem? (i := 195) (by decide +kernel)
theorem wA_196 : Cond.fieldLink RX1 36 "PagedMemory$Content" "frame" "I" ∈ wsL_law := List.mem_of_getElem? (i := 196) (by decide +kernel)
theorem wA_197 : Cond.methodLink RX3 159 yX2_vacateSlotOf ∈ wsL_law := List.mem_of_getElem? (i := 197) (by decide +kernel)
theorem wA_198 : Cond.instanceMethod yX2_vacateSlotOf ∈ wsL_law := List.mem_of_getElem? (i := 198) (by decide +kernel)
theorem wA_199 : Cond.selects RX2 yX2_vacateSlotOf yX2_vacateSlotOf ∈ wsL_law := List.mem_of_getElem? (i := 199) (by decide +kernel)
theorem wA_200 : Cond.code yX2_vacateSlotOf cX2_vacateSlotOf 2 none ∈ wsL_law := List.mem_of_getElem? (i := 200) (by decide +kernel)
theorem wA_201 : Cond.fieldLink RX2 17 "PagedMemory$Content" "slot" "I" ∈ wsL_law := List.mem_of_getElem? (i := 201) (by decide +kernel)
theorem wA_202 : Cond.methodLink RL 112 yX4_exit ∈ wsL_law := List.mem_of_getElem? (i := 202) (by decide +kernel)
theorem wA_203 : Cond.instanceMethod yX4_exit ∈ wsL_law := List.mem_of_getElem? (i := 203) (by decide +kernel)
theorem wA_204 : Cond.selects RX4 yX4_exit yX4_exit ∈ wsL_law := List.mem_of_getElem? (i := 204) (by decide +kernel)
theorem wA_205 : Cond.code yX4_exit cX4_exit 4 (some .int) ∈ wsL_law := List.mem_of_getElem? (i := 205) (by decide +kernel)
theorem wA_206 : Cond.methodLink RX4 109 yX4_clear ∈ wsL_law := List.mem_of_getElem? (i := 206) (by decide +kernel)
theorem wA_207 : Cond.instanceMethod yX4_clear ∈ wsL_law := List.mem_of_getElem? (i := 207) (by decide +kernel)
theorem wA_208 : Cond.selects RX4 yX4_clear yX4_clear ∈ wsL_law := List.mem_of_getElem? (i := 208) (by decide +kernel)
theorem wA_209 : Cond.code yX4_clear cX4_clear 3 (some .boolean) ∈ wsL_law := List.mem_of_getElem? (i := 209) (by decide +kernel)
theorem wA_210 : Cond.methodLink RX4 106 yX4_vanishes ∈ wsL_law := List.mem_of_getElem? (i := 210) (by decide +kernel)
theorem wA_211 : Cond.instanceMethod yX4_vanishes ∈ wsL_law := List.mem_of_getElem? (i := 211) (by decide +kernel)
theorem wA_212 : Cond.selects RX4 yX4_vanishes yX4_vanishes ∈ wsL_law := List.mem_of_getElem? (i := 212) (by decide +kernel)
theorem wA_213 : Cond.code yX4_vanishes cX4_vanishes 4 (some .boolean) ∈ wsL_law := List.mem_of_getElem? (i := 213) (by decide +kernel)
theorem wA_214 : Cond.methodLink RX4 76 yX4_references ∈ wsL_law := List.mem_of_getElem? (i := 214) (by decide +kernel)
theorem wA_215 : Cond.instanceMethod yX4_references ∈ wsL_law := List.mem_of_getElem? (i := 215) (by decide +kernel)
theorem wA_216 : Cond.selects RX4 yX4_references yX4_references ∈ wsL_law := List.mem_of_getElem? (i := 216) (by decide +kernel)
theorem wA_217 : Cond.code yX4_references cX4_references 4 (some .int) ∈ wsL_law := List.mem_of_getElem? (i := 217) (by decide +kernel)
theorem wA_218 : Cond.methodLink RX4 79 yX4_isInSegment ∈ wsL_law := List.mem_of_getElem? (i := 218) (by decide +kernel)
theorem wA_219 : Cond.instanceMethod yX4_isInSegment ∈ wsL_law := List.mem_of_getElem? (i := 219) (by decide +kernel)
theorem wA_220 : Cond.selects RX4 yX4_isInSegment yX4_isInSegment ∈ wsL_law := List.mem_of_getElem? (i := 220) (by decide +kernel)
theorem wA_221 : Cond.code yX4_isInSegment cX4_isInSegment 2 (some .boolean) ∈ wsL_law := List.mem_of_getElem? (i := 221) (by decide +kernel)
theorem wA_222 : Cond.methodLink RX4 70 yX4_segmentPlace ∈ wsL_law := List.mem_of_getElem? (i := 222) (by decide +kernel)
theorem wA_223 : Cond.instanceMethod yX4_segmentPlace ∈ wsL_law := List.mem_of_getElem? (i := 223) (by decide +kernel)
theorem wA_224 : Cond.selects RX4 yX4_segmentPlace yX4_segmentPlace ∈ wsL_law := List.mem_of_getElem? (i := 224) (by decide +kernel)
theorem wA_225 : Cond.code yX4_segmentPlace cX4_segmentPlace 4 (some .int) ∈ wsL_law := List.mem_of_getElem? (i := 225) (by decide +kernel)
theorem wA_226 : Cond.fieldLink RX4 73 "PagedMemoryModel" "segments" "I" ∈ wsL_law := List.mem_of_getElem? (i := 226) (by decide +kernel)
theorem wA_227 : Cond.methodLink RX4 83 yX4_frameWith ∈ wsL_law := List.mem_of_getElem? (i := 227) (by decide +kernel)
theorem wA_228 : Cond.instanceMethod yX4_frameWith ∈ wsL_law := List.mem_of_getElem? (i := 228) (by decide +kernel)
theorem wA_229 : Cond.selects RX4 yX4_frameWith yX4_frameWith ∈ wsL_law := List.mem_of_getElem? (i := 229) (by decide +kernel)
theorem wA_230 : Cond.code yX4_frameWith cX4_frameWith 3 (some .int) ∈ wsL_law := List.mem_of_getElem? (i := 230) (by decide +kernel)
theorem wA_231 : Cond.methodLink RX4 63 yX4_slotWith ∈ wsL_law := List.mem_of_getElem? (i := 231) (by decide +kernel)
theorem wA_232 : Cond.instanceMethod yX4_slotWith ∈ wsL_law := List.mem_of_getElem? (i := 232) (by decide +kernel)
theorem wA_233 : Cond.selects RX4 yX4_slotWith yX4_slotWith ∈ wsL_law := List.mem_of_getElem? (i := 233) (by decide +kernel)
theorem wA_234 : Cond.code yX4_slotWith cX4_slotWith 3 (some .int) ∈ wsL_law := List.mem_of_getElem? (i := 234) (by decide +kernel)
theorem wA_235 : Cond.methodLink RL 113 yL_map ∈ wsL_law := List.mem_of_getElem? (i := 235) (by decide +kernel)
theorem wA_236 : Cond.static yL_map ∈ wsL_law := List.mem_of_getElem? (i := 236) (by decide +kernel)
theorem wA_237 : Cond.codeWith yL_map cL_map 5 (some .int) [(0, 10, 13, 27), (0, 10, 17, 29), (0, 10, 21, 13)] ∈ wsL_law := List.mem_of_getElem? (i := 237) (by decide +kernel)
theorem wA_238 : Cond.methodLink RL 34 yX3_map ∈ wsL_law := List.mem_of_getElem? (i := 238) (by decide +kernel)
theorem wA_239 : Cond.instanceMethod yX3_map ∈ wsL_law := List.mem_of_getElem? (i := 239) (by decide +kernel)
theorem wA_240 : Cond.selects RX3 yX3_map yX3_map ∈ wsL_law := List.mem_of_getElem? (i := 240) (by decide +kernel)
theorem wA_241 : Cond.code yX3_map cX3_map 3 (some .int) ∈ wsL_law := List.mem_of_getElem? (i := 241) (by decide +kernel)
theorem wA_242 : Cond.instantiable RX0 7 ∈ wsL_law := List.mem_of_getElem? (i := 242) (by decide +kernel)
theorem wA_243 : Cond.initialized RX0 ∈ wsL_law := List.mem_of_getElem? (i := 243) (by decide +kernel)
theorem wA_244 : Cond.methodLink RX3 105 yX3_requirePage ∈ wsL_law := List.mem_of_getElem? (i := 244) (by decide +kernel)
theorem wA_245 : Cond.instanceMethod yX3_requirePage ∈ wsL_law := List.mem_of_getElem? (i := 245) (by decide +kernel)
theorem wA_246 : Cond.selects RX3 yX3_requirePage yX3_requirePage ∈ wsL_law := List.mem_of_getElem? (i := 246) (by decide +kernel)
theorem wA_247 : Cond.code yX3_requirePage cX3_requirePage 3 none ∈ wsL_law := List.mem_of_getElem? (i := 247) (by decide +kernel)
theorem wA_248 : Cond.methodLink RX3 109 yX3_requireUnmapped ∈ wsL_law := List.mem_of_getElem? (i := 248) (by decide +kernel)
theorem wA_249 : Cond.instanceMethod yX3_requireUnmapped ∈ wsL_law := List.mem_of_getElem? (i := 249) (by decide +kernel)
theorem wA_250 : Cond.selects RX3 yX3_requireUnmapped yX3_requireUnmapped ∈ wsL_law := List.mem_of_getElem? (i := 250) (by decide +kernel)
theorem wA_251 : Cond.code yX3_requireUnmapped cX3_requireUnmapped 3 none ∈ wsL_law := List.mem_of_getElem? (i := 251) (by decide +kernel)
theorem wA_252 : Cond.methodLink RX3 112 yX0_init ∈ wsL_law := List.mem_of_getElem? (i := 252) (by decide +kernel)
theorem wA_253 : Cond.instanceMethod yX0_init ∈ wsL_law := List.mem_of_getElem? (i := 253) (by decide +kernel)
theorem wA_254 : Cond.code yX0_init cX0_init 2 none ∈ wsL_law := List.mem_of_getElem? (i := 254) (by decide +kernel)
theorem wA_255 : Cond.methodLink RX0 3 objectInit ∈ wsL_law := List.mem_of_getElem? (i := 255) (by decide +kernel)
theorem wA_256 : Cond.fieldLink RX0 9 "PagedMemory$Content" "words" "[I" ∈ wsL_law := List.mem_of_getElem? (i := 256) (by decide +kernel)
theorem wA_257 : Cond.fieldLink RX0 15 "PagedMemory$Content" "shared" "Z" ∈ wsL_law := List.mem_of_getElem? (i := 257) (by decide +kernel)
theorem wA_258 : Cond.fieldLink RX0 19 "PagedMemory$Content" "segmentPlace" "I" ∈ wsL_law := List.mem_of_getElem? (i := 258) (by decide +kernel)
theorem wA_259 : Cond.fieldLink RX0 23 "PagedMemory$Content" "frame" "I" ∈ wsL_law := List.mem_of_getElem? (i := 259) (by decide +kernel)
theorem wA_260 : Cond.fieldLink RX0 26 "PagedMemory$Content" "slot" "I" ∈ wsL_law := List.mem_of_getElem? (i := 260) (by decide +kernel)
theorem wA_261 : Cond.fieldLink RX0 29 "PagedMemory$Content" "dirty" "Z" ∈ wsL_law := List.mem_of_getElem? (i := 261) (by decide +kernel)
theorem wA_262 : Cond.fieldLink RX0 32 "PagedMemory$Content" "sharers" "I" ∈ wsL_law := List.mem_of_getElem? (i := 262) (by decide +kernel)
theorem wA_263 : Cond.methodLink RX3 114 yX3_mappedPages ∈ wsL_law := List.mem_of_getElem? (i := 263) (by decide +kernel)
theorem wA_264 : Cond.instanceMethod yX3_mappedPages ∈ wsL_law := List.mem_of_getElem? (i := 264) (by decide +kernel)
theorem wA_265 : Cond.selects RX3 yX3_mappedPages yX3_mappedPages ∈ wsL_law := List.mem_of_getElem? (i := 265) (by decide +kernel)
theorem wA_266 : Cond.code yX3_mappedPages cX3_mappedPages 4 (some .int) ∈ wsL_law := List.mem_of_getElem? (i := 266) (by decide +kernel)
theorem wA_267 : Cond.methodLink RL 116 yX4_map ∈ wsL_law := List.mem_of_getElem? (i := 267) (by decide +kernel)
theorem wA_268 : Cond.instanceMethod yX4_map ∈ wsL_law := List.mem_of_getElem? (i := 268) (by decide +kernel)
theorem wA_269 : Cond.selects RX4 yX4_map yX4_map ∈ wsL_law := List.mem_of_getElem? (i := 269) (by decide +kernel)
theorem wA_270 : Cond.code yX4_map cX4_map 3 (some .int) ∈ wsL_law := List.mem_of_getElem? (i := 270) (by decide +kernel)
theorem wA_271 : Cond.methodLink RX4 116 yX4_canMap ∈ wsL_law := List.mem_of_getElem? (i := 271) (by decide +kernel)
theorem wA_272 : Cond.instanceMethod yX4_canMap ∈ wsL_law := List.mem_of_getElem? (i := 272) (by decide +kernel)
theorem wA_273 : Cond.selects RX4 yX4_canMap yX4_canMap ∈ wsL_law := List.mem_of_getElem? (i := 273) (by decide +kernel)
theorem wA_274 : Cond.code yX4_canMap cX4_canMap 4 (some .boolean) ∈ wsL_law := List.mem_of_getElem? (i := 274) (by decide +kernel)
theorem wA_275 : Cond.methodLink RX4 113 yX4_isPage ∈ wsL_law := List.mem_of_getElem? (i := 275) (by decide +kernel)
theorem wA_276 : Cond.static yX4_isPage ∈ wsL_law := List.mem_of_getElem? (i := 276) (by decide +kernel)
theorem wA_277 : Cond.code yX4_isPage cX4_isPage 1 (some .boolean) ∈ wsL_law := List.mem_of_getElem? (i := 277) (by decide +kernel)
theorem wA_278 : Cond.methodLink RX4 120 yX4_create ∈ wsL_law := List.mem_of_getElem? (i := 278) (by decide +kernel)
theorem wA_279 : Cond.instanceMethod yX4_create ∈ wsL_law := List.mem_of_getElem? (i := 279) (by decide +kernel)
theorem wA_280 : Cond.selects RX4 yX4_create yX4_create ∈ wsL_law := List.mem_of_getElem? (i := 280) (by decide +kernel)
theorem wA_281 : Cond.code yX4_create cX4_create 3 (some .int) ∈ wsL_law := List.mem_of_getElem? (i := 281) (by decide +kernel)
theorem wA_282 : Cond.methodLink RX4 123 yX4_mapped ∈ wsL_law := List.mem_of_getElem? (i := 282) (by decide +kernel)
theorem wA_283 : Cond.instanceMethod yX4_mapped ∈ wsL_law := List.mem_of_getElem? (i := 283) (by decide +kernel)
theorem wA_284 : Cond.selects RX4 yX4_mapped yX4_mapped ∈ wsL_law := List.mem_of_getElem? (i := 284) (by decide +kernel)
theorem wA_285 : Cond.code yX4_mapped cX4_mapped 4 (some .int) ∈ wsL_law := List.mem_of_getElem? (i := 285) (by decide +kernel)
theorem wA_286 : Cond.methodLink RL 117 yL_createSegment ∈ wsL_law := List.mem_of_getElem? (i := 286) (by decide +kernel)
theorem wA_287 : Cond.static yL_createSegment ∈ wsL_law := List.mem_of_getElem? (i := 287) (by decide +kernel)
theorem wA_288 : Cond.codeWith yL_createSegment cL_createSegment 4 (some .int) [(0, 9, 12, 13), (0, 9, 15, 15)] ∈ wsL_law := List.mem_of_getElem? (i := 288) (by decide +kernel)
theorem wA_289 : Cond.methodLink RL 38 yX3_createSegment ∈ wsL_law := List.mem_of_getElem? (i := 289) (by decide +kernel)
theorem wA_290 : Cond.instanceMethod yX3_createSegment ∈ wsL_law := List.mem_of_getElem? (i := 290) (by decide +kernel)
theorem wA_291 : Cond.selects RX3 yX3_createSegment yX3_createSegment ∈ wsL_law := List.mem_of_getElem? (i := 291) (by decide +kernel)
theorem wA_292 : Cond.code yX3_createSegment cX3_createSegment 5 (some .int) ∈ wsL_law := List.mem_of_getElem? (i := 292) (by decide +kernel)
theorem wA_293 : Cond.methodLink RL 119 yX4_createSegment ∈ wsL_law := List.mem_of_getElem? (i := 293) (by decide +kernel)
theorem wA_294 : Cond.instanceMethod yX4_createSegment ∈ wsL_law := List.mem_of_getElem? (i := 294) (by decide +kernel)
theorem wA_295 : Cond.selects RX4 yX4_createSegment yX4_createSegment ∈ wsL_law := List.mem_of_getElem? (i := 295) (by decide +kernel)
theorem wA_296 : Cond.code yX4_createSegment cX4_createSegment 3 (some .int) ∈ wsL_law := List.mem_of_getElem? (i := 296) (by decide +kernel)
theorem wA_297 : Cond.methodLink RL 120 yL_attach ∈ wsL_law := List.mem_of_getElem? (i := 297) (by decide +kernel)
theorem wA_298 : Cond.static yL_attach ∈ wsL_law := List.mem_of_getElem? (i := 298) (by decide +kernel)
theorem wA_299 : Cond.codeWith yL_attach cL_attach 7 (some .int) [(0, 14, 17, 27), (0, 14, 21, 29), (0, 14, 25, 13)] ∈ wsL_law := List.mem_of_getElem? (i := 299) (by decide +kernel)
theorem wA_300 : Cond.methodLink RL 41 yX3_attach ∈ wsL_law := List.mem_of_getElem? (i := 300) (by decide +kernel)
theorem wA_301 : Cond.instanceMethod yX3_attach ∈ wsL_law := List.mem_of_getElem? (i := 301) (by decide +kernel)
theorem wA_302 : Cond.selects RX3 yX3_attach yX3_attach ∈ wsL_law := List.mem_of_getElem? (i := 302) (by decide +kernel)
theorem wA_303 : Cond.code yX3_attach cX3_attach 6 (some .int) ∈ wsL_law := List.mem_of_getElem? (i := 303) (by decide +kernel)
theorem wA_304 : Cond.methodLink RX3 122 yX3_requireSegmentContent ∈ wsL_law := List.mem_of_getElem? (i := 304) (by decide +kernel)
theorem wA_305 : Cond.instanceMethod yX3_requireSegmentContent ∈ wsL_law := List.mem_of_getElem? (i := 305) (by decide +kernel)
theorem wA_306 : Cond.selects RX3 yX3_requireSegmentContent yX3_requireSegmentContent ∈ wsL_law := List.mem_of_getElem? (i := 306) (by decide +kernel)
theorem wA_307 : Cond.code yX3_requireSegmentContent cX3_requireSegmentContent 4 (some (.object "PagedMemory$Content")) ∈ wsL_law := List.mem_of_getElem? (i := 307) (by decide +kernel)
theorem wA_308 : Cond.methodLink RL 123 yX4_attach ∈ wsL_law := List.mem_of_getElem? (i := 308) (by decide +kernel)
theorem wA_309 : Cond.instanceMethod yX4_attach ∈ wsL_law := List.mem_of_getElem? (i := 309) (by decide +kernel)
theorem wA_310 : Cond.selects RX4 yX4_attach yX4_attach ∈ wsL_law := List.mem_of_getElem? (i := 310) (by decide +kernel)
theorem wA_311 : Cond.code yX4_attach cX4_attach 6 (some .int) ∈ wsL_law := List.mem_of_getElem? (i := 311) (by decide +kernel)
theorem wA_312 : Cond.methodLink RL 124 yL_unmap ∈ wsL_law := List.mem_of_getElem? (i := 312) (by decide +kernel)
theorem wA_313 : Cond.static yL_unmap ∈ wsL_law := List.mem_of_getElem? (i := 313) (by decide +kernel)
theorem wA_314 : Cond.codeWith yL_unmap cL_unmap 5 (some .int) [(0, 17, 20, 27), (0, 17, 24, 29), (0, 17, 28, 13)] ∈ wsL_law := List.mem_of_getElem? (i := 314) (by decide +kernel)
theorem wA_315 : Cond.methodLink RL 45 yX3_unmap ∈ wsL_law := List.mem_of_getElem? (i := 315) (by decide +kernel)
theorem wA_316 : Cond.instanceMethod yX3_unmap ∈ wsL_law := List.mem_of_getElem? (i := 316) (by decide +kernel)
theorem wA_317 : Cond.selects RX3 yX3_unmap yX3_unmap ∈ wsL_law := List.mem_of_getElem? (i := 317) (by decide +kernel)
theorem wA_318 : Cond.code yX3_unmap cX3_unmap 3 (some .boolean) ∈ wsL_law := List.mem_of_getElem? (i := 318) (by decide +kernel)
theorem wA_319 : Cond.methodLink RX3 126 yX3_requireMapped ∈ wsL_law := List.mem_of_getElem? (i := 319) (by decide +kernel)
theorem wA_320 : Cond.instanceMethod yX3_requireMapped ∈ wsL_law := List.mem_of_getElem? (i := 320) (by decide +kernel)
theorem wA_321 : Cond.selects RX3 yX3_requireMapped yX3_requireMapped ∈ wsL_law := List.mem_of_getElem? (i := 321) (by decide +kernel)
theorem wA_322 : Cond.code yX3_requireMapped cX3_requireMapped 4 (some (.object "PagedMemory$Content")) ∈ wsL_law := List.mem_of_getElem? (i := 322) (by decide +kernel)
theorem wA_323 : Cond.methodLink RL 126 yX4_unmap ∈ wsL_law := List.mem_of_getElem? (i := 323) (by decide +kernel)
theorem wA_324 : Cond.instanceMethod yX4_unmap ∈ wsL_law := List.mem_of_getElem? (i := 324) (by decide +kernel)
theorem wA_325 : Cond.selects RX4 yX4_unmap yX4_unmap ∈ wsL_law := List.mem_of_getElem? (i := 325) (by decide +kernel)
theorem wA_326 : Cond.code yX4_unmap cX4_unmap 3 (some .boolean) ∈ wsL_law := List.mem_of_getElem? (i := 326) (by decide +kernel)
theorem wA_327 : Cond.methodLink RL 127 yL_isLive ∈ wsL_law := List.mem_of_getElem? (i := 327) (by decide +kernel)
theorem wA_328 : Cond.static yL_isLive ∈ wsL_law := List.mem_of_getElem? (i := 328) (by decide +kernel)
theorem wA_329 : Cond.codeWith yL_isLive cL_isLive 4 (some .int) [(0, 16, 19, 27)] ∈ wsL_law := List.mem_of_getElem? (i := 329) (by decide +kernel)
theorem wA_330 : Cond.methodLink RL 49 yX3_isLive ∈ wsL_law := List.mem_of_getElem? (i := 330) (by decide +kernel)
theorem wA_331 : Cond.instanceMethod yX3_isLive ∈ wsL_law := List.mem_of_getElem? (i := 331) (by decide +kernel)
theorem wA_332 : Cond.selects RX3 yX3_isLive yX3_isLive ∈ wsL_law := List.mem_of_getElem? (i := 332) (by decide +kernel)
theorem wA_333 : Cond.code yX3_isLive cX3_isLive 2 (some .boolean) ∈ wsL_law := List.mem_of_getElem? (i := 333) (by decide +kernel)
theorem wA_334 : Cond.methodLink RL 129 yX4_isLive ∈ wsL_law := List.mem_of_getElem? (i := 334) (by decide +kernel)
theorem wA_335 : Cond.instanceMethod yX4_isLive ∈ wsL_law := List.mem_of_getElem? (i := 335) (by decide +kernel)
theorem wA_336 : Cond.selects RX4 yX4_isLive yX4_isLive ∈ wsL_law := List.mem_of_getElem? (i := 336) (by decide +kernel)
theorem wA_337 : Cond.code yX4_isLive cX4_isLive 2 (some .boolean) ∈ wsL_law := List.mem_of_getElem? (i := 337) (by decide +kernel)
theorem wA_338 : Cond.methodLink RL 130 yL_mapping ∈ wsL_law := List.mem_of_getElem? (i := 338) (by decide +kernel)
theorem wA_339 : Cond.static yL_mapping ∈ wsL_law := List.mem_of_getElem? (i := 339) (by decide +kernel)
theorem wA_340 : Cond.codeWith yL_mapping cL_mapping 5 (some .int) [(0, 10, 13, 27)] ∈ wsL_law := List.mem_of_getElem? (i := 340) (by decide +kernel)
theorem wA_341 : Cond.methodLink RL 53 yX3_mapping ∈ wsL_law := List.mem_of_getElem? (i := 341) (by decide +kernel)
theorem wA_342 : Cond.instanceMethod yX3_mapping ∈ wsL_law := List.mem_of_getElem? (i := 342) (by decide +kernel)
theorem wA_343 : Cond.selects RX3 yX3_mapping yX3_mapping ∈ wsL_law := List.mem_of_getElem? (i := 343) (by decide +kernel)
theorem wA_344 : Cond.code yX3_mapping cX3_mapping 4 (some .int) ∈ wsL_law := List.mem_of_getElem? (i := 344) (by decide +kernel)
theorem wA_345 : Cond.methodLink RL 132 yX4_mapping ∈ wsL_law := List.mem_of_getElem? (i := 345) (by decide +kernel)
theorem wA_346 : Cond.instanceMethod yX4_mapping ∈ wsL_law := List.mem_of_getElem? (i := 346) (by decide +kernel)
theorem wA_347 : Cond.selects RX4 yX4_mapping yX4_mapping ∈ wsL_law := List.mem_of_getElem? (i := 347) (by decide +kernel)
theorem wA_348 : Cond.code yX4_mapping cX4_mapping 3 (some .int) ∈ wsL_law := List.mem_of_getElem? (i := 348) (by decide +kernel)
theorem wA_349 : Cond.methodLink RX4 126 yX4_asks ∈ wsL_law := List.mem_of_getElem? (i := 349) (by decide +kernel)
theorem wA_350 : Cond.instanceMethod yX4_asks ∈ wsL_law := List.mem_of_getElem? (i := 350) (by decide +kernel)
theorem wA_351 : Cond.selects RX4 yX4_asks yX4_asks ∈ wsL_law := List.mem_of_getElem? (i := 351) (by decide +kernel)
theorem wA_352 : Cond.code yX4_asks cX4_asks 3 (some .boolean) ∈ wsL_law := List.mem_of_getElem? (i := 352) (by decide +kernel)
theorem wA_353 : Cond.methodLink RL 133 yL_read ∈ wsL_law := List.mem_of_getElem? (i := 353) (by decide +kernel)
theorem wA_354 : Cond.static yL_read ∈ wsL_law := List.mem_of_getElem? (i := 354) (by decide +kernel)
theorem wA_355 : Cond.codeWith yL_read cL_read 5 (some .int) [(0, 10, 13, 27), (0, 10, 17, 29), (0, 10, 21, 13), (0, 10, 25, 15)] ∈ wsL_law := List.mem_of_getElem? (i := 355) (by decide +kernel)
theorem wA_356 : Cond.methodLink RL 56 yX3_read ∈ wsL_law := List.mem_of_getElem? (i := 356) (by decide +kernel)
theorem wA_357 : Cond.instanceMethod yX3_read ∈ wsL_law := List.mem_of_getElem? (i := 357) (by decide +kernel)
theorem wA_358 : Cond.selects RX3 yX3_read yX3_read ∈ wsL_law := List.mem_of_getElem? (i := 358) (by decide +kernel)
theorem wA_359 : Cond.code yX3_read cX3_read 4 (some .int) ∈ wsL_law := List.mem_of_getElem? (i := 359) (by decide +kernel)
theorem wA_360 : Cond.fieldLink RX3 149 "PagedMemory$Content" "words" "[I" ∈ wsL_law := List.mem_of_getElem? (i := 360) (by decide +kernel)
theorem wA_361 : Cond.methodLink RX3 133 yX3_requireAddressed ∈ wsL_law := List.mem_of_getElem? (i := 361) (by decide +kernel)
theorem wA_362 : Cond.instanceMethod yX3_requireAddressed ∈ wsL_law := List.mem_of_getElem? (i := 362) (by decide +kernel)
theorem wA_363 : Cond.selects RX3 yX3_requireAddressed yX3_requireAddressed ∈ wsL_law := List.mem_of_getElem? (i := 363) (by decide +kernel)
theorem wA_364 : Cond.code yX3_requireAddressed cX3_requireAddressed 3 (some (.object "PagedMemory$Content")) ∈ wsL_law := List.mem_of_getElem? (i := 364) (by decide +kernel)
theorem wA_365 : Cond.methodLink RX3 139 yX3_requireObtainableFrame ∈ wsL_law := List.mem_of_getElem? (i := 365) (by decide +kernel)
theorem wA_366 : Cond.instanceMethod yX3_requireObtainableFrame ∈ wsL_law := List.mem_of_getElem? (i := 366) (by decide +kernel)
theorem wA_367 : Cond.selects RX3 yX3_requireObtainableFrame yX3_requireObtainableFrame ∈ wsL_law := List.mem_of_getElem? (i := 367) (by decide +kernel)
theorem wA_368 : Cond.code yX3_requireObtainableFrame cX3_requireObtainableFrame 1 none ∈ wsL_law := List.mem_of_getElem? (i := 368) (by decide +kernel)
theorem wA_369 : Cond.methodLink RX3 244 yX1_smallestFree ∈ wsL_law := List.mem_of_getElem? (i := 369) (by decide +kernel)
theorem wA_370 : Cond.instanceMethod yX1_smallestFree ∈ wsL_law := List.mem_of_getElem? (i := 370) (by decide +kernel)
theorem wA_371 : Cond.selects RX1 yX1_smallestFree yX1_smallestFree ∈ wsL_law := List.mem_of_getElem? (i := 371) (by decide +kernel)
theorem wA_372 : Cond.code yX1_smallestFree cX1_smallestFree 2 (some .int) ∈ wsL_law := List.mem_of_getElem? (i := 372) (by decide +kernel)
theorem wA_373 : Cond.methodLink RX3 247 yX1_oldestClean ∈ wsL_law := List.mem_of_getElem? (i := 373) (by decide +kernel)
theorem wA_374 : Cond.instanceMethod yX1_oldestClean ∈ wsL_law := List.mem_of_getElem? (i := 374) (by decide +kernel)
theorem wA_375 : Cond.selects RX1 yX1_oldestClean yX1_oldestClean ∈ wsL_law := List.mem_of_getElem? (i := 375) (by decide +kernel)
theorem wA_376 : Cond.code yX1_oldestClean cX1_oldestClean 4 (some .int) ∈ wsL_law := List.mem_of_getElem? (i := 376) (by decide +kernel)
theorem wA_377 : Cond.fieldLink RX1 32 "PagedMemory$Content" "dirty" "Z" ∈ wsL_law := List.mem_of_getElem? (i := 377) (by decide +kernel)
theorem wA_378 : Cond.methodLink RX3 184 yX2_freeCount ∈ wsL_law := List.mem_of_getElem? (i := 378) (by decide +kernel)
theorem wA_379 : Cond.instanceMethod yX2_freeCount ∈ wsL_law := List.mem_of_getElem? (i := 379) (by decide +kernel)
theorem wA_380 : Cond.selects RX2 yX2_freeCount yX2_freeCount ∈ wsL_law := List.mem_of_getElem? (i := 380) (by decide +kernel)
theorem wA_381 : Cond.code yX2_freeCount cX2_freeCount 3 (some .int) ∈ wsL_law := List.mem_of_getElem? (i := 381) (by decide +kernel)
theorem wA_382 : Cond.methodLink RX3 142 yX3_bringIn ∈ wsL_law := List.mem_of_getElem? (i := 382) (by decide +kernel)
theorem wA_383 : Cond.instanceMethod yX3_bringIn ∈ wsL_law := List.mem_of_getElem? (i := 383) (by decide +kernel)
theorem wA_384 : Cond.selects RX3 yX3_bringIn yX3_bringIn ∈ wsL_law := List.mem_of_getElem? (i := 384) (by decide +kernel)
theorem wA_385 : Cond.code yX3_bringIn cX3_bringIn 2 none ∈ wsL_law := List.mem_of_getElem? (i := 385) (by decide +kernel)
theorem wA_386 : Cond.fieldLink RX3 172 "PagedMemory$Content" "slot" "I" ∈ wsL_law := List.mem_of_getElem? (i := 386) (by decide +kernel)
theorem wA_387 : Cond.methodLink RX3 255 yX3_giveFrame ∈ wsL_law := List.mem_of_getElem? (i := 387) (by decide +kernel)
theorem wA_388 : Cond.instanceMethod yX3_giveFrame ∈ wsL_law := List.mem_of_getElem? (i := 388) (by decide +kernel)
theorem wA_389 : Cond.selects RX3 yX3_giveFrame yX3_giveFrame ∈ wsL_law := List.mem_of_getElem? (i := 389) (by decide +kernel)
theorem wA_390 : Cond.code yX3_giveFrame cX3_giveFrame 4 none ∈ wsL_law := List.mem_of_getElem? (i := 390) (by decide +kernel)
theorem wA_391 : Cond.methodLink RX3 273 yX3_freeByClock ∈ wsL_law := List.mem_of_getElem? (i := 391) (by decide +kernel)
theorem wA_392 : Cond.instanceMethod yX3_freeByClock ∈ wsL_law := List.mem_of_getElem? (i := 392) (by decide +kernel)
theorem wA_393 : Cond.selects RX3 yX3_freeByClock yX3_freeByClock ∈ wsL_law := List.mem_of_getElem? (i := 393) (by decide +kernel)
theorem wA_394 : Cond.code yX3_freeByClock cX3_freeByClock 4 (some .int) ∈ wsL_law := List.mem_of_getElem? (i := 394) (by decide +kernel)
theorem wA_395 : Cond.fieldLink RX3 165 "PagedMemory$FrameTable" "contents" "[LPagedMemory$Content;" ∈ wsL_law := List.mem_of_getElem? (i := 395) (by decide +kernel)
theorem wA_396 : Cond.methodLink RX3 276 yX3_givesWayWhenLookedAt ∈ wsL_law := List.mem_of_getElem? (i := 396) (by decide +kernel)
theorem wA_397 : Cond.instanceMethod yX3_givesWayWhenLookedAt ∈ wsL_law := List.mem_of_getElem? (i := 397) (by decide +kernel)
theorem wA_398 : Cond.selects RX3 yX3_givesWayWhenLookedAt yX3_givesWayWhenLookedAt ∈ wsL_law := List.mem_of_getElem? (i := 398) (by decide +kernel)
theorem wA_399 : Cond.code yX3_givesWayWhenLookedAt cX3_givesWayWhenLookedAt 3 (some .boolean) ∈ wsL_law := List.mem_of_getElem? (i := 399) (by decide +kernel)
theorem wA_400 : Cond.fieldLink RX3 181 "PagedMemory$FrameTable" "marked" "[Z" ∈ wsL_law := List.mem_of_getElem? (i := 400) (by decide +kernel)
theorem wA_401 : Cond.fieldLink RX3 178 "PagedMemory$FrameTable" "usedAt" "[I" ∈ wsL_law := List.mem_of_getElem? (i := 401) (by decide +kernel)
theorem wA_402 : Cond.fieldLink RX3 162 "PagedMemory$Content" "dirty" "Z" ∈ wsL_law := List.mem_of_getElem? (i := 402) (by decide +kernel)
theorem wA_403 : Cond.methodLink RX3 185 yX3_isOutsideWindow ∈ wsL_law := List.mem_of_getElem? (i := 403) (by decide +kernel)
theorem wA_404 : Cond.instanceMethod yX3_isOutsideWindow ∈ wsL_law := List.mem_of_getElem? (i := 404) (by decide +kernel)
theorem wA_405 : Cond.selects RX3 yX3_isOutsideWindow yX3_isOutsideWindow ∈ wsL_law := List.mem_of_getElem? (i := 405) (by decide +kernel)
theorem wA_406 : Cond.code yX3_isOutsideWindow cX3_isOutsideWindow 2 (some .boolean) ∈ wsL_law := List.mem_of_getElem? (i := 406) (by decide +kernel)
theorem wA_407 : Cond.methodLink RX3 168 yX3_writeOut ∈ wsL_law := List.mem_of_getElem? (i := 407) (by decide +kernel)
theorem wA_408 : Cond.instanceMethod yX3_writeOut ∈ wsL_law := List.mem_of_getElem? (i := 408) (by decide +kernel)
theorem wA_409 : Cond.selects RX3 yX3_writeOut yX3_writeOut ∈ wsL_law := List.mem_of_getElem? (i := 409) (by decide +kernel)
theorem wA_410 : Cond.code yX3_writeOut cX3_writeOut 5 (some .int) ∈ wsL_law := List.mem_of_getElem? (i := 410) (by decide +kernel)
theorem wA_411 : Cond.fieldLink RX3 285 "PagedMemory$Content" "segmentPlace" "I" ∈ wsL_law := List.mem_of_getElem? (i := 411) (by decide +kernel)
theorem wA_412 : Cond.methodLink RX3 288 yX3_firstPageOf ∈ wsL_law := List.mem_of_getElem? (i := 412) (by decide +kernel)
theorem wA_413 : Cond.instanceMethod yX3_firstPageOf ∈ wsL_law := List.mem_of_getElem? (i := 413) (by decide +kernel)
theorem wA_414 : Cond.selects RX3 yX3_firstPageOf yX3_firstPageOf ∈ wsL_law := List.mem_of_getElem? (i := 414) (by decide +kernel)
theorem wA_415 : Cond.code yX3_firstPageOf cX3_firstPageOf 3 (some .int) ∈ wsL_law := List.mem_of_getElem? (i := 415) (by decide +kernel)
theorem wA_416 : Cond.methodLink RX3 291 yX3_gatherCluster ∈ wsL_law := List.mem_of_getElem? (i := 416) (by decide +kernel)
theorem wA_417 : Cond.instanceMethod yX3_gatherCluster ∈ wsL_law := List.mem_of_getElem? (i := 417) (by decide +kernel)
theorem wA_418 : Cond.selects RX3 yX3_gatherCluster yX3_gatherCluster ∈ wsL_law := List.mem_of_getElem? (i := 418) (by decide +kernel)
theorem wA_419 : Cond.code yX3_gatherCluster cX3_gatherCluster 8 (some .int) ∈ wsL_law := List.mem_of_getElem? (i := 419) (by decide +kernel)
theorem wA_420 : Cond.methodLink RX3 295 yX2_roomFor ∈ wsL_law := List.mem_of_getElem? (i := 420) (by decide +kernel)
theorem wA_421 : Cond.instanceMethod yX2_roomFor ∈ wsL_law := List.mem_of_getElem? (i := 421) (by decide +kernel)
theorem wA_422 : Cond.selects RX2 yX2_roomFor yX2_roomFor ∈ wsL_law := List.mem_of_getElem? (i := 422) (by decide +kernel)
theorem wA_423 : Cond.code yX2_roomFor cX2_roomFor 4 (some .int) ∈ wsL_law := List.mem_of_getElem? (i := 423) (by decide +kernel)
theorem wA_424 : Cond.methodLink RX3 298 yX2_putAll ∈ wsL_law := List.mem_of_getElem? (i := 424) (by decide +kernel)
theorem wA_425 : Cond.instanceMethod yX2_putAll ∈ wsL_law := List.mem_of_getElem? (i := 425) (by decide +kernel)
theorem wA_426 : Cond.selects RX2 yX2_putAll yX2_putAll ∈ wsL_law := List.mem_of_getElem? (i := 426) (by decide +kernel)
theorem wA_427 : Cond.code yX2_putAll cX2_putAll 6 none ∈ wsL_law := List.mem_of_getElem? (i := 427) (by decide +kernel)
theorem wA_428 : Cond.fieldLink RX2 21 "PagedMemory$Content" "dirty" "Z" ∈ wsL_law := List.mem_of_getElem? (i := 428) (by decide +kernel)
theorem wA_429 : Cond.methodLink RX3 279 yX1_moveHandBehind ∈ wsL_law := List.mem_of_getElem? (i := 429) (by decide +kernel)
theorem wA_430 : Cond.instanceMethod yX1_moveHandBehind ∈ wsL_law := List.mem_of_getElem? (i := 430) (by decide +kernel)
theorem wA_431 : Cond.selects RX1 yX1_moveHandBehind yX1_moveHandBehind ∈ wsL_law := List.mem_of_getElem? (i := 431) (by decide +kernel)
theorem wA_432 : Cond.code yX1_moveHandBehind cX1_moveHandBehind 2 none ∈ wsL_law := List.mem_of_getElem? (i := 432) (by decide +kernel)
theorem wA_433 : Cond.methodLink RX3 282 yX1_oldest ∈ wsL_law := List.mem_of_getElem? (i := 433) (by decide +kernel)
theorem wA_434 : Cond.instanceMethod yX1_oldest ∈ wsL_law := List.mem_of_getElem? (i := 434) (by decide +kernel)
theorem wA_435 : Cond.selects RX1 yX1_oldest yX1_oldest ∈ wsL_law := List.mem_of_getElem? (i := 435) (by decide +kernel)
theorem wA_436 : Cond.code yX1_oldest cX1_oldest 3 (some .int) ∈ wsL_law := List.mem_of_getElem? (i := 436) (by decide +kernel)
theorem wA_437 : Cond.methodLink RX3 263 yX1_put ∈ wsL_law := List.mem_of_getElem? (i := 437) (by decide +kernel)
theorem wA_438 : Cond.instanceMethod yX1_put ∈ wsL_law := List.mem_of_getElem? (i := 438) (by decide +kernel)
theorem wA_439 : Cond.selects RX1 yX1_put yX1_put ∈ wsL_law := List.mem_of_getElem? (i := 439) (by decide +kernel)
theorem wA_440 : Cond.code yX1_put cX1_put 4 none ∈ wsL_law := List.mem_of_getElem? (i := 440) (by decide +kernel)
theorem wA_441 : Cond.methodLink RX3 259 yX3_prefetchBehind ∈ wsL_law := List.mem_of_getElem? (i := 441) (by decide +kernel)
theorem wA_442 : Cond.instanceMethod yX3_prefetchBehind ∈ wsL_law := List.mem_of_getElem? (i := 442) (by decide +kernel)
theorem wA_443 : Cond.selects RX3 yX3_prefetchBehind yX3_prefetchBehind ∈ wsL_law := List.mem_of_getElem? (i := 443) (by decide +kernel)
theorem wA_444 : Cond.code yX3_prefetchBehind cX3_prefetchBehind 5 none ∈ wsL_law := List.mem_of_getElem? (i := 444) (by decide +kernel)
theorem wA_445 : Cond.fieldLink RX3 262 "PagedMemory$SwapArea" "contents" "[LPagedMemory$Content;" ∈ wsL_law := List.mem_of_getElem? (i := 445) (by decide +kernel)
theorem wA_446 : Cond.methodLink RX3 146 yX1_use ∈ wsL_law := List.mem_of_getElem? (i := 446) (by decide +kernel)
theorem wA_447 : Cond.instanceMethod yX1_use ∈ wsL_law := List.mem_of_getElem? (i := 447) (by decide +kernel)
theorem wA_448 : Cond.selects RX1 yX1_use yX1_use ∈ wsL_law := List.mem_of_getElem? (i := 448) (by decide +kernel)
theorem wA_449 : Cond.code yX1_use cX1_use 3 none ∈ wsL_law := List.mem_of_getElem? (i := 449) (by decide +kernel)
theorem wA_450 : Cond.methodLink RL 135 yX4_read ∈ wsL_law := List.mem_of_getElem? (i := 450) (by decide +kernel)
theorem wA_451 : Cond.instanceMethod yX4_read ∈ wsL_law := List.mem_of_getElem? (i := 451) (by decide +kernel)
theorem wA_452 : Cond.selects RX4 yX4_read yX4_read ∈ wsL_law := List.mem_of_getElem? (i := 452) (by decide +kernel)
theorem wA_453 : Cond.code yX4_read cX4_read 4 (some .int) ∈ wsL_law := List.mem_of_getElem? (i := 453) (by decide +kernel)
theorem wA_454 : Cond.fieldLink RX4 147 "PagedMemoryModel" "time" "I" ∈ wsL_law := List.mem_of_getElem? (i := 454) (by decide +kernel)
theorem wA_455 : Cond.methodLink RX4 165 yX4_begins ∈ wsL_law := List.mem_of_getElem? (i := 455) (by decide +kernel)
theorem wA_456 : Cond.instanceMethod yX4_begins ∈ wsL_law := List.mem_of_getElem? (i := 456) (by decide +kernel)
theorem wA_457 : Cond.selects RX4 yX4_begins yX4_begins ∈ wsL_law := List.mem_of_getElem? (i := 457) (by decide +kernel)
theorem wA_458 : Cond.code yX4_begins cX4_begins 6 (some .boolean) ∈ wsL_law := List.mem_of_getElem? (i := 458) (by decide +kernel)
theorem wA_459 : Cond.methodLink RX4 161 yX4_isPossible ∈ wsL_law := List.mem_of_getElem? (i := 459) (by decide +kernel)
theorem wA_460 : Cond.instanceMethod yX4_isPossible ∈ wsL_law := List.mem_of_getElem? (i := 460) (by decide +kernel)
theorem wA_461 : Cond.selects RX4 yX4_isPossible yX4_isPossible ∈ wsL_law := List.mem_of_getElem? (i := 461) (by decide +kernel)
theorem wA_462 : Cond.code yX4_isPossible cX4_isPossible 4 (some .boolean) ∈ wsL_law := List.mem_of_getElem? (i := 462) (by decide +kernel)
theorem wA_463 : Cond.methodLink RX4 141 yX4_room ∈ wsL_law := List.mem_of_getElem? (i := 463) (by decide +kernel)
theorem wA_464 : Cond.instanceMethod yX4_room ∈ wsL_law := List.mem_of_getElem? (i := 464) (by decide +kernel)
theorem wA_465 : Cond.selects RX4 yX4_room yX4_room ∈ wsL_law := List.mem_of_getElem? (i := 465) (by decide +kernel)
theorem wA_466 : Cond.code yX4_room cX4_room 4 (some .int) ∈ wsL_law := List.mem_of_getElem? (i := 466) (by decide +kernel)
theorem wA_467 : Cond.methodLink RX4 135 yX4_isDirty ∈ wsL_law := List.mem_of_getElem? (i := 467) (by decide +kernel)
theorem wA_468 : Cond.instanceMethod yX4_isDirty ∈ wsL_law := List.mem_of_getElem? (i := 468) (by decide +kernel)
theorem wA_469 : Cond.selects RX4 yX4_isDirty yX4_isDirty ∈ wsL_law := List.mem_of_getElem? (i := 469) (by decide +kernel)
theorem wA_470 : Cond.code yX4_isDirty cX4_isDirty 2 (some .boolean) ∈ wsL_law := List.mem_of_getElem? (i := 470) (by decide +kernel)
theorem wA_471 : Cond.methodLink RX4 168 yX4_bring ∈ wsL_law := List.mem_of_getElem? (i := 471) (by decide +kernel)
theorem wA_472 : Cond.instanceMethod yX4_bring ∈ wsL_law := List.mem_of_getElem? (i := 472) (by decide +kernel)
theorem wA_473 : Cond.selects RX4 yX4_bring yX4_bring ∈ wsL_law := List.mem_of_getElem? (i := 473) (by decide +kernel)
theorem wA_474 : Cond.code yX4_bring cX4_bring 5 none ∈ wsL_law := List.mem_of_getElem? (i := 474) (by decide +kernel)
theorem wA_475 : Cond.methodLink RX4 157 yX4_take ∈ wsL_law := List.mem_of_getElem? (i := 475) (by decide +kernel)
theorem wA_476 : Cond.instanceMethod yX4_take ∈ wsL_law := List.mem_of_getElem? (i := 476) (by decide +kernel)
theorem wA_477 : Cond.selects RX4 yX4_take yX4_take ∈ wsL_law := List.mem_of_getElem? (i := 477) (by decide +kernel)
theorem wA_478 : Cond.code yX4_take cX4_take 4 none ∈ wsL_law := List.mem_of_getElem? (i := 478) (by decide +kernel)
theorem wA_479 : Cond.methodLink RX4 144 yX4_freed ∈ wsL_law := List.mem_of_getElem? (i := 479) (by decide +kernel)
theorem wA_480 : Cond.instanceMethod yX4_freed ∈ wsL_law := List.mem_of_getElem? (i := 480) (by decide +kernel)
theorem wA_481 : Cond.selects RX4 yX4_freed yX4_freed ∈ wsL_law := List.mem_of_getElem? (i := 481) (by decide +kernel)
theorem wA_482 : Cond.code yX4_freed cX4_freed 4 (some .int) ∈ wsL_law := List.mem_of_getElem? (i := 482) (by decide +kernel)
theorem wA_483 : Cond.methodLink RX4 150 yX4_evict ∈ wsL_law := List.mem_of_getElem? (i := 483) (by decide +kernel)
theorem wA_484 : Cond.instanceMethod yX4_evict ∈ wsL_law := List.mem_of_getElem? (i := 484) (by decide +kernel)
theorem wA_485 : Cond.selects RX4 yX4_evict yX4_evict ∈ wsL_law := List.mem_of_getElem? (i := 485) (by decide +kernel)
theorem wA_486 : Cond.code yX4_evict cX4_evict 3 none ∈ wsL_law := List.mem_of_getElem? (i := 486) (by decide +kernel)
theorem wA_487 : Cond.methodLink RX4 154 yX4_writeOut ∈ wsL_law := List.mem_of_getElem? (i := 487) (by decide +kernel)
theorem wA_488 : Cond.instanceMethod yX4_writeOut ∈ wsL_law := List.mem_of_getElem? (i := 488) (by decide +kernel)
theorem wA_489 : Cond.selects RX4 yX4_writeOut yX4_writeOut ∈ wsL_law := List.mem_of_getElem? (i := 489) (by decide +kernel)
theorem wA_490 : Cond.code yX4_writeOut cX4_writeOut 5 (some .int) ∈ wsL_law := List.mem_of_getElem? (i := 490) (by decide +kernel)
theorem wA_491 : Cond.methodLink RX4 138 yX4_findCluster ∈ wsL_law := List.mem_of_getElem? (i := 491) (by decide +kernel)
theorem wA_492 : Cond.instanceMethod yX4_findCluster ∈ wsL_law := List.mem_of_getElem? (i := 492) (by decide +kernel)
theorem wA_493 : Cond.selects RX4 yX4_findCluster yX4_findCluster ∈ wsL_law := List.mem_of_getElem? (i := 493) (by decide +kernel)
theorem wA_494 : Cond.code yX4_findCluster cX4_findCluster 9 (some .int) ∈ wsL_law := List.mem_of_getElem? (i := 494) (by decide +kernel)
theorem wA_495 : Cond.methodLink RX4 129 yX4_nextInSegment ∈ wsL_law := List.mem_of_getElem? (i := 495) (by decide +kernel)
theorem wA_496 : Cond.instanceMethod yX4_nextInSegment ∈ wsL_law := List.mem_of_getElem? (i := 496) (by decide +kernel)
theorem wA_497 : Cond.selects RX4 yX4_nextInSegment yX4_nextInSegment ∈ wsL_law := List.mem_of_getElem? (i := 497) (by decide +kernel)
theorem wA_498 : Cond.code yX4_nextInSegment cX4_nextInSegment 5 (some .int) ∈ wsL_law := List.mem_of_getElem? (i := 498) (by decide +kernel)
theorem wA_499 : Cond.methodLink RX4 132 yX4_nextOfProcess ∈ wsL_law := List.mem_of_getElem? (i := 499) (by decide +kernel)
theorem wA_500 : Cond.instanceMethod yX4_nextOfProcess ∈ wsL_law := List.mem_of_getElem? (i := 500) (by decide +kernel)
theorem wA_501 : Cond.selects RX4 yX4_nextOfProcess yX4_nextOfProcess ∈ wsL_law := List.mem_of_getElem? (i := 501) (by decide +kernel)
theorem wA_502 : Cond.code yX4_nextOfProcess cX4_nextOfProcess 3 (some .int) ∈ wsL_law := List.mem_of_getElem? (i := 502) (by decide +kernel)
theorem wA_503 : Cond.methodLink RX4 171 yX4_use ∈ wsL_law := List.mem_of_getElem? (i := 503) (by decide +kernel)
theorem wA_504 : Cond.instanceMethod yX4_use ∈ wsL_law := List.mem_of_getElem? (i := 504) (by decide +kernel)
theorem wA_505 : Cond.selects RX4 yX4_use yX4_use ∈ wsL_law := List.mem_of_getElem? (i := 505) (by decide +kernel)
theorem wA_506 : Cond.code yX4_use cX4_use 3 none ∈ wsL_law := List.mem_of_getElem? (i := 506) (by decide +kernel)
theorem wA_507 : Cond.methodLink RL 136 yL_write ∈ wsL_law := List.mem_of_getElem? (i := 507) (by decide +kernel)
theorem wA_508 : Cond.static yL_write ∈ wsL_law := List.mem_of_getElem? (i := 508) (by decide +kernel)
theorem wA_509 : Cond.codeWith yL_write cL_write 6 (some .int) [(0, 12, 15, 27), (0, 12, 19, 29), (0, 12, 23, 13), (0, 12, 27, 15)] ∈ wsL_law := List.mem_of_getElem? (i := 509) (by decide +kernel)
theorem wA_510 : Cond.methodLink RL 59 yX3_write ∈ wsL_law := List.mem_of_getElem? (i := 510) (by decide +kernel)
theorem wA_511 : Cond.instanceMethod yX3_write ∈ wsL_law := List.mem_of_getElem? (i := 511) (by decide +kernel)
theorem wA_512 : Cond.selects RX3 yX3_write yX3_write ∈ wsL_law := List.mem_of_getElem? (i := 512) (by decide +kernel)
theorem wA_513 : Cond.code yX3_write cX3_write 7 (some .int) ∈ wsL_law := List.mem_of_getElem? (i := 513) (by decide +kernel)
theorem wA_514 : Cond.methodLink RX3 155 yX3_copyForPage ∈ wsL_law := List.mem_of_getElem? (i := 514) (by decide +kernel)
theorem wA_515 : Cond.instanceMethod yX3_copyForPage ∈ wsL_law := List.mem_of_getElem? (i := 515) (by decide +kernel)
theorem wA_516 : Cond.selects RX3 yX3_copyForPage yX3_copyForPage ∈ wsL_law := List.mem_of_getElem? (i := 516) (by decide +kernel)
theorem wA_517 : Cond.code yX3_copyForPage cX3_copyForPage 4 (some (.object "PagedMemory$Content")) ∈ wsL_law := List.mem_of_getElem? (i := 517) (by decide +kernel)
theorem wA_518 : Cond.methodLink RX3 267 arraycopyName ∈ wsL_law := List.mem_of_getElem? (i := 518) (by decide +kernel)
theorem wA_519 : Cond.native arraycopyName ∈ wsL_law := List.mem_of_getElem? (i := 519) (by decide +kernel)
theorem wA_520 : Cond.static arraycopyName ∈ wsL_law := List.mem_of_getElem? (i := 520) (by decide +kernel)
theorem wA_521 : Cond.initialized "java/lang/System" ∈ wsL_law := List.mem_of_getElem? (i := 521) (by decide +kernel)
theorem wA_522 : Cond.methodLink RL 139 yX4_write ∈ wsL_law := List.mem_of_getElem? (i := 522) (by decide +kernel)
theorem wA_523 : Cond.instanceMethod yX4_write ∈ wsL_law := List.mem_of_getElem? (i := 523) (by decide +kernel)
theorem wA_524 : Cond.selects RX4 yX4_write yX4_write ∈ wsL_law := List.mem_of_getElem? (i := 524) (by decide +kernel)
theorem wA_525 : Cond.code yX4_write cX4_write 8 (some .int) ∈ wsL_law := List.mem_of_getElem? (i := 525) (by decide +kernel)
theorem wA_526 : Cond.methodLink RL 140 yX3_sync ∈ wsL_law := List.mem_of_getElem? (i := 526) (by decide +kernel)
theorem wA_527 : Cond.instanceMethod yX3_sync ∈ wsL_law := List.mem_of_getElem? (i := 527) (by decide +kernel)
theorem wA_528 : Cond.selects RX3 yX3_sync yX3_sync ∈ wsL_law := List.mem_of_getElem? (i := 528) (by decide +kernel)
theorem wA_529 : Cond.code yX3_sync cX3_sync 4 (some .int) ∈ wsL_law := List.mem_of_getElem? (i := 529) (by decide +kernel)
theorem wA_530 : Cond.methodLink RL 143 yX4_sync ∈ wsL_law := List.mem_of_getElem? (i := 530) (by decide +kernel)
theorem wA_531 : Cond.instanceMethod yX4_sync ∈ wsL_law := List.mem_of_getElem? (i := 531) (by decide +kernel)
theorem wA_532 : Cond.selects RX4 yX4_sync yX4_sync ∈ wsL_law := List.mem_of_getElem? (i := 532) (by decide +kernel)
theorem wA_533 : Cond.code yX4_sync cX4_sync 3 (some .int) ∈ wsL_law := List.mem_of_getElem? (i := 533) (by decide +kernel)
theorem wA_534 : Cond.methodLink RL 144 yX3_time ∈ wsL_law := List.mem_of_getElem? (i := 534) (by decide +kernel)
theorem wA_535 : Cond.instanceMethod yX3_time ∈ wsL_law := List.mem_of_getElem? (i := 535) (by decide +kernel)
theorem wA_536 : Cond.selects RX3 yX3_time yX3_time ∈ wsL_law := List.mem_of_getElem? (i := 536) (by decide +kernel)
theorem wA_537 : Cond.code yX3_time cX3_time 1 (some .int) ∈ wsL_law := List.mem_of_getElem? (i := 537) (by decide +kernel)
theorem wA_538 : Cond.methodLink RL 147 yX4_time ∈ wsL_law := List.mem_of_getElem? (i := 538) (by decide +kernel)
theorem wA_539 : Cond.instanceMethod yX4_time ∈ wsL_law := List.mem_of_getElem? (i := 539) (by decide +kernel)
theorem wA_540 : Cond.selects RX4 yX4_time yX4_time ∈ wsL_law := List.mem_of_getElem? (i := 540) (by decide +kernel)
theorem wA_541 : Cond.code yX4_time cX4_time 1 (some .int) ∈ wsL_law := List.mem_of_getElem? (i := 541) (by decide +kernel)
theorem wA_542 : Cond.methodLink RL 148 yX3_hand ∈ wsL_law := List.mem_of_getElem? (i := 542) (by decide +kernel)
theorem wA_543 : Cond.instanceMethod yX3_hand ∈ wsL_law := List.mem_of_getElem? (i := 543) (by decide +kernel)
theorem wA_544 : Cond.selects RX3 yX3_hand yX3_hand ∈ wsL_law := List.mem_of_getElem? (i := 544) (by decide +kernel)
theorem wA_545 : Cond.code yX3_hand cX3_hand 1 (some .int) ∈ wsL_law := List.mem_of_getElem? (i := 545) (by decide +kernel)
theorem wA_546 : Cond.methodLink RL 151 yX4_hand ∈ wsL_law := List.mem_of_getElem? (i := 546) (by decide +kernel)
theorem wA_547 : Cond.instanceMethod yX4_hand ∈ wsL_law := List.mem_of_getElem? (i := 547) (by decide +kernel)
theorem wA_548 : Cond.selects RX4 yX4_hand yX4_hand ∈ wsL_law := List.mem_of_getElem? (i := 548) (by decide +kernel)
theorem wA_549 : Cond.code yX4_hand cX4_hand 1 (some .int) ∈ wsL_law := List.mem_of_getElem? (i := 549) (by decide +kernel)
theorem wA_550 : Cond.methodLink RL 152 yL_frameOf ∈ wsL_law := List.mem_of_getElem? (i := 550) (by decide +kernel)
theorem wA_551 : Cond.static yL_frameOf ∈ wsL_law := List.mem_of_getElem? (i := 551) (by decide +kernel)
theorem wA_552 : Cond.codeWith yL_frameOf cL_frameOf 5 (some .int) [(0, 10, 13, 27)] ∈ wsL_law := List.mem_of_getElem? (i := 552) (by decide +kernel)
theorem wA_553 : Cond.methodLink RL 63 yX3_frameOf ∈ wsL_law := List.mem_of_getElem? (i := 553) (by decide +kernel)
theorem wA_554 : Cond.instanceMethod yX3_frameOf ∈ wsL_law := List.mem_of_getElem? (i := 554) (by decide +kernel)
theorem wA_555 : Cond.selects RX3 yX3_frameOf yX3_frameOf ∈ wsL_law := List.mem_of_getElem? (i := 555) (by decide +kernel)
theorem wA_556 : Cond.code yX3_frameOf cX3_frameOf 4 (some .int) ∈ wsL_law := List.mem_of_getElem? (i := 556) (by decide +kernel)
theorem wA_557 : Cond.methodLink RL 154 yX4_frameOf ∈ wsL_law := List.mem_of_getElem? (i := 557) (by decide +kernel)
theorem wA_558 : Cond.instanceMethod yX4_frameOf ∈ wsL_law := List.mem_of_getElem? (i := 558) (by decide +kernel)
theorem wA_559 : Cond.selects RX4 yX4_frameOf yX4_frameOf ∈ wsL_law := List.mem_of_getElem? (i := 559) (by decide +kernel)
theorem wA_560 : Cond.code yX4_frameOf cX4_frameOf 3 (some .int) ∈ wsL_law := List.mem_of_getElem? (i := 560) (by decide +kernel)
theorem wA_561 : Cond.methodLink RX4 174 yX4_frameAt ∈ wsL_law := List.mem_of_getElem? (i := 561) (by decide +kernel)
theorem wA_562 : Cond.instanceMethod yX4_frameAt ∈ wsL_law := List.mem_of_getElem? (i := 562) (by decide +kernel)
theorem wA_563 : Cond.selects RX4 yX4_frameAt yX4_frameAt ∈ wsL_law := List.mem_of_getElem? (i := 563) (by decide +kernel)
theorem wA_564 : Cond.code yX4_frameAt cX4_frameAt 2 (some .int) ∈ wsL_law := List.mem_of_getElem? (i := 564) (by decide +kernel)
theorem wA_565 : Cond.methodLink RL 155 yL_slotOf ∈ wsL_law := List.mem_of_getElem? (i := 565) (by decide +kernel)
theorem wA_566 : Cond.static yL_slotOf ∈ wsL_law := List.mem_of_getElem? (i := 566) (by decide +kernel)
theorem wA_567 : Cond.codeWith yL_slotOf cL_slotOf 5 (some .int) [(0, 10, 13, 27)] ∈ wsL_law := List.mem_of_getElem? (i := 567) (by decide +kernel)
theorem wA_568 : Cond.methodLink RL 66 yX3_slotOf ∈ wsL_law := List.mem_of_getElem? (i := 568) (by decide +kernel)
theorem wA_569 : Cond.instanceMethod yX3_slotOf ∈ wsL_law := List.mem_of_getElem? (i := 569) (by decide +kernel)
theorem wA_570 : Cond.selects RX3 yX3_slotOf yX3_slotOf ∈ wsL_law := List.mem_of_getElem? (i := 570) (by decide +kernel)
theorem wA_571 : Cond.code yX3_slotOf cX3_slotOf 4 (some .int) ∈ wsL_law := List.mem_of_getElem? (i := 571) (by decide +kernel)
theorem wA_572 : Cond.methodLink RL 157 yX4_slotOf ∈ wsL_law := List.mem_of_getElem? (i := 572) (by decide +kernel)
theorem wA_573 : Cond.instanceMethod yX4_slotOf ∈ wsL_law := List.mem_of_getElem? (i := 573) (by decide +kernel)
theorem wA_574 : Cond.selects RX4 yX4_slotOf yX4_slotOf ∈ wsL_law := List.mem_of_getElem? (i := 574) (by decide +kernel)
theorem wA_575 : Cond.code yX4_slotOf cX4_slotOf 3 (some .int) ∈ wsL_law := List.mem_of_getElem? (i := 575) (by decide +kernel)
theorem wA_576 : Cond.methodLink RX4 177 yX4_slotAt ∈ wsL_law := List.mem_of_getElem? (i := 576) (by decide +kernel)
theorem wA_577 : Cond.instanceMethod yX4_slotAt ∈ wsL_law := List.mem_of_getElem? (i := 577) (by decide +kernel)
theorem wA_578 : Cond.selects RX4 yX4_slotAt yX4_slotAt ∈ wsL_law := List.mem_of_getElem? (i := 578) (by decide +kernel)
theorem wA_579 : Cond.code yX4_slotAt cX4_slotAt 2 (some .int) ∈ wsL_law := List.mem_of_getElem? (i := 579) (by decide +kernel)
theorem wA_580 : Cond.methodLink RL 158 yL_sharersOf ∈ wsL_law := List.mem_of_getElem? (i := 580) (by decide +kernel)
theorem wA_581 : Cond.static yL_sharersOf ∈ wsL_law := List.mem_of_getElem? (i := 581) (by decide +kernel)
theorem wA_582 : Cond.codeWith yL_sharersOf cL_sharersOf 5 (some .int) [(0, 10, 13, 27)] ∈ wsL_law := List.mem_of_getElem? (i := 582) (by decide +kernel)
theorem wA_583 : Cond.methodLink RL 69 yX3_sharersOf ∈ wsL_law := List.mem_of_getElem? (i := 583) (by decide +kernel)
theorem wA_584 : Cond.instanceMethod yX3_sharersOf ∈ wsL_law := List.mem_of_getElem? (i := 584) (by decide +kernel)
theorem wA_585 : Cond.selects RX3 yX3_sharersOf yX3_sharersOf ∈ wsL_law := List.mem_of_getElem? (i := 585) (by decide +kernel)
theorem wA_586 : Cond.code yX3_sharersOf cX3_sharersOf 4 (some .int) ∈ wsL_law := List.mem_of_getElem? (i := 586) (by decide +kernel)
theorem wA_587 : Cond.methodLink RL 160 yX4_sharersOf ∈ wsL_law := List.mem_of_getElem? (i := 587) (by decide +kernel)
theorem wA_588 : Cond.instanceMethod yX4_sharersOf ∈ wsL_law := List.mem_of_getElem? (i := 588) (by decide +kernel)
theorem wA_589 : Cond.selects RX4 yX4_sharersOf yX4_sharersOf ∈ wsL_law := List.mem_of_getElem? (i := 589) (by decide +kernel)
theorem wA_590 : Cond.code yX4_sharersOf cX4_sharersOf 3 (some .int) ∈ wsL_law := List.mem_of_getElem? (i := 590) (by decide +kernel)
theorem wA_591 : Cond.methodLink RL 161 yL_frameState ∈ wsL_law := List.mem_of_getElem? (i := 591) (by decide +kernel)
theorem wA_592 : Cond.static yL_frameState ∈ wsL_law := List.mem_of_getElem? (i := 592) (by decide +kernel)
theorem wA_593 : Cond.codeWith yL_frameState cL_frameState 4 (some .int) [(0, 9, 12, 27)] ∈ wsL_law := List.mem_of_getElem? (i := 593) (by decide +kernel)
theorem wA_594 : Cond.methodLink RL 72 yX3_frameState ∈ wsL_law := List.mem_of_getElem? (i := 594) (by decide +kernel)
theorem wA_595 : Cond.instanceMethod yX3_frameState ∈ wsL_law := List.mem_of_getElem? (i := 595) (by decide +kernel)
theorem wA_596 : Cond.selects RX3 yX3_frameState yX3_frameState ∈ wsL_law := List.mem_of_getElem? (i := 596) (by decide +kernel)
theorem wA_597 : Cond.code yX3_frameState cX3_frameState 3 (some .int) ∈ wsL_law := List.mem_of_getElem? (i := 597) (by decide +kernel)
theorem wA_598 : Cond.methodLink RX3 175 yX3_requireFrame ∈ wsL_law := List.mem_of_getElem? (i := 598) (by decide +kernel)
theorem wA_599 : Cond.instanceMethod yX3_requireFrame ∈ wsL_law := List.mem_of_getElem? (i := 599) (by decide +kernel)
theorem wA_600 : Cond.selects RX3 yX3_requireFrame yX3_requireFrame ∈ wsL_law := List.mem_of_getElem? (i := 600) (by decide +kernel)
theorem wA_601 : Cond.code yX3_requireFrame cX3_requireFrame 2 none ∈ wsL_law := List.mem_of_getElem? (i := 601) (by decide +kernel)
theorem wA_602 : Cond.methodLink RL 163 yX4_frameState ∈ wsL_law := List.mem_of_getElem? (i := 602) (by decide +kernel)
theorem wA_603 : Cond.instanceMethod yX4_frameState ∈ wsL_law := List.mem_of_getElem? (i := 603) (by decide +kernel)
theorem wA_604 : Cond.selects RX4 yX4_frameState yX4_frameState ∈ wsL_law := List.mem_of_getElem? (i := 604) (by decide +kernel)
theorem wA_605 : Cond.code yX4_frameState cX4_frameState 2 (some .int) ∈ wsL_law := List.mem_of_getElem? (i := 605) (by decide +kernel)
theorem wA_606 : Cond.methodLink RX4 180 yX4_asksFrame ∈ wsL_law := List.mem_of_getElem? (i := 606) (by decide +kernel)
theorem wA_607 : Cond.instanceMethod yX4_asksFrame ∈ wsL_law := List.mem_of_getElem? (i := 607) (by decide +kernel)
theorem wA_608 : Cond.selects RX4 yX4_asksFrame yX4_asksFrame ∈ wsL_law := List.mem_of_getElem? (i := 608) (by decide +kernel)
theorem wA_609 : Cond.code yX4_asksFrame cX4_asksFrame 2 (some .boolean) ∈ wsL_law := List.mem_of_getElem? (i := 609) (by decide +kernel)
theorem wA_610 : Cond.methodLink RX4 183 yX4_stateOf ∈ wsL_law := List.mem_of_getElem? (i := 610) (by decide +kernel)
theorem wA_611 : Cond.instanceMethod yX4_stateOf ∈ wsL_law := List.mem_of_getElem? (i := 611) (by decide +kernel)
theorem wA_612 : Cond.selects RX4 yX4_stateOf yX4_stateOf ∈ wsL_law := List.mem_of_getElem? (i := 612) (by decide +kernel)
theorem wA_613 : Cond.code yX4_stateOf cX4_stateOf 2 (some .int) ∈ wsL_law := List.mem_of_getElem? (i := 613) (by decide +kernel)
theorem wA_614 : Cond.methodLink RL 164 yL_latestUse ∈ wsL_law := List.mem_of_getElem? (i := 614) (by decide +kernel)
theorem wA_615 : Cond.static yL_latestUse ∈ wsL_law := List.mem_of_getElem? (i := 615) (by decide +kernel)
theorem wA_616 : Cond.codeWith yL_latestUse cL_latestUse 4 (some .int) [(0, 9, 12, 27)] ∈ wsL_law := List.mem_of_getElem? (i := 616) (by decide +kernel)
theorem wA_617 : Cond.methodLink RL 75 yX3_latestUse ∈ wsL_law := List.mem_of_getElem? (i := 617) (by decide +kernel)
theorem wA_618 : Cond.instanceMethod yX3_latestUse ∈ wsL_law := List.mem_of_getElem? (i := 618) (by decide +kernel)
theorem wA_619 : Cond.selects RX3 yX3_latestUse yX3_latestUse ∈ wsL_law := List.mem_of_getElem? (i := 619) (by decide +kernel)
theorem wA_620 : Cond.code yX3_latestUse cX3_latestUse 2 (some .int) ∈ wsL_law := List.mem_of_getElem? (i := 620) (by decide +kernel)
theorem wA_621 : Cond.methodLink RL 166 yX4_latestUse ∈ wsL_law := List.mem_of_getElem? (i := 621) (by decide +kernel)
theorem wA_622 : Cond.instanceMethod yX4_latestUse ∈ wsL_law := List.mem_of_getElem? (i := 622) (by decide +kernel)
theorem wA_623 : Cond.selects RX4 yX4_latestUse yX4_latestUse ∈ wsL_law := List.mem_of_getElem? (i := 623) (by decide +kernel)
theorem wA_624 : Cond.code yX4_latestUse cX4_latestUse 2 (some .int) ∈ wsL_law := List.mem_of_getElem? (i := 624) (by decide +kernel)
theorem wA_625 : Cond.methodLink RX4 186 yX4_useOf ∈ wsL_law := List.mem_of_getElem? (i := 625) (by decide +kernel)
theorem wA_626 : Cond.instanceMethod yX4_useOf ∈ wsL_law := List.mem_of_getElem? (i := 626) (by decide +kernel)
theorem wA_627 : Cond.selects RX4 yX4_useOf yX4_useOf ∈ wsL_law := List.mem_of_getElem? (i := 627) (by decide +kernel)
theorem wA_628 : Cond.code yX4_useOf cX4_useOf 2 (some .int) ∈ wsL_law := List.mem_of_getElem? (i := 628) (by decide +kernel)
theorem wA_629 : Cond.methodLink RL 167 yL_isReferenced ∈ wsL_law := List.mem_of_getElem? (i := 629) (by decide +kernel)
theorem wA_630 : Cond.static yL_isReferenced ∈ wsL_law := List.mem_of_getElem? (i := 630) (by decide +kernel)
theorem wA_631 : Cond.codeWith yL_isReferenced cL_isReferenced 4 (some .int) [(0, 16, 19, 27)] ∈ wsL_law := List.mem_of_getElem? (i := 631) (by decide +kernel)
theorem wA_632 : Cond.methodLink RL 78 yX3_isReferenced ∈ wsL_law := List.mem_of_getElem? (i := 632) (by decide +kernel)
theorem wA_633 : Cond.instanceMethod yX3_isReferenced ∈ wsL_law := List.mem_of_getElem? (i := 633) (by decide +kernel)
theorem wA_634 : Cond.selects RX3 yX3_isReferenced yX3_isReferenced ∈ wsL_law := List.mem_of_getElem? (i := 634) (by decide +kernel)
theorem wA_635 : Cond.code yX3_isReferenced cX3_isReferenced 2 (some .boolean) ∈ wsL_law := List.mem_of_getElem? (i := 635) (by decide +kernel)
theorem wA_636 : Cond.methodLink RL 169 yX4_isReferenced ∈ wsL_law := List.mem_of_getElem? (i := 636) (by decide +kernel)
theorem wA_637 : Cond.instanceMethod yX4_isReferenced ∈ wsL_law := List.mem_of_getElem? (i := 637) (by decide +kernel)
theorem wA_638 : Cond.selects RX4 yX4_isReferenced yX4_isReferenced ∈ wsL_law := List.mem_of_getElem? (i := 638) (by decide +kernel)
theorem wA_639 : Cond.code yX4_isReferenced cX4_isReferenced 2 (some .boolean) ∈ wsL_law := List.mem_of_getElem? (i := 639) (by decide +kernel)
theorem wA_640 : Cond.methodLink RL 170 yX3_freeFrames ∈ wsL_law := List.mem_of_getElem? (i := 640) (by decide +kernel)
theorem wA_641 : Cond.instanceMethod yX3_freeFrames ∈ wsL_law := List.mem_of_getElem? (i := 641) (by decide +kernel)
theorem wA_642 : Cond.selects RX3 yX3_freeFrames yX3_freeFrames ∈ wsL_law := List.mem_of_getElem? (i := 642) (by decide +kernel)
theorem wA_643 : Cond.code yX3_freeFrames cX3_freeFrames 1 (some .int) ∈ wsL_law := List.mem_of_getElem? (i := 643) (by decide +kernel)
theorem wA_644 : Cond.methodLink RL 173 yX4_freeFrames ∈ wsL_law := List.mem_of_getElem? (i := 644) (by decide +kernel)
theorem wA_645 : Cond.instanceMethod yX4_freeFrames ∈ wsL_law := List.mem_of_getElem? (i := 645) (by decide +kernel)
theorem wA_646 : Cond.selects RX4 yX4_freeFrames yX4_freeFrames ∈ wsL_law := List.mem_of_getElem? (i := 646) (by decide +kernel)
theorem wA_647 : Cond.code yX4_freeFrames cX4_freeFrames 1 (some .int) ∈ wsL_law := List.mem_of_getElem? (i := 647) (by decide +kernel)
theorem wA_648 : Cond.methodLink RL 174 yX3_freeSlots ∈ wsL_law := List.mem_of_getElem? (i := 648) (by decide +kernel)
theorem wA_649 : Cond.instanceMethod yX3_freeSlots ∈ wsL_law := List.mem_of_getElem? (i := 649) (by decide +kernel)
theorem wA_650 : Cond.selects RX3 yX3_freeSlots yX3_freeSlots ∈ wsL_law := List.mem_of_getElem? (i := 650) (by decide +kernel)
theorem wA_651 : Cond.code yX3_freeSlots cX3_freeSlots 1 (some .int) ∈ wsL_law := List.mem_of_getElem? (i := 651) (by decide +kernel)
theorem wA_652 : Cond.methodLink RL 177 yX4_freeSlots ∈ wsL_law := List.mem_of_getElem? (i := 652) (by decide +kernel)
theorem wA_653 : Cond.instanceMethod yX4_freeSlots ∈ wsL_law := List.mem_of_getElem? (i := 653) (by decide +kernel)
theorem wA_654 : Cond.selects RX4 yX4_freeSlots yX4_freeSlots ∈ wsL_law := List.mem_of_getElem? (i := 654) (by decide +kernel)
theorem wA_655 : Cond.code yX4_freeSlots cX4_freeSlots 1 (some .int) ∈ wsL_law := List.mem_of_getElem? (i := 655) (by decide +kernel)
theorem wA_656 : Cond.methodLink RX4 189 yX4_slotsLeft ∈ wsL_law := List.mem_of_getElem? (i := 656) (by decide +kernel)
theorem wA_657 : Cond.instanceMethod yX4_slotsLeft ∈ wsL_law := List.mem_of_getElem? (i := 657) (by decide +kernel)
theorem wA_658 : Cond.selects RX4 yX4_slotsLeft yX4_slotsLeft ∈ wsL_law := List.mem_of_getElem? (i := 658) (by decide +kernel)
theorem wA_659 : Cond.code yX4_slotsLeft cX4_slotsLeft 3 (some .int) ∈ wsL_law := List.mem_of_getElem? (i := 659) (by decide +kernel)
theorem wA_660 : Cond.methodLink RL 178 yL_workingSet ∈ wsL_law := List.mem_of_getElem? (i := 660) (by decide +kernel)
theorem wA_661 : Cond.static yL_workingSet ∈ wsL_law := List.mem_of_getElem? (i := 661) (by decide +kernel)
theorem wA_662 : Cond.codeWith yL_workingSet cL_workingSet 4 (some .int) [(0, 9, 12, 27)] ∈ wsL_law := List.mem_of_getElem? (i := 662) (by decide +kernel)
theorem wA_663 : Cond.methodLink RL 81 yX3_workingSet ∈ wsL_law := List.mem_of_getElem? (i := 663) (by decide +kernel)
theorem wA_664 : Cond.instanceMethod yX3_workingSet ∈ wsL_law := List.mem_of_getElem? (i := 664) (by decide +kernel)
theorem wA_665 : Cond.selects RX3 yX3_workingSet yX3_workingSet ∈ wsL_law := List.mem_of_getElem? (i := 665) (by decide +kernel)
theorem wA_666 : Cond.code yX3_workingSet cX3_workingSet 5 (some .int) ∈ wsL_law := List.mem_of_getElem? (i := 666) (by decide +kernel)
theorem wA_667 : Cond.methodLink RL 180 yX4_workingSet ∈ wsL_law := List.mem_of_getElem? (i := 667) (by decide +kernel)
theorem wA_668 : Cond.instanceMethod yX4_workingSet ∈ wsL_law := List.mem_of_getElem? (i := 668) (by decide +kernel)
theorem wA_669 : Cond.selects RX4 yX4_workingSet yX4_workingSet ∈ wsL_law := List.mem_of_getElem? (i := 669) (by decide +kernel)
theorem wA_670 : Cond.code yX4_workingSet cX4_workingSet 5 (some .int) ∈ wsL_law := List.mem_of_getElem? (i := 670) (by decide +kernel)
theorem wA_671 : Cond.methodLink RL 181 yL_count ∈ wsL_law := List.mem_of_getElem? (i := 671) (by decide +kernel)
theorem wA_672 : Cond.static yL_count ∈ wsL_law := List.mem_of_getElem? (i := 672) (by decide +kernel)
theorem wA_673 : Cond.codeWith yL_count cL_count 4 (some .int) [(0, 9, 12, 27)] ∈ wsL_law := List.mem_of_getElem? (i := 673) (by decide +kernel)
theorem wA_674 : Cond.methodLink RL 84 yX3_count ∈ wsL_law := List.mem_of_getElem? (i := 674) (by decide +kernel)
theorem wA_675 : Cond.instanceMethod yX3_count ∈ wsL_law := List.mem_of_getElem? (i := 675) (by decide +kernel)
theorem wA_676 : Cond.selects RX3 yX3_count yX3_count ∈ wsL_law := List.mem_of_getElem? (i := 676) (by decide +kernel)
theorem wA_677 : Cond.code yX3_count cX3_count 2 (some .int) ∈ wsL_law := List.mem_of_getElem? (i := 677) (by decide +kernel)
theorem wA_678 : Cond.methodLink RL 183 yX4_count ∈ wsL_law := List.mem_of_getElem? (i := 678) (by decide +kernel)
theorem wA_679 : Cond.instanceMethod yX4_count ∈ wsL_law := List.mem_of_getElem? (i := 679) (by decide +kernel)
theorem wA_680 : Cond.selects RX4 yX4_count yX4_count ∈ wsL_law := List.mem_of_getElem? (i := 680) (by decide +kernel)
theorem wA_681 : Cond.code yX4_count cX4_count 2 (some .int) ∈ wsL_law := List.mem_of_getElem? (i := 681) (by decide +kernel)
theorem wA_682 : Cond.methodLink RL 184 yX3_swapRate ∈ wsL_law := List.mem_of_getElem? (i := 682) (by decide +kernel)
theorem wA_683 : Cond.instanceMethod yX3_swapRate ∈ wsL_law := List.mem_of_getElem? (i := 683) (by decide +kernel)
theorem wA_684 : Cond.selects RX3 yX3_swapRate yX3_swapRate ∈ wsL_law := List.mem_of_getElem? (i := 684) (by decide +kernel)
theorem wA_685 : Cond.code yX3_swapRate cX3_swapRate 1 (some .double) ∈ wsL_law := List.mem_of_getElem? (i := 685) (by decide +kernel)
theorem wA_686 : Cond.methodLink RL 188 yX4_swapRate ∈ wsL_law := List.mem_of_getElem? (i := 686) (by decide +kernel)
theorem wA_687 : Cond.instanceMethod yX4_swapRate ∈ wsL_law := List.mem_of_getElem? (i := 687) (by decide +kernel)
theorem wA_688 : Cond.selects RX4 yX4_swapRate yX4_swapRate ∈ wsL_law := List.mem_of_getElem? (i := 688) (by decide +kernel)
theorem wA_689 : Cond.code yX4_swapRate cX4_swapRate 1 (some .double) ∈ wsL_law := List.mem_of_getElem? (i := 689) (by decide +kernel)
theorem wA_690 : Cond.methodLink RL 189 yX3_digest ∈ wsL_law := List.mem_of_getElem? (i := 690) (by decide +kernel)
theorem wA_691 : Cond.instanceMethod yX3_digest ∈ wsL_law := List.mem_of_getElem? (i := 691) (by decide +kernel)
theorem wA_692 : Cond.selects RX3 yX3_digest yX3_digest ∈ wsL_law := List.mem_of_getElem? (i := 692) (by decide +kernel)
theorem wA_693 : Cond.code yX3_digest cX3_digest 5 (some .long) ∈ wsL_law := List.mem_of_getElem? (i := 693) (by decide +kernel)
theorem wA_694 : Cond.constantLong RX3 193 (67) ∈ wsL_law := List.mem_of_getElem? (i := 694) (by decide +kernel)
theorem wA_695 : Cond.methodLink RX3 195 yX3_mix ∈ wsL_law := List.mem_of_getElem? (i := 695) (by decide +kernel)
theorem wA_696 : Cond.static yX3_mix ∈ wsL_law := List.mem_of_getElem? (i := 696) (by decide +kernel)
theorem wA_697 : Cond.code yX3_mix cX3_mix 4 (some .long) ∈ wsL_law := List.mem_of_getElem? (i := 697) (by decide +kernel)
theorem wA_698 : Cond.constantLong RX3 217 (31) ∈ wsL_law := List.mem_of_getElem? (i := 698) (by decide +kernel)
theorem wA_699 : Cond.methodLink RX3 199 yX3_mapping ∈ wsL_law := List.mem_of_getElem? (i := 699) (by decide +kernel)
theorem wA_700 : Cond.methodLink RX3 202 yX3_frameOf ∈ wsL_law := List.mem_of_getElem? (i := 700) (by decide +kernel)
theorem wA_701 : Cond.methodLink RX3 205 yX3_slotOf ∈ wsL_law := List.mem_of_getElem? (i := 701) (by decide +kernel)
theorem wA_702 : Cond.methodLink RX3 208 yX3_frameState ∈ wsL_law := List.mem_of_getElem? (i := 702) (by decide +kernel)
theorem wA_703 : Cond.methodLink RX3 211 yX3_latestUse ∈ wsL_law := List.mem_of_getElem? (i := 703) (by decide +kernel)
theorem wA_704 : Cond.methodLink RX3 214 yX3_isReferenced ∈ wsL_law := List.mem_of_getElem? (i := 704) (by decide +kernel)
theorem wA_705 : Cond.methodLink RL 193 yX4_digest ∈ wsL_law := List.mem_of_getElem? (i := 705) (by decide +kernel)
theorem wA_706 : Cond.instanceMethod yX4_digest ∈ wsL_law := List.mem_of_getElem? (i := 706) (by decide +kernel)
theorem wA_707 : Cond.selects RX4 yX4_digest yX4_digest ∈ wsL_law := List.mem_of_getElem? (i := 707) (by decide +kernel)
theorem wA_708 : Cond.code yX4_digest cX4_digest 5 (some .long) ∈ wsL_law := List.mem_of_getElem? (i := 708) (by decide +kernel)
theorem wA_709 : Cond.constantLong RX4 192 (2077) ∈ wsL_law := List.mem_of_getElem? (i := 709) (by decide +kernel)
theorem wA_710 : Cond.constantLong RX4 194 (31) ∈ wsL_law := List.mem_of_getElem? (i := 710) (by decide +kernel)
end
section
/-! THE TWO WORLDS (the class's, the reference's): a key for each cell, a shape for each key, a pure state (how many keys, ints by key and place, references by key and place) -/
abbrev pw_S : Type := Nat × (Nat → Nat → Int32) × (Nat → Nat → Option Nat)
/-- a shape: kind (0 object, 1 ints, 2 booleans, 3 references), the class, the length, the links of an object (0: an int; k + 1: the cell k) -/
abbrev pw_Sh : Type := Nat × Nat × Nat × (Nat → Nat)
def up2 {α : Type} (f : Nat → Nat → α) (k j : Nat) (x : α) : Nat → Nat → α := fun a b => if a = k then (if b = j then x else f a b) else f a b
def gN (σ : pw_S) : Nat := σ.1
def gi (σ : pw_S) (k j : Nat) : Int32 := σ.2.1 k j
def gr (σ : pw_S) (k j : Nat) : Option Nat := σ.2.2 k j
def si (σ : pw_S) (k j : Nat) (x : Int32) : pw_S := (σ.1, up2 σ.2.1 k j x, σ.2.2)
def sr (σ : pw_S) (k j : Nat) (x : Option Nat) : pw_S := (σ.1, σ.2.1, up2 σ.2.2 k j x)
theorem gN_si {σ : pw_S} {k j : Nat} {x : Int32} : gN (si σ k j x) = gN σ := rfl
theorem gN_sr {σ : pw_S} {k j : Nat} {x : Option Nat} : gN (sr σ k j x) = gN σ := rfl
theorem gi_si {σ : pw_S} {k j a b : Nat} {x : Int32} : gi (si σ k j x) a b = if a = k then (if b = j then x else gi σ a b) else gi σ a b := rfl
theorem gi_sr {σ : pw_S} {k j a b : Nat} {x : Option Nat} : gi (sr σ k j x) a b = gi σ a b := rfl
theorem gr_sr {σ : pw_S} {k j a b : Nat} {x : Option Nat} : gr (sr σ k j x) a b = if a = k then (if b = j then x else gr σ a b) else gr σ a b := rfl
theorem gr_si {σ : pw_S} {k j a b : Nat} {x : Int32} : gr (si σ k j x) a b = gr σ a b := rfl
def pw_fs (ad : Nat → Nat) (σ : pw_S) (k n : Nat) (lk : Nat → Nat) : List Value := (List.range n).map (fun j => if lk j = 0 then .int (gi σ k j) else .ref (ad (lk j - 1)))
def pw_e (cA : Nat → ClassId) (ad : Nat → Nat) (σ : pw_S) (k : Nat) (h : pw_Sh) : va_E :=
  if h.1 = 0 then .inr (h.2.1, pw_fs ad σ k h.2.2.1 h.2.2.2)
  else if h.1 = 3 then .inl (cA 3, h.2.2.1, .inr (.inr (.inr (.inr (fun j => (gr σ k j).map ad)))))
  else .inl (cA h.1, h.2.2.1, .inl (fun j => gi σ k j))
def pw_G (D : va_G) (cA : Nat → ClassId) (sh : Nat → pw_Sh) (n0 : Nat) (A : Nat → Prop) (ad : Nat → Nat) (σ : pw_S) (H : Heap) : Prop :=
  (∀ k, k < gN σ → va_at D vwCl (ad k, pw_e cA ad σ k (sh k)) H) ∧ (∀ k k', k < gN σ → k' < gN σ → ad k = ad k' → k = k') ∧ (∀ k, k < gN σ → A (ad k)) ∧ n0 ≤ gN σ
abbrev pw_ty (cA : Nat → ClassId) : List (ClassId × FieldType) := [(cA 1, .int), (cA 2, .boolean), (cA 3, .object RX0)]
theorem pw_e_si {cA : Nat → ClassId} {ad : Nat → Nat} {σ : pw_S} {k k' j : Nat} {x : Int32} {h : pw_Sh} (hne : k' ≠ k) : pw_e cA ad (si σ k j x) k' h = pw_e cA ad σ k' h := by
  simp only [pw_e, pw_fs, gi_si, gr_si, if_neg hne]
theorem pw_e_sr {cA : Nat → ClassId} {ad : Nat → Nat} {σ : pw_S} {k k' j : Nat} {x : Option Nat} {h : pw_Sh} (hne : k' ≠ k) : pw_e cA ad (sr σ k j x) k' h = pw_e cA ad σ k' h := by
  simp only [pw_e, pw_fs, gi_sr, gr_sr, if_neg hne]
theorem pw_fs_at {ad : Nat → Nat} {σ : pw_S} {k n j : Nat} {lk : Nat → Nat} (hj : j < n) : (pw_fs ad σ k n lk)[j]? = some (if lk j = 0 then .int (gi σ k j) else .ref (ad (lk j - 1))) := by
  simp [pw_fs, hj]
theorem pw_fs_len {ad : Nat → Nat} {σ : pw_S} {k n : Nat} {lk : Nat → Nat} : (pw_fs ad σ k n lk).length = n := by simp [pw_fs]
theorem pw_fs_set {ad : Nat → Nat} {σ : pw_S} {k n j : Nat} {x : Int32} {lk : Nat → Nat} (h0 : lk j = 0) : (pw_fs ad σ k n lk).set j (.int x) = pw_fs ad (si σ k j x) k n lk := by
  apply List.ext_getElem?
  intro i
  rw [List.getElem?_set]
  by_cases hi : i < n
  · rw [pw_fs_at hi, pw_fs_at hi]
    by_cases hj : j = i
    · subst hj
      simp [pw_fs_len, hi, h0, gi_si]
    · have : i ≠ j := fun q => hj q.symm
      simp [hj, gi_si, this]
  · have e1 : (pw_fs ad σ k n lk)[i]? = none := by rw [List.getElem?_eq_none_iff, pw_fs_len]; omega
    have e2 : (pw_fs ad (si σ k j x) k n lk)[i]? = none := by rw [List.getElem?_eq_none_iff, pw_fs_len]; omega
    rw [e1, e2, pw_fs_len]
    by_cases hj : j = i
    · subst hj
      simp [hi]
    · simp [hj]
theorem pw_one {D : va_G} {q : Nat × va_E} {H : Heap} (h : va_at D vwCl q H) : va_P D vwCl [q] H := by
  intro k x hx
  match k, hx with
  | 0, hx => cases hx; exact h
  | k + 1, hx => simp at hx
theorem pw_G.put {D : va_G} {cA : Nat → ClassId} {sh : Nat → pw_Sh} {n0 : Nat} {A : Nat → Prop} {ad : Nat → Nat} {σ σ' : pw_S} {H H1 : Heap} {k : Nat} (hG : pw_G D cA sh n0 A ad σ H) (hk : k < gN σ) (hN : gN σ' = gN σ) (ho : ∀ k', k' ≠ k → pw_e cA ad σ' k' (sh k') = pw_e cA ad σ k' (sh k')) (hc : va_at D vwCl (ad k, pw_e cA ad σ' k (sh k)) H1) (oq : ∀ q : Nat, q ≠ ad k → H1[q]? = H[q]?) : pw_G D cA sh n0 A ad σ' H1 := by
  obtain ⟨h1, h2, h3, h4⟩ := hG
  refine ⟨fun k' hk' => ?_, fun a b ha hb => h2 a b (hN ▸ ha) (hN ▸ hb), fun a ha => h3 a (hN ▸ ha), hN ▸ h4⟩
  by_cases he : k' = k
  · subst he
    exact hc
  · rw [ho k' he]
    exact (h1 k' (hN ▸ hk')).kept (oq _ (fun q => he (h2 k' k (hN ▸ hk') hk q)))
theorem pw_G.kept {D : va_G} {cA : Nat → ClassId} {sh : Nat → pw_Sh} {n0 : Nat} {A : Nat → Prop} {ad : Nat → Nat} {σ : pw_S} {H H1 : Heap} (hG : pw_G D cA sh n0 A ad σ H) (oq : ∀ k : Nat, k < gN σ → H1[ad k]? = H[ad k]?) : pw_G D cA sh n0 A ad σ H1 :=
  ⟨fun k hk => (hG.1 k hk).kept (oq k hk), hG.2.1, hG.2.2.1, hG.2.2.2⟩
theorem pw_G.lt {D : va_G} {cA : Nat → ClassId} {sh : Nat → pw_Sh} {n0 : Nat} {A : Nat → Prop} {ad : Nat → Nat} {σ : pw_S} {H : Heap} (hG : pw_G D cA sh n0 A ad σ H) {k : Nat} (hk : k < gN σ) : ad k < H.size := (hG.1 k hk).lt
theorem pw_G.fix {D : va_G} {cA : Nat → ClassId} {sh : Nat → pw_Sh} {n0 : Nat} {A : Nat → Prop} {ad : Nat → Nat} {σ : pw_S} {H : Heap} (hG : pw_G D cA sh n0 A ad σ H) {k : Nat} (h : k < n0) : k < gN σ := Nat.lt_of_lt_of_le h hG.2.2.2
section PWR
variable {p : Program} {l : Launch} {e : Env} {R : Room} {s : State} {m : MethodId} {args : Array Value} {below : List Frame} {meth : Method} {c : Code} {H : Heap} {locs : List Loc} {cells slots : Nat} {Q : State → Prop}
variable {cc : ByteArray} {pc : Nat} {ls : Array Slot} {rest : List Value} {D : va_G} {cA : Nat → ClassId} {sh : Nat → pw_Sh} {n0 : Nat} {A : Nat → Prop} {ad : Nat → Nat} {σ : pw_S} {H0 : Heap}
theorem mw_geti (hx : p.tables.exec = Jvm.exec) (hb : c.code = cc) {own C : String} {T : u_T} {ci n index k : Nat} {lk : Nat → Nat} (hts : ∀ w ∈ wsL_law, w.before args s = true) (hown : s.vm.findClass own = some m.cls) (hK : va_K D vwCl (pw_ty cA) s) (hG : pw_G D cA sh n0 A ad σ H)
    (hin : ∀ w ∈ u_ws C T n, w ∈ wsL_law) (hc : vwCl[ci]? = some (C, T, n)) (hk : k < gN σ) (hs : sh k = (0, ci, n, lk)) (j : Nat) (hj : j < n) (h0 : lk j = 0) (hlink : Cond.fieldLink own index (T j).1 (T j).2.1 (T j).2.2.1 ∈ wsL_law) (hdg : decode cc pc = .ok (.getfield index, 3))
    (kk : W p l e R s m args below meth c H locs cells slots Q (F0 m (pc + 3) ls (.int (gi σ k j) :: rest))) : W p l e R s m args below meth c H locs cells slots Q (F0 m pc ls (.ref (ad k) :: rest)) := by
  have h1 := hG.1 k hk
  rw [hs] at h1
  exact va_get (ws := [(ad k, .inr (ci, pw_fs ad σ k n lk))]) hx hb hts hin hown hK (pw_one h1) 0 rfl hc j hj (hts _ hlink) (fun _ h => h) (by rw [pw_fs_at hj, if_pos h0]) hdg kk
theorem mw_getl (hx : p.tables.exec = Jvm.exec) (hb : c.code = cc) {own C : String} {T : u_T} {ci n index k : Nat} {lk : Nat → Nat} (hts : ∀ w ∈ wsL_law, w.before args s = true) (hown : s.vm.findClass own = some m.cls) (hK : va_K D vwCl (pw_ty cA) s) (hG : pw_G D cA sh n0 A ad σ H)
    (hin : ∀ w ∈ u_ws C T n, w ∈ wsL_law) (hc : vwCl[ci]? = some (C, T, n)) (hk : k < gN σ) (hs : sh k = (0, ci, n, lk)) (j : Nat) (hj : j < n) (k' : Nat) (h0 : lk j = k' + 1) (hlink : Cond.fieldLink own index (T j).1 (T j).2.1 (T j).2.2.1 ∈ wsL_law) (hdg : decode cc pc = .ok (.getfield index, 3))
    (kk : W p l e R s m args below meth c H locs cells slots Q (F0 m (pc + 3) ls (.ref (ad k') :: rest))) : W p l e R s m args below meth c H locs cells slots Q (F0 m pc ls (.ref (ad k) :: rest)) := by
  have h1 := hG.1 k hk
  rw [hs] at h1
  exact va_get (ws := [(ad k, .inr (ci, pw_fs ad σ k n lk))]) hx hb hts hin hown hK (pw_one h1) 0 rfl hc j hj (hts _ hlink) (fun _ h => h) (by rw [pw_fs_at hj, h0]; rfl) hdg kk
theorem mw_puti (hx : p.tables.exec = Jvm.exec) (hb : c.code = cc) {own C : String} {T : u_T} {ci n index k : Nat} {lk : Nat → Nat} (hts : ∀ w ∈ wsL_law, w.before args s = true) (hown : s.vm.findClass own = some m.cls) (hK : va_K D vwCl (pw_ty cA) s) (hG : pw_G D cA sh n0 A ad σ H) (hS : va_S A H0 H locs)
    (hin : ∀ w ∈ u_ws C T n, w ∈ wsL_law) (ty0 : Nat → FieldType) (hty : ∀ k, k < n → parseFieldDescriptor (T k).2.2.1 = some (ty0 k)) (hnm : ∀ a, a < n → ∀ b, b < n → a ≠ b → (T a).2.1 ≠ (T b).2.1) (hc : vwCl[ci]? = some (C, T, n)) (hk : k < gN σ) (hs : sh k = (0, ci, n, lk)) (j : Nat) (hj : j < n) (h0 : lk j = 0) {x : Int32} (hfin : (T j).2.2.2 = false) (hn : narrow (ty0 j) (.int x) = .int x) (hfit : fits (ty0 j) (.int x) = true) (hlink : Cond.fieldLink own index (T j).1 (T j).2.1 (T j).2.2.1 ∈ wsL_law) (hdg : decode cc pc = .ok (.putfield index, 3))
    (kk : ∀ (H1 : Heap) (locs1 : List Loc), pw_G D cA sh n0 A ad (si σ k j x) H1 → va_S A H0 H1 locs1 → W p l e R s m args below meth c H1 locs1 cells slots Q (F0 m (pc + 3) ls rest)) : W p l e R s m args below meth c H locs cells slots Q (F0 m pc ls (.int x :: .ref (ad k) :: rest)) := by
  have hap := va_apart (own := own) hts hin ty0 hty hnm hK hc
  have h1 := hG.1 k hk
  rw [hs] at h1
  obtain ⟨r, hr1, cell, q1, q2, q3, q4⟩ := h1
  have hr : r = (C, T, n) := Option.some.inj (hr1.symm.trans hc)
  subst hr
  obtain ⟨hSl, hfc, kC, hkC, hkind⟩ := hK.1 ci _ hc
  obtain ⟨cf, kf, fi, f, hi, hsl⟩ := hSl j hj
  have hlay := hts _ (hin _ (u_in_lay hj))
  unfold u_lay at hlay
  rw [if_neg (by rw [hfin]; decide)] at hlay
  have hst := (u_facts hfc hkC (u_lays hts hin hj) hi).1
  have h6 := u_store hfc hkC hkind hlay hi (hty j hj) hn hfit
  refine W.putK hx hb (f := f) ⟨hown, hts _ hlink, ⟨_, _, _, hi⟩, hst⟩ (by rw [q2]; exact h6) q1 q3 (by rw [hsl]; exact k2_hasslot (q4 j hj)) rfl rfl hdg fun H' e1 e2 e3 => ?_
  rw [hsl] at e1 ⊢
  refine kk H' _ (hG.put hk gN_si (fun k' hne => pw_e_si hne) ?_ e3) (hS.put e2 e3 (hG.2.2.1 k hk))
  rw [hs]
  show va_at D vwCl (ad k, .inr (ci, pw_fs ad (si σ k j x) k n lk)) H'
  rw [← pw_fs_set h0]
  exact ⟨_, hc, t_OB.to (V := updV (vp_V (pw_fs ad σ k n lk)) j (.int x)) ⟨_, e1, q2, q3, t_set q4 hap hj (.int x)⟩ (fun i _ => vp_updV_set (by rw [pw_fs_len]; exact hj) (.int x) i)⟩
theorem mw_iald (hx : p.tables.exec = Jvm.exec) (hb : c.code = cc) {ci n k : Nat} {lk : Nat → Nat} (hK : va_K D vwCl (pw_ty cA) s) (hG : pw_G D cA sh n0 A ad σ H) (hk : k < gN σ) (hs : sh k = (1, ci, n, lk)) {i : Int32} (hin : vp_in i n) (hdg : decode cc pc = .ok (.iaload, 1))
    (kk : W p l e R s m args below meth c H locs cells slots Q (F0 m (pc + 1) ls (.int (gi σ k i.toNatClampNeg) :: rest))) : W p l e R s m args below meth c H locs cells slots Q (F0 m pc ls (.int i :: .ref (ad k) :: rest)) := by
  have h1 := hG.1 k hk
  rw [hs] at h1
  exact va_iald (ws := [(ad k, .inl (cA 1, n, .inl (fun j => gi σ k j)))]) hx hb hK (pw_one h1) 0 0 rfl rfl hin hdg kk
theorem mw_zald (hx : p.tables.exec = Jvm.exec) (hb : c.code = cc) {ci n k : Nat} {lk : Nat → Nat} (hK : va_K D vwCl (pw_ty cA) s) (hG : pw_G D cA sh n0 A ad σ H) (hk : k < gN σ) (hs : sh k = (2, ci, n, lk)) {i : Int32} (hin : vp_in i n) (hdg : decode cc pc = .ok (.baload, 1))
    (kk : W p l e R s m args below meth c H locs cells slots Q (F0 m (pc + 1) ls (.int (gi σ k i.toNatClampNeg) :: rest))) : W p l e R s m args below meth c H locs cells slots Q (F0 m pc ls (.int i :: .ref (ad k) :: rest)) := by
  have h1 := hG.1 k hk
  rw [hs] at h1
  exact va_zald (ws := [(ad k, .inl (cA 2, n, .inl (fun j => gi σ k j)))]) hx hb hK (pw_one h1) 0 1 rfl rfl hin hdg kk
theorem mw_aald (hx : p.tables.exec = Jvm.exec) (hb : c.code = cc) {ci n k : Nat} {lk : Nat → Nat} (hK : va_K D vwCl (pw_ty cA) s) (hG : pw_G D cA sh n0 A ad σ H) (hk : k < gN σ) (hs : sh k = (3, ci, n, lk)) {i : Int32} (hin : vp_in i n) (hdg : decode cc pc = .ok (.aaload, 1))
    (kk : W p l e R s m args below meth c H locs cells slots Q (F0 m (pc + 1) ls (va_rf ((gr σ k i.toNatClampNeg).map ad) :: rest))) : W p l e R s m args below meth c H locs cells slots Q (F0 m pc ls (.int i :: .ref (ad k) :: rest)) := by
  have h1 := hG.1 k hk
  rw [hs] at h1
  exact va_aldq (ws := [(ad k, .inl (cA 3, n, .inr (.inr (.inr (.inr (fun j => (gr σ k j).map ad))))))]) hx hb hK (pw_one h1) 0 2 rfl rfl hin hdg kk
theorem mw_alen (hx : p.tables.exec = Jvm.exec) (hb : c.code = cc) {kd ci n k : Nat} {lk : Nat → Nat} (hK : va_K D vwCl (pw_ty cA) s) (hG : pw_G D cA sh n0 A ad σ H) (hk : k < gN σ) (hs : sh k = (kd, ci, n, lk)) (hkd : kd = 1 ∨ kd = 2 ∨ kd = 3) (hdg : decode cc pc = .ok (.arraylength, 1))
    (kk : W p l e R s m args below meth c H locs cells slots Q (F0 m (pc + 1) ls (.int (nI n) :: rest))) : W p l e R s m args below meth c H locs cells slots Q (F0 m pc ls (.ref (ad k) :: rest)) := by
  have h1 := hG.1 k hk
  rw [hs] at h1
  rcases hkd with rfl | rfl | rfl
  · exact W.alen hx hb (cell := vp_cell (cA 1) (n, .inl (fun j => gi σ k j))) (ty := .int) h1 ((hK.2 0 _ rfl).1 n _) (by rw [vp_cell_i, arrV_size]; rfl) rfl rfl hdg kk
  · exact W.alen hx hb (cell := vp_cell (cA 2) (n, .inl (fun j => gi σ k j))) (ty := .boolean) h1 ((hK.2 1 _ rfl).1 n _) (by rw [vp_cell_i, arrV_size]; rfl) rfl rfl hdg kk
  · exact W.alen hx hb (cell := vp_cell (cA 3) (n, .inr (.inr (.inr (.inr (fun j => (gr σ k j).map ad)))))) (ty := .object RX0) h1 ((hK.2 2 _ rfl).1 n _) (by rw [vp_cell_q, arrV_size]; rfl) rfl rfl hdg kk
theorem mw_iast (hx : p.tables.exec = Jvm.exec) (hb : c.code = cc) {ci n k : Nat} {lk : Nat → Nat} (hK : va_K D vwCl (pw_ty cA) s) (hG : pw_G D cA sh n0 A ad σ H) (hS : va_S A H0 H locs) (hk : k < gN σ) (hs : sh k = (1, ci, n, lk)) {i x : Int32} (hin : vp_in i n) (hdg : decode cc pc = .ok (.iastore, 1))
    (kk : ∀ (H1 : Heap) (locs1 : List Loc), pw_G D cA sh n0 A ad (si σ k i.toNatClampNeg x) H1 → va_S A H0 H1 locs1 → W p l e R s m args below meth c H1 locs1 cells slots Q (F0 m (pc + 1) ls rest)) : W p l e R s m args below meth c H locs cells slots Q (F0 m pc ls (.int x :: .int i :: .ref (ad k) :: rest)) := by
  have h1 := hG.1 k hk
  rw [hs] at h1
  have h1 : H[ad k]? = some (vp_cell (cA 1) (n, .inl (fun j => gi σ k j))) := h1
  refine W.iast hx hb h1 ((hK.2 0 _ rfl).1 n (fun j => .int (gi σ k j))) (fun q => by cases q) (by show ¬ (i < 0 ∨ (arrV _ _ _).slots.size ≤ _); rw [arrV_size]; exact hin) rfl rfl hdg fun H1 e z oq => ?_
  refine kk H1 _ (hG.put hk gN_si (fun k' hne => pw_e_si hne) ?_ oq) (hS.put z oq (hG.2.2.1 k hk))
  rw [hs]
  show H1[ad k]? = some (vp_cell (cA 1) (n, .inl (fun j => gi (si σ k i.toNatClampNeg x) k j)))
  rw [e, vp_cell_i, vp_cell_i, arrV_store]
  congr 2
  funext q
  by_cases hq : q = i.toNatClampNeg
  · subst hq
    simp [updV, gi_si]
  · simp [updV, gi_si, hq]
theorem mw_zast (hx : p.tables.exec = Jvm.exec) (hb : c.code = cc) {ci n k : Nat} {lk : Nat → Nat} (hK : va_K D vwCl (pw_ty cA) s) (hG : pw_G D cA sh n0 A ad σ H) (hS : va_S A H0 H locs) (hk : k < gN σ) (hs : sh k = (2, ci, n, lk)) {i x : Int32} (hn : narrow .boolean (.int x) = .int x) (hin : vp_in i n) (hdg : decode cc pc = .ok (.bastore, 1))
    (kk : ∀ (H1 : Heap) (locs1 : List Loc), pw_G D cA sh n0 A ad (si σ k i.toNatClampNeg x) H1 → va_S A H0 H1 locs1 → W p l e R s m args below meth c H1 locs1 cells slots Q (F0 m (pc + 1) ls rest)) : W p l e R s m args below meth c H locs cells slots Q (F0 m pc ls (.int x :: .int i :: .ref (ad k) :: rest)) := by
  have h1 := hG.1 k hk
  rw [hs] at h1
  have h1 : H[ad k]? = some (vp_cell (cA 2) (n, .inl (fun j => gi σ k j))) := h1
  refine W.zast hx hb h1 ((hK.2 1 _ rfl).1 n (fun j => .int (gi σ k j))) (fun q => by cases q) (by show ¬ (i < 0 ∨ (arrV _ _ _).slots.size ≤ _); rw [arrV_size]; exact hin) rfl rfl hdg fun H1 e z oq => ?_
  refine kk H1 _ (hG.put hk gN_si (fun k' hne => pw_e_si hne) ?_ oq) (hS.put z oq (hG.2.2.1 k hk))
  rw [hs]
  show H1[ad k]? = some (vp_cell (cA 2) (n, .inl (fun j => gi (si σ k i.toNatClampNeg x) k j)))
  rw [e, vp_cell_i, vp_cell_i, arrV_store]
  congr 2
  funext q
  by_cases hq : q = i.toNatClampNeg
  · subst hq
    simp [updV, gi_si, hn]
  · simp [updV, gi_si, hq]
theorem mw_aast (hx : p.tables.exec = Jvm.exec) (hb : c.code = cc) {ci n k : Nat} {lk : Nat → Nat} (hK : va_K D vwCl (pw_ty cA) s) (hG : pw_G D cA sh n0 A ad σ H) (hS : va_S A H0 H locs) (hk : k < gN σ) (hs : sh k = (3, ci, n, lk)) {i : Int32} {q : Nat} {lq : Nat → Nat} (hq : q < gN σ) (hsq : sh q = (0, 0, 7, lq)) (hin : vp_in i n) (hdg : decode cc pc = .ok (.aastore, 1))
    (kk : ∀ (H1 : Heap) (locs1 : List Loc), pw_G D cA sh n0 A ad (sr σ k i.toNatClampNeg (some q)) H1 → va_S A H0 H1 locs1 → W p l e R s m args below meth c H1 locs1 cells slots Q (F0 m (pc + 1) ls rest)) : W p l e R s m args below meth c H locs cells slots Q (F0 m pc ls (.ref (ad q) :: .int i :: .ref (ad k) :: rest)) := by
  have hlt : i.toNatClampNeg < n := Nat.not_le.mp fun q => hin (Or.inr q)
  have h0 : ¬ i < 0 := fun q => hin (Or.inl q)
  have h1 := hG.1 k hk
  rw [hs] at h1
  have h1 : H[ad k]? = some (vp_cell (cA 3) (n, .inr (.inr (.inr (.inr (fun j => (gr σ k j).map ad)))))) := h1
  have h2 := hG.1 q hq
  rw [hsq] at h2
  obtain ⟨r', hr', cellV, g1, g2, g3, -⟩ := h2
  have hcls := (hK.1 0 (RX0, TX0, 7) rfl).2
  obtain ⟨kA, comp, k1, k2, k3, -⟩ := (hK.2 2 _ rfl).2
  have hcomp : comp = D.1 0 := Option.some.inj (k3.symm.trans hcls.1)
  subst hcomp
  obtain ⟨kC, hkC, -⟩ := hcls.2
  refine W.aast hx hb h1 (fun q h => by cases h) (fun h => by cases h) k1 k2 rfl hkC ⟨h0, by show _ < (arrV _ _ _).slots.size; rw [arrV_size]; exact hlt⟩ g1 (fun q h => by rw [g3] at h; cases h) (by rw [g2]; exact hkC) (by rw [g2]; exact va_assign hcls) rfl rfl hdg fun H1 e z oq => ?_
  refine kk H1 _ (hG.put hk gN_sr (fun k' hne => pw_e_sr hne) ?_ oq) (hS.put z oq (hG.2.2.1 k hk))
  rw [hs]
  show H1[ad k]? = some (vp_cell (cA 3) (n, .inr (.inr (.inr (.inr (fun j => (gr (sr σ k i.toNatClampNeg (some q)) k j).map ad))))))
  rw [e, vp_cell_q, vp_cell_q, arrV_store]
  congr 2
  funext q
  by_cases hq : q = i.toNatClampNeg
  · subst hq
    simp [updV, gr_sr, va_rf]
  · simp [updV, gr_sr, hq]
theorem mw_aastN (hx : p.tables.exec = Jvm.exec) (hb : c.code = cc) {ci n k : Nat} {lk : Nat → Nat} (hK : va_K D vwCl (pw_ty cA) s) (hG : pw_G D cA sh n0 A ad σ H) (hS : va_S A H0 H locs) (hk : k < gN σ) (hs : sh k = (3, ci, n, lk)) {i : Int32} (hin : vp_in i n) (hdg : decode cc pc = .ok (.aastore, 1))
    (kk : ∀ (H1 : Heap) (locs1 : List Loc), pw_G D cA sh n0 A ad (sr σ k i.toNatClampNeg none) H1 → va_S A H0 H1 locs1 → W p l e R s m args below meth c H1 locs1 cells slots Q (F0 m (pc + 1) ls rest)) : W p l e R s m args below meth c H locs cells slots Q (F0 m pc ls (.null :: .int i :: .ref (ad k) :: rest)) := by
  have h1 := hG.1 k hk
  rw [hs] at h1
  have h1 : H[ad k]? = some (vp_cell (cA 3) (n, .inr (.inr (.inr (.inr (fun j => (gr σ k j).map ad)))))) := h1
  refine va_WaastN (C := RX0) hx hb h1 ((hK.2 2 _ rfl).1 n (fun j => va_rf ((gr σ k j).map ad))) (fun h => by cases h) (by show ¬ (i < 0 ∨ (arrV _ _ _).slots.size ≤ _); rw [arrV_size]; exact hin) rfl rfl hdg fun H1 e z oq => ?_
  refine kk H1 _ (hG.put hk gN_sr (fun k' hne => pw_e_sr hne) ?_ oq) (hS.put z oq (hG.2.2.1 k hk))
  rw [hs]
  show H1[ad k]? = some (vp_cell (cA 3) (n, .inr (.inr (.inr (.inr (fun j => (gr (sr σ k i.toNatClampNeg none) k j).map ad))))))
  rw [e, vp_cell_q, vp_cell_q, arrV_store]
  congr 2
  funext q
  by_cases hq : q = i.toNatClampNeg
  · subst hq
    simp [updV, gr_sr, va_rf]
  · simp [updV, gr_sr, hq]
end PWR
end
section
/-! CALLS, THROWS AND RETURNS over the worlds: every method has the same words (wsL_law) behind its own code -/
theorem wa_good : wsL_law.all goodWord = true := by decide +kernel
theorem wa_pay {args : Array Value} {s : State} (hts : ∀ w ∈ wsL_law, w.before args s = true) : ∀ w ∈ wsL_law, ∀ (a' : Array Value) (U : State), s.WarmedH U.vm → w.before a' U = true :=
  fun w hw _ _ hW => word_at hW (good_of_word (List.all_eq_true.mp wa_good w hw)) (hts w hw)
abbrev wA (y : MethodName) (b : ByteArray) (n : Nat) (r : Option FieldType) : List Cond := Cond.code y b n r :: wsL_law
/-- what is known of a method by its name -/
def mw_Y (y : MethodName) (b : ByteArray) (maxL : Nat) (ret : Option FieldType) (n : Nat) : Prop :=
  Cond.code y b maxL ret ∈ wsL_law ∧ Cond.initialized y.cls ∈ wsL_law ∧ y.cls ≠ "java/lang/invoke/MethodHandle" ∧ y.cls ≠ "java/lang/invoke/VarHandle" ∧ (parseMethodDescriptor y.desc).map (fun d => d.parameters.length) = some n
theorem wa_B {R : Room} {s : State} {args : Array Value} {own : String} {index : Nat} {y : MethodName} {bytes : ByteArray} {maxL : Nat} {ret : Option FieldType} {rm : Room} {mc ms n : Nat} (hts : ∀ w ∈ wsL_law, w.before args s = true) (hY : mw_Y y bytes maxL ret n) (hl : Cond.methodLink own index y ∈ wsL_law)
    (hR : rm.cells = mc ∧ rm.slots = ms ∧ rm.frames + 1 ≤ R.frames ∧ 8 + (maxL + 11) + rm.locals ≤ R.locals) : CallB R s args own index y bytes maxL ret (wA y bytes maxL ret) rm mc ms n := by
  obtain ⟨h1, h2, h3, h4, h5⟩ := hY
  obtain ⟨r1, r2, r3, r4⟩ := hR
  refine ⟨r1, r2, r3, r4, fun w hw => ?_, List.mem_cons_self, hts _ h1, hts _ h2, ⟨h3, h4⟩, fun sig h => ?_, hts _ hl⟩
  · rcases List.mem_cons.mp hw with e | h
    · subst e; exact wa_pay hts _ h1
    · exact wa_pay hts _ h
  · rw [h] at h5
    exact (Option.some.inj h5).symm
abbrev pw_iaX : String := "java/lang/IllegalArgumentException"
abbrev pw_isX : String := "java/lang/IllegalStateException"
abbrev pw_ioX : String := "java/lang/IndexOutOfBoundsException"
abbrev pw_neX : String := "java/util/NoSuchElementException"
abbrev pw_sup : List String := ["java/lang/RuntimeException", "java/lang/Exception"]
def pw_str : List (Nat × String) := [(58, "the number of frames is not 4 to 12"), (72, "a content is in a frame"), (78, "the window is not 0 to 50"), (118, "the size of a segment is not 1 to 6"), (120, "4 segments were created"), (190, "the kind is not 0 to 5"), (219, "no such process was created"), (221, "there is no such page"), (223, "there is no such frame"), (227, "the process has exited"), (230, "10 processes were created"), (232, "the page is mapped"), (234, "the page is not mapped"), (236, "no such segment was created"), (238, "no segment has such an index"), (240, "the segment has no such index"), (242, "the address is not 0 to 63"), (250, "no frame can be had")]
def pw_decl : List String := ["java/lang/RuntimeException", "java/lang/Exception", Bundle.tN]
/-- what a throw needs of the state beside the tables' words -/
def pw_X (A : Nat → Prop) (U : State) : Prop :=
  vx_Zq Bundle.tN "UNASSIGNED_STACK" Bundle.steD A U U.heap ∧ vx_Zq Bundle.tN "SUPPRESSED_SENTINEL" Bundle.listD A U U.heap ∧ (∀ q ∈ pw_str, ∃ sa, vk_R RX3 q.1 q.2 sa U) ∧ (∀ X ∈ [pw_iaX, pw_isX, pw_ioX, pw_neX], va_Nw (.castable X X) U) ∧ ∀ Y ∈ pw_decl, va_Nw (.declares (Bundle.initS Y)) U
def pw_U (D : va_G) (cA : Nat → ClassId) (sh : Nat → pw_Sh) (n0 : Nat) (A : Nat → Prop) (ad : Nat → Nat) (σ : pw_S) (U : State) : Prop := pw_G D cA sh n0 A ad σ U.heap ∧ va_K D vwCl (pw_ty cA) U ∧ (∀ q : Nat, U.heap.size ≤ q → A q) ∧ pw_X A U
abbrev pw_Pc (D : va_G) (cA : Nat → ClassId) (sh : Nat → pw_Sh) (n0 : Nat) (A : Nat → Prop) (ad : Nat → Nat) (σ : pw_S) (av : List Value) : Array Value → State → Prop := va_Pc av (pw_U D cA sh n0 A ad σ)
theorem pw_X.moved {A : Nat → Prop} {s U : State} (hW : s.WarmedH U.vm) (hX : pw_X A s) {locs : List Loc} (hS : va_S A s.heap U.heap locs) : pw_X A U := by
  obtain ⟨h1, h2, h3, h4, h5⟩ := hX
  exact ⟨(h1.moved hW.alike).kept hS.2.1, (h2.moved hW.alike).kept hS.2.1, fun q hq => (h3 q hq).imp fun _ h => vk_R.warm hW h, fun X hX => va_Nw.warmC hW (h4 X hX), fun Y hY => va_Nw.warmD hW (h5 Y hY)⟩
theorem pw_U.at {D : va_G} {cA : Nat → ClassId} {sh : Nat → pw_Sh} {n0 : Nat} {A : Nat → Prop} {ad : Nat → Nat} {σ : pw_S} {s U : State} {H : Heap} {locs : List Loc} (hK : va_K D vwCl (pw_ty cA) s) (hA : ∀ q : Nat, s.heap.size ≤ q → A q) (hX : pw_X A s) (hG : pw_G D cA sh n0 A ad σ H) (hS : va_S A s.heap H locs) (hU : U.heap = H) (hW : s.WarmedH U.vm) : pw_U D cA sh n0 A ad σ U := by
  subst hU
  exact ⟨hG, va_K.moved hW.alike hK, fun q hq => hA q (Nat.le_trans hS.1 hq), hX.moved hW hS⟩
theorem pw_blind {D : va_G} {cA : Nat → ClassId} {sh : Nat → pw_Sh} {n0 : Nat} {A : Nat → Prop} {ad : Nat → Nat} {σ : pw_S} {av : List Value} : FrameBlind (pw_Pc D cA sh n0 A ad σ av) := by
  intro a U g mk h
  obtain ⟨h0, h1, h2, h3, h4, h5, h6, h7, h8⟩ := h
  refine ⟨h0, h1, va_K.moved (u := U) (U := U.calling g mk a) (Vm.Alike.refl U.vm) h2, h3, vx_Zq.moved (u := U) (U := U.calling g mk a) (Vm.Alike.refl U.vm) h4, vx_Zq.moved (u := U) (U := U.calling g mk a) (Vm.Alike.refl U.vm) h5, fun q hq => (h6 q hq).imp fun _ h => vk_R.same (u := U) (U := U.calling g mk a) rfl h, fun X hX => va_Nw.same (u := U) (U := U.calling g mk a) rfl rfl (h7 X hX), fun Y hY => va_Nw.same (u := U) (U := U.calling g mk a) rfl rfl (h8 Y hY)⟩
abbrev pw_Qi (D : va_G) (cA : Nat → ClassId) (sh : Nat → pw_Sh) (n0 : Nat) (A : Nat → Prop) (ad : Nat → Nat) (r : Int32) (σ : pw_S) := va_Qi (S := Unit) (fun r' _ => r' = r) (fun _ t => pw_G D cA sh n0 A ad σ t.heap) A
abbrev pw_Ql (D : va_G) (cA : Nat → ClassId) (sh : Nat → pw_Sh) (n0 : Nat) (A : Nat → Prop) (ad : Nat → Nat) (r : Int64) (σ : pw_S) := va_Ql (S := Unit) (fun r' _ => r' = r) (fun _ t => pw_G D cA sh n0 A ad σ t.heap) A
abbrev pw_Qv (D : va_G) (cA : Nat → ClassId) (sh : Nat → pw_Sh) (n0 : Nat) (A : Nat → Prop) (ad : Nat → Nat) (_ : Unit) (σ : pw_S) := va_Qv (S := Unit) (fun _ => True) (fun _ t => pw_G D cA sh n0 A ad σ t.heap) A
-- of methods that may throw
abbrev px_Qi (D : va_G) (cA : Nat → ClassId) (sh : Nat → pw_Sh) (n0 : Nat) (A : Nat → Prop) (ad : Nat → Nat) (r : Int32 ⊕ String) (σ : pw_S) := va_Qi (S := Unit) (fun r' _ => r = .inl r') (fun _ t => pw_G D cA sh n0 A ad σ t.heap) A
abbrev px_Qv (D : va_G) (cA : Nat → ClassId) (sh : Nat → pw_Sh) (n0 : Nat) (A : Nat → Prop) (ad : Nat → Nat) (r : Unit ⊕ String) (σ : pw_S) := va_Qv (S := Unit) (fun _ => r = .inl ()) (fun _ t => pw_G D cA sh n0 A ad σ t.heap) A
abbrev px_Qk (D : va_G) (cA : Nat → ClassId) (sh : Nat → pw_Sh) (n0 : Nat) (A : Nat → Prop) (ad : Nat → Nat) (r : Nat ⊕ String) (σ : pw_S) := va_Qr (S := Nat) (fun q => r = .inl q) (fun q a t => a = ad q ∧ pw_G D cA sh n0 A ad σ t.heap) A
abbrev px_X {α : Type} (D : va_G) (cA : Nat → ClassId) (sh : Nat → pw_Sh) (n0 : Nat) (A : Nat → Prop) (ad : Nat → Nat) (r : α ⊕ String) (σ : pw_S) := vx_X (S := Unit) (fun _ => True) (fun E _ t => r = .inr E ∧ pw_G D cA sh n0 A ad σ t.heap) A
section PWC
variable {p : Program} {l : Launch} {e : Env} {R : Room} {s : State} {m : MethodId} {args : Array Value} {below : List Frame} {meth : Method} {c : Code} {H : Heap} {locs : List Loc} {cells slots : Nat} {Q : State → Prop}
variable {cc : ByteArray} {pc nL : Nat} {ls : Array Slot} {rest st0 : List Value} {D : va_G} {cA : Nat → ClassId} {sh : Nat → pw_Sh} {n0 : Nat} {A : Nat → Prop} {ad : Nat → Nat} {σ σ' : pw_S} {own : String}
variable {y : MethodName} {bytes : ByteArray} {maxL n index ci nf k mc ms mc' ms' : Nat} {ret : Option FieldType} {rm : Room} {As : List Value} {lk : Nat → Nat} {T : u_T}
theorem mw_recv (hK : va_K D vwCl (pw_ty cA) s) (hG : pw_G D cA sh n0 A ad σ H) (hk : k < gN σ) (hs : sh k = (0, ci, nf, lk)) {C : String} (hc : vwCl[ci]? = some (C, T, nf)) : ∃ cellB : Cell, H[ad k]? = some cellB ∧ cellB.vm.isStatics = false ∧ s.vm.findClass C = some cellB.cls := by
  have h1 := hG.1 k hk
  rw [hs] at h1
  exact va_recv (fs := pw_fs ad σ k nf lk) hK (pw_one h1) (ci := ci) (q0 := 0) hc rfl
theorem mc_V {Qc : Array Value → State → Outcome → State → Prop} (hC : CallFix p m c cc nL s args wsL_law own) (hK : va_K D vwCl (pw_ty cA) s) (hA : ∀ q : Nat, s.heap.size ≤ q → A q) (hX : pw_X A s) (hG : pw_G D cA sh n0 A ad σ H) (hS : va_S A s.heap H locs)
    (hM : Met l y (wA y bytes maxL ret) rm (pw_Pc D cA sh n0 A ad σ (.ref (ad k) :: As)) Qc mc ms A) (hY : mw_Y y bytes maxL ret n) (hl : Cond.methodLink own index y ∈ wsL_law) (hin : Cond.instanceMethod y ∈ wsL_law) (hse : Cond.selects y.cls y y ∈ wsL_law)
    (hk : k < gN σ) (hs : sh k = (0, ci, nf, lk)) (hc : vwCl[ci]? = some (y.cls, T, nf)) (hR : rm.cells = mc ∧ rm.slots = ms ∧ rm.frames + 1 ≤ R.frames ∧ 8 + (maxL + 11) + rm.locals ≤ R.locals) (hn : As.length = n) (hsz : ls.size = nL) (hst : st0 = As.reverse ++ .ref (ad k) :: rest) (hW : (rest.map fun v => v.category).sum ≤ 8) (hdg : decode cc pc = .ok (.invokevirtual index, 3)) (hf : cells + mc ≤ R.cells ∧ slots + ms ≤ R.slots) :
    va_Run p l e R s m args below meth c H locs cells slots mc ms (F0 m pc ls st0) rest (Qc (Value.ref (ad k) :: As).toArray) A :=
  va_runV hC hM ⟨wa_B hC.2.2.2.2 hY hl hR, hC.2.2.2.2 _ hin, hC.2.2.2.2 _ hse⟩ ⟨pw_blind, mw_recv hK hG hk hs hc, fun _ hU hW => ⟨rfl, pw_U.at hK hA hX hG hS hU hW⟩⟩ rfl hn hsz hst (lv_room hW) hdg hf
theorem mc_S {Qc : Array Value → State → Outcome → State → Prop} (hC : CallFix p m c cc nL s args wsL_law own) (hK : va_K D vwCl (pw_ty cA) s) (hA : ∀ q : Nat, s.heap.size ≤ q → A q) (hX : pw_X A s) (hG : pw_G D cA sh n0 A ad σ H) (hS : va_S A s.heap H locs)
    (hM : Met l y (wA y bytes maxL ret) rm (pw_Pc D cA sh n0 A ad σ As) Qc mc ms A) (hY : mw_Y y bytes maxL ret n) (hl : Cond.methodLink own index y ∈ wsL_law) (hstt : Cond.static y ∈ wsL_law)
    (hR : rm.cells = mc ∧ rm.slots = ms ∧ rm.frames + 1 ≤ R.frames ∧ 8 + (maxL + 11) + rm.locals ≤ R.locals) (hn : As.length = n) (hsz : ls.size = nL) (hst : st0 = As.reverse ++ rest) (hW : (rest.map fun v => v.category).sum ≤ 8) (hdg : decode cc pc = .ok (.invokestatic index, 3)) (hf : cells + mc ≤ R.cells ∧ slots + ms ≤ R.slots) :
    va_Run p l e R s m args below meth c H locs cells slots mc ms (F0 m pc ls st0) rest (Qc As.toArray) A :=
  va_runS hC hM ⟨wa_B hC.2.2.2.2 hY hl hR, hC.2.2.2.2 _ hstt⟩ ⟨pw_blind, fun _ hU hW => ⟨rfl, pw_U.at hK hA hX hG hS hU hW⟩⟩ rfl hn hsz hst (lv_room hW) hdg hf
theorem mx_V {Qc : Array Value → State → Outcome → State → Prop} {XC : String → State → State → Prop} (hC : CallFix p m c cc nL s args wsL_law own) (hK : va_K D vwCl (pw_ty cA) s) (hA : ∀ q : Nat, s.heap.size ≤ q → A q) (hX : pw_X A s) (hG : pw_G D cA sh n0 A ad σ H) (hS : va_S A s.heap H locs)
    (hM : vx_Met l y (wA y bytes maxL ret) rm (pw_Pc D cA sh n0 A ad σ (.ref (ad k) :: As)) Qc XC mc ms A) (hY : mw_Y y bytes maxL ret n) (hl : Cond.methodLink own index y ∈ wsL_law) (hin : Cond.instanceMethod y ∈ wsL_law) (hse : Cond.selects y.cls y y ∈ wsL_law)
    (hk : k < gN σ) (hs : sh k = (0, ci, nf, lk)) (hc : vwCl[ci]? = some (y.cls, T, nf)) (hR : rm.cells = mc ∧ rm.slots = ms ∧ rm.frames + 1 ≤ R.frames ∧ 8 + (maxL + 11) + rm.locals ≤ R.locals) (hn : As.length = n) (hsz : ls.size = nL) (hst : st0 = As.reverse ++ .ref (ad k) :: rest) (hW : (rest.map fun v => v.category).sum ≤ 8) (hdg : decode cc pc = .ok (.invokevirtual index, 3)) (hf : cells + mc ≤ R.cells ∧ slots + ms ≤ R.slots) :
    vx_Run p l e R s m args below meth c H locs cells slots mc ms (F0 m pc ls st0) rest (Qc (Value.ref (ad k) :: As).toArray) XC A :=
  vx_runV hC hM ⟨wa_B hC.2.2.2.2 hY hl hR, hC.2.2.2.2 _ hin, hC.2.2.2.2 _ hse⟩ ⟨pw_blind, mw_recv hK hG hk hs hc, fun _ hU hW => ⟨rfl, pw_U.at hK hA hX hG hS hU hW⟩⟩ rfl hn hsz hst (lv_room hW) hdg hf
-- behind a call
theorem mc_i {r : Int32} {a : Array Value} (hr : va_Run p l e R s m args below meth c H locs cells slots mc ms (F0 m pc ls st0) rest (pw_Qi D cA sh n0 A ad r σ' a) A) (hS : va_S A s.heap H locs)
    (kk : ∀ (H1 : Heap) (locs1 : List Loc), pw_G D cA sh n0 A ad σ' H1 → va_S A s.heap H1 locs1 → W p l e R s m args below meth c H1 locs1 (cells + mc) (slots + ms) Q (F0 m (pc + 3) ls (.int r :: rest))) : W p l e R s m args below meth c H locs cells slots Q (F0 m pc ls st0) :=
  va_calli hr hS (fun _ _ h => h) (fun _ h => h) (fun r' _ t H1 locs1 ht _ hp hB _ _ hS1 => by subst hp; subst ht; exact kk _ _ hB hS1)
theorem mc_l {r : Int64} {a : Array Value} (hr : va_Run p l e R s m args below meth c H locs cells slots mc ms (F0 m pc ls st0) rest (pw_Ql D cA sh n0 A ad r σ' a) A) (hS : va_S A s.heap H locs)
    (kk : ∀ (H1 : Heap) (locs1 : List Loc), pw_G D cA sh n0 A ad σ' H1 → va_S A s.heap H1 locs1 → W p l e R s m args below meth c H1 locs1 (cells + mc) (slots + ms) Q (F0 m (pc + 3) ls (.long r :: rest))) : W p l e R s m args below meth c H locs cells slots Q (F0 m pc ls st0) :=
  va_calll hr hS (fun _ _ h => h) (fun _ h => h) (fun r' _ t H1 locs1 ht _ hp hB _ _ hS1 => by subst hp; subst ht; exact kk _ _ hB hS1)
theorem mc_v {u : Unit} {a : Array Value} (hr : va_Run p l e R s m args below meth c H locs cells slots mc ms (F0 m pc ls st0) rest (pw_Qv D cA sh n0 A ad u σ' a) A) (hS : va_S A s.heap H locs)
    (kk : ∀ (H1 : Heap) (locs1 : List Loc), pw_G D cA sh n0 A ad σ' H1 → va_S A s.heap H1 locs1 → W p l e R s m args below meth c H1 locs1 (cells + mc) (slots + ms) Q (F0 m (pc + 3) ls rest)) : W p l e R s m args below meth c H locs cells slots Q (F0 m pc ls st0) :=
  va_callv hr hS (fun _ _ h => h) (fun _ h => h) (fun _ t H1 locs1 ht _ hp hB _ _ hS1 => by subst ht; exact kk _ _ hB hS1)
-- a callee's throw leaves the caller
theorem mx_leave {α β : Type} {r : α ⊕ String} {r' : β ⊕ String} {Qc : Array Value → State → Outcome → State → Prop} {locs1 : List Loc} {H1 : Heap} {cells1 slots1 : Nat} {t : State} {E : String} {q : Addr} {ce : Cell} {g : JFrame} (hg : g = F0 m pc ls rest) (hout : ∀ x ∈ c.exceptionTable.toList, False) (hlocks : meth.locks = false) (ht : t.heap = H1) (hB : r = .inr E ∧ pw_G D cA sh n0 A ad σ' t.heap) (hce : H1[q]? = some ce) (hcv : ce.vm = .none) (hcl : s.vm.findClass E = some ce.cls) (hS1 : va_S A s.heap H1 locs1) (kx : ∀ E, r = .inr E → r' = .inr E) (hc : cells1 ≤ mc') (hs : slots1 ≤ ms') :
    vx_W p l e R s m args below meth c H1 locs1 cells1 slots1 (vx_MQ below Qc (px_X D cA sh n0 A ad r' σ') args s mc' ms' A) g q := by
  subst hg
  refine vx_out (fun x hx => (hout x hx).elim) hlocks hce hcv hcl (fun t2 ht2 _ => ⟨(), trivial, ⟨kx E hB.1, ?_⟩, hS1.F ht2⟩) hS1.2.2 hc hs
  rw [ht2, ← ht]
  exact hB.2
theorem mx_i {α : Type} {r : Int32 ⊕ String} {r' : α ⊕ String} {σ'' : pw_S} {a : Array Value} {Qc : Array Value → State → Outcome → State → Prop} (hr : vx_Run p l e R s m args below meth c H locs cells slots mc ms (F0 m pc ls st0) rest (px_Qi D cA sh n0 A ad r σ' a) (px_X D cA sh n0 A ad r σ') A) (hS : va_S A s.heap H locs) (hout : ∀ x ∈ c.exceptionTable.toList, False) (hlocks : meth.locks = false) (kx : ∀ E, r = .inr E → r' = .inr E ∧ σ'' = σ') (hc : cells + mc ≤ mc') (hs : slots + ms ≤ ms')
    (kk : ∀ (x : Int32), r = .inl x → ∀ (H1 : Heap) (locs1 : List Loc), pw_G D cA sh n0 A ad σ' H1 → va_S A s.heap H1 locs1 → W p l e R s m args below meth c H1 locs1 (cells + mc) (slots + ms) (vx_MQ below Qc (px_X D cA sh n0 A ad r' σ'') args s mc' ms' A) (F0 m (pc + 3) ls (.int x :: rest))) : W p l e R s m args below meth c H locs cells slots (vx_MQ below Qc (px_X D cA sh n0 A ad r' σ'') args s mc' ms' A) (F0 m pc ls st0) := by
  refine vx_calli hr hS (fun _ _ h => h) (fun _ h => h) (fun _ _ h => h) (fun E ce q9 _ t H1 locs1 ht _ _ hB _ _ hS1 hce hcv hcl => ?_) (fun r' _ t H1 locs1 ht _ hp hB _ _ hS1 => by subst ht; exact kk _ hp _ _ hB hS1)
  obtain ⟨e1, e2⟩ := kx E hB.1
  subst e2
  exact mx_leave rfl hout hlocks ht hB hce hcv hcl hS1 (fun E h => (kx E h).1) hc hs
theorem mx_v {α : Type} {r : Unit ⊕ String} {r' : α ⊕ String} {σ'' : pw_S} {a : Array Value} {Qc : Array Value → State → Outcome → State → Prop} (hr : vx_Run p l e R s m args below meth c H locs cells slots mc ms (F0 m pc ls st0) rest (px_Qv D cA sh n0 A ad r σ' a) (px_X D cA sh n0 A ad r σ') A) (hS : va_S A s.heap H locs) (hout : ∀ x ∈ c.exceptionTable.toList, False) (hlocks : meth.locks = false) (kx : ∀ E, r = .inr E → r' = .inr E ∧ σ'' = σ') (hc : cells + mc ≤ mc') (hs : slots + ms ≤ ms')
    (kk : ∀ (x : Unit), r = .inl x → ∀ (H1 : Heap) (locs1 : List Loc), pw_G D cA sh n0 A ad σ' H1 → va_S A s.heap H1 locs1 → W p l e R s m args below meth c H1 locs1 (cells + mc) (slots + ms) (vx_MQ below Qc (px_X D cA sh n0 A ad r' σ'') args s mc' ms' A) (F0 m (pc + 3) ls rest)) : W p l e R s m args below meth c H locs cells slots (vx_MQ below Qc (px_X D cA sh n0 A ad r' σ'') args s mc' ms' A) (F0 m pc ls st0) := by
  refine vx_callv hr hS (fun _ _ h => h) (fun _ h => h) (fun _ _ h => h) (fun E ce q9 _ t H1 locs1 ht _ _ hB _ _ hS1 hce hcv hcl => ?_) (fun _ t H1 locs1 ht _ hp hB _ _ hS1 => by subst ht; exact kk _ hp _ _ hB hS1)
  obtain ⟨e1, e2⟩ := kx E hB.1
  subst e2
  exact mx_leave rfl hout hlocks ht hB hce hcv hcl hS1 (fun E h => (kx E h).1) hc hs
theorem mx_k {α : Type} {r : Nat ⊕ String} {r' : α ⊕ String} {σ'' : pw_S} {a : Array Value} {Qc : Array Value → State → Outcome → State → Prop} (hr : vx_Run p l e R s m args below meth c H locs cells slots mc ms (F0 m pc ls st0) rest (px_Qk D cA sh n0 A ad r σ' a) (px_X D cA sh n0 A ad r σ') A) (hS : va_S A s.heap H locs) (hout : ∀ x ∈ c.exceptionTable.toList, False) (hlocks : meth.locks = false) (kx : ∀ E, r = .inr E → r' = .inr E ∧ σ'' = σ') (hc : cells + mc ≤ mc') (hs : slots + ms ≤ ms')
    (kk : ∀ (q : Nat), r = .inl q → ∀ (H1 : Heap) (locs1 : List Loc), pw_G D cA sh n0 A ad σ' H1 → va_S A s.heap H1 locs1 → W p l e R s m args below meth c H1 locs1 (cells + mc) (slots + ms) (vx_MQ below Qc (px_X D cA sh n0 A ad r' σ'') args s mc' ms' A) (F0 m (pc + 3) ls (.ref (ad q) :: rest))) : W p l e R s m args below meth c H locs cells slots (vx_MQ below Qc (px_X D cA sh n0 A ad r' σ'') args s mc' ms' A) (F0 m pc ls st0) := by
  intro T hT X
  rcases hr T hT X with ⟨v, st₀, t, T', L, h0, X', hL, e1, e2, ⟨⟨u, ra, hv, hp, ha, hb⟩, hF⟩, st⟩ | ⟨q, st₀, t, T', L, E, ce, h0, X', hL, e1, e2, ⟨u, hp, hb, hF⟩, hce, hcv, hcl, st⟩
  · cases hv
    subst ha
    obtain ⟨k1, k2, k3⟩ := vx_keep h0 e1 hS (fun _ _ h => h) (fun _ h => h) hL hF
    obtain ⟨t2, a1, b1⟩ := kk u hp T'.heap (locs ++ L) (by rw [e1]; exact hb) k3 T' rfl X'
    exact ⟨t2, st t2 a1, b1⟩
  · obtain ⟨k1, k2, k3⟩ := vx_keep h0 e1 hS (fun _ _ h => h) (fun _ h => h) hL hF
    obtain ⟨e3, e4⟩ := kx E hb.1
    subst e4
    obtain ⟨t2, a1, b1⟩ := mx_leave (Qc := Qc) (R := R) (l := l) (r' := r') (pc := pc) (ls := ls) (rest := rest) rfl hout hlocks e1.symm hb (by rw [e1]; exact hce) hcv hcl k3 (fun E h => (kx E h).1) hc hs T' rfl X'
    exact ⟨t2, st.trans a1, b1⟩
-- throws
def mt_E (cls : String) (ik ic : Nat) : Prop := cls ∈ [pw_iaX, pw_isX, pw_ioX, pw_neX] ∧ Bundle.fit cls = true ∧ Cond.classLink RX3 ik cls ∈ wsL_law ∧ Cond.initialized cls ∈ wsL_law ∧ (∀ w ∈ (vx_atS RX3 ic cls pw_sup).filter goodWord, w ∈ wsL_law) ∧ (∀ w ∈ (vx_atS RX3 ic cls pw_sup).filter (fun w => !goodWord w), w ∈ Cond.castable cls cls :: pw_decl.map (fun Y => Cond.declares (Bundle.initS Y))) ∧ ∀ w ∈ Cond.classLink RX3 ik cls :: Cond.initialized cls :: vx_atS RX3 ic cls pw_sup, vx_ot w = true
theorem mt_throw {α : Type} {r' : α ⊕ String} {σ'' : pw_S} {Qc : Array Value → State → Outcome → State → Prop} {cls text : String} {ik is ic : Nat} (hE : mt_E cls ik ic) (hst : (is, text) ∈ pw_str) (hC : CallFix p m c cc nL s args wsL_law RX3) (hout : ∀ x ∈ c.exceptionTable.toList, False) (hlt : l.stackTraces = false) (hX : pw_X A s) (hG : pw_G D cA sh n0 A ad σ H) (hS : va_S A s.heap H locs) (hlocks : meth.locks = false) (hsz : ls.size = nL)
    (hf : some ((Sum.inr cls : α ⊕ String), σ) = some (r', σ'')) (hRf : 5 < R.frames) (hRl : (rest.map fun v => v.category).sum + 82 ≤ R.locals) (hRc : cells + 1 ≤ R.cells) (hRs : slots + 6 ≤ R.slots) (hc : cells + 1 ≤ mc') (hs : slots + 6 ≤ ms')
    (d0 : decode cc pc = .ok (.new ik, 3)) (d3 : decode cc (pc + 3) = .ok (.dup, 1)) (d4 : decode cc (pc + 4) = .ok (.ldc is, 2)) (d6 : decode cc (pc + 6) = .ok (.invokespecial ic, 3)) (d9 : decode cc (pc + 9) = .ok (.athrow, 1)) :
    W p l e R s m args below meth c H locs cells slots (vx_MQ below Qc (px_X D cA sh n0 A ad r' σ'') args s mc' ms' A) (F0 m pc ls rest) := by
  obtain ⟨g1, g2, g3, g4, g5, g6, g7⟩ := hE
  obtain ⟨hx, hb, hml, hown, hts⟩ := hC
  obtain ⟨x1, x2, x3, x4, x5⟩ := hX
  obtain ⟨sa, hstr⟩ := x3 _ hst
  cases hf
  refine vx_throwS (names := pw_sup) hx hb hlt hown g2 (by decide +kernel) (hts _ g3) (hts _ g4) hstr (vx_hat (B := Cond.castable cls cls :: pw_decl.map (fun Y => Cond.declares (Bundle.initS Y))) (fun w hw => hts w (g5 w hw)) g6 (vx_c (va_Nw.use rfl (x4 cls g1)) (fun w hw => by obtain ⟨Y, hY, e⟩ := List.mem_map.mp hw; subst e; exact va_Nw.use rfl (x5 Y hY)))) g7 x1 x2 hS (hsz.trans hml.symm) d0 d3 d4 d6 d9 (fun x hx => (hout x hx).elim) hRf (by simpa using hRl) hRc hRs hlocks (fun t _ hz hk => ⟨(), trivial, ⟨rfl, hG.kept fun k hkN => hk _ (hG.lt hkN)⟩, ?_⟩) hS.2.2 hc hs
  exact ⟨Nat.le_trans hS.1 hz, fun q h1 h2 => (hk q (Nat.lt_of_lt_of_le h1 hS.1)).trans (hS.2.1 q h1 h2)⟩
def mt_N : Prop := Cond.classLink RX3 225 pw_neX ∈ wsL_law ∧ Cond.initialized pw_neX ∈ wsL_law ∧ (∀ w ∈ ne_at.filter goodWord, w ∈ wsL_law) ∧ (∀ w ∈ ne_at.filter (fun w => !goodWord w), w ∈ Cond.castable pw_neX pw_neX :: pw_decl.map (fun Y => Cond.declares (Bundle.initS Y))) ∧ ∀ w ∈ Cond.classLink RX3 225 pw_neX :: Cond.initialized pw_neX :: ne_at, vx_ot w = true
theorem mt_throwN {α : Type} {r' : α ⊕ String} {σ'' : pw_S} {Qc : Array Value → State → Outcome → State → Prop} {text : String} {is : Nat} (hE : mt_N) (hst : (is, text) ∈ pw_str) (hC : CallFix p m c cc nL s args wsL_law RX3) (hout : ∀ x ∈ c.exceptionTable.toList, False) (hlt : l.stackTraces = false) (hX : pw_X A s) (hG : pw_G D cA sh n0 A ad σ H) (hS : va_S A s.heap H locs) (hlocks : meth.locks = false) (hsz : ls.size = nL)
    (hf : some ((Sum.inr pw_neX : α ⊕ String), σ) = some (r', σ'')) (hRf : 5 < R.frames) (hRl : (rest.map fun v => v.category).sum + 82 ≤ R.locals) (hRc : cells + 1 ≤ R.cells) (hRs : slots + 6 ≤ R.slots) (hc : cells + 1 ≤ mc') (hs : slots + 6 ≤ ms')
    (d0 : decode cc pc = .ok (.new 225, 3)) (d3 : decode cc (pc + 3) = .ok (.dup, 1)) (d4 : decode cc (pc + 4) = .ok (.ldc is, 2)) (d6 : decode cc (pc + 6) = .ok (.invokespecial 229, 3)) (d9 : decode cc (pc + 9) = .ok (.athrow, 1)) :
    W p l e R s m args below meth c H locs cells slots (vx_MQ below Qc (px_X D cA sh n0 A ad r' σ'') args s mc' ms' A) (F0 m pc ls rest) := by
  obtain ⟨g3, g4, g5, g6, g7⟩ := hE
  obtain ⟨hx, hb, hml, hown, hts⟩ := hC
  obtain ⟨x1, x2, x3, x4, x5⟩ := hX
  obtain ⟨sa, hstr⟩ := x3 _ hst
  cases hf
  refine ne_throw hx hb hlt hown (hts _ g3) (hts _ g4) hstr (vx_hat (B := Cond.castable pw_neX pw_neX :: pw_decl.map (fun Y => Cond.declares (Bundle.initS Y))) (fun w hw => hts w (g5 w hw)) g6 (vx_c (va_Nw.use rfl (x4 pw_neX (by decide))) (fun w hw => by obtain ⟨Y, hY, e⟩ := List.mem_map.mp hw; subst e; exact va_Nw.use rfl (x5 Y hY)))) g7 x1 x2 hS (hsz.trans hml.symm) d0 d3 d4 d6 d9 (fun x hx => (hout x hx).elim) hRf (by simpa using hRl) hRc hRs hlocks (fun t _ hz hk => ⟨(), trivial, ⟨rfl, hG.kept fun k hkN => hk _ (hG.lt hkN)⟩, ?_⟩) hS.2.2 hc hs
  exact ⟨Nat.le_trans hS.1 hz, fun q h1 h2 => (hk q (Nat.lt_of_lt_of_le h1 hS.1)).trans (hS.2.1 q h1 h2)⟩
-- the entry of a method
theorem mw_enter {Qc : Array Value → State → Outcome → State → Prop} {av : List Value} (hy : plainName y.cls = true) (ho : y.cls = own) (hlen : (lg_sl av).length ≤ maxL)
    (body : ∀ p e s m args below meth c ls, CallFix p m c bytes maxL s args wsL_law own → meth.sig.returnType = ret → meth.locks = false → va_K D vwCl (pw_ty cA) s → (∀ q : Nat, s.heap.size ≤ q → A q) → pw_X A s → pw_G D cA sh n0 A ad σ s.heap → va_S A s.heap s.heap [] → lv_has ls maxL (lv_args 0 av) → W p l e rm s m args below meth c s.heap [] 0 0 (MQ below Qc args s mc ms A) (F0 m 0 ls [])) : Met l y (wA y bytes maxL ret) rm (pw_Pc D cA sh n0 A ad σ av) Qc mc ms A := by
  refine Met.ofW (cc := bytes) (maxL := maxL) (ret := ret) hy rfl ?_
  intro p e s m args below meth c s₁ B hml hv
  obtain ⟨rfl, hG, hK, hA, hX⟩ := hv
  have hts := atoms_spec (ws := wA y bytes maxL ret) B.pre
  have hl := lv_entry av (n := maxL) hlen
  rw [lg_entry_eq]
  exact body p e s m _ below meth c _ ⟨B.exec, B.bytes, hml, ho ▸ findClass_of_methodNamed B.named, fun w hw => hts w (List.mem_cons_of_mem _ hw)⟩ B.returns B.notSynchronized hK hA hX hG va_S.rf hl
theorem mw_enterX {Qc : Array Value → State → Outcome → State → Prop} {XC : String → State → State → Prop} {av : List Value} (hy : plainName y.cls = true) (ho : y.cls = own) (hlen : (lg_sl av).length ≤ maxL)
    (body : ∀ p e s m args below meth c ls, CallFix p m c bytes maxL s args wsL_law own → meth.sig.returnType = ret → meth.locks = false → (∀ x ∈ c.exceptionTable.toList, False) → va_K D vwCl (pw_ty cA) s → (∀ q : Nat, s.heap.size ≤ q → A q) → pw_X A s → pw_G D cA sh n0 A ad σ s.heap → va_S A s.heap s.heap [] → lv_has ls maxL (lv_args 0 av) → W p l e rm s m args below meth c s.heap [] 0 0 (vx_MQ below Qc XC args s mc ms A) (F0 m 0 ls [])) : vx_Met l y (wA y bytes maxL ret) rm (pw_Pc D cA sh n0 A ad σ av) Qc XC mc ms A := by
  refine vx_ofW (cc := bytes) (maxL := maxL) (ret := ret) hy rfl ?_
  intro p e s m args below meth c s₁ B hml hout hv
  obtain ⟨rfl, hG, hK, hA, hX⟩ := hv
  have hts := atoms_spec (ws := wA y bytes maxL ret) B.pre
  have hl := lv_entry av (n := maxL) hlen
  rw [lg_entry_eq]
  exact body p e s m _ below meth c _ ⟨B.exec, B.bytes, hml, ho ▸ findClass_of_methodNamed B.named, fun w hw => hts w (List.mem_cons_of_mem _ hw)⟩ B.returns B.notSynchronized hout hK hA hX hG va_S.rf hl
-- the ends
theorem mr_i {r x : Int32} (hC : CallFix p m c cc nL s args wsL_law own) (hr : meth.sig.returnType = some .int) (hlocks : meth.locks = false) (hG : pw_G D cA sh n0 A ad σ H) (hS : va_S A s.heap H locs) (hf : some (x, σ) = some (r, σ')) (hc : cells ≤ mc) (hs : slots ≤ ms) (hdg : decode cc pc = .ok (.ireturn, 1)) : W p l e R s m args below meth c H locs cells slots (MQ below (pw_Qi D cA sh n0 A ad r σ') args s mc ms A) (F0 m pc ls [.int x]) := by
  cases hf
  refine W.widen hc hs ?_
  exact W.iret hC.1 hC.2.1 hr (fun t ht _ => ⟨⟨_, (), rfl, rfl, by subst ht; exact hG⟩, hS.F ht⟩) hS.2.2 hdg hlocks
theorem pw_nz {x : Int32} (h : x = 0 ∨ x = 1) : narrow .boolean (.int x) = .int x := by rcases h with rfl | rfl <;> rfl
theorem mr_z {r x : Int32} (hC : CallFix p m c cc nL s args wsL_law own) (hr : meth.sig.returnType = some .boolean) (hlocks : meth.locks = false) (hG : pw_G D cA sh n0 A ad σ H) (hS : va_S A s.heap H locs) (hz : x = 0 ∨ x = 1) (hf : some (x, σ) = some (r, σ')) (hc : cells ≤ mc) (hs : slots ≤ ms) (hdg : decode cc pc = .ok (.ireturn, 1)) : W p l e R s m args below meth c H locs cells slots (MQ below (pw_Qi D cA sh n0 A ad r σ') args s mc ms A) (F0 m pc ls [.int x]) := by
  cases hf
  refine W.widen hc hs ?_
  exact W.zret hC.1 hC.2.1 hr (pw_nz hz) (fun t ht _ => ⟨⟨_, (), rfl, rfl, by subst ht; exact hG⟩, hS.F ht⟩) hS.2.2 hdg hlocks
theorem mr_l {r x : Int64} (hC : CallFix p m c cc nL s args wsL_law own) (hr : meth.sig.returnType = some .long) (hlocks : meth.locks = false) (hG : pw_G D cA sh n0 A ad σ H) (hS : va_S A s.heap H locs) (hf : some (x, σ) = some (r, σ')) (hc : cells ≤ mc) (hs : slots ≤ ms) (hdg : decode cc pc = .ok (.lreturn, 1)) : W p l e R s m args below meth c H locs cells slots (MQ below (pw_Ql D cA sh n0 A ad r σ') args s mc ms A) (F0 m pc ls [.long x]) := by
  cases hf
  refine W.widen hc hs ?_
  exact W.lret hC.1 hC.2.1 hr (fun t ht _ => ⟨⟨_, (), rfl, rfl, by subst ht; exact hG⟩, hS.F ht⟩) hS.2.2 hdg hlocks
theorem mr_v {u u' : Unit} (hC : CallFix p m c cc nL s args wsL_law own) (hr : meth.sig.returnType = none) (hlocks : meth.locks = false) (hG : pw_G D cA sh n0 A ad σ H) (hS : va_S A s.heap H locs) (hf : some (u, σ) = some (u', σ')) (hc : cells ≤ mc) (hs : slots ≤ ms) (hdg : decode cc pc = .ok (.return_, 1)) : W p l e R s m args below meth c H locs cells slots (MQ below (pw_Qv D cA sh n0 A ad u' σ') args s mc ms A) (F0 m pc ls []) := by
  cases hf
  refine W.widen hc hs ?_
  exact W.vret hC.1 hC.2.1 hr (fun t ht _ => ⟨⟨(), rfl, trivial, by subst ht; exact hG⟩, hS.F ht⟩) hS.2.2 hdg hlocks
theorem mrx_i {XC : String → State → State → Prop} {r : Int32 ⊕ String} {x : Int32} (hC : CallFix p m c cc nL s args wsL_law own) (hr : meth.sig.returnType = some .int) (hlocks : meth.locks = false) (hG : pw_G D cA sh n0 A ad σ H) (hS : va_S A s.heap H locs) (hf : some (Sum.inl x, σ) = some (r, σ')) (hc : cells ≤ mc) (hs : slots ≤ ms) (hdg : decode cc pc = .ok (.ireturn, 1)) : W p l e R s m args below meth c H locs cells slots (vx_MQ below (px_Qi D cA sh n0 A ad r σ') XC args s mc ms A) (F0 m pc ls [.int x]) := by
  cases hf
  refine W.widen hc hs (vx_ret ?_)
  exact W.iret hC.1 hC.2.1 hr (fun t ht _ => ⟨⟨_, (), rfl, rfl, by subst ht; exact hG⟩, hS.F ht⟩) hS.2.2 hdg hlocks
theorem mrx_z {XC : String → State → State → Prop} {r : Int32 ⊕ String} {x : Int32} (hC : CallFix p m c cc nL s args wsL_law own) (hr : meth.sig.returnType = some .boolean) (hlocks : meth.locks = false) (hG : pw_G D cA sh n0 A ad σ H) (hS : va_S A s.heap H locs) (hz : x = 0 ∨ x = 1) (hf : some (Sum.inl x, σ) = some (r, σ')) (hc : cells ≤ mc) (hs : slots ≤ ms) (hdg : decode cc pc = .ok (.ireturn, 1)) : W p l e R s m args below meth c H locs cells slots (vx_MQ below (px_Qi D cA sh n0 A ad r σ') XC args s mc ms A) (F0 m pc ls [.int x]) := by
  cases hf
  refine W.widen hc hs (vx_ret ?_)
  exact W.zret hC.1 hC.2.1 hr (pw_nz hz) (fun t ht _ => ⟨⟨_, (), rfl, rfl, by subst ht; exact hG⟩, hS.F ht⟩) hS.2.2 hdg hlocks
theorem mrx_v {XC : String → State → State → Prop} {r : Unit ⊕ String} {x : Unit} (hC : CallFix p m c cc nL s args wsL_law own) (hr : meth.sig.returnType = none) (hlocks : meth.locks = false) (hG : pw_G D cA sh n0 A ad σ H) (hS : va_S A s.heap H locs) (hf : some (Sum.inl x, σ) = some (r, σ')) (hc : cells ≤ mc) (hs : slots ≤ ms) (hdg : decode cc pc = .ok (.return_, 1)) : W p l e R s m args below meth c H locs cells slots (vx_MQ below (px_Qv D cA sh n0 A ad r σ') XC args s mc ms A) (F0 m pc ls []) := by
  cases hf
  refine W.widen hc hs (vx_ret ?_)
  exact W.vret hC.1 hC.2.1 hr (fun t ht _ => ⟨⟨(), rfl, rfl, by subst ht; exact hG⟩, hS.F ht⟩) hS.2.2 hdg hlocks
theorem mrx_k {XC : String → State → State → Prop} {r : Nat ⊕ String} {q : Nat} {C : String} (hC : CallFix p m c cc nL s args wsL_law own) (hr : meth.sig.returnType = some (.object C)) (hlocks : meth.locks = false) (hG : pw_G D cA sh n0 A ad σ H) (hS : va_S A s.heap H locs) (hf : some (Sum.inl q, σ) = some (r, σ')) (hc : cells ≤ mc) (hs : slots ≤ ms) (hdg : decode cc pc = .ok (.areturn, 1)) : W p l e R s m args below meth c H locs cells slots (vx_MQ below (px_Qk D cA sh n0 A ad r σ') XC args s mc ms A) (F0 m pc ls [.ref (ad q)]) := by
  cases hf
  refine W.widen hc hs (vx_ret ?_)
  exact W.aret (v := .ref (ad q)) hC.1 hC.2.1 hr (Or.inl ⟨_, rfl⟩) (Or.inr ⟨_, rfl⟩) (fun t ht _ => ⟨⟨q, ad q, rfl, rfl, rfl, by subst ht; exact hG⟩, hS.F ht⟩) hS.2.2 hdg hlocks
-- values that may be null
theorem mq_aload_n (hx : p.tables.exec = Jvm.exec) (hb : c.code = cc) {f : Fin 4} {i : Nat} {o : Option Nat} (hdg : decode cc pc = .ok (.aload_n f, 1)) (hi : (f : Nat) = i) (hl : ls[i]? = some (.val (va_rf o))) (kk : W p l e R s m args below meth c H locs cells slots Q (F0 m (pc + 1) ls (va_rf o :: rest))) : W p l e R s m args below meth c H locs cells slots Q (F0 m pc ls rest) := by
  cases o with
  | none => exact lv_aload_nN hx hb hdg hi hl kk
  | some a => exact lv_aload_n hx hb hdg hi hl kk
theorem mq_aload (hx : p.tables.exec = Jvm.exec) (hb : c.code = cc) {i : Nat} {o : Option Nat} (hdg : decode cc pc = .ok (.aload i, 2)) (hl : ls[i]? = some (.val (va_rf o))) (kk : W p l e R s m args below meth c H locs cells slots Q (F0 m (pc + 2) ls (va_rf o :: rest))) : W p l e R s m args below meth c H locs cells slots Q (F0 m pc ls rest) := by
  cases o with
  | none => exact lv_aloadN hx hb hdg hl kk
  | some a => exact lv_aload hx hb hdg hl kk
theorem mq_astore_n (hx : p.tables.exec = Jvm.exec) (hb : c.code = cc) {f : Fin 4} {i : Nat} {o : Option Nat} {lv lv' : List (Nat × Value)} (hdg : decode cc pc = .ok (.astore_n f, 1)) (hi : (f : Nat) = i) (h : lv_has ls nL lv) (hn : i < nL) (hl : (i, va_rf o) :: lv.filter (fun q => !(q.1 == i) && !(q.1 + 1 == i && q.2.category == 2)) = lv')
    (kk : ∀ ls' : Array Slot, lv_has ls' nL lv' → W p l e R s m args below meth c H locs cells slots Q (F0 m (pc + 1) ls' rest)) : W p l e R s m args below meth c H locs cells slots Q (F0 m pc ls (va_rf o :: rest)) := by
  cases o with
  | none => exact lv_astore_nN hx hb hdg hi h hn hl kk
  | some a => exact lv_astore_n hx hb hdg hi h hn hl kk
theorem mq_astore (hx : p.tables.exec = Jvm.exec) (hb : c.code = cc) {i : Nat} {o : Option Nat} {lv lv' : List (Nat × Value)} (hdg : decode cc pc = .ok (.astore i, 2)) (h : lv_has ls nL lv) (hn : i < nL) (hl : (i, va_rf o) :: lv.filter (fun q => !(q.1 == i) && !(q.1 + 1 == i && q.2.category == 2)) = lv')
    (kk : ∀ ls' : Array Slot, lv_has ls' nL lv' → W p l e R s m args below meth c H locs cells slots Q (F0 m (pc + 2) ls' rest)) : W p l e R s m args below meth c H locs cells slots Q (F0 m pc ls (va_rf o :: rest)) := by
  cases o with
  | none => exact lv_astoreN hx hb hdg h hn hl kk
  | some a => exact lv_astore hx hb hdg h hn hl kk
theorem mq_ifnull (hx : p.tables.exec = Jvm.exec) (hb : c.code = cc) {o : Option Nat} {off : Int} {tgt : Nat} (hdg : decode cc pc = .ok (.ifnull off, 3)) (ht : (pc : Int) + off = (tgt : Int)) (kt : o = none → W p l e R s m args below meth c H locs cells slots Q (F0 m tgt ls rest)) (kf : ∀ q, o = some q → W p l e R s m args below meth c H locs cells slots Q (F0 m (pc + 3) ls rest)) : W p l e R s m args below meth c H locs cells slots Q (F0 m pc ls (va_rf (o.map ad) :: rest)) := by
  cases o with
  | none => exact lv_ifnullN hx hb hdg ht (kt rfl)
  | some q => exact lv_ifnull hx hb hdg (kf q rfl)
theorem mq_ifnonnull (hx : p.tables.exec = Jvm.exec) (hb : c.code = cc) {o : Option Nat} {off : Int} {tgt : Nat} (hdg : decode cc pc = .ok (.ifnonnull off, 3)) (ht : (pc : Int) + off = (tgt : Int)) (kt : ∀ q, o = some q → W p l e R s m args below meth c H locs cells slots Q (F0 m tgt ls rest)) (kf : o = none → W p l e R s m args below meth c H locs cells slots Q (F0 m (pc + 3) ls rest)) : W p l e R s m args below meth c H locs cells slots Q (F0 m pc ls (va_rf (o.map ad) :: rest)) := by
  cases o with
  | none => exact lv_ifnonnullN hx hb hdg (kf rfl)
  | some q => exact lv_ifnonnull hx hb hdg ht (kt q rfl)
theorem mq_acmp_ne (hx : p.tables.exec = Jvm.exec) (hb : c.code = cc) {o : Option Nat} {q : Nat} {off : Int} {tgt : Nat} (hG : pw_G D cA sh n0 A ad σ H) (ho : ∀ k, o = some k → k < gN σ) (hq : q < gN σ) (hdg : decode cc pc = .ok (.if_acmp .ne off, 3)) (ht : (pc : Int) + off = (tgt : Int)) (kt : ¬ o = some q → W p l e R s m args below meth c H locs cells slots Q (F0 m tgt ls rest)) (kf : o = some q → W p l e R s m args below meth c H locs cells slots Q (F0 m (pc + 3) ls rest)) : W p l e R s m args below meth c H locs cells slots Q (F0 m pc ls (.ref (ad q) :: va_rf (o.map ad) :: rest)) := by
  refine lv_acmp_ne (rx := o.map ad) (ry := some (ad q)) hx hb hdg ht (fun h => kt (fun e => h (by rw [e]; rfl))) (fun h => kf ?_)
  cases o with
  | none => cases h
  | some k => rw [hG.2.1 k q (ho k rfl) hq (Option.some.inj h)]
end PWC
end
section
/-! THE SHAPES of the two worlds, and the small words out of which the pure functions are made -/
def lk0 : Nat → Nat := fun _ => 0
/-- the class's world: 0 PagedMemory, 1 pages, 2 live, 3 segmentContents, 4 FrameTable, 5 contents, 6 usedAt, 7 marked, 8 SwapArea, 9 its contents, 10 cluster, 11 counts; from 12 on two cells for each Content: itself (even), its words (odd) -/
def shP (k : Nat) : pw_Sh := match k with
  | 0 => (0, 3, 11, fun j => match j with | 0 => 2 | 1 => 3 | 2 => 4 | 3 => 5 | 4 => 9 | 5 => 11 | 6 => 12 | _ => 0)
  | 1 => (3, 0, 160, lk0)
  | 2 => (2, 0, 10, lk0)
  | 3 => (3, 0, 24, lk0)
  | 4 => (0, 1, 5, fun j => match j with | 0 => 6 | 1 => 7 | 2 => 8 | _ => 0)
  | 5 => (3, 0, 12, lk0)
  | 6 => (1, 0, 12, lk0)
  | 7 => (2, 0, 12, lk0)
  | 8 => (0, 2, 1, fun j => match j with | 0 => 10 | _ => 0)
  | 9 => (3, 0, 24, lk0)
  | 10 => (3, 0, 4, lk0)
  | 11 => (1, 0, 6, lk0)
  | k => if k % 2 = 0 then (0, 0, 7, fun j => if j = 0 then k + 2 else 0) else (1, 0, 4, lk0)
/-- the reference's world: 0 itself; 1 contentIn, 2 uses, 3 isMarked, 4 contentAt, 5 isThere, 6 isWritten, 7 words, 8 isLive, 9 mappings, 10 contents, 11 sizes, 12 parts, 13 counts, 14 cluster -/
def shM (k : Nat) : pw_Sh := match k with
  | 0 => (0, 4, 21, fun j => match j with | 5 => 2 | 6 => 3 | 7 => 4 | 8 => 5 | 9 => 6 | 10 => 7 | 11 => 8 | 13 => 9 | 14 => 10 | 15 => 11 | 17 => 12 | 18 => 13 | 19 => 14 | 20 => 15 | _ => 0)
  | 1 => (1, 0, 12, lk0)
  | 2 => (1, 0, 12, lk0)
  | 3 => (2, 0, 12, lk0)
  | 4 => (1, 0, 24, lk0)
  | 5 => (2, 0, 200, lk0)
  | 6 => (2, 0, 200, lk0)
  | 7 => (1, 0, 800, lk0)
  | 8 => (2, 0, 10, lk0)
  | 9 => (1, 0, 160, lk0)
  | 10 => (1, 0, 160, lk0)
  | 11 => (1, 0, 4, lk0)
  | 12 => (1, 0, 24, lk0)
  | 13 => (1, 0, 6, lk0)
  | 14 => (1, 0, 4, lk0)
  | _ => (1, 0, 0, lk0)
def ck {α : Type} (b : Bool) (v : Option α) : Option α := if b = true then v else none
def bnd {α β S : Type} (v : Option (α × S)) (k : α → S → Option β) : Option β := match v with
  | none => none
  | some (a, s) => k a s
def bnx {α β S : Type} (v : Option ((α ⊕ String) × S)) (k : α → S → Option ((β ⊕ String) × S)) : Option ((β ⊕ String) × S) := match v with
  | none => none
  | some (.inl a, s) => k a s
  | some (.inr E, s) => some (.inr E, s)
def oc {α : Type} (o : Option Nat) (a : α) (f : Nat → α) : α := match o with
  | none => a
  | some q => f q
def ld {α β : Type} (v : α) (f : α → β) : β := f v
def inb (i : Int32) (n : Nat) : Bool := decide (0 ≤ i.toInt ∧ i.toInt < n)
def okc (σ : pw_S) (q : Nat) : Bool := decide (12 ≤ q ∧ q % 2 = 0 ∧ q + 1 < gN σ)
def okO (σ : pw_S) (o : Option Nat) : Bool := match o with
  | none => true
  | some q => decide (q < gN σ)
def kar (k : Nat) : Bool := decide (k < 12 ∧ (shP k).1 = 3)
def isB (v : Int32) : Bool := decide (v = 0 ∨ v = 1)
def nzb (v : Int32) : Bool := decide (¬ v = 0)
theorem ck_some {α : Type} {b : Bool} {v : Option α} {w : α} (h : ck b v = some w) : b = true ∧ v = some w := by
  unfold ck at h
  split at h
  · exact ⟨‹_›, h⟩
  · cases h
theorem bnd_some {α β S : Type} {v : Option (α × S)} {k : α → S → Option β} {w : β} (h : bnd v k = some w) : ∃ a s, v = some (a, s) ∧ k a s = some w := by
  match v, h with
  | some (a, s), h => exact ⟨a, s, rfl, h⟩
theorem bnx_some {α β S : Type} {v : Option ((α ⊕ String) × S)} {k : α → S → Option ((β ⊕ String) × S)} {w : (β ⊕ String) × S} (h : bnx v k = some w) : ∃ z s, v = some (z, s) ∧ (∀ a, z = .inl a → k a s = some w) ∧ ∀ E, z = .inr E → w = (.inr E, s) := by
  match v, h with
  | some (.inl a, s), h => exact ⟨_, s, rfl, fun b hb => (by cases hb; exact h), fun E hE => (by cases hE)⟩
  | some (.inr E, s), h => exact ⟨_, s, rfl, fun b hb => (by cases hb), fun E2 hE => (by cases hE; exact (Option.some.inj h).symm)⟩
theorem bnx_ok {α β S : Type} {v : Option ((α ⊕ String) × S)} {k : α → S → Option ((β ⊕ String) × S)} {w : β} {s' : S} (h : bnx v k = some (.inl w, s')) : ∃ a s, v = some (.inl a, s) ∧ k a s = some (.inl w, s') := by
  match v, h with
  | some (.inl a, s), h => exact ⟨a, s, rfl, h⟩
theorem bnx_x {α β S : Type} {z : α ⊕ String} {r : β ⊕ String} {s s' : S} (h : ∀ E, z = .inr E → (r, s') = (.inr E, s)) : ∀ E, z = .inr E → r = .inr E ∧ s' = s := fun E hE => Prod.mk.inj (h E hE)
theorem inl_some {β S : Type} {a b : β} {s s' : S} (h : some ((Sum.inl a : β ⊕ String), s) = some (.inl b, s')) : some (a, s) = some (b, s') := by cases h; rfl
theorem ld_some {α β : Type} {v : α} {f : α → β} {w : β} (h : ld v f = w) : ∃ u, u = v ∧ f u = w := ⟨v, rfl, h⟩
theorem oc_some {α : Type} {q : Nat} {a : α} {f : Nat → α} {w : α} (h : oc (some q) a f = w) : f q = w := h
theorem oc_none {α : Type} {a : α} {f : Nat → α} {w : α} (h : oc none a f = w) : a = w := h
theorem it_pos {α : Type} {c : Prop} {hd : Decidable c} {a b w : α} (hc : c) (h : (@ite α c hd a b) = w) : a = w := by rw [if_pos hc] at h; exact h
theorem it_neg {α : Type} {c : Prop} {hd : Decidable c} {a b w : α} (hc : ¬ c) (h : (@ite α c hd a b) = w) : b = w := by rw [if_neg hc] at h; exact h
theorem inb_in {i : Int32} {n : Nat} (h : inb i n = true) : vp_in i n := vp_in_iff.mpr (of_decide_eq_true h)
theorem okc_lt {σ : pw_S} {q : Nat} (h : okc σ q = true) : q < gN σ := by have := of_decide_eq_true h; omega
theorem okc_lw {σ : pw_S} {q : Nat} (h : okc σ q = true) : q + 1 < gN σ := by have := of_decide_eq_true h; omega
theorem okc_si {σ σ1 : pw_S} {k j q : Nat} {v : Int32} (e : σ1 = si σ k j v) (h : okc σ q = true) : okc σ1 q = true := by subst e; exact h
theorem okc_sr {σ σ1 : pw_S} {k j q : Nat} {v : Option Nat} (e : σ1 = sr σ k j v) (h : okc σ q = true) : okc σ1 q = true := by subst e; exact h
theorem okO_lt {σ : pw_S} {o : Option Nat} (h : okO σ o = true) : ∀ k, o = some k → k < gN σ := by
  intro k e
  subst e
  exact of_decide_eq_true h
theorem shP_hi (k : Nat) : shP (k + 12) = if (k + 12) % 2 = 0 then (0, 0, 7, fun j => if j = 0 then k + 12 + 2 else 0) else (1, 0, 4, lk0) := rfl
theorem shP_c {σ : pw_S} {q : Nat} (h : okc σ q = true) : shP q = (0, 0, 7, fun j => if j = 0 then q + 2 else 0) := by
  have h1 := of_decide_eq_true h
  obtain ⟨k, rfl⟩ : ∃ k, q = k + 12 := ⟨q - 12, by omega⟩
  rw [shP_hi, if_pos h1.2.1]
theorem shP_w {σ : pw_S} {q : Nat} (h : okc σ q = true) : shP (q + 1) = (1, 0, 4, lk0) := by
  have h1 := of_decide_eq_true h
  obtain ⟨k, rfl⟩ : ∃ k, q = k + 12 := ⟨q - 12, by omega⟩
  rw [show k + 12 + 1 = (k + 1) + 12 by omega, shP_hi, if_neg (by omega)]
theorem kar_lt {k : Nat} (h : kar k = true) : k < 12 := (of_decide_eq_true h).1
theorem kar_sh {k : Nat} (h : kar k = true) : shP k = (3, (shP k).2.1, (shP k).2.2.1, (shP k).2.2.2) := by
  have h1 := (of_decide_eq_true h).2
  rw [← h1]
theorem isB_or {v : Int32} (h : isB v = true) : v = 0 ∨ v = 1 := of_decide_eq_true h
theorem nz_ne {v : Int32} (h : nzb v = true) : ¬ v = 0 := of_decide_eq_true h
/-- what is to be shown at a cut point -/
abbrev mw_K (p : Program) (l : Launch) (e : Env) (R : Room) (s : State) (m : MethodId) (args : Array Value) (below : List Frame) (meth : Method) (c : Code) (Q : State → Prop) (A : Nat → Prop) (D : va_G) (cA : Nat → ClassId) (sh : Nat → pw_Sh) (n0 : Nat) (ad : Nat → Nat) (nL pc cells slots : Nat) (lv : List (Nat × Value)) (st : List Value) (σ : pw_S) : Prop :=
  ∀ (H : Heap) (locs : List Loc) (ls : Array Slot), pw_G D cA sh n0 A ad σ H → va_S A s.heap H locs → lv_has ls nL lv → W p l e R s m args below meth c H locs cells slots Q (F0 m pc ls st)
theorem mtE_ia : mt_E pw_iaX 56 60 := ⟨by decide, by decide +kernel, by decide +kernel, by decide +kernel, fun _ h => List.mem_append_left _ (List.mem_append_left _ (List.mem_append_left _ (List.mem_append_right _ h))), by decide +kernel, by decide +kernel⟩
theorem mtE_is : mt_E pw_isX 70 74 := ⟨by decide, by decide +kernel, by decide +kernel, by decide +kernel, fun _ h => List.mem_append_left _ (List.mem_append_left _ (List.mem_append_right _ h)), by decide +kernel, by decide +kernel⟩
theorem mtE_io : mt_E pw_ioX 188 192 := ⟨by decide, by decide +kernel, by decide +kernel, by decide +kernel, fun _ h => List.mem_append_left _ (List.mem_append_right _ h), by decide +kernel, by decide +kernel⟩
theorem mtN_ne : mt_N := ⟨by decide +kernel, by decide +kernel, fun _ h => List.mem_append_right _ h, by decide +kernel, by decide +kernel⟩
end
