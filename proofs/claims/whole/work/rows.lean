section
-- ===== PART A: goes FIRST, ahead of the names: the tables' words, and 'selects' of the private methods out of them =====
/-- a private method of a class that the tables say can be made, by its rows of tables_1 -/
def lw_okq (q : MethodName × Nat) : Prop := (q.1.cls ≠ "java/lang/invoke/MethodHandle" ∧ q.1.cls ≠ "java/lang/invoke/VarHandle") ∧ Cond.instantiable q.1.cls q.2 ∈ tables_1 ∧ Cond.privateMethod q.1 ∈ tables_1 ∧ Cond.instanceMethod q.1 ∈ tables_1
theorem lw_p0 : lw_okq (⟨"PageSlabs$Blocks", "join", "(II)V"⟩, 12) := ⟨⟨by decide +kernel, by decide +kernel⟩, List.mem_of_getElem? (i := 30) (by decide +kernel), List.mem_of_getElem? (i := 169) (by decide +kernel), List.mem_of_getElem? (i := 170) (by decide +kernel)⟩
theorem lw_p1 : lw_okq (⟨"PageSlabs$Blocks", "isFree", "(II)Z"⟩, 12) := ⟨⟨by decide +kernel, by decide +kernel⟩, List.mem_of_getElem? (i := 30) (by decide +kernel), List.mem_of_getElem? (i := 176) (by decide +kernel), List.mem_of_getElem? (i := 177) (by decide +kernel)⟩
theorem lw_p2 : lw_okq (⟨"PageSlabs$Blocks", "layFree", "(II)V"⟩, 12) := ⟨⟨by decide +kernel, by decide +kernel⟩, List.mem_of_getElem? (i := 30) (by decide +kernel), List.mem_of_getElem? (i := 181) (by decide +kernel), List.mem_of_getElem? (i := 182) (by decide +kernel)⟩
theorem lw_p3 : lw_okq (⟨"PageSlabs$Blocks", "leastFree", "(I)I"⟩, 12) := ⟨⟨by decide +kernel, by decide +kernel⟩, List.mem_of_getElem? (i := 30) (by decide +kernel), List.mem_of_getElem? (i := 196) (by decide +kernel), List.mem_of_getElem? (i := 197) (by decide +kernel)⟩
theorem lw_p4 : lw_okq (⟨"PageSlabs$Blocks", "halve", "(II)V"⟩, 12) := ⟨⟨by decide +kernel, by decide +kernel⟩, List.mem_of_getElem? (i := 30) (by decide +kernel), List.mem_of_getElem? (i := 200) (by decide +kernel), List.mem_of_getElem? (i := 201) (by decide +kernel)⟩
theorem lw_p5 : lw_okq (⟨"PageSlabs", "wrongWithPage", "(I)I"⟩, 5) := ⟨⟨by decide +kernel, by decide +kernel⟩, List.mem_of_getElem? (i := 11) (by decide +kernel), List.mem_of_getElem? (i := 211) (by decide +kernel), List.mem_of_getElem? (i := 212) (by decide +kernel)⟩
theorem lw_p6 : lw_okq (⟨"PageSlabs", "cacheOf", "(I)LPageSlabs$Cache;"⟩, 5) := ⟨⟨by decide +kernel, by decide +kernel⟩, List.mem_of_getElem? (i := 11) (by decide +kernel), List.mem_of_getElem? (i := 248) (by decide +kernel), List.mem_of_getElem? (i := 249) (by decide +kernel)⟩
theorem lw_p7 : lw_okq (⟨"PageSlabs", "takeObject", "(LPageSlabs$Cache;)I"⟩, 5) := ⟨⟨by decide +kernel, by decide +kernel⟩, List.mem_of_getElem? (i := 11) (by decide +kernel), List.mem_of_getElem? (i := 252) (by decide +kernel), List.mem_of_getElem? (i := 253) (by decide +kernel)⟩
theorem lw_p8 : lw_okq (⟨"PageSlabs", "partlyLiveSlab", "(LPageSlabs$Cache;)I"⟩, 5) := ⟨⟨by decide +kernel, by decide +kernel⟩, List.mem_of_getElem? (i := 11) (by decide +kernel), List.mem_of_getElem? (i := 256) (by decide +kernel), List.mem_of_getElem? (i := 257) (by decide +kernel)⟩
theorem lw_p9 : lw_okq (⟨"PageSlabs", "newSlab", "(LPageSlabs$Cache;)I"⟩, 5) := ⟨⟨by decide +kernel, by decide +kernel⟩, List.mem_of_getElem? (i := 11) (by decide +kernel), List.mem_of_getElem? (i := 264) (by decide +kernel), List.mem_of_getElem? (i := 265) (by decide +kernel)⟩
theorem lw_p10 : lw_okq (⟨"PageSlabs", "slabAt", "(I)LPageSlabs$Slab;"⟩, 5) := ⟨⟨by decide +kernel, by decide +kernel⟩, List.mem_of_getElem? (i := 11) (by decide +kernel), List.mem_of_getElem? (i := 292) (by decide +kernel), List.mem_of_getElem? (i := 293) (by decide +kernel)⟩
theorem lw_p11 : lw_okq (⟨"PageSlabs", "wrongWithObject", "(LPageSlabs$Cache;I)I"⟩, 5) := ⟨⟨by decide +kernel, by decide +kernel⟩, List.mem_of_getElem? (i := 11) (by decide +kernel), List.mem_of_getElem? (i := 304) (by decide +kernel), List.mem_of_getElem? (i := 305) (by decide +kernel)⟩
theorem lw_p12 : lw_okq (⟨"PageSlabs", "giveObject", "(LPageSlabs$Cache;I)I"⟩, 5) := ⟨⟨by decide +kernel, by decide +kernel⟩, List.mem_of_getElem? (i := 11) (by decide +kernel), List.mem_of_getElem? (i := 323) (by decide +kernel), List.mem_of_getElem? (i := 324) (by decide +kernel)⟩
theorem lw_p13 : lw_okq (⟨"PageSlabs", "dropSlab", "(LPageSlabs$Cache;I)V"⟩, 5) := ⟨⟨by decide +kernel, by decide +kernel⟩, List.mem_of_getElem? (i := 11) (by decide +kernel), List.mem_of_getElem? (i := 336) (by decide +kernel), List.mem_of_getElem? (i := 337) (by decide +kernel)⟩
theorem lw_p14 : lw_okq (⟨"PageSlabs", "takeKind", "(I)I"⟩, 5) := ⟨⟨by decide +kernel, by decide +kernel⟩, List.mem_of_getElem? (i := 11) (by decide +kernel), List.mem_of_getElem? (i := 357) (by decide +kernel), List.mem_of_getElem? (i := 358) (by decide +kernel)⟩
theorem lw_p15 : lw_okq (⟨"PageSlabs", "wrongBySize", "(I)I"⟩, 5) := ⟨⟨by decide +kernel, by decide +kernel⟩, List.mem_of_getElem? (i := 11) (by decide +kernel), List.mem_of_getElem? (i := 365) (by decide +kernel), List.mem_of_getElem? (i := 366) (by decide +kernel)⟩
def lw_privs_1 : List (MethodName × Nat) := [(⟨"PageSlabs$Blocks", "join", "(II)V"⟩, 12), (⟨"PageSlabs$Blocks", "isFree", "(II)Z"⟩, 12), (⟨"PageSlabs$Blocks", "layFree", "(II)V"⟩, 12), (⟨"PageSlabs$Blocks", "leastFree", "(I)I"⟩, 12), (⟨"PageSlabs$Blocks", "halve", "(II)V"⟩, 12), (⟨"PageSlabs", "wrongWithPage", "(I)I"⟩, 5), (⟨"PageSlabs", "cacheOf", "(I)LPageSlabs$Cache;"⟩, 5), (⟨"PageSlabs", "takeObject", "(LPageSlabs$Cache;)I"⟩, 5), (⟨"PageSlabs", "partlyLiveSlab", "(LPageSlabs$Cache;)I"⟩, 5), (⟨"PageSlabs", "newSlab", "(LPageSlabs$Cache;)I"⟩, 5), (⟨"PageSlabs", "slabAt", "(I)LPageSlabs$Slab;"⟩, 5), (⟨"PageSlabs", "wrongWithObject", "(LPageSlabs$Cache;I)I"⟩, 5), (⟨"PageSlabs", "giveObject", "(LPageSlabs$Cache;I)I"⟩, 5), (⟨"PageSlabs", "dropSlab", "(LPageSlabs$Cache;I)V"⟩, 5), (⟨"PageSlabs", "takeKind", "(I)I"⟩, 5), (⟨"PageSlabs", "wrongBySize", "(I)I"⟩, 5)]
theorem lw_r1 : ∀ q ∈ lw_privs_1, lw_okq q := List.forall_mem_cons.mpr ⟨lw_p0, List.forall_mem_cons.mpr ⟨lw_p1, List.forall_mem_cons.mpr ⟨lw_p2, List.forall_mem_cons.mpr ⟨lw_p3, List.forall_mem_cons.mpr ⟨lw_p4, List.forall_mem_cons.mpr ⟨lw_p5, List.forall_mem_cons.mpr ⟨lw_p6, List.forall_mem_cons.mpr ⟨lw_p7, List.forall_mem_cons.mpr ⟨lw_p8, List.forall_mem_cons.mpr ⟨lw_p9, List.forall_mem_cons.mpr ⟨lw_p10, List.forall_mem_cons.mpr ⟨lw_p11, List.forall_mem_cons.mpr ⟨lw_p12, List.forall_mem_cons.mpr ⟨lw_p13, List.forall_mem_cons.mpr ⟨lw_p14, List.forall_mem_cons.mpr ⟨lw_p15, fun _ h => absurd h List.not_mem_nil⟩⟩⟩⟩⟩⟩⟩⟩⟩⟩⟩⟩⟩⟩⟩⟩
theorem lw_p16 : lw_okq (⟨"PageSlabs", "kindAt", "(I)I"⟩, 5) := ⟨⟨by decide +kernel, by decide +kernel⟩, List.mem_of_getElem? (i := 11) (by decide +kernel), List.mem_of_getElem? (i := 369) (by decide +kernel), List.mem_of_getElem? (i := 370) (by decide +kernel)⟩
theorem lw_p17 : lw_okq (⟨"PageSlabs", "giveBySize", "(I)V"⟩, 5) := ⟨⟨by decide +kernel, by decide +kernel⟩, List.mem_of_getElem? (i := 11) (by decide +kernel), List.mem_of_getElem? (i := 373) (by decide +kernel), List.mem_of_getElem? (i := 374) (by decide +kernel)⟩
theorem lw_p18 : lw_okq (⟨"PageSlabs", "liveObjects", "()I"⟩, 5) := ⟨⟨by decide +kernel, by decide +kernel⟩, List.mem_of_getElem? (i := 11) (by decide +kernel), List.mem_of_getElem? (i := 447) (by decide +kernel), List.mem_of_getElem? (i := 448) (by decide +kernel)⟩
theorem lw_p19 : lw_okq (⟨"PageSlabsModel", "addCache", "(II)I"⟩, 20) := ⟨⟨by decide +kernel, by decide +kernel⟩, List.mem_of_getElem? (i := 451) (by decide +kernel), List.mem_of_getElem? (i := 457) (by decide +kernel), List.mem_of_getElem? (i := 458) (by decide +kernel)⟩
theorem lw_p20 : lw_okq (⟨"PageSlabsModel", "areUsable", "(II)Z"⟩, 20) := ⟨⟨by decide +kernel, by decide +kernel⟩, List.mem_of_getElem? (i := 451) (by decide +kernel), List.mem_of_getElem? (i := 533) (by decide +kernel), List.mem_of_getElem? (i := 534) (by decide +kernel)⟩
theorem lw_p21 : lw_okq (⟨"PageSlabsModel", "makeBlock", "(IIZ)V"⟩, 20) := ⟨⟨by decide +kernel, by decide +kernel⟩, List.mem_of_getElem? (i := 451) (by decide +kernel), List.mem_of_getElem? (i := 537) (by decide +kernel), List.mem_of_getElem? (i := 538) (by decide +kernel)⟩
theorem lw_p22 : lw_okq (⟨"PageSlabsModel", "usablePages", "()I"⟩, 20) := ⟨⟨by decide +kernel, by decide +kernel⟩, List.mem_of_getElem? (i := 451) (by decide +kernel), List.mem_of_getElem? (i := 541) (by decide +kernel), List.mem_of_getElem? (i := 542) (by decide +kernel)⟩
theorem lw_p23 : lw_okq (⟨"PageSlabsModel", "takeBlock", "(I)I"⟩, 20) := ⟨⟨by decide +kernel, by decide +kernel⟩, List.mem_of_getElem? (i := 451) (by decide +kernel), List.mem_of_getElem? (i := 549) (by decide +kernel), List.mem_of_getElem? (i := 550) (by decide +kernel)⟩
theorem lw_p24 : lw_okq (⟨"PageSlabsModel", "isFree", "(I)Z"⟩, 20) := ⟨⟨by decide +kernel, by decide +kernel⟩, List.mem_of_getElem? (i := 451) (by decide +kernel), List.mem_of_getElem? (i := 553) (by decide +kernel), List.mem_of_getElem? (i := 554) (by decide +kernel)⟩
theorem lw_p25 : lw_okq (⟨"PageSlabsModel", "isFirst", "(I)Z"⟩, 20) := ⟨⟨by decide +kernel, by decide +kernel⟩, List.mem_of_getElem? (i := 451) (by decide +kernel), List.mem_of_getElem? (i := 557) (by decide +kernel), List.mem_of_getElem? (i := 558) (by decide +kernel)⟩
theorem lw_p26 : lw_okq (⟨"PageSlabsModel", "freePageCount", "()I"⟩, 20) := ⟨⟨by decide +kernel, by decide +kernel⟩, List.mem_of_getElem? (i := 451) (by decide +kernel), List.mem_of_getElem? (i := 561) (by decide +kernel), List.mem_of_getElem? (i := 562) (by decide +kernel)⟩
theorem lw_p27 : lw_okq (⟨"PageSlabsModel", "faultOfPage", "(I)I"⟩, 20) := ⟨⟨by decide +kernel, by decide +kernel⟩, List.mem_of_getElem? (i := 451) (by decide +kernel), List.mem_of_getElem? (i := 569) (by decide +kernel), List.mem_of_getElem? (i := 570) (by decide +kernel)⟩
theorem lw_p28 : lw_okq (⟨"PageSlabsModel", "giveBlock", "(I)I"⟩, 20) := ⟨⟨by decide +kernel, by decide +kernel⟩, List.mem_of_getElem? (i := 451) (by decide +kernel), List.mem_of_getElem? (i := 573) (by decide +kernel), List.mem_of_getElem? (i := 574) (by decide +kernel)⟩
theorem lw_p29 : lw_okq (⟨"PageSlabsModel", "isCache", "(I)Z"⟩, 20) := ⟨⟨by decide +kernel, by decide +kernel⟩, List.mem_of_getElem? (i := 451) (by decide +kernel), List.mem_of_getElem? (i := 585) (by decide +kernel), List.mem_of_getElem? (i := 586) (by decide +kernel)⟩
theorem lw_p30 : lw_okq (⟨"PageSlabsModel", "isSlab", "(II)Z"⟩, 20) := ⟨⟨by decide +kernel, by decide +kernel⟩, List.mem_of_getElem? (i := 451) (by decide +kernel), List.mem_of_getElem? (i := 589) (by decide +kernel), List.mem_of_getElem? (i := 590) (by decide +kernel)⟩
theorem lw_p31 : lw_okq (⟨"PageSlabsModel", "liveOf", "(I)I"⟩, 20) := ⟨⟨by decide +kernel, by decide +kernel⟩, List.mem_of_getElem? (i := 451) (by decide +kernel), List.mem_of_getElem? (i := 593) (by decide +kernel), List.mem_of_getElem? (i := 594) (by decide +kernel)⟩
def lw_privs_2 : List (MethodName × Nat) := [(⟨"PageSlabs", "kindAt", "(I)I"⟩, 5), (⟨"PageSlabs", "giveBySize", "(I)V"⟩, 5), (⟨"PageSlabs", "liveObjects", "()I"⟩, 5), (⟨"PageSlabsModel", "addCache", "(II)I"⟩, 20), (⟨"PageSlabsModel", "areUsable", "(II)Z"⟩, 20), (⟨"PageSlabsModel", "makeBlock", "(IIZ)V"⟩, 20), (⟨"PageSlabsModel", "usablePages", "()I"⟩, 20), (⟨"PageSlabsModel", "takeBlock", "(I)I"⟩, 20), (⟨"PageSlabsModel", "isFree", "(I)Z"⟩, 20), (⟨"PageSlabsModel", "isFirst", "(I)Z"⟩, 20), (⟨"PageSlabsModel", "freePageCount", "()I"⟩, 20), (⟨"PageSlabsModel", "faultOfPage", "(I)I"⟩, 20), (⟨"PageSlabsModel", "giveBlock", "(I)I"⟩, 20), (⟨"PageSlabsModel", "isCache", "(I)Z"⟩, 20), (⟨"PageSlabsModel", "isSlab", "(II)Z"⟩, 20), (⟨"PageSlabsModel", "liveOf", "(I)I"⟩, 20)]
theorem lw_r2 : ∀ q ∈ lw_privs_2, lw_okq q := List.forall_mem_cons.mpr ⟨lw_p16, List.forall_mem_cons.mpr ⟨lw_p17, List.forall_mem_cons.mpr ⟨lw_p18, List.forall_mem_cons.mpr ⟨lw_p19, List.forall_mem_cons.mpr ⟨lw_p20, List.forall_mem_cons.mpr ⟨lw_p21, List.forall_mem_cons.mpr ⟨lw_p22, List.forall_mem_cons.mpr ⟨lw_p23, List.forall_mem_cons.mpr ⟨lw_p24, List.forall_mem_cons.mpr ⟨lw_p25, List.forall_mem_cons.mpr ⟨lw_p26, List.forall_mem_cons.mpr ⟨lw_p27, List.forall_mem_cons.mpr ⟨lw_p28, List.forall_mem_cons.mpr ⟨lw_p29, List.forall_mem_cons.mpr ⟨lw_p30, List.forall_mem_cons.mpr ⟨lw_p31, fun _ h => absurd h List.not_mem_nil⟩⟩⟩⟩⟩⟩⟩⟩⟩⟩⟩⟩⟩⟩⟩⟩
theorem lw_p32 : lw_okq (⟨"PageSlabsModel", "objectsOf", "(I)I"⟩, 20) := ⟨⟨by decide +kernel, by decide +kernel⟩, List.mem_of_getElem? (i := 451) (by decide +kernel), List.mem_of_getElem? (i := 597) (by decide +kernel), List.mem_of_getElem? (i := 598) (by decide +kernel)⟩
theorem lw_p33 : lw_okq (⟨"PageSlabsModel", "newSlab", "(I)I"⟩, 20) := ⟨⟨by decide +kernel, by decide +kernel⟩, List.mem_of_getElem? (i := 451) (by decide +kernel), List.mem_of_getElem? (i := 601) (by decide +kernel), List.mem_of_getElem? (i := 602) (by decide +kernel)⟩
theorem lw_p34 : lw_okq (⟨"PageSlabsModel", "slabAt", "(I)I"⟩, 20) := ⟨⟨by decide +kernel, by decide +kernel⟩, List.mem_of_getElem? (i := 451) (by decide +kernel), List.mem_of_getElem? (i := 609) (by decide +kernel), List.mem_of_getElem? (i := 610) (by decide +kernel)⟩
theorem lw_p35 : lw_okq (⟨"PageSlabsModel", "faultOfObject", "(II)I"⟩, 20) := ⟨⟨by decide +kernel, by decide +kernel⟩, List.mem_of_getElem? (i := 451) (by decide +kernel), List.mem_of_getElem? (i := 613) (by decide +kernel), List.mem_of_getElem? (i := 614) (by decide +kernel)⟩
theorem lw_p36 : lw_okq (⟨"PageSlabsModel", "giveObject", "(II)I"⟩, 20) := ⟨⟨by decide +kernel, by decide +kernel⟩, List.mem_of_getElem? (i := 451) (by decide +kernel), List.mem_of_getElem? (i := 617) (by decide +kernel), List.mem_of_getElem? (i := 618) (by decide +kernel)⟩
theorem lw_p37 : lw_okq (⟨"PageSlabsModel", "classAt", "(I)I"⟩, 20) := ⟨⟨by decide +kernel, by decide +kernel⟩, List.mem_of_getElem? (i := 451) (by decide +kernel), List.mem_of_getElem? (i := 637) (by decide +kernel), List.mem_of_getElem? (i := 638) (by decide +kernel)⟩
theorem lw_p38 : lw_okq (⟨"PageSlabsModel", "release", "(II)I"⟩, 20) := ⟨⟨by decide +kernel, by decide +kernel⟩, List.mem_of_getElem? (i := 451) (by decide +kernel), List.mem_of_getElem? (i := 641) (by decide +kernel), List.mem_of_getElem? (i := 642) (by decide +kernel)⟩
theorem lw_p39 : lw_okq (⟨"PageSlabsModel", "slabsOf", "(I)I"⟩, 20) := ⟨⟨by decide +kernel, by decide +kernel⟩, List.mem_of_getElem? (i := 451) (by decide +kernel), List.mem_of_getElem? (i := 693) (by decide +kernel), List.mem_of_getElem? (i := 694) (by decide +kernel)⟩
theorem lw_p40 : lw_okq (⟨"PageSlabsModel", "liveIn", "(I)I"⟩, 20) := ⟨⟨by decide +kernel, by decide +kernel⟩, List.mem_of_getElem? (i := 451) (by decide +kernel), List.mem_of_getElem? (i := 697) (by decide +kernel), List.mem_of_getElem? (i := 698) (by decide +kernel)⟩
def lw_privs_3 : List (MethodName × Nat) := [(⟨"PageSlabsModel", "objectsOf", "(I)I"⟩, 20), (⟨"PageSlabsModel", "newSlab", "(I)I"⟩, 20), (⟨"PageSlabsModel", "slabAt", "(I)I"⟩, 20), (⟨"PageSlabsModel", "faultOfObject", "(II)I"⟩, 20), (⟨"PageSlabsModel", "giveObject", "(II)I"⟩, 20), (⟨"PageSlabsModel", "classAt", "(I)I"⟩, 20), (⟨"PageSlabsModel", "release", "(II)I"⟩, 20), (⟨"PageSlabsModel", "slabsOf", "(I)I"⟩, 20), (⟨"PageSlabsModel", "liveIn", "(I)I"⟩, 20)]
theorem lw_r3 : ∀ q ∈ lw_privs_3, lw_okq q := List.forall_mem_cons.mpr ⟨lw_p32, List.forall_mem_cons.mpr ⟨lw_p33, List.forall_mem_cons.mpr ⟨lw_p34, List.forall_mem_cons.mpr ⟨lw_p35, List.forall_mem_cons.mpr ⟨lw_p36, List.forall_mem_cons.mpr ⟨lw_p37, List.forall_mem_cons.mpr ⟨lw_p38, List.forall_mem_cons.mpr ⟨lw_p39, List.forall_mem_cons.mpr ⟨lw_p40, fun _ h => absurd h List.not_mem_nil⟩⟩⟩⟩⟩⟩⟩⟩⟩
def lw_privs : List (MethodName × Nat) := lw_privs_1 ++ (lw_privs_2 ++ (lw_privs_3))
def lw_tbl : List Cond := k2_sels lw_privs ++ tables_1
theorem lw_privs_ok : ∀ q ∈ lw_privs, lw_okq q := by
  show ∀ q ∈ lw_privs_1 ++ (lw_privs_2 ++ (lw_privs_3)), lw_okq q
  exact List.forall_mem_append.mpr ⟨lw_r1, List.forall_mem_append.mpr ⟨lw_r2, lw_r3⟩⟩
end
section
def RX0 : String := "PageSlabs$Blocks"
def TX0 : u_T := fun k => match k with
  | 0 => ("PageSlabs$Blocks", "told", "[Z", true)
  | 1 => ("PageSlabs$Blocks", "orders", "[I", true)
  | 2 => ("PageSlabs$Blocks", "uses", "[I", true)
  | 3 => ("PageSlabs$Blocks", "freeCounts", "[I", true)
  | 4 => ("PageSlabs$Blocks", "started", "Z", false)
  | 5 => ("PageSlabs$Blocks", "usablePages", "I", false)
  | 6 => ("PageSlabs$Blocks", "freePageCount", "I", false)
  | 7 => ("PageSlabs$Blocks", "mostInUse", "I", false)
  | 8 => ("PageSlabs$Blocks", "misses", "I", false)
  | 9 => ("PageSlabs$Blocks", "claims", "I", false)
  | 10 => ("PageSlabs$Blocks", "releases", "I", false)
  | _ => ("PageSlabs$Blocks", "armed", "I", false)
def tyX0 : Nat → FieldType := fun k => match k with
  | 0 => .array .boolean
  | 1 => .array .int
  | 2 => .array .int
  | 3 => .array .int
  | 4 => .boolean
  | 5 => .int
  | 6 => .int
  | 7 => .int
  | 8 => .int
  | 9 => .int
  | 10 => .int
  | _ => .int
abbrev wsX00 : List Cond := u_ws RX0 TX0 12
theorem nmX0 : ∀ a, a < 12 → ∀ b, b < 12 → a ≠ b → (TX0 a).2.1 ≠ (TX0 b).2.1 := by decide +kernel
theorem tyX0_ok : ∀ k, k < 12 → parseFieldDescriptor (TX0 k).2.2.1 = some (tyX0 k) := by decide +kernel
abbrev cX0_init : ByteArray := prog_2_method_1_code
def yX0_init : MethodName := ⟨RX0, "<init>", "()V"⟩
abbrev cX0_tell : ByteArray := prog_2_method_2_code
def yX0_tell : MethodName := ⟨RX0, "tell", "(II)V"⟩
abbrev cX0_open : ByteArray := prog_2_method_3_code
def yX0_open : MethodName := ⟨RX0, "open", "()V"⟩
abbrev cX0_firstOf : ByteArray := prog_2_method_4_code
def yX0_firstOf : MethodName := ⟨RX0, "firstOf", "(I)I"⟩
abbrev cX0_orderFrom : ByteArray := prog_2_method_5_code
def yX0_orderFrom : MethodName := ⟨RX0, "orderFrom", "(I)I"⟩
abbrev cX0_useFrom : ByteArray := prog_2_method_6_code
def yX0_useFrom : MethodName := ⟨RX0, "useFrom", "(I)I"⟩
abbrev cX0_claim : ByteArray := prog_2_method_7_code
def yX0_claim : MethodName := ⟨RX0, "claim", "(II)I"⟩
abbrev cX0_release : ByteArray := prog_2_method_8_code
def yX0_release : MethodName := ⟨RX0, "release", "(I)V"⟩
abbrev cX0_leastFree : ByteArray := prog_2_method_9_code
def yX0_leastFree : MethodName := ⟨RX0, "leastFree", "(I)I"⟩
abbrev cX0_isFree : ByteArray := prog_2_method_10_code
def yX0_isFree : MethodName := ⟨RX0, "isFree", "(II)Z"⟩
abbrev cX0_halve : ByteArray := prog_2_method_11_code
def yX0_halve : MethodName := ⟨RX0, "halve", "(II)V"⟩
abbrev cX0_join : ByteArray := prog_2_method_12_code
def yX0_join : MethodName := ⟨RX0, "join", "(II)V"⟩
abbrev cX0_buddyOf : ByteArray := prog_2_method_13_code
def yX0_buddyOf : MethodName := ⟨RX0, "buddyOf", "(II)I"⟩
abbrev cX0_layFree : ByteArray := prog_2_method_14_code
def yX0_layFree : MethodName := ⟨RX0, "layFree", "(II)V"⟩
def RX1 : String := "PageSlabs$Cache"
def TX1 : u_T := fun k => match k with
  | 0 => ("PageSlabs$Cache", "use", "I", true)
  | 1 => ("PageSlabs$Cache", "bytes", "I", true)
  | 2 => ("PageSlabs$Cache", "alignment", "I", true)
  | 3 => ("PageSlabs$Cache", "stride", "I", true)
  | 4 => ("PageSlabs$Cache", "slabOrder", "I", true)
  | 5 => ("PageSlabs$Cache", "objects", "I", true)
  | 6 => ("PageSlabs$Cache", "slabCount", "I", false)
  | 7 => ("PageSlabs$Cache", "live", "I", false)
  | _ => ("PageSlabs$Cache", "emptyPage", "I", false)
def tyX1 : Nat → FieldType := fun k => match k with
  | 0 => .int
  | 1 => .int
  | 2 => .int
  | 3 => .int
  | 4 => .int
  | 5 => .int
  | 6 => .int
  | 7 => .int
  | _ => .int
abbrev wsX10 : List Cond := u_ws RX1 TX1 9
theorem nmX1 : ∀ a, a < 9 → ∀ b, b < 9 → a ≠ b → (TX1 a).2.1 ≠ (TX1 b).2.1 := by decide +kernel
theorem tyX1_ok : ∀ k, k < 9 → parseFieldDescriptor (TX1 k).2.2.1 = some (tyX1 k) := by decide +kernel
abbrev cX1_init : ByteArray := prog_3_method_1_code
def yX1_init : MethodName := ⟨RX1, "<init>", "(III)V"⟩
abbrev cX1_orderFor : ByteArray := prog_3_method_2_code
def yX1_orderFor : MethodName := ⟨RX1, "orderFor", "(I)I"⟩
abbrev cX1_objectsIn : ByteArray := prog_3_method_3_code
def yX1_objectsIn : MethodName := ⟨RX1, "objectsIn", "(II)I"⟩
abbrev cX1_indexAt : ByteArray := prog_3_method_4_code
def yX1_indexAt : MethodName := ⟨RX1, "indexAt", "(I)I"⟩
abbrev cX1_figure : ByteArray := prog_3_method_5_code
def yX1_figure : MethodName := ⟨RX1, "figure", "(I)I"⟩
def RX2 : String := "PageSlabs$Memory"
def TX2 : u_T := fun k => match k with
  | _ => ("PageSlabs$Memory", "words", "[J", true)
def tyX2 : Nat → FieldType := fun k => match k with
  | _ => .array .long
abbrev wsX20 : List Cond := u_ws RX2 TX2 1
theorem nmX2 : ∀ a, a < 1 → ∀ b, b < 1 → a ≠ b → (TX2 a).2.1 ≠ (TX2 b).2.1 := by decide +kernel
theorem tyX2_ok : ∀ k, k < 1 → parseFieldDescriptor (TX2 k).2.2.1 = some (tyX2 k) := by decide +kernel
abbrev cX2_init : ByteArray := prog_4_method_1_code
def yX2_init : MethodName := ⟨RX2, "<init>", "()V"⟩
abbrev cX2_get : ByteArray := prog_4_method_2_code
def yX2_get : MethodName := ⟨RX2, "get", "(I)I"⟩
abbrev cX2_put : ByteArray := prog_4_method_3_code
def yX2_put : MethodName := ⟨RX2, "put", "(II)V"⟩
abbrev cX2_copy : ByteArray := prog_4_method_4_code
def yX2_copy : MethodName := ⟨RX2, "copy", "(III)V"⟩
abbrev cX2_shiftOf : ByteArray := prog_4_method_5_code
def yX2_shiftOf : MethodName := ⟨RX2, "shiftOf", "(I)I"⟩
def RX3 : String := "PageSlabs$Slab"
def TX3 : u_T := fun k => match k with
  | 0 => ("PageSlabs$Slab", "row", "[I", true)
  | 1 => ("PageSlabs$Slab", "freeCount", "I", false)
  | 2 => ("PageSlabs$Slab", "objects", "I", false)
  | _ => ("PageSlabs$Slab", "live", "J", false)
def tyX3 : Nat → FieldType := fun k => match k with
  | 0 => .array .int
  | 1 => .int
  | 2 => .int
  | _ => .long
abbrev wsX30 : List Cond := u_ws RX3 TX3 4
theorem nmX3 : ∀ a, a < 4 → ∀ b, b < 4 → a ≠ b → (TX3 a).2.1 ≠ (TX3 b).2.1 := by decide +kernel
theorem tyX3_ok : ∀ k, k < 4 → parseFieldDescriptor (TX3 k).2.2.1 = some (tyX3 k) := by decide +kernel
abbrev cX3_init : ByteArray := prog_5_method_1_code
def yX3_init : MethodName := ⟨RX3, "<init>", "()V"⟩
abbrev cX3_layOut : ByteArray := prog_5_method_2_code
def yX3_layOut : MethodName := ⟨RX3, "layOut", "(I)V"⟩
abbrev cX3_isLive : ByteArray := prog_5_method_3_code
def yX3_isLive : MethodName := ⟨RX3, "isLive", "(I)Z"⟩
abbrev cX3_liveCount : ByteArray := prog_5_method_4_code
def yX3_liveCount : MethodName := ⟨RX3, "liveCount", "()I"⟩
abbrev cX3_isPartlyLive : ByteArray := prog_5_method_5_code
def yX3_isPartlyLive : MethodName := ⟨RX3, "isPartlyLive", "()Z"⟩
abbrev cX3_takeFront : ByteArray := prog_5_method_6_code
def yX3_takeFront : MethodName := ⟨RX3, "takeFront", "()I"⟩
abbrev cX3_putFront : ByteArray := prog_5_method_7_code
def yX3_putFront : MethodName := ⟨RX3, "putFront", "(I)V"⟩
def RX4 : String := "PageSlabs"
def TX4 : u_T := fun k => match k with
  | 0 => ("PageSlabs", "memory", "LPageSlabs$Memory;", true)
  | 1 => ("PageSlabs", "blocks", "LPageSlabs$Blocks;", true)
  | 2 => ("PageSlabs", "slabs", "[LPageSlabs$Slab;", true)
  | 3 => ("PageSlabs", "caches", "[LPageSlabs$Cache;", true)
  | _ => ("PageSlabs", "cacheCount", "I", false)
def tyX4 : Nat → FieldType := fun k => match k with
  | 0 => .object "PageSlabs$Memory"
  | 1 => .object "PageSlabs$Blocks"
  | 2 => .array (.object "PageSlabs$Slab")
  | 3 => .array (.object "PageSlabs$Cache")
  | _ => .int
abbrev wsX40 : List Cond := u_ws RX4 TX4 5
theorem nmX4 : ∀ a, a < 5 → ∀ b, b < 5 → a ≠ b → (TX4 a).2.1 ≠ (TX4 b).2.1 := by decide +kernel
theorem tyX4_ok : ∀ k, k < 5 → parseFieldDescriptor (TX4 k).2.2.1 = some (tyX4 k) := by decide +kernel
abbrev cX4_init : ByteArray := prog_1_method_1_code
def yX4_init : MethodName := ⟨RX4, "<init>", "()V"⟩
abbrev cX4_usable : ByteArray := prog_1_method_2_code
def yX4_usable : MethodName := ⟨RX4, "usable", "(II)Z"⟩
abbrev cX4_start : ByteArray := prog_1_method_3_code
def yX4_start : MethodName := ⟨RX4, "start", "()I"⟩
abbrev cX4_pages : ByteArray := prog_1_method_4_code
def yX4_pages : MethodName := ⟨RX4, "pages", "(I)I"⟩
abbrev cX4_freePages : ByteArray := prog_1_method_5_code
def yX4_freePages : MethodName := ⟨RX4, "freePages", "(I)I"⟩
abbrev cX4_cache : ByteArray := prog_1_method_6_code
def yX4_cache : MethodName := ⟨RX4, "cache", "(II)I"⟩
abbrev cX4_take : ByteArray := prog_1_method_7_code
def yX4_take : MethodName := ⟨RX4, "take", "(I)I"⟩
abbrev cX4_give : ByteArray := prog_1_method_8_code
def yX4_give : MethodName := ⟨RX4, "give", "(II)I"⟩
abbrev cX4_shrink : ByteArray := prog_1_method_9_code
def yX4_shrink : MethodName := ⟨RX4, "shrink", "(I)I"⟩
abbrev cX4_alloc : ByteArray := prog_1_method_10_code
def yX4_alloc : MethodName := ⟨RX4, "alloc", "(I)I"⟩
abbrev cX4_free : ByteArray := prog_1_method_11_code
def yX4_free : MethodName := ⟨RX4, "free", "(I)I"⟩
abbrev cX4_resize : ByteArray := prog_1_method_12_code
def yX4_resize : MethodName := ⟨RX4, "resize", "(II)I"⟩
abbrev cX4_size : ByteArray := prog_1_method_13_code
def yX4_size : MethodName := ⟨RX4, "size", "(I)I"⟩
abbrev cX4_read : ByteArray := prog_1_method_14_code
def yX4_read : MethodName := ⟨RX4, "read", "(I)I"⟩
abbrev cX4_write : ByteArray := prog_1_method_15_code
def yX4_write : MethodName := ⟨RX4, "write", "(II)I"⟩
abbrev cX4_arm : ByteArray := prog_1_method_16_code
def yX4_arm : MethodName := ⟨RX4, "arm", "(I)Z"⟩
abbrev cX4_ofPage : ByteArray := prog_1_method_17_code
def yX4_ofPage : MethodName := ⟨RX4, "ofPage", "(I)I"⟩
abbrev cX4_block : ByteArray := prog_1_method_18_code
def yX4_block : MethodName := ⟨RX4, "block", "(I)I"⟩
abbrev cX4_order : ByteArray := prog_1_method_19_code
def yX4_order : MethodName := ⟨RX4, "order", "(I)I"⟩
abbrev cX4_freeBlocks : ByteArray := prog_1_method_20_code
def yX4_freeBlocks : MethodName := ⟨RX4, "freeBlocks", "(I)I"⟩
abbrev cX4_ofCache : ByteArray := prog_1_method_21_code
def yX4_ofCache : MethodName := ⟨RX4, "ofCache", "(II)I"⟩
abbrev cX4_count : ByteArray := prog_1_method_22_code
def yX4_count : MethodName := ⟨RX4, "count", "(I)I"⟩
abbrev cX4_isPage : ByteArray := prog_1_method_23_code
def yX4_isPage : MethodName := ⟨RX4, "isPage", "(I)Z"⟩
abbrev cX4_isAddress : ByteArray := prog_1_method_24_code
def yX4_isAddress : MethodName := ⟨RX4, "isAddress", "(I)Z"⟩
abbrev cX4_isOrder : ByteArray := prog_1_method_25_code
def yX4_isOrder : MethodName := ⟨RX4, "isOrder", "(I)Z"⟩
abbrev cX4_isAlignment : ByteArray := prog_1_method_26_code
def yX4_isAlignment : MethodName := ⟨RX4, "isAlignment", "(I)Z"⟩
abbrev cX4_isBySize : ByteArray := prog_1_method_27_code
def yX4_isBySize : MethodName := ⟨RX4, "isBySize", "(I)Z"⟩
abbrev cX4_cacheOf : ByteArray := prog_1_method_28_code
def yX4_cacheOf : MethodName := ⟨RX4, "cacheOf", "(I)LPageSlabs$Cache;"⟩
abbrev cX4_slabAt : ByteArray := prog_1_method_29_code
def yX4_slabAt : MethodName := ⟨RX4, "slabAt", "(I)LPageSlabs$Slab;"⟩
abbrev cX4_liveObjects : ByteArray := prog_1_method_30_code
def yX4_liveObjects : MethodName := ⟨RX4, "liveObjects", "()I"⟩
abbrev cX4_wrongWithPage : ByteArray := prog_1_method_31_code
def yX4_wrongWithPage : MethodName := ⟨RX4, "wrongWithPage", "(I)I"⟩
abbrev cX4_wrongWithObject : ByteArray := prog_1_method_32_code
def yX4_wrongWithObject : MethodName := ⟨RX4, "wrongWithObject", "(LPageSlabs$Cache;I)I"⟩
abbrev cX4_wrongBySize : ByteArray := prog_1_method_33_code
def yX4_wrongBySize : MethodName := ⟨RX4, "wrongBySize", "(I)I"⟩
abbrev cX4_takeObject : ByteArray := prog_1_method_34_code
def yX4_takeObject : MethodName := ⟨RX4, "takeObject", "(LPageSlabs$Cache;)I"⟩
abbrev cX4_partlyLiveSlab : ByteArray := prog_1_method_35_code
def yX4_partlyLiveSlab : MethodName := ⟨RX4, "partlyLiveSlab", "(LPageSlabs$Cache;)I"⟩
abbrev cX4_newSlab : ByteArray := prog_1_method_36_code
def yX4_newSlab : MethodName := ⟨RX4, "newSlab", "(LPageSlabs$Cache;)I"⟩
abbrev cX4_giveObject : ByteArray := prog_1_method_37_code
def yX4_giveObject : MethodName := ⟨RX4, "giveObject", "(LPageSlabs$Cache;I)I"⟩
abbrev cX4_dropSlab : ByteArray := prog_1_method_38_code
def yX4_dropSlab : MethodName := ⟨RX4, "dropSlab", "(LPageSlabs$Cache;I)V"⟩
abbrev cX4_kindFor : ByteArray := prog_1_method_39_code
def yX4_kindFor : MethodName := ⟨RX4, "kindFor", "(I)I"⟩
abbrev cX4_bytesOfKind : ByteArray := prog_1_method_40_code
def yX4_bytesOfKind : MethodName := ⟨RX4, "bytesOfKind", "(I)I"⟩
abbrev cX4_kindAt : ByteArray := prog_1_method_41_code
def yX4_kindAt : MethodName := ⟨RX4, "kindAt", "(I)I"⟩
abbrev cX4_takeKind : ByteArray := prog_1_method_42_code
def yX4_takeKind : MethodName := ⟨RX4, "takeKind", "(I)I"⟩
abbrev cX4_giveBySize : ByteArray := prog_1_method_43_code
def yX4_giveBySize : MethodName := ⟨RX4, "giveBySize", "(I)V"⟩
def RX5 : String := "PageSlabsModel"
def TX5 : u_T := fun k => match k with
  | 0 => ("PageSlabsModel", "memory", "[I", true)
  | 1 => ("PageSlabsModel", "isStarted", "Z", false)
  | 2 => ("PageSlabsModel", "isUsable", "[Z", true)
  | 3 => ("PageSlabsModel", "firstOf", "[I", true)
  | 4 => ("PageSlabsModel", "orderOf", "[I", true)
  | 5 => ("PageSlabsModel", "isTaken", "[Z", true)
  | 6 => ("PageSlabsModel", "cacheOf", "[I", true)
  | 7 => ("PageSlabsModel", "row", "[I", true)
  | 8 => ("PageSlabsModel", "rowSize", "[I", true)
  | 9 => ("PageSlabsModel", "caches", "I", false)
  | 10 => ("PageSlabsModel", "sizes", "[I", true)
  | 11 => ("PageSlabsModel", "aligns", "[I", true)
  | 12 => ("PageSlabsModel", "strides", "[I", true)
  | 13 => ("PageSlabsModel", "slabOrders", "[I", true)
  | 14 => ("PageSlabsModel", "emptyOf", "[I", true)
  | 15 => ("PageSlabsModel", "armed", "I", false)
  | 16 => ("PageSlabsModel", "misses", "I", false)
  | 17 => ("PageSlabsModel", "taken", "I", false)
  | 18 => ("PageSlabsModel", "given", "I", false)
  | _ => ("PageSlabsModel", "most", "I", false)
def tyX5 : Nat → FieldType := fun k => match k with
  | 0 => .array .int
  | 1 => .boolean
  | 2 => .array .boolean
  | 3 => .array .int
  | 4 => .array .int
  | 5 => .array .boolean
  | 6 => .array .int
  | 7 => .array .int
  | 8 => .array .int
  | 9 => .int
  | 10 => .array .int
  | 11 => .array .int
  | 12 => .array .int
  | 13 => .array .int
  | 14 => .array .int
  | 15 => .int
  | 16 => .int
  | 17 => .int
  | 18 => .int
  | _ => .int
abbrev wsX50 : List Cond := u_ws RX5 TX5 20
theorem nmX5 : ∀ a, a < 20 → ∀ b, b < 20 → a ≠ b → (TX5 a).2.1 ≠ (TX5 b).2.1 := by decide +kernel
theorem tyX5_ok : ∀ k, k < 20 → parseFieldDescriptor (TX5 k).2.2.1 = some (tyX5 k) := by decide +kernel
abbrev cX5_init : ByteArray := prog_7_method_1_code
def yX5_init : MethodName := ⟨RX5, "<init>", "()V"⟩
abbrev cX5_in : ByteArray := prog_7_method_2_code
def yX5_in : MethodName := ⟨RX5, "in", "(III)Z"⟩
abbrev cX5_usable : ByteArray := prog_7_method_3_code
def yX5_usable : MethodName := ⟨RX5, "usable", "(II)Z"⟩
abbrev cX5_usablePages : ByteArray := prog_7_method_4_code
def yX5_usablePages : MethodName := ⟨RX5, "usablePages", "()I"⟩
abbrev cX5_areUsable : ByteArray := prog_7_method_5_code
def yX5_areUsable : MethodName := ⟨RX5, "areUsable", "(II)Z"⟩
abbrev cX5_start : ByteArray := prog_7_method_6_code
def yX5_start : MethodName := ⟨RX5, "start", "()I"⟩
abbrev cX5_makeBlock : ByteArray := prog_7_method_7_code
def yX5_makeBlock : MethodName := ⟨RX5, "makeBlock", "(IIZ)V"⟩
abbrev cX5_isFirst : ByteArray := prog_7_method_8_code
def yX5_isFirst : MethodName := ⟨RX5, "isFirst", "(I)Z"⟩
abbrev cX5_isFree : ByteArray := prog_7_method_9_code
def yX5_isFree : MethodName := ⟨RX5, "isFree", "(I)Z"⟩
abbrev cX5_freePageCount : ByteArray := prog_7_method_10_code
def yX5_freePageCount : MethodName := ⟨RX5, "freePageCount", "()I"⟩
abbrev cX5_takeBlock : ByteArray := prog_7_method_11_code
def yX5_takeBlock : MethodName := ⟨RX5, "takeBlock", "(I)I"⟩
abbrev cX5_giveBlock : ByteArray := prog_7_method_12_code
def yX5_giveBlock : MethodName := ⟨RX5, "giveBlock", "(I)I"⟩
abbrev cX5_pages : ByteArray := prog_7_method_13_code
def yX5_pages : MethodName := ⟨RX5, "pages", "(I)I"⟩
abbrev cX5_faultOfPage : ByteArray := prog_7_method_14_code
def yX5_faultOfPage : MethodName := ⟨RX5, "faultOfPage", "(I)I"⟩
abbrev cX5_freePages : ByteArray := prog_7_method_15_code
def yX5_freePages : MethodName := ⟨RX5, "freePages", "(I)I"⟩
abbrev cX5_addCache : ByteArray := prog_7_method_16_code
def yX5_addCache : MethodName := ⟨RX5, "addCache", "(II)I"⟩
abbrev cX5_cache : ByteArray := prog_7_method_17_code
def yX5_cache : MethodName := ⟨RX5, "cache", "(II)I"⟩
abbrev cX5_objectsOf : ByteArray := prog_7_method_18_code
def yX5_objectsOf : MethodName := ⟨RX5, "objectsOf", "(I)I"⟩
abbrev cX5_isCache : ByteArray := prog_7_method_19_code
def yX5_isCache : MethodName := ⟨RX5, "isCache", "(I)Z"⟩
abbrev cX5_liveOf : ByteArray := prog_7_method_20_code
def yX5_liveOf : MethodName := ⟨RX5, "liveOf", "(I)I"⟩
abbrev cX5_newSlab : ByteArray := prog_7_method_21_code
def yX5_newSlab : MethodName := ⟨RX5, "newSlab", "(I)I"⟩
abbrev cX5_isSlab : ByteArray := prog_7_method_22_code
def yX5_isSlab : MethodName := ⟨RX5, "isSlab", "(II)Z"⟩
abbrev cX5_take : ByteArray := prog_7_method_23_code
def yX5_take : MethodName := ⟨RX5, "take", "(I)I"⟩
abbrev cX5_slabAt : ByteArray := prog_7_method_24_code
def yX5_slabAt : MethodName := ⟨RX5, "slabAt", "(I)I"⟩
abbrev cX5_faultOfObject : ByteArray := prog_7_method_25_code
def yX5_faultOfObject : MethodName := ⟨RX5, "faultOfObject", "(II)I"⟩
abbrev cX5_give : ByteArray := prog_7_method_26_code
def yX5_give : MethodName := ⟨RX5, "give", "(II)I"⟩
abbrev cX5_giveObject : ByteArray := prog_7_method_27_code
def yX5_giveObject : MethodName := ⟨RX5, "giveObject", "(II)I"⟩
abbrev cX5_shrink : ByteArray := prog_7_method_28_code
def yX5_shrink : MethodName := ⟨RX5, "shrink", "(I)I"⟩
abbrev cX5_classOf : ByteArray := prog_7_method_29_code
def yX5_classOf : MethodName := ⟨RX5, "classOf", "(I)I"⟩
abbrev cX5_alloc : ByteArray := prog_7_method_30_code
def yX5_alloc : MethodName := ⟨RX5, "alloc", "(I)I"⟩
abbrev cX5_classAt : ByteArray := prog_7_method_31_code
def yX5_classAt : MethodName := ⟨RX5, "classAt", "(I)I"⟩
abbrev cX5_bytesOf : ByteArray := prog_7_method_32_code
def yX5_bytesOf : MethodName := ⟨RX5, "bytesOf", "(I)I"⟩
abbrev cX5_release : ByteArray := prog_7_method_33_code
def yX5_release : MethodName := ⟨RX5, "release", "(II)I"⟩
abbrev cX5_free : ByteArray := prog_7_method_34_code
def yX5_free : MethodName := ⟨RX5, "free", "(I)I"⟩
abbrev cX5_size : ByteArray := prog_7_method_35_code
def yX5_size : MethodName := ⟨RX5, "size", "(I)I"⟩
abbrev cX5_resize : ByteArray := prog_7_method_36_code
def yX5_resize : MethodName := ⟨RX5, "resize", "(II)I"⟩
abbrev cX5_isAddress : ByteArray := prog_7_method_37_code
def yX5_isAddress : MethodName := ⟨RX5, "isAddress", "(I)Z"⟩
abbrev cX5_read : ByteArray := prog_7_method_38_code
def yX5_read : MethodName := ⟨RX5, "read", "(I)I"⟩
abbrev cX5_write : ByteArray := prog_7_method_39_code
def yX5_write : MethodName := ⟨RX5, "write", "(II)I"⟩
abbrev cX5_arm : ByteArray := prog_7_method_40_code
def yX5_arm : MethodName := ⟨RX5, "arm", "(I)Z"⟩
abbrev cX5_ofPage : ByteArray := prog_7_method_41_code
def yX5_ofPage : MethodName := ⟨RX5, "ofPage", "(I)I"⟩
abbrev cX5_block : ByteArray := prog_7_method_42_code
def yX5_block : MethodName := ⟨RX5, "block", "(I)I"⟩
abbrev cX5_order : ByteArray := prog_7_method_43_code
def yX5_order : MethodName := ⟨RX5, "order", "(I)I"⟩
abbrev cX5_freeBlocks : ByteArray := prog_7_method_44_code
def yX5_freeBlocks : MethodName := ⟨RX5, "freeBlocks", "(I)I"⟩
abbrev cX5_slabsOf : ByteArray := prog_7_method_45_code
def yX5_slabsOf : MethodName := ⟨RX5, "slabsOf", "(I)I"⟩
abbrev cX5_liveIn : ByteArray := prog_7_method_46_code
def yX5_liveIn : MethodName := ⟨RX5, "liveIn", "(I)I"⟩
abbrev cX5_ofCache : ByteArray := prog_7_method_47_code
def yX5_ofCache : MethodName := ⟨RX5, "ofCache", "(II)I"⟩
abbrev cX5_count : ByteArray := prog_7_method_48_code
def yX5_count : MethodName := ⟨RX5, "count", "(I)I"⟩
def RJ6 : String := "java/lang/Integer"
def TJ6 : u_T := fun k => match k with
  | _ => ("", "", "", false)
def tyJ6 : Nat → FieldType := fun k => match k with
  | _ => .int
abbrev wsJ60 : List Cond := u_ws RJ6 TJ6 0
theorem nmJ6 : ∀ a, a < 0 → ∀ b, b < 0 → a ≠ b → (TJ6 a).2.1 ≠ (TJ6 b).2.1 := by decide +kernel
theorem tyJ6_ok : ∀ k, k < 0 → parseFieldDescriptor (TJ6 k).2.2.1 = some (tyJ6 k) := by decide +kernel
abbrev cJ6_bitCount_0f7a4 : ByteArray := prog_8_method_49_code
def yJ6_bitCount_0f7a4 : MethodName := ⟨RJ6, "bitCount", "(I)I"⟩
def RJ9 : String := "java/lang/Math"
def TJ9 : u_T := fun k => match k with
  | _ => ("", "", "", false)
def tyJ9 : Nat → FieldType := fun k => match k with
  | _ => .int
abbrev wsJ90 : List Cond := u_ws RJ9 TJ9 0
theorem nmJ9 : ∀ a, a < 0 → ∀ b, b < 0 → a ≠ b → (TJ9 a).2.1 ≠ (TJ9 b).2.1 := by decide +kernel
theorem tyJ9_ok : ∀ k, k < 0 → parseFieldDescriptor (TJ9 k).2.2.1 = some (tyJ9 k) := by decide +kernel
abbrev cJ9_max_7cf53 : ByteArray := prog_9_method_65_code
def yJ9_max_7cf53 : MethodName := ⟨RJ9, "max", "(II)I"⟩
abbrev cJ9_min_7cf53 : ByteArray := prog_9_method_69_code
def yJ9_min_7cf53 : MethodName := ⟨RJ9, "min", "(II)I"⟩
def RJ10 : String := "java/lang/System"
def TJ10 : u_T := fun k => match k with
  | _ => ("", "", "", false)
def tyJ10 : Nat → FieldType := fun k => match k with
  | _ => .int
abbrev wsJ100 : List Cond := u_ws RJ10 TJ10 0
theorem nmJ10 : ∀ a, a < 0 → ∀ b, b < 0 → a ≠ b → (TJ10 a).2.1 ≠ (TJ10 b).2.1 := by decide +kernel
theorem tyJ10_ok : ∀ k, k < 0 → parseFieldDescriptor (TJ10 k).2.2.1 = some (tyJ10 k) := by decide +kernel
def RL : String := "PageSlabsLaw"
abbrev cL_law : ByteArray := code
def yL_law : MethodName := ⟨RL, "law", "([I)Z"⟩
abbrev vwCl : List vw_C := [(RX0, TX0, 12), (RX1, TX1, 9), (RX2, TX2, 1), (RX3, TX3, 4), (RX4, TX4, 5), (RX5, TX5, 20)]
end
section
theorem dX0_init_0 : decode cX0_init 0 = .ok (.aload_n 0, 1) := by decide +kernel
theorem dX0_init_1 : decode cX0_init 1 = .ok (.invokespecial 3, 3) := by decide +kernel
theorem dX0_init_4 : decode cX0_init 4 = .ok (.aload_n 0, 1) := by decide +kernel
theorem dX0_init_5 : decode cX0_init 5 = .ok (.sipush 256, 3) := by decide +kernel
theorem dX0_init_8 : decode cX0_init 8 = .ok (.newarray .boolean, 2) := by decide +kernel
theorem dX0_init_10 : decode cX0_init 10 = .ok (.putfield 9, 3) := by decide +kernel
theorem dX0_init_13 : decode cX0_init 13 = .ok (.aload_n 0, 1) := by decide +kernel
theorem dX0_init_14 : decode cX0_init 14 = .ok (.sipush 256, 3) := by decide +kernel
theorem dX0_init_17 : decode cX0_init 17 = .ok (.newarray .int, 2) := by decide +kernel
theorem dX0_init_19 : decode cX0_init 19 = .ok (.putfield 15, 3) := by decide +kernel
theorem dX0_init_22 : decode cX0_init 22 = .ok (.aload_n 0, 1) := by decide +kernel
theorem dX0_init_23 : decode cX0_init 23 = .ok (.sipush 256, 3) := by decide +kernel
theorem dX0_init_26 : decode cX0_init 26 = .ok (.newarray .int, 2) := by decide +kernel
theorem dX0_init_28 : decode cX0_init 28 = .ok (.putfield 19, 3) := by decide +kernel
theorem dX0_init_31 : decode cX0_init 31 = .ok (.aload_n 0, 1) := by decide +kernel
theorem dX0_init_32 : decode cX0_init 32 = .ok (.bipush 7, 2) := by decide +kernel
theorem dX0_init_34 : decode cX0_init 34 = .ok (.newarray .int, 2) := by decide +kernel
theorem dX0_init_36 : decode cX0_init 36 = .ok (.putfield 22, 3) := by decide +kernel
theorem dX0_init_39 : decode cX0_init 39 = .ok (.aload_n 0, 1) := by decide +kernel
theorem dX0_init_40 : decode cX0_init 40 = .ok (.iconst (-1), 1) := by decide +kernel
theorem dX0_init_41 : decode cX0_init 41 = .ok (.putfield 25, 3) := by decide +kernel
theorem dX0_init_44 : decode cX0_init 44 = .ok (.return_, 1) := by decide +kernel
theorem dX0_tell_0 : decode cX0_tell 0 = .ok (.iload_n 1, 1) := by decide +kernel
theorem dX0_tell_1 : decode cX0_tell 1 = .ok (.istore_n 3, 1) := by decide +kernel
theorem dX0_tell_2 : decode cX0_tell 2 = .ok (.iload_n 3, 1) := by decide +kernel
theorem dX0_tell_3 : decode cX0_tell 3 = .ok (.iload_n 2, 1) := by decide +kernel
theorem dX0_tell_4 : decode cX0_tell 4 = .ok (.if_icmp .gt 35, 3) := by decide +kernel
theorem dX0_tell_7 : decode cX0_tell 7 = .ok (.aload_n 0, 1) := by decide +kernel
theorem dX0_tell_8 : decode cX0_tell 8 = .ok (.getfield 9, 3) := by decide +kernel
theorem dX0_tell_11 : decode cX0_tell 11 = .ok (.iload_n 3, 1) := by decide +kernel
theorem dX0_tell_12 : decode cX0_tell 12 = .ok (.baload, 1) := by decide +kernel
theorem dX0_tell_13 : decode cX0_tell 13 = .ok (.ifCond .ne 20, 3) := by decide +kernel
theorem dX0_tell_16 : decode cX0_tell 16 = .ok (.aload_n 0, 1) := by decide +kernel
theorem dX0_tell_17 : decode cX0_tell 17 = .ok (.getfield 9, 3) := by decide +kernel
theorem dX0_tell_20 : decode cX0_tell 20 = .ok (.iload_n 3, 1) := by decide +kernel
theorem dX0_tell_21 : decode cX0_tell 21 = .ok (.iconst 1, 1) := by decide +kernel
theorem dX0_tell_22 : decode cX0_tell 22 = .ok (.bastore, 1) := by decide +kernel
theorem dX0_tell_23 : decode cX0_tell 23 = .ok (.aload_n 0, 1) := by decide +kernel
theorem dX0_tell_24 : decode cX0_tell 24 = .ok (.dup, 1) := by decide +kernel
theorem dX0_tell_25 : decode cX0_tell 25 = .ok (.getfield 29, 3) := by decide +kernel
theorem dX0_tell_28 : decode cX0_tell 28 = .ok (.iconst 1, 1) := by decide +kernel
theorem dX0_tell_29 : decode cX0_tell 29 = .ok (.iadd, 1) := by decide +kernel
theorem dX0_tell_30 : decode cX0_tell 30 = .ok (.putfield 29, 3) := by decide +kernel
theorem dX0_tell_33 : decode cX0_tell 33 = .ok (.iinc 3 1, 3) := by decide +kernel
theorem dX0_tell_36 : decode cX0_tell 36 = .ok (.goto (-34), 3) := by decide +kernel
theorem dX0_tell_39 : decode cX0_tell 39 = .ok (.return_, 1) := by decide +kernel
theorem dX0_open_0 : decode cX0_open 0 = .ok (.aload_n 0, 1) := by decide +kernel
theorem dX0_open_1 : decode cX0_open 1 = .ok (.iconst 1, 1) := by decide +kernel
theorem dX0_open_2 : decode cX0_open 2 = .ok (.putfield 32, 3) := by decide +kernel
theorem dX0_open_5 : decode cX0_open 5 = .ok (.iconst 0, 1) := by decide +kernel
theorem dX0_open_6 : decode cX0_open 6 = .ok (.istore_n 1, 1) := by decide +kernel
theorem dX0_open_7 : decode cX0_open 7 = .ok (.iload_n 1, 1) := by decide +kernel
theorem dX0_open_8 : decode cX0_open 8 = .ok (.sipush 256, 3) := by decide +kernel
theorem dX0_open_11 : decode cX0_open 11 = .ok (.if_icmp .ge 24, 3) := by decide +kernel
theorem dX0_open_14 : decode cX0_open 14 = .ok (.aload_n 0, 1) := by decide +kernel
theorem dX0_open_15 : decode cX0_open 15 = .ok (.getfield 9, 3) := by decide +kernel
theorem dX0_open_18 : decode cX0_open 18 = .ok (.iload_n 1, 1) := by decide +kernel
theorem dX0_open_19 : decode cX0_open 19 = .ok (.baload, 1) := by decide +kernel
theorem dX0_open_20 : decode cX0_open 20 = .ok (.ifCond .eq 9, 3) := by decide +kernel
theorem dX0_open_23 : decode cX0_open 23 = .ok (.aload_n 0, 1) := by decide +kernel
theorem dX0_open_24 : decode cX0_open 24 = .ok (.iload_n 1, 1) := by decide +kernel
theorem dX0_open_25 : decode cX0_open 25 = .ok (.iconst 0, 1) := by decide +kernel
theorem dX0_open_26 : decode cX0_open 26 = .ok (.invokevirtual 36, 3) := by decide +kernel
theorem dX0_open_29 : decode cX0_open 29 = .ok (.iinc 1 1, 3) := by decide +kernel
theorem dX0_open_32 : decode cX0_open 32 = .ok (.goto (-25), 3) := by decide +kernel
theorem dX0_open_35 : decode cX0_open 35 = .ok (.aload_n 0, 1) := by decide +kernel
theorem dX0_open_36 : decode cX0_open 36 = .ok (.aload_n 0, 1) := by decide +kernel
theorem dX0_open_37 : decode cX0_open 37 = .ok (.getfield 29, 3) := by decide +kernel
theorem dX0_open_40 : decode cX0_open 40 = .ok (.putfield 40, 3) := by decide +kernel
theorem dX0_open_43 : decode cX0_open 43 = .ok (.return_, 1) := by decide +kernel
theorem dX0_firstOf_0 : decode cX0_firstOf 0 = .ok (.iload_n 1, 1) := by decide +kernel
theorem dX0_firstOf_1 : decode cX0_firstOf 1 = .ok (.invokestatic 43, 3) := by decide +kernel
theorem dX0_firstOf_4 : decode cX0_firstOf 4 = .ok (.ifCond .ne 5, 3) := by decide +kernel
theorem dX0_firstOf_7 : decode cX0_firstOf 7 = .ok (.iconst (-1), 1) := by decide +kernel
theorem dX0_firstOf_8 : decode cX0_firstOf 8 = .ok (.ireturn, 1) := by decide +kernel
theorem dX0_firstOf_9 : decode cX0_firstOf 9 = .ok (.iconst 0, 1) := by decide +kernel
theorem dX0_firstOf_10 : decode cX0_firstOf 10 = .ok (.istore_n 2, 1) := by decide +kernel
theorem dX0_firstOf_11 : decode cX0_firstOf 11 = .ok (.iload_n 2, 1) := by decide +kernel
theorem dX0_firstOf_12 : decode cX0_firstOf 12 = .ok (.bipush 6, 2) := by decide +kernel
theorem dX0_firstOf_14 : decode cX0_firstOf 14 = .ok (.if_icmp .gt 30, 3) := by decide +kernel
theorem dX0_firstOf_17 : decode cX0_firstOf 17 = .ok (.iload_n 1, 1) := by decide +kernel
theorem dX0_firstOf_18 : decode cX0_firstOf 18 = .ok (.iconst 1, 1) := by decide +kernel
theorem dX0_firstOf_19 : decode cX0_firstOf 19 = .ok (.iload_n 2, 1) := by decide +kernel
theorem dX0_firstOf_20 : decode cX0_firstOf 20 = .ok (.ishl, 1) := by decide +kernel
theorem dX0_firstOf_21 : decode cX0_firstOf 21 = .ok (.ineg, 1) := by decide +kernel
theorem dX0_firstOf_22 : decode cX0_firstOf 22 = .ok (.iand, 1) := by decide +kernel
theorem dX0_firstOf_23 : decode cX0_firstOf 23 = .ok (.istore_n 3, 1) := by decide +kernel
theorem dX0_firstOf_24 : decode cX0_firstOf 24 = .ok (.aload_n 0, 1) := by decide +kernel
theorem dX0_firstOf_25 : decode cX0_firstOf 25 = .ok (.getfield 15, 3) := by decide +kernel
theorem dX0_firstOf_28 : decode cX0_firstOf 28 = .ok (.iload_n 3, 1) := by decide +kernel
theorem dX0_firstOf_29 : decode cX0_firstOf 29 = .ok (.iaload, 1) := by decide +kernel
theorem dX0_firstOf_30 : decode cX0_firstOf 30 = .ok (.iload_n 2, 1) := by decide +kernel
theorem dX0_firstOf_31 : decode cX0_firstOf 31 = .ok (.iconst 1, 1) := by decide +kernel
theorem dX0_firstOf_32 : decode cX0_firstOf 32 = .ok (.iadd, 1) := by decide +kernel
theorem dX0_firstOf_33 : decode cX0_firstOf 33 = .ok (.if_icmp .ne 5, 3) := by decide +kernel
theorem dX0_firstOf_36 : decode cX0_firstOf 36 = .ok (.iload_n 3, 1) := by decide +kernel
theorem dX0_firstOf_37 : decode cX0_firstOf 37 = .ok (.ireturn, 1) := by decide +kernel
theorem dX0_firstOf_38 : decode cX0_firstOf 38 = .ok (.iinc 2 1, 3) := by decide +kernel
theorem dX0_firstOf_41 : decode cX0_firstOf 41 = .ok (.goto (-30), 3) := by decide +kernel
theorem dX0_firstOf_44 : decode cX0_firstOf 44 = .ok (.iconst (-1), 1) := by decide +kernel
theorem dX0_firstOf_45 : decode cX0_firstOf 45 = .ok (.ireturn, 1) := by decide +kernel
theorem dX0_orderFrom_0 : decode cX0_orderFrom 0 = .ok (.iload_n 1, 1) := by decide +kernel
theorem dX0_orderFrom_1 : decode cX0_orderFrom 1 = .ok (.invokestatic 43, 3) := by decide +kernel
theorem dX0_orderFrom_4 : decode cX0_orderFrom 4 = .ok (.ifCond .eq 14, 3) := by decide +kernel
theorem dX0_orderFrom_7 : decode cX0_orderFrom 7 = .ok (.aload_n 0, 1) := by decide +kernel
theorem dX0_orderFrom_8 : decode cX0_orderFrom 8 = .ok (.getfield 15, 3) := by decide +kernel
theorem dX0_orderFrom_11 : decode cX0_orderFrom 11 = .ok (.iload_n 1, 1) := by decide +kernel
theorem dX0_orderFrom_12 : decode cX0_orderFrom 12 = .ok (.iaload, 1) := by decide +kernel
theorem dX0_orderFrom_13 : decode cX0_orderFrom 13 = .ok (.iconst 1, 1) := by decide +kernel
theorem dX0_orderFrom_14 : decode cX0_orderFrom 14 = .ok (.isub, 1) := by decide +kernel
theorem dX0_orderFrom_15 : decode cX0_orderFrom 15 = .ok (.goto 4, 3) := by decide +kernel
theorem dX0_orderFrom_18 : decode cX0_orderFrom 18 = .ok (.iconst (-1), 1) := by decide +kernel
theorem dX0_orderFrom_19 : decode cX0_orderFrom 19 = .ok (.ireturn, 1) := by decide +kernel
theorem dX0_useFrom_0 : decode cX0_useFrom 0 = .ok (.iload_n 1, 1) := by decide +kernel
theorem dX0_useFrom_1 : decode cX0_useFrom 1 = .ok (.invokestatic 43, 3) := by decide +kernel
theorem dX0_useFrom_4 : decode cX0_useFrom 4 = .ok (.ifCond .eq 21, 3) := by decide +kernel
theorem dX0_useFrom_7 : decode cX0_useFrom 7 = .ok (.aload_n 0, 1) := by decide +kernel
theorem dX0_useFrom_8 : decode cX0_useFrom 8 = .ok (.getfield 15, 3) := by decide +kernel
theorem dX0_useFrom_11 : decode cX0_useFrom 11 = .ok (.iload_n 1, 1) := by decide +kernel
theorem dX0_useFrom_12 : decode cX0_useFrom 12 = .ok (.iaload, 1) := by decide +kernel
theorem dX0_useFrom_13 : decode cX0_useFrom 13 = .ok (.ifCond .eq 12, 3) := by decide +kernel
theorem dX0_useFrom_16 : decode cX0_useFrom 16 = .ok (.aload_n 0, 1) := by decide +kernel
theorem dX0_useFrom_17 : decode cX0_useFrom 17 = .ok (.getfield 19, 3) := by decide +kernel
theorem dX0_useFrom_20 : decode cX0_useFrom 20 = .ok (.iload_n 1, 1) := by decide +kernel
theorem dX0_useFrom_21 : decode cX0_useFrom 21 = .ok (.iaload, 1) := by decide +kernel
theorem dX0_useFrom_22 : decode cX0_useFrom 22 = .ok (.goto 4, 3) := by decide +kernel
theorem dX0_useFrom_25 : decode cX0_useFrom 25 = .ok (.iconst (-1), 1) := by decide +kernel
theorem dX0_useFrom_26 : decode cX0_useFrom 26 = .ok (.ireturn, 1) := by decide +kernel
theorem dX0_claim_0 : decode cX0_claim 0 = .ok (.aload_n 0, 1) := by decide +kernel
theorem dX0_claim_1 : decode cX0_claim 1 = .ok (.getfield 25, 3) := by decide +kernel
theorem dX0_claim_4 : decode cX0_claim 4 = .ok (.ifCond .ne 7, 3) := by decide +kernel
theorem dX0_claim_7 : decode cX0_claim 7 = .ok (.iconst 1, 1) := by decide +kernel
theorem dX0_claim_8 : decode cX0_claim 8 = .ok (.goto 4, 3) := by decide +kernel
theorem dX0_claim_11 : decode cX0_claim 11 = .ok (.iconst 0, 1) := by decide +kernel
theorem dX0_claim_12 : decode cX0_claim 12 = .ok (.istore_n 3, 1) := by decide +kernel
theorem dX0_claim_13 : decode cX0_claim 13 = .ok (.aload_n 0, 1) := by decide +kernel
theorem dX0_claim_14 : decode cX0_claim 14 = .ok (.getfield 25, 3) := by decide +kernel
theorem dX0_claim_17 : decode cX0_claim 17 = .ok (.iconst (-1), 1) := by decide +kernel
theorem dX0_claim_18 : decode cX0_claim 18 = .ok (.if_icmp .eq 13, 3) := by decide +kernel
theorem dX0_claim_21 : decode cX0_claim 21 = .ok (.aload_n 0, 1) := by decide +kernel
theorem dX0_claim_22 : decode cX0_claim 22 = .ok (.dup, 1) := by decide +kernel
theorem dX0_claim_23 : decode cX0_claim 23 = .ok (.getfield 25, 3) := by decide +kernel
theorem dX0_claim_26 : decode cX0_claim 26 = .ok (.iconst 1, 1) := by decide +kernel
theorem dX0_claim_27 : decode cX0_claim 27 = .ok (.isub, 1) := by decide +kernel
theorem dX0_claim_28 : decode cX0_claim 28 = .ok (.putfield 25, 3) := by decide +kernel
theorem dX0_claim_31 : decode cX0_claim 31 = .ok (.iload_n 3, 1) := by decide +kernel
theorem dX0_claim_32 : decode cX0_claim 32 = .ok (.ifCond .eq 7, 3) := by decide +kernel
theorem dX0_claim_35 : decode cX0_claim 35 = .ok (.iconst (-1), 1) := by decide +kernel
theorem dX0_claim_36 : decode cX0_claim 36 = .ok (.goto 8, 3) := by decide +kernel
theorem dX0_claim_39 : decode cX0_claim 39 = .ok (.aload_n 0, 1) := by decide +kernel
theorem dX0_claim_40 : decode cX0_claim 40 = .ok (.iload_n 1, 1) := by decide +kernel
theorem dX0_claim_41 : decode cX0_claim 41 = .ok (.invokevirtual 47, 3) := by decide +kernel
theorem dX0_claim_44 : decode cX0_claim 44 = .ok (.istore 4, 2) := by decide +kernel
theorem dX0_claim_46 : decode cX0_claim 46 = .ok (.iload 4, 2) := by decide +kernel
theorem dX0_claim_48 : decode cX0_claim 48 = .ok (.iconst (-1), 1) := by decide +kernel
theorem dX0_claim_49 : decode cX0_claim 49 = .ok (.if_icmp .ne 15, 3) := by decide +kernel
theorem dX0_claim_52 : decode cX0_claim 52 = .ok (.aload_n 0, 1) := by decide +kernel
theorem dX0_claim_53 : decode cX0_claim 53 = .ok (.dup, 1) := by decide +kernel
theorem dX0_claim_54 : decode cX0_claim 54 = .ok (.getfield 51, 3) := by decide +kernel
theorem dX0_claim_57 : decode cX0_claim 57 = .ok (.iconst 1, 1) := by decide +kernel
theorem dX0_claim_58 : decode cX0_claim 58 = .ok (.iadd, 1) := by decide +kernel
theorem dX0_claim_59 : decode cX0_claim 59 = .ok (.putfield 51, 3) := by decide +kernel
theorem dX0_claim_62 : decode cX0_claim 62 = .ok (.iconst (-1), 1) := by decide +kernel
theorem dX0_claim_63 : decode cX0_claim 63 = .ok (.ireturn, 1) := by decide +kernel
theorem dX0_claim_64 : decode cX0_claim 64 = .ok (.aload_n 0, 1) := by decide +kernel
theorem dX0_claim_65 : decode cX0_claim 65 = .ok (.iload 4, 2) := by decide +kernel
theorem dX0_claim_67 : decode cX0_claim 67 = .ok (.iload_n 1, 1) := by decide +kernel
theorem dX0_claim_68 : decode cX0_claim 68 = .ok (.invokevirtual 54, 3) := by decide +kernel
theorem dX0_claim_71 : decode cX0_claim 71 = .ok (.aload_n 0, 1) := by decide +kernel
theorem dX0_claim_72 : decode cX0_claim 72 = .ok (.getfield 19, 3) := by decide +kernel
theorem dX0_claim_75 : decode cX0_claim 75 = .ok (.iload 4, 2) := by decide +kernel
theorem dX0_claim_77 : decode cX0_claim 77 = .ok (.iload_n 2, 1) := by decide +kernel
theorem dX0_claim_78 : decode cX0_claim 78 = .ok (.iastore, 1) := by decide +kernel
theorem dX0_claim_79 : decode cX0_claim 79 = .ok (.aload_n 0, 1) := by decide +kernel
theorem dX0_claim_80 : decode cX0_claim 80 = .ok (.dup, 1) := by decide +kernel
theorem dX0_claim_81 : decode cX0_claim 81 = .ok (.getfield 57, 3) := by decide +kernel
theorem dX0_claim_84 : decode cX0_claim 84 = .ok (.iconst 1, 1) := by decide +kernel
theorem dX0_claim_85 : decode cX0_claim 85 = .ok (.iadd, 1) := by decide +kernel
theorem dX0_claim_86 : decode cX0_claim 86 = .ok (.putfield 57, 3) := by decide +kernel
theorem dX0_claim_89 : decode cX0_claim 89 = .ok (.aload_n 0, 1) := by decide +kernel
theorem dX0_claim_90 : decode cX0_claim 90 = .ok (.dup, 1) := by decide +kernel
theorem dX0_claim_91 : decode cX0_claim 91 = .ok (.getfield 40, 3) := by decide +kernel
theorem dX0_claim_94 : decode cX0_claim 94 = .ok (.iconst 1, 1) := by decide +kernel
theorem dX0_claim_95 : decode cX0_claim 95 = .ok (.iload_n 1, 1) := by decide +kernel
theorem dX0_claim_96 : decode cX0_claim 96 = .ok (.ishl, 1) := by decide +kernel
theorem dX0_claim_97 : decode cX0_claim 97 = .ok (.isub, 1) := by decide +kernel
theorem dX0_claim_98 : decode cX0_claim 98 = .ok (.putfield 40, 3) := by decide +kernel
theorem dX0_claim_101 : decode cX0_claim 101 = .ok (.aload_n 0, 1) := by decide +kernel
theorem dX0_claim_102 : decode cX0_claim 102 = .ok (.aload_n 0, 1) := by decide +kernel
theorem dX0_claim_103 : decode cX0_claim 103 = .ok (.getfield 60, 3) := by decide +kernel
theorem dX0_claim_106 : decode cX0_claim 106 = .ok (.aload_n 0, 1) := by decide +kernel
theorem dX0_claim_107 : decode cX0_claim 107 = .ok (.getfield 29, 3) := by decide +kernel
theorem dX0_claim_110 : decode cX0_claim 110 = .ok (.aload_n 0, 1) := by decide +kernel
theorem dX0_claim_111 : decode cX0_claim 111 = .ok (.getfield 40, 3) := by decide +kernel
theorem dX0_claim_114 : decode cX0_claim 114 = .ok (.isub, 1) := by decide +kernel
theorem dX0_claim_115 : decode cX0_claim 115 = .ok (.invokestatic 63, 3) := by decide +kernel
theorem dX0_claim_118 : decode cX0_claim 118 = .ok (.putfield 60, 3) := by decide +kernel
theorem dX0_claim_121 : decode cX0_claim 121 = .ok (.iload 4, 2) := by decide +kernel
theorem dX0_claim_123 : decode cX0_claim 123 = .ok (.ireturn, 1) := by decide +kernel
theorem dX0_release_0 : decode cX0_release 0 = .ok (.aload_n 0, 1) := by decide +kernel
theorem dX0_release_1 : decode cX0_release 1 = .ok (.iload_n 1, 1) := by decide +kernel
theorem dX0_release_2 : decode cX0_release 2 = .ok (.invokevirtual 69, 3) := by decide +kernel
theorem dX0_release_5 : decode cX0_release 5 = .ok (.istore_n 2, 1) := by decide +kernel
theorem dX0_release_6 : decode cX0_release 6 = .ok (.iload_n 2, 1) := by decide +kernel
theorem dX0_release_7 : decode cX0_release 7 = .ok (.iconst (-1), 1) := by decide +kernel
theorem dX0_release_8 : decode cX0_release 8 = .ok (.if_icmp .ne 4, 3) := by decide +kernel
theorem dX0_release_11 : decode cX0_release 11 = .ok (.return_, 1) := by decide +kernel
theorem dX0_release_12 : decode cX0_release 12 = .ok (.aload_n 0, 1) := by decide +kernel
theorem dX0_release_13 : decode cX0_release 13 = .ok (.dup, 1) := by decide +kernel
theorem dX0_release_14 : decode cX0_release 14 = .ok (.getfield 72, 3) := by decide +kernel
theorem dX0_release_17 : decode cX0_release 17 = .ok (.iconst 1, 1) := by decide +kernel
theorem dX0_release_18 : decode cX0_release 18 = .ok (.iadd, 1) := by decide +kernel
theorem dX0_release_19 : decode cX0_release 19 = .ok (.putfield 72, 3) := by decide +kernel
theorem dX0_release_22 : decode cX0_release 22 = .ok (.aload_n 0, 1) := by decide +kernel
theorem dX0_release_23 : decode cX0_release 23 = .ok (.dup, 1) := by decide +kernel
theorem dX0_release_24 : decode cX0_release 24 = .ok (.getfield 40, 3) := by decide +kernel
theorem dX0_release_27 : decode cX0_release 27 = .ok (.iconst 1, 1) := by decide +kernel
theorem dX0_release_28 : decode cX0_release 28 = .ok (.iload_n 2, 1) := by decide +kernel
theorem dX0_release_29 : decode cX0_release 29 = .ok (.ishl, 1) := by decide +kernel
theorem dX0_release_30 : decode cX0_release 30 = .ok (.iadd, 1) := by decide +kernel
theorem dX0_release_31 : decode cX0_release 31 = .ok (.putfield 40, 3) := by decide +kernel
theorem dX0_release_34 : decode cX0_release 34 = .ok (.aload_n 0, 1) := by decide +kernel
theorem dX0_release_35 : decode cX0_release 35 = .ok (.iload_n 1, 1) := by decide +kernel
theorem dX0_release_36 : decode cX0_release 36 = .ok (.iload_n 2, 1) := by decide +kernel
theorem dX0_release_37 : decode cX0_release 37 = .ok (.invokevirtual 36, 3) := by decide +kernel
theorem dX0_release_40 : decode cX0_release 40 = .ok (.return_, 1) := by decide +kernel
theorem dX0_leastFree_0 : decode cX0_leastFree 0 = .ok (.iload_n 1, 1) := by decide +kernel
theorem dX0_leastFree_1 : decode cX0_leastFree 1 = .ok (.istore_n 2, 1) := by decide +kernel
theorem dX0_leastFree_2 : decode cX0_leastFree 2 = .ok (.iload_n 2, 1) := by decide +kernel
theorem dX0_leastFree_3 : decode cX0_leastFree 3 = .ok (.bipush 6, 2) := by decide +kernel
theorem dX0_leastFree_5 : decode cX0_leastFree 5 = .ok (.if_icmp .ge 18, 3) := by decide +kernel
theorem dX0_leastFree_8 : decode cX0_leastFree 8 = .ok (.aload_n 0, 1) := by decide +kernel
theorem dX0_leastFree_9 : decode cX0_leastFree 9 = .ok (.getfield 22, 3) := by decide +kernel
theorem dX0_leastFree_12 : decode cX0_leastFree 12 = .ok (.iload_n 2, 1) := by decide +kernel
theorem dX0_leastFree_13 : decode cX0_leastFree 13 = .ok (.iaload, 1) := by decide +kernel
theorem dX0_leastFree_14 : decode cX0_leastFree 14 = .ok (.ifCond .ne 9, 3) := by decide +kernel
theorem dX0_leastFree_17 : decode cX0_leastFree 17 = .ok (.iinc 2 1, 3) := by decide +kernel
theorem dX0_leastFree_20 : decode cX0_leastFree 20 = .ok (.goto (-18), 3) := by decide +kernel
theorem dX0_leastFree_23 : decode cX0_leastFree 23 = .ok (.iconst 0, 1) := by decide +kernel
theorem dX0_leastFree_24 : decode cX0_leastFree 24 = .ok (.istore_n 3, 1) := by decide +kernel
theorem dX0_leastFree_25 : decode cX0_leastFree 25 = .ok (.iload_n 3, 1) := by decide +kernel
theorem dX0_leastFree_26 : decode cX0_leastFree 26 = .ok (.sipush 256, 3) := by decide +kernel
theorem dX0_leastFree_29 : decode cX0_leastFree 29 = .ok (.if_icmp .ge 20, 3) := by decide +kernel
theorem dX0_leastFree_32 : decode cX0_leastFree 32 = .ok (.aload_n 0, 1) := by decide +kernel
theorem dX0_leastFree_33 : decode cX0_leastFree 33 = .ok (.iload_n 3, 1) := by decide +kernel
theorem dX0_leastFree_34 : decode cX0_leastFree 34 = .ok (.iload_n 2, 1) := by decide +kernel
theorem dX0_leastFree_35 : decode cX0_leastFree 35 = .ok (.invokevirtual 75, 3) := by decide +kernel
theorem dX0_leastFree_38 : decode cX0_leastFree 38 = .ok (.ifCond .eq 5, 3) := by decide +kernel
theorem dX0_leastFree_41 : decode cX0_leastFree 41 = .ok (.iload_n 3, 1) := by decide +kernel
theorem dX0_leastFree_42 : decode cX0_leastFree 42 = .ok (.ireturn, 1) := by decide +kernel
theorem dX0_leastFree_43 : decode cX0_leastFree 43 = .ok (.iinc 3 1, 3) := by decide +kernel
theorem dX0_leastFree_46 : decode cX0_leastFree 46 = .ok (.goto (-21), 3) := by decide +kernel
theorem dX0_leastFree_49 : decode cX0_leastFree 49 = .ok (.iconst (-1), 1) := by decide +kernel
theorem dX0_leastFree_50 : decode cX0_leastFree 50 = .ok (.ireturn, 1) := by decide +kernel
theorem dX0_isFree_0 : decode cX0_isFree 0 = .ok (.aload_n 0, 1) := by decide +kernel
theorem dX0_isFree_1 : decode cX0_isFree 1 = .ok (.getfield 15, 3) := by decide +kernel
theorem dX0_isFree_4 : decode cX0_isFree 4 = .ok (.iload_n 1, 1) := by decide +kernel
theorem dX0_isFree_5 : decode cX0_isFree 5 = .ok (.iaload, 1) := by decide +kernel
theorem dX0_isFree_6 : decode cX0_isFree 6 = .ok (.iload_n 2, 1) := by decide +kernel
theorem dX0_isFree_7 : decode cX0_isFree 7 = .ok (.iconst 1, 1) := by decide +kernel
theorem dX0_isFree_8 : decode cX0_isFree 8 = .ok (.iadd, 1) := by decide +kernel
theorem dX0_isFree_9 : decode cX0_isFree 9 = .ok (.if_icmp .ne 16, 3) := by decide +kernel
theorem dX0_isFree_12 : decode cX0_isFree 12 = .ok (.aload_n 0, 1) := by decide +kernel
theorem dX0_isFree_13 : decode cX0_isFree 13 = .ok (.getfield 19, 3) := by decide +kernel
theorem dX0_isFree_16 : decode cX0_isFree 16 = .ok (.iload_n 1, 1) := by decide +kernel
theorem dX0_isFree_17 : decode cX0_isFree 17 = .ok (.iaload, 1) := by decide +kernel
theorem dX0_isFree_18 : decode cX0_isFree 18 = .ok (.ifCond .ne 7, 3) := by decide +kernel
theorem dX0_isFree_21 : decode cX0_isFree 21 = .ok (.iconst 1, 1) := by decide +kernel
theorem dX0_isFree_22 : decode cX0_isFree 22 = .ok (.goto 4, 3) := by decide +kernel
theorem dX0_isFree_25 : decode cX0_isFree 25 = .ok (.iconst 0, 1) := by decide +kernel
theorem dX0_isFree_26 : decode cX0_isFree 26 = .ok (.ireturn, 1) := by decide +kernel
theorem dX0_halve_0 : decode cX0_halve 0 = .ok (.aload_n 0, 1) := by decide +kernel
theorem dX0_halve_1 : decode cX0_halve 1 = .ok (.getfield 15, 3) := by decide +kernel
theorem dX0_halve_4 : decode cX0_halve 4 = .ok (.iload_n 1, 1) := by decide +kernel
theorem dX0_halve_5 : decode cX0_halve 5 = .ok (.iaload, 1) := by decide +kernel
theorem dX0_halve_6 : decode cX0_halve 6 = .ok (.iconst 1, 1) := by decide +kernel
theorem dX0_halve_7 : decode cX0_halve 7 = .ok (.isub, 1) := by decide +kernel
theorem dX0_halve_8 : decode cX0_halve 8 = .ok (.istore_n 3, 1) := by decide +kernel
theorem dX0_halve_9 : decode cX0_halve 9 = .ok (.aload_n 0, 1) := by decide +kernel
theorem dX0_halve_10 : decode cX0_halve 10 = .ok (.getfield 22, 3) := by decide +kernel
theorem dX0_halve_13 : decode cX0_halve 13 = .ok (.iload_n 3, 1) := by decide +kernel
theorem dX0_halve_14 : decode cX0_halve 14 = .ok (.dup2, 1) := by decide +kernel
theorem dX0_halve_15 : decode cX0_halve 15 = .ok (.iaload, 1) := by decide +kernel
theorem dX0_halve_16 : decode cX0_halve 16 = .ok (.iconst 1, 1) := by decide +kernel
theorem dX0_halve_17 : decode cX0_halve 17 = .ok (.isub, 1) := by decide +kernel
theorem dX0_halve_18 : decode cX0_halve 18 = .ok (.iastore, 1) := by decide +kernel
theorem dX0_halve_19 : decode cX0_halve 19 = .ok (.iload_n 3, 1) := by decide +kernel
theorem dX0_halve_20 : decode cX0_halve 20 = .ok (.iconst 1, 1) := by decide +kernel
theorem dX0_halve_21 : decode cX0_halve 21 = .ok (.isub, 1) := by decide +kernel
theorem dX0_halve_22 : decode cX0_halve 22 = .ok (.istore 4, 2) := by decide +kernel
theorem dX0_halve_24 : decode cX0_halve 24 = .ok (.iload 4, 2) := by decide +kernel
theorem dX0_halve_26 : decode cX0_halve 26 = .ok (.iload_n 2, 1) := by decide +kernel
theorem dX0_halve_27 : decode cX0_halve 27 = .ok (.if_icmp .lt 21, 3) := by decide +kernel
theorem dX0_halve_30 : decode cX0_halve 30 = .ok (.aload_n 0, 1) := by decide +kernel
theorem dX0_halve_31 : decode cX0_halve 31 = .ok (.iload_n 1, 1) := by decide +kernel
theorem dX0_halve_32 : decode cX0_halve 32 = .ok (.iconst 1, 1) := by decide +kernel
theorem dX0_halve_33 : decode cX0_halve 33 = .ok (.iload 4, 2) := by decide +kernel
theorem dX0_halve_35 : decode cX0_halve 35 = .ok (.ishl, 1) := by decide +kernel
theorem dX0_halve_36 : decode cX0_halve 36 = .ok (.iadd, 1) := by decide +kernel
theorem dX0_halve_37 : decode cX0_halve 37 = .ok (.iload 4, 2) := by decide +kernel
theorem dX0_halve_39 : decode cX0_halve 39 = .ok (.invokevirtual 79, 3) := by decide +kernel
theorem dX0_halve_42 : decode cX0_halve 42 = .ok (.iinc 4 (-1), 3) := by decide +kernel
theorem dX0_halve_45 : decode cX0_halve 45 = .ok (.goto (-21), 3) := by decide +kernel
theorem dX0_halve_48 : decode cX0_halve 48 = .ok (.aload_n 0, 1) := by decide +kernel
theorem dX0_halve_49 : decode cX0_halve 49 = .ok (.getfield 15, 3) := by decide +kernel
theorem dX0_halve_52 : decode cX0_halve 52 = .ok (.iload_n 1, 1) := by decide +kernel
theorem dX0_halve_53 : decode cX0_halve 53 = .ok (.iload_n 2, 1) := by decide +kernel
theorem dX0_halve_54 : decode cX0_halve 54 = .ok (.iconst 1, 1) := by decide +kernel
theorem dX0_halve_55 : decode cX0_halve 55 = .ok (.iadd, 1) := by decide +kernel
theorem dX0_halve_56 : decode cX0_halve 56 = .ok (.iastore, 1) := by decide +kernel
theorem dX0_halve_57 : decode cX0_halve 57 = .ok (.return_, 1) := by decide +kernel
theorem dX0_join_0 : decode cX0_join 0 = .ok (.iload_n 1, 1) := by decide +kernel
theorem dX0_join_1 : decode cX0_join 1 = .ok (.istore_n 3, 1) := by decide +kernel
theorem dX0_join_2 : decode cX0_join 2 = .ok (.iload_n 2, 1) := by decide +kernel
theorem dX0_join_3 : decode cX0_join 3 = .ok (.istore 4, 2) := by decide +kernel
theorem dX0_join_5 : decode cX0_join 5 = .ok (.iload 4, 2) := by decide +kernel
theorem dX0_join_7 : decode cX0_join 7 = .ok (.bipush 6, 2) := by decide +kernel
theorem dX0_join_9 : decode cX0_join 9 = .ok (.if_icmp .ge 65, 3) := by decide +kernel
theorem dX0_join_12 : decode cX0_join 12 = .ok (.aload_n 0, 1) := by decide +kernel
theorem dX0_join_13 : decode cX0_join 13 = .ok (.iload_n 3, 1) := by decide +kernel
theorem dX0_join_14 : decode cX0_join 14 = .ok (.iload 4, 2) := by decide +kernel
theorem dX0_join_16 : decode cX0_join 16 = .ok (.invokestatic 82, 3) := by decide +kernel
theorem dX0_join_19 : decode cX0_join 19 = .ok (.iload 4, 2) := by decide +kernel
theorem dX0_join_21 : decode cX0_join 21 = .ok (.invokevirtual 75, 3) := by decide +kernel
theorem dX0_join_24 : decode cX0_join 24 = .ok (.ifCond .eq 50, 3) := by decide +kernel
theorem dX0_join_27 : decode cX0_join 27 = .ok (.iload_n 3, 1) := by decide +kernel
theorem dX0_join_28 : decode cX0_join 28 = .ok (.iload 4, 2) := by decide +kernel
theorem dX0_join_30 : decode cX0_join 30 = .ok (.invokestatic 82, 3) := by decide +kernel
theorem dX0_join_33 : decode cX0_join 33 = .ok (.istore 5, 2) := by decide +kernel
theorem dX0_join_35 : decode cX0_join 35 = .ok (.aload_n 0, 1) := by decide +kernel
theorem dX0_join_36 : decode cX0_join 36 = .ok (.getfield 22, 3) := by decide +kernel
theorem dX0_join_39 : decode cX0_join 39 = .ok (.iload 4, 2) := by decide +kernel
theorem dX0_join_41 : decode cX0_join 41 = .ok (.dup2, 1) := by decide +kernel
theorem dX0_join_42 : decode cX0_join 42 = .ok (.iaload, 1) := by decide +kernel
theorem dX0_join_43 : decode cX0_join 43 = .ok (.iconst 1, 1) := by decide +kernel
theorem dX0_join_44 : decode cX0_join 44 = .ok (.isub, 1) := by decide +kernel
theorem dX0_join_45 : decode cX0_join 45 = .ok (.iastore, 1) := by decide +kernel
theorem dX0_join_46 : decode cX0_join 46 = .ok (.aload_n 0, 1) := by decide +kernel
theorem dX0_join_47 : decode cX0_join 47 = .ok (.getfield 15, 3) := by decide +kernel
theorem dX0_join_50 : decode cX0_join 50 = .ok (.iload_n 3, 1) := by decide +kernel
theorem dX0_join_51 : decode cX0_join 51 = .ok (.iconst 0, 1) := by decide +kernel
theorem dX0_join_52 : decode cX0_join 52 = .ok (.iastore, 1) := by decide +kernel
theorem dX0_join_53 : decode cX0_join 53 = .ok (.aload_n 0, 1) := by decide +kernel
theorem dX0_join_54 : decode cX0_join 54 = .ok (.getfield 15, 3) := by decide +kernel
theorem dX0_join_57 : decode cX0_join 57 = .ok (.iload 5, 2) := by decide +kernel
theorem dX0_join_59 : decode cX0_join 59 = .ok (.iconst 0, 1) := by decide +kernel
theorem dX0_join_60 : decode cX0_join 60 = .ok (.iastore, 1) := by decide +kernel
theorem dX0_join_61 : decode cX0_join 61 = .ok (.iload_n 3, 1) := by decide +kernel
theorem dX0_join_62 : decode cX0_join 62 = .ok (.iload 5, 2) := by decide +kernel
theorem dX0_join_64 : decode cX0_join 64 = .ok (.invokestatic 85, 3) := by decide +kernel
theorem dX0_join_67 : decode cX0_join 67 = .ok (.istore_n 3, 1) := by decide +kernel
theorem dX0_join_68 : decode cX0_join 68 = .ok (.iinc 4 1, 3) := by decide +kernel
theorem dX0_join_71 : decode cX0_join 71 = .ok (.goto (-66), 3) := by decide +kernel
theorem dX0_join_74 : decode cX0_join 74 = .ok (.aload_n 0, 1) := by decide +kernel
theorem dX0_join_75 : decode cX0_join 75 = .ok (.iload_n 3, 1) := by decide +kernel
theorem dX0_join_76 : decode cX0_join 76 = .ok (.iload 4, 2) := by decide +kernel
theorem dX0_join_78 : decode cX0_join 78 = .ok (.invokevirtual 79, 3) := by decide +kernel
theorem dX0_join_81 : decode cX0_join 81 = .ok (.return_, 1) := by decide +kernel
theorem dX0_buddyOf_0 : decode cX0_buddyOf 0 = .ok (.iload_n 0, 1) := by decide +kernel
theorem dX0_buddyOf_1 : decode cX0_buddyOf 1 = .ok (.iconst 1, 1) := by decide +kernel
theorem dX0_buddyOf_2 : decode cX0_buddyOf 2 = .ok (.iload_n 1, 1) := by decide +kernel
theorem dX0_buddyOf_3 : decode cX0_buddyOf 3 = .ok (.ishl, 1) := by decide +kernel
theorem dX0_buddyOf_4 : decode cX0_buddyOf 4 = .ok (.ixor, 1) := by decide +kernel
theorem dX0_buddyOf_5 : decode cX0_buddyOf 5 = .ok (.ireturn, 1) := by decide +kernel
theorem dX0_layFree_0 : decode cX0_layFree 0 = .ok (.aload_n 0, 1) := by decide +kernel
theorem dX0_layFree_1 : decode cX0_layFree 1 = .ok (.getfield 15, 3) := by decide +kernel
theorem dX0_layFree_4 : decode cX0_layFree 4 = .ok (.iload_n 1, 1) := by decide +kernel
theorem dX0_layFree_5 : decode cX0_layFree 5 = .ok (.iload_n 2, 1) := by decide +kernel
theorem dX0_layFree_6 : decode cX0_layFree 6 = .ok (.iconst 1, 1) := by decide +kernel
theorem dX0_layFree_7 : decode cX0_layFree 7 = .ok (.iadd, 1) := by decide +kernel
theorem dX0_layFree_8 : decode cX0_layFree 8 = .ok (.iastore, 1) := by decide +kernel
theorem dX0_layFree_9 : decode cX0_layFree 9 = .ok (.aload_n 0, 1) := by decide +kernel
theorem dX0_layFree_10 : decode cX0_layFree 10 = .ok (.getfield 19, 3) := by decide +kernel
theorem dX0_layFree_13 : decode cX0_layFree 13 = .ok (.iload_n 1, 1) := by decide +kernel
theorem dX0_layFree_14 : decode cX0_layFree 14 = .ok (.iconst 0, 1) := by decide +kernel
theorem dX0_layFree_15 : decode cX0_layFree 15 = .ok (.iastore, 1) := by decide +kernel
theorem dX0_layFree_16 : decode cX0_layFree 16 = .ok (.aload_n 0, 1) := by decide +kernel
theorem dX0_layFree_17 : decode cX0_layFree 17 = .ok (.getfield 22, 3) := by decide +kernel
theorem dX0_layFree_20 : decode cX0_layFree 20 = .ok (.iload_n 2, 1) := by decide +kernel
theorem dX0_layFree_21 : decode cX0_layFree 21 = .ok (.dup2, 1) := by decide +kernel
theorem dX0_layFree_22 : decode cX0_layFree 22 = .ok (.iaload, 1) := by decide +kernel
theorem dX0_layFree_23 : decode cX0_layFree 23 = .ok (.iconst 1, 1) := by decide +kernel
theorem dX0_layFree_24 : decode cX0_layFree 24 = .ok (.iadd, 1) := by decide +kernel
theorem dX0_layFree_25 : decode cX0_layFree 25 = .ok (.iastore, 1) := by decide +kernel
theorem dX0_layFree_26 : decode cX0_layFree 26 = .ok (.return_, 1) := by decide +kernel
theorem dX1_init_0 : decode cX1_init 0 = .ok (.aload_n 0, 1) := by decide +kernel
theorem dX1_init_1 : decode cX1_init 1 = .ok (.invokespecial 3, 3) := by decide +kernel
theorem dX1_init_4 : decode cX1_init 4 = .ok (.aload_n 0, 1) := by decide +kernel
theorem dX1_init_5 : decode cX1_init 5 = .ok (.iconst (-1), 1) := by decide +kernel
theorem dX1_init_6 : decode cX1_init 6 = .ok (.putfield 9, 3) := by decide +kernel
theorem dX1_init_9 : decode cX1_init 9 = .ok (.aload_n 0, 1) := by decide +kernel
theorem dX1_init_10 : decode cX1_init 10 = .ok (.iconst 2, 1) := by decide +kernel
theorem dX1_init_11 : decode cX1_init 11 = .ok (.iload_n 1, 1) := by decide +kernel
theorem dX1_init_12 : decode cX1_init 12 = .ok (.iadd, 1) := by decide +kernel
theorem dX1_init_13 : decode cX1_init 13 = .ok (.putfield 15, 3) := by decide +kernel
theorem dX1_init_16 : decode cX1_init 16 = .ok (.aload_n 0, 1) := by decide +kernel
theorem dX1_init_17 : decode cX1_init 17 = .ok (.iload_n 2, 1) := by decide +kernel
theorem dX1_init_18 : decode cX1_init 18 = .ok (.putfield 18, 3) := by decide +kernel
theorem dX1_init_21 : decode cX1_init 21 = .ok (.aload_n 0, 1) := by decide +kernel
theorem dX1_init_22 : decode cX1_init 22 = .ok (.iload_n 3, 1) := by decide +kernel
theorem dX1_init_23 : decode cX1_init 23 = .ok (.putfield 21, 3) := by decide +kernel
theorem dX1_init_26 : decode cX1_init 26 = .ok (.aload_n 0, 1) := by decide +kernel
theorem dX1_init_27 : decode cX1_init 27 = .ok (.iload_n 2, 1) := by decide +kernel
theorem dX1_init_28 : decode cX1_init 28 = .ok (.iload_n 3, 1) := by decide +kernel
theorem dX1_init_29 : decode cX1_init 29 = .ok (.iadd, 1) := by decide +kernel
theorem dX1_init_30 : decode cX1_init 30 = .ok (.iconst 1, 1) := by decide +kernel
theorem dX1_init_31 : decode cX1_init 31 = .ok (.isub, 1) := by decide +kernel
theorem dX1_init_32 : decode cX1_init 32 = .ok (.iload_n 3, 1) := by decide +kernel
theorem dX1_init_33 : decode cX1_init 33 = .ok (.ineg, 1) := by decide +kernel
theorem dX1_init_34 : decode cX1_init 34 = .ok (.iand, 1) := by decide +kernel
theorem dX1_init_35 : decode cX1_init 35 = .ok (.putfield 24, 3) := by decide +kernel
theorem dX1_init_38 : decode cX1_init 38 = .ok (.aload_n 0, 1) := by decide +kernel
theorem dX1_init_39 : decode cX1_init 39 = .ok (.aload_n 0, 1) := by decide +kernel
theorem dX1_init_40 : decode cX1_init 40 = .ok (.getfield 24, 3) := by decide +kernel
theorem dX1_init_43 : decode cX1_init 43 = .ok (.invokestatic 27, 3) := by decide +kernel
theorem dX1_init_46 : decode cX1_init 46 = .ok (.putfield 31, 3) := by decide +kernel
theorem dX1_init_49 : decode cX1_init 49 = .ok (.aload_n 0, 1) := by decide +kernel
theorem dX1_init_50 : decode cX1_init 50 = .ok (.aload_n 0, 1) := by decide +kernel
theorem dX1_init_51 : decode cX1_init 51 = .ok (.getfield 31, 3) := by decide +kernel
theorem dX1_init_54 : decode cX1_init 54 = .ok (.aload_n 0, 1) := by decide +kernel
theorem dX1_init_55 : decode cX1_init 55 = .ok (.getfield 24, 3) := by decide +kernel
theorem dX1_init_58 : decode cX1_init 58 = .ok (.invokestatic 34, 3) := by decide +kernel
theorem dX1_init_61 : decode cX1_init 61 = .ok (.putfield 38, 3) := by decide +kernel
theorem dX1_init_64 : decode cX1_init 64 = .ok (.return_, 1) := by decide +kernel
theorem dX1_orderFor_0 : decode cX1_orderFor 0 = .ok (.iconst 0, 1) := by decide +kernel
theorem dX1_orderFor_1 : decode cX1_orderFor 1 = .ok (.istore_n 1, 1) := by decide +kernel
theorem dX1_orderFor_2 : decode cX1_orderFor 2 = .ok (.iload_n 1, 1) := by decide +kernel
theorem dX1_orderFor_3 : decode cX1_orderFor 3 = .ok (.iconst 4, 1) := by decide +kernel
theorem dX1_orderFor_4 : decode cX1_orderFor 4 = .ok (.if_icmp .ge 18, 3) := by decide +kernel
theorem dX1_orderFor_7 : decode cX1_orderFor 7 = .ok (.iload_n 1, 1) := by decide +kernel
theorem dX1_orderFor_8 : decode cX1_orderFor 8 = .ok (.iload_n 0, 1) := by decide +kernel
theorem dX1_orderFor_9 : decode cX1_orderFor 9 = .ok (.invokestatic 34, 3) := by decide +kernel
theorem dX1_orderFor_12 : decode cX1_orderFor 12 = .ok (.iconst 4, 1) := by decide +kernel
theorem dX1_orderFor_13 : decode cX1_orderFor 13 = .ok (.if_icmp .ge 9, 3) := by decide +kernel
theorem dX1_orderFor_16 : decode cX1_orderFor 16 = .ok (.iinc 1 1, 3) := by decide +kernel
theorem dX1_orderFor_19 : decode cX1_orderFor 19 = .ok (.goto (-17), 3) := by decide +kernel
theorem dX1_orderFor_22 : decode cX1_orderFor 22 = .ok (.iload_n 1, 1) := by decide +kernel
theorem dX1_orderFor_23 : decode cX1_orderFor 23 = .ok (.ireturn, 1) := by decide +kernel
theorem dX1_objectsIn_0 : decode cX1_objectsIn 0 = .ok (.iload_n 1, 1) := by decide +kernel
theorem dX1_objectsIn_1 : decode cX1_objectsIn 1 = .ok (.iconst 1, 1) := by decide +kernel
theorem dX1_objectsIn_2 : decode cX1_objectsIn 2 = .ok (.if_icmp .ge 7, 3) := by decide +kernel
theorem dX1_objectsIn_5 : decode cX1_objectsIn 5 = .ok (.iconst 0, 1) := by decide +kernel
theorem dX1_objectsIn_6 : decode cX1_objectsIn 6 = .ok (.goto 9, 3) := by decide +kernel
theorem dX1_objectsIn_9 : decode cX1_objectsIn 9 = .ok (.bipush 64, 2) := by decide +kernel
theorem dX1_objectsIn_11 : decode cX1_objectsIn 11 = .ok (.iload_n 0, 1) := by decide +kernel
theorem dX1_objectsIn_12 : decode cX1_objectsIn 12 = .ok (.ishl, 1) := by decide +kernel
theorem dX1_objectsIn_13 : decode cX1_objectsIn 13 = .ok (.iload_n 1, 1) := by decide +kernel
theorem dX1_objectsIn_14 : decode cX1_objectsIn 14 = .ok (.idiv, 1) := by decide +kernel
theorem dX1_objectsIn_15 : decode cX1_objectsIn 15 = .ok (.ireturn, 1) := by decide +kernel
theorem dX1_indexAt_0 : decode cX1_indexAt 0 = .ok (.aload_n 0, 1) := by decide +kernel
theorem dX1_indexAt_1 : decode cX1_indexAt 1 = .ok (.getfield 24, 3) := by decide +kernel
theorem dX1_indexAt_4 : decode cX1_indexAt 4 = .ok (.iconst 1, 1) := by decide +kernel
theorem dX1_indexAt_5 : decode cX1_indexAt 5 = .ok (.if_icmp .lt 16, 3) := by decide +kernel
theorem dX1_indexAt_8 : decode cX1_indexAt 8 = .ok (.iload_n 1, 1) := by decide +kernel
theorem dX1_indexAt_9 : decode cX1_indexAt 9 = .ok (.ifCond .lt 12, 3) := by decide +kernel
theorem dX1_indexAt_12 : decode cX1_indexAt 12 = .ok (.iload_n 1, 1) := by decide +kernel
theorem dX1_indexAt_13 : decode cX1_indexAt 13 = .ok (.aload_n 0, 1) := by decide +kernel
theorem dX1_indexAt_14 : decode cX1_indexAt 14 = .ok (.getfield 24, 3) := by decide +kernel
theorem dX1_indexAt_17 : decode cX1_indexAt 17 = .ok (.irem, 1) := by decide +kernel
theorem dX1_indexAt_18 : decode cX1_indexAt 18 = .ok (.ifCond .eq 5, 3) := by decide +kernel
theorem dX1_indexAt_21 : decode cX1_indexAt 21 = .ok (.iconst (-1), 1) := by decide +kernel
theorem dX1_indexAt_22 : decode cX1_indexAt 22 = .ok (.ireturn, 1) := by decide +kernel
theorem dX1_indexAt_23 : decode cX1_indexAt 23 = .ok (.iload_n 1, 1) := by decide +kernel
theorem dX1_indexAt_24 : decode cX1_indexAt 24 = .ok (.aload_n 0, 1) := by decide +kernel
theorem dX1_indexAt_25 : decode cX1_indexAt 25 = .ok (.getfield 24, 3) := by decide +kernel
theorem dX1_indexAt_28 : decode cX1_indexAt 28 = .ok (.idiv, 1) := by decide +kernel
theorem dX1_indexAt_29 : decode cX1_indexAt 29 = .ok (.istore_n 2, 1) := by decide +kernel
theorem dX1_indexAt_30 : decode cX1_indexAt 30 = .ok (.iload_n 2, 1) := by decide +kernel
theorem dX1_indexAt_31 : decode cX1_indexAt 31 = .ok (.aload_n 0, 1) := by decide +kernel
theorem dX1_indexAt_32 : decode cX1_indexAt 32 = .ok (.getfield 38, 3) := by decide +kernel
theorem dX1_indexAt_35 : decode cX1_indexAt 35 = .ok (.if_icmp .ge 7, 3) := by decide +kernel
theorem dX1_indexAt_38 : decode cX1_indexAt 38 = .ok (.iload_n 2, 1) := by decide +kernel
theorem dX1_indexAt_39 : decode cX1_indexAt 39 = .ok (.goto 4, 3) := by decide +kernel
theorem dX1_indexAt_42 : decode cX1_indexAt 42 = .ok (.iconst (-1), 1) := by decide +kernel
theorem dX1_indexAt_43 : decode cX1_indexAt 43 = .ok (.ireturn, 1) := by decide +kernel
theorem dX1_figure_0 : decode cX1_figure 0 = .ok (.iload_n 1, 1) := by decide +kernel
theorem dX1_figure_1 : decode cX1_figure 1 = .ok (.tableswitch 87 0 7 #[47, 52, 57, 62, 67, 72, 77, 82], 47) := by decide +kernel
theorem dX1_figure_48 : decode cX1_figure 48 = .ok (.aload_n 0, 1) := by decide +kernel
theorem dX1_figure_49 : decode cX1_figure 49 = .ok (.getfield 18, 3) := by decide +kernel
theorem dX1_figure_52 : decode cX1_figure 52 = .ok (.ireturn, 1) := by decide +kernel
theorem dX1_figure_53 : decode cX1_figure 53 = .ok (.aload_n 0, 1) := by decide +kernel
theorem dX1_figure_54 : decode cX1_figure 54 = .ok (.getfield 21, 3) := by decide +kernel
theorem dX1_figure_57 : decode cX1_figure 57 = .ok (.ireturn, 1) := by decide +kernel
theorem dX1_figure_58 : decode cX1_figure 58 = .ok (.aload_n 0, 1) := by decide +kernel
theorem dX1_figure_59 : decode cX1_figure 59 = .ok (.getfield 24, 3) := by decide +kernel
theorem dX1_figure_62 : decode cX1_figure 62 = .ok (.ireturn, 1) := by decide +kernel
theorem dX1_figure_63 : decode cX1_figure 63 = .ok (.aload_n 0, 1) := by decide +kernel
theorem dX1_figure_64 : decode cX1_figure 64 = .ok (.getfield 31, 3) := by decide +kernel
theorem dX1_figure_67 : decode cX1_figure 67 = .ok (.ireturn, 1) := by decide +kernel
theorem dX1_figure_68 : decode cX1_figure 68 = .ok (.aload_n 0, 1) := by decide +kernel
theorem dX1_figure_69 : decode cX1_figure 69 = .ok (.getfield 38, 3) := by decide +kernel
theorem dX1_figure_72 : decode cX1_figure 72 = .ok (.ireturn, 1) := by decide +kernel
theorem dX1_figure_73 : decode cX1_figure 73 = .ok (.aload_n 0, 1) := by decide +kernel
theorem dX1_figure_74 : decode cX1_figure 74 = .ok (.getfield 41, 3) := by decide +kernel
theorem dX1_figure_77 : decode cX1_figure 77 = .ok (.ireturn, 1) := by decide +kernel
theorem dX1_figure_78 : decode cX1_figure 78 = .ok (.aload_n 0, 1) := by decide +kernel
theorem dX1_figure_79 : decode cX1_figure 79 = .ok (.getfield 44, 3) := by decide +kernel
theorem dX1_figure_82 : decode cX1_figure 82 = .ok (.ireturn, 1) := by decide +kernel
theorem dX1_figure_83 : decode cX1_figure 83 = .ok (.aload_n 0, 1) := by decide +kernel
theorem dX1_figure_84 : decode cX1_figure 84 = .ok (.getfield 9, 3) := by decide +kernel
theorem dX1_figure_87 : decode cX1_figure 87 = .ok (.ireturn, 1) := by decide +kernel
theorem dX1_figure_88 : decode cX1_figure 88 = .ok (.iconst (-1), 1) := by decide +kernel
theorem dX1_figure_89 : decode cX1_figure 89 = .ok (.ireturn, 1) := by decide +kernel
theorem dX2_init_0 : decode cX2_init 0 = .ok (.aload_n 0, 1) := by decide +kernel
theorem dX2_init_1 : decode cX2_init 1 = .ok (.invokespecial 3, 3) := by decide +kernel
theorem dX2_init_4 : decode cX2_init 4 = .ok (.aload_n 0, 1) := by decide +kernel
theorem dX2_init_5 : decode cX2_init 5 = .ok (.sipush 2048, 3) := by decide +kernel
theorem dX2_init_8 : decode cX2_init 8 = .ok (.newarray .long, 2) := by decide +kernel
theorem dX2_init_10 : decode cX2_init 10 = .ok (.putfield 11, 3) := by decide +kernel
theorem dX2_init_13 : decode cX2_init 13 = .ok (.return_, 1) := by decide +kernel
theorem dX2_get_0 : decode cX2_get 0 = .ok (.aload_n 0, 1) := by decide +kernel
theorem dX2_get_1 : decode cX2_get 1 = .ok (.getfield 11, 3) := by decide +kernel
theorem dX2_get_4 : decode cX2_get 4 = .ok (.iload_n 1, 1) := by decide +kernel
theorem dX2_get_5 : decode cX2_get 5 = .ok (.bipush 8, 2) := by decide +kernel
theorem dX2_get_7 : decode cX2_get 7 = .ok (.idiv, 1) := by decide +kernel
theorem dX2_get_8 : decode cX2_get 8 = .ok (.laload, 1) := by decide +kernel
theorem dX2_get_9 : decode cX2_get 9 = .ok (.iload_n 1, 1) := by decide +kernel
theorem dX2_get_10 : decode cX2_get 10 = .ok (.invokestatic 15, 3) := by decide +kernel
theorem dX2_get_13 : decode cX2_get 13 = .ok (.lushr, 1) := by decide +kernel
theorem dX2_get_14 : decode cX2_get 14 = .ok (.l2i, 1) := by decide +kernel
theorem dX2_get_15 : decode cX2_get 15 = .ok (.sipush 255, 3) := by decide +kernel
theorem dX2_get_18 : decode cX2_get 18 = .ok (.iand, 1) := by decide +kernel
theorem dX2_get_19 : decode cX2_get 19 = .ok (.ireturn, 1) := by decide +kernel
theorem dX2_put_0 : decode cX2_put 0 = .ok (.iload_n 1, 1) := by decide +kernel
theorem dX2_put_1 : decode cX2_put 1 = .ok (.invokestatic 15, 3) := by decide +kernel
theorem dX2_put_4 : decode cX2_put 4 = .ok (.istore_n 3, 1) := by decide +kernel
theorem dX2_put_5 : decode cX2_put 5 = .ok (.aload_n 0, 1) := by decide +kernel
theorem dX2_put_6 : decode cX2_put 6 = .ok (.getfield 11, 3) := by decide +kernel
theorem dX2_put_9 : decode cX2_put 9 = .ok (.iload_n 1, 1) := by decide +kernel
theorem dX2_put_10 : decode cX2_put 10 = .ok (.bipush 8, 2) := by decide +kernel
theorem dX2_put_12 : decode cX2_put 12 = .ok (.idiv, 1) := by decide +kernel
theorem dX2_put_13 : decode cX2_put 13 = .ok (.laload, 1) := by decide +kernel
theorem dX2_put_14 : decode cX2_put 14 = .ok (.ldc2_w 19, 3) := by decide +kernel
theorem dX2_put_17 : decode cX2_put 17 = .ok (.iload_n 3, 1) := by decide +kernel
theorem dX2_put_18 : decode cX2_put 18 = .ok (.lshl, 1) := by decide +kernel
theorem dX2_put_19 : decode cX2_put 19 = .ok (.ldc2_w 21, 3) := by decide +kernel
theorem dX2_put_22 : decode cX2_put 22 = .ok (.lxor, 1) := by decide +kernel
theorem dX2_put_23 : decode cX2_put 23 = .ok (.land, 1) := by decide +kernel
theorem dX2_put_24 : decode cX2_put 24 = .ok (.lstore 4, 2) := by decide +kernel
theorem dX2_put_26 : decode cX2_put 26 = .ok (.aload_n 0, 1) := by decide +kernel
theorem dX2_put_27 : decode cX2_put 27 = .ok (.getfield 11, 3) := by decide +kernel
theorem dX2_put_30 : decode cX2_put 30 = .ok (.iload_n 1, 1) := by decide +kernel
theorem dX2_put_31 : decode cX2_put 31 = .ok (.bipush 8, 2) := by decide +kernel
theorem dX2_put_33 : decode cX2_put 33 = .ok (.idiv, 1) := by decide +kernel
theorem dX2_put_34 : decode cX2_put 34 = .ok (.lload 4, 2) := by decide +kernel
theorem dX2_put_36 : decode cX2_put 36 = .ok (.iload_n 2, 1) := by decide +kernel
theorem dX2_put_37 : decode cX2_put 37 = .ok (.i2l, 1) := by decide +kernel
theorem dX2_put_38 : decode cX2_put 38 = .ok (.ldc2_w 19, 3) := by decide +kernel
theorem dX2_put_41 : decode cX2_put 41 = .ok (.land, 1) := by decide +kernel
theorem dX2_put_42 : decode cX2_put 42 = .ok (.iload_n 3, 1) := by decide +kernel
theorem dX2_put_43 : decode cX2_put 43 = .ok (.lshl, 1) := by decide +kernel
theorem dX2_put_44 : decode cX2_put 44 = .ok (.lor, 1) := by decide +kernel
theorem dX2_put_45 : decode cX2_put 45 = .ok (.lastore, 1) := by decide +kernel
theorem dX2_put_46 : decode cX2_put 46 = .ok (.return_, 1) := by decide +kernel
theorem dX2_copy_0 : decode cX2_copy 0 = .ok (.iload_n 3, 1) := by decide +kernel
theorem dX2_copy_1 : decode cX2_copy 1 = .ok (.bipush 8, 2) := by decide +kernel
theorem dX2_copy_3 : decode cX2_copy 3 = .ok (.idiv, 1) := by decide +kernel
theorem dX2_copy_4 : decode cX2_copy 4 = .ok (.istore 4, 2) := by decide +kernel
theorem dX2_copy_6 : decode cX2_copy 6 = .ok (.aload_n 0, 1) := by decide +kernel
theorem dX2_copy_7 : decode cX2_copy 7 = .ok (.getfield 11, 3) := by decide +kernel
theorem dX2_copy_10 : decode cX2_copy 10 = .ok (.iload_n 1, 1) := by decide +kernel
theorem dX2_copy_11 : decode cX2_copy 11 = .ok (.bipush 8, 2) := by decide +kernel
theorem dX2_copy_13 : decode cX2_copy 13 = .ok (.idiv, 1) := by decide +kernel
theorem dX2_copy_14 : decode cX2_copy 14 = .ok (.aload_n 0, 1) := by decide +kernel
theorem dX2_copy_15 : decode cX2_copy 15 = .ok (.getfield 11, 3) := by decide +kernel
theorem dX2_copy_18 : decode cX2_copy 18 = .ok (.iload_n 2, 1) := by decide +kernel
theorem dX2_copy_19 : decode cX2_copy 19 = .ok (.bipush 8, 2) := by decide +kernel
theorem dX2_copy_21 : decode cX2_copy 21 = .ok (.idiv, 1) := by decide +kernel
theorem dX2_copy_22 : decode cX2_copy 22 = .ok (.iload 4, 2) := by decide +kernel
theorem dX2_copy_24 : decode cX2_copy 24 = .ok (.invokestatic 23, 3) := by decide +kernel
theorem dX2_copy_27 : decode cX2_copy 27 = .ok (.iload 4, 2) := by decide +kernel
theorem dX2_copy_29 : decode cX2_copy 29 = .ok (.bipush 8, 2) := by decide +kernel
theorem dX2_copy_31 : decode cX2_copy 31 = .ok (.imul, 1) := by decide +kernel
theorem dX2_copy_32 : decode cX2_copy 32 = .ok (.istore 5, 2) := by decide +kernel
theorem dX2_copy_34 : decode cX2_copy 34 = .ok (.iload 5, 2) := by decide +kernel
theorem dX2_copy_36 : decode cX2_copy 36 = .ok (.iload_n 3, 1) := by decide +kernel
theorem dX2_copy_37 : decode cX2_copy 37 = .ok (.if_icmp .ge 25, 3) := by decide +kernel
theorem dX2_copy_40 : decode cX2_copy 40 = .ok (.aload_n 0, 1) := by decide +kernel
theorem dX2_copy_41 : decode cX2_copy 41 = .ok (.iload_n 2, 1) := by decide +kernel
theorem dX2_copy_42 : decode cX2_copy 42 = .ok (.iload 5, 2) := by decide +kernel
theorem dX2_copy_44 : decode cX2_copy 44 = .ok (.iadd, 1) := by decide +kernel
theorem dX2_copy_45 : decode cX2_copy 45 = .ok (.aload_n 0, 1) := by decide +kernel
theorem dX2_copy_46 : decode cX2_copy 46 = .ok (.iload_n 1, 1) := by decide +kernel
theorem dX2_copy_47 : decode cX2_copy 47 = .ok (.iload 5, 2) := by decide +kernel
theorem dX2_copy_49 : decode cX2_copy 49 = .ok (.iadd, 1) := by decide +kernel
theorem dX2_copy_50 : decode cX2_copy 50 = .ok (.invokevirtual 29, 3) := by decide +kernel
theorem dX2_copy_53 : decode cX2_copy 53 = .ok (.invokevirtual 32, 3) := by decide +kernel
theorem dX2_copy_56 : decode cX2_copy 56 = .ok (.iinc 5 1, 3) := by decide +kernel
theorem dX2_copy_59 : decode cX2_copy 59 = .ok (.goto (-25), 3) := by decide +kernel
theorem dX2_copy_62 : decode cX2_copy 62 = .ok (.return_, 1) := by decide +kernel
theorem dX2_shiftOf_0 : decode cX2_shiftOf 0 = .ok (.iload_n 0, 1) := by decide +kernel
theorem dX2_shiftOf_1 : decode cX2_shiftOf 1 = .ok (.bipush 8, 2) := by decide +kernel
theorem dX2_shiftOf_3 : decode cX2_shiftOf 3 = .ok (.irem, 1) := by decide +kernel
theorem dX2_shiftOf_4 : decode cX2_shiftOf 4 = .ok (.bipush 8, 2) := by decide +kernel
theorem dX2_shiftOf_6 : decode cX2_shiftOf 6 = .ok (.imul, 1) := by decide +kernel
theorem dX2_shiftOf_7 : decode cX2_shiftOf 7 = .ok (.ireturn, 1) := by decide +kernel
theorem dX3_init_0 : decode cX3_init 0 = .ok (.aload_n 0, 1) := by decide +kernel
theorem dX3_init_1 : decode cX3_init 1 = .ok (.invokespecial 3, 3) := by decide +kernel
theorem dX3_init_4 : decode cX3_init 4 = .ok (.aload_n 0, 1) := by decide +kernel
theorem dX3_init_5 : decode cX3_init 5 = .ok (.bipush 64, 2) := by decide +kernel
theorem dX3_init_7 : decode cX3_init 7 = .ok (.newarray .int, 2) := by decide +kernel
theorem dX3_init_9 : decode cX3_init 9 = .ok (.putfield 9, 3) := by decide +kernel
theorem dX3_init_12 : decode cX3_init 12 = .ok (.return_, 1) := by decide +kernel
theorem dX3_layOut_0 : decode cX3_layOut 0 = .ok (.aload_n 0, 1) := by decide +kernel
theorem dX3_layOut_1 : decode cX3_layOut 1 = .ok (.iload_n 1, 1) := by decide +kernel
theorem dX3_layOut_2 : decode cX3_layOut 2 = .ok (.bipush 64, 2) := by decide +kernel
theorem dX3_layOut_4 : decode cX3_layOut 4 = .ok (.invokestatic 15, 3) := by decide +kernel
theorem dX3_layOut_7 : decode cX3_layOut 7 = .ok (.putfield 21, 3) := by decide +kernel
theorem dX3_layOut_10 : decode cX3_layOut 10 = .ok (.aload_n 0, 1) := by decide +kernel
theorem dX3_layOut_11 : decode cX3_layOut 11 = .ok (.aload_n 0, 1) := by decide +kernel
theorem dX3_layOut_12 : decode cX3_layOut 12 = .ok (.getfield 21, 3) := by decide +kernel
theorem dX3_layOut_15 : decode cX3_layOut 15 = .ok (.putfield 25, 3) := by decide +kernel
theorem dX3_layOut_18 : decode cX3_layOut 18 = .ok (.aload_n 0, 1) := by decide +kernel
theorem dX3_layOut_19 : decode cX3_layOut 19 = .ok (.lconst 0, 1) := by decide +kernel
theorem dX3_layOut_20 : decode cX3_layOut 20 = .ok (.putfield 28, 3) := by decide +kernel
theorem dX3_layOut_23 : decode cX3_layOut 23 = .ok (.iconst 0, 1) := by decide +kernel
theorem dX3_layOut_24 : decode cX3_layOut 24 = .ok (.istore_n 2, 1) := by decide +kernel
theorem dX3_layOut_25 : decode cX3_layOut 25 = .ok (.iload_n 2, 1) := by decide +kernel
theorem dX3_layOut_26 : decode cX3_layOut 26 = .ok (.aload_n 0, 1) := by decide +kernel
theorem dX3_layOut_27 : decode cX3_layOut 27 = .ok (.getfield 21, 3) := by decide +kernel
theorem dX3_layOut_30 : decode cX3_layOut 30 = .ok (.if_icmp .ge 23, 3) := by decide +kernel
theorem dX3_layOut_33 : decode cX3_layOut 33 = .ok (.aload_n 0, 1) := by decide +kernel
theorem dX3_layOut_34 : decode cX3_layOut 34 = .ok (.getfield 9, 3) := by decide +kernel
theorem dX3_layOut_37 : decode cX3_layOut 37 = .ok (.iload_n 2, 1) := by decide +kernel
theorem dX3_layOut_38 : decode cX3_layOut 38 = .ok (.aload_n 0, 1) := by decide +kernel
theorem dX3_layOut_39 : decode cX3_layOut 39 = .ok (.getfield 21, 3) := by decide +kernel
theorem dX3_layOut_42 : decode cX3_layOut 42 = .ok (.iconst 1, 1) := by decide +kernel
theorem dX3_layOut_43 : decode cX3_layOut 43 = .ok (.isub, 1) := by decide +kernel
theorem dX3_layOut_44 : decode cX3_layOut 44 = .ok (.iload_n 2, 1) := by decide +kernel
theorem dX3_layOut_45 : decode cX3_layOut 45 = .ok (.isub, 1) := by decide +kernel
theorem dX3_layOut_46 : decode cX3_layOut 46 = .ok (.iastore, 1) := by decide +kernel
theorem dX3_layOut_47 : decode cX3_layOut 47 = .ok (.iinc 2 1, 3) := by decide +kernel
theorem dX3_layOut_50 : decode cX3_layOut 50 = .ok (.goto (-25), 3) := by decide +kernel
theorem dX3_layOut_53 : decode cX3_layOut 53 = .ok (.return_, 1) := by decide +kernel
theorem dX3_isLive_0 : decode cX3_isLive 0 = .ok (.aload_n 0, 1) := by decide +kernel
theorem dX3_isLive_1 : decode cX3_isLive 1 = .ok (.getfield 28, 3) := by decide +kernel
theorem dX3_isLive_4 : decode cX3_isLive 4 = .ok (.iload_n 1, 1) := by decide +kernel
theorem dX3_isLive_5 : decode cX3_isLive 5 = .ok (.lushr, 1) := by decide +kernel
theorem dX3_isLive_6 : decode cX3_isLive 6 = .ok (.lconst 1, 1) := by decide +kernel
theorem dX3_isLive_7 : decode cX3_isLive 7 = .ok (.land, 1) := by decide +kernel
theorem dX3_isLive_8 : decode cX3_isLive 8 = .ok (.lconst 0, 1) := by decide +kernel
theorem dX3_isLive_9 : decode cX3_isLive 9 = .ok (.lcmp, 1) := by decide +kernel
theorem dX3_isLive_10 : decode cX3_isLive 10 = .ok (.ifCond .eq 7, 3) := by decide +kernel
theorem dX3_isLive_13 : decode cX3_isLive 13 = .ok (.iconst 1, 1) := by decide +kernel
theorem dX3_isLive_14 : decode cX3_isLive 14 = .ok (.goto 4, 3) := by decide +kernel
theorem dX3_isLive_17 : decode cX3_isLive 17 = .ok (.iconst 0, 1) := by decide +kernel
theorem dX3_isLive_18 : decode cX3_isLive 18 = .ok (.ireturn, 1) := by decide +kernel
theorem dX3_liveCount_0 : decode cX3_liveCount 0 = .ok (.aload_n 0, 1) := by decide +kernel
theorem dX3_liveCount_1 : decode cX3_liveCount 1 = .ok (.getfield 21, 3) := by decide +kernel
theorem dX3_liveCount_4 : decode cX3_liveCount 4 = .ok (.aload_n 0, 1) := by decide +kernel
theorem dX3_liveCount_5 : decode cX3_liveCount 5 = .ok (.getfield 25, 3) := by decide +kernel
theorem dX3_liveCount_8 : decode cX3_liveCount 8 = .ok (.isub, 1) := by decide +kernel
theorem dX3_liveCount_9 : decode cX3_liveCount 9 = .ok (.ireturn, 1) := by decide +kernel
theorem dX3_isPartlyLive_0 : decode cX3_isPartlyLive 0 = .ok (.aload_n 0, 1) := by decide +kernel
theorem dX3_isPartlyLive_1 : decode cX3_isPartlyLive 1 = .ok (.getfield 25, 3) := by decide +kernel
theorem dX3_isPartlyLive_4 : decode cX3_isPartlyLive 4 = .ok (.ifCond .le 18, 3) := by decide +kernel
theorem dX3_isPartlyLive_7 : decode cX3_isPartlyLive 7 = .ok (.aload_n 0, 1) := by decide +kernel
theorem dX3_isPartlyLive_8 : decode cX3_isPartlyLive 8 = .ok (.getfield 25, 3) := by decide +kernel
theorem dX3_isPartlyLive_11 : decode cX3_isPartlyLive 11 = .ok (.aload_n 0, 1) := by decide +kernel
theorem dX3_isPartlyLive_12 : decode cX3_isPartlyLive 12 = .ok (.getfield 21, 3) := by decide +kernel
theorem dX3_isPartlyLive_15 : decode cX3_isPartlyLive 15 = .ok (.if_icmp .ge 7, 3) := by decide +kernel
theorem dX3_isPartlyLive_18 : decode cX3_isPartlyLive 18 = .ok (.iconst 1, 1) := by decide +kernel
theorem dX3_isPartlyLive_19 : decode cX3_isPartlyLive 19 = .ok (.goto 4, 3) := by decide +kernel
theorem dX3_isPartlyLive_22 : decode cX3_isPartlyLive 22 = .ok (.iconst 0, 1) := by decide +kernel
theorem dX3_isPartlyLive_23 : decode cX3_isPartlyLive 23 = .ok (.ireturn, 1) := by decide +kernel
theorem dX3_takeFront_0 : decode cX3_takeFront 0 = .ok (.aload_n 0, 1) := by decide +kernel
theorem dX3_takeFront_1 : decode cX3_takeFront 1 = .ok (.getfield 25, 3) := by decide +kernel
theorem dX3_takeFront_4 : decode cX3_takeFront 4 = .ok (.iconst 1, 1) := by decide +kernel
theorem dX3_takeFront_5 : decode cX3_takeFront 5 = .ok (.if_icmp .ge 5, 3) := by decide +kernel
theorem dX3_takeFront_8 : decode cX3_takeFront 8 = .ok (.iconst (-1), 1) := by decide +kernel
theorem dX3_takeFront_9 : decode cX3_takeFront 9 = .ok (.ireturn, 1) := by decide +kernel
theorem dX3_takeFront_10 : decode cX3_takeFront 10 = .ok (.aload_n 0, 1) := by decide +kernel
theorem dX3_takeFront_11 : decode cX3_takeFront 11 = .ok (.dup, 1) := by decide +kernel
theorem dX3_takeFront_12 : decode cX3_takeFront 12 = .ok (.getfield 25, 3) := by decide +kernel
theorem dX3_takeFront_15 : decode cX3_takeFront 15 = .ok (.iconst 1, 1) := by decide +kernel
theorem dX3_takeFront_16 : decode cX3_takeFront 16 = .ok (.isub, 1) := by decide +kernel
theorem dX3_takeFront_17 : decode cX3_takeFront 17 = .ok (.putfield 25, 3) := by decide +kernel
theorem dX3_takeFront_20 : decode cX3_takeFront 20 = .ok (.aload_n 0, 1) := by decide +kernel
theorem dX3_takeFront_21 : decode cX3_takeFront 21 = .ok (.getfield 9, 3) := by decide +kernel
theorem dX3_takeFront_24 : decode cX3_takeFront 24 = .ok (.aload_n 0, 1) := by decide +kernel
theorem dX3_takeFront_25 : decode cX3_takeFront 25 = .ok (.getfield 25, 3) := by decide +kernel
theorem dX3_takeFront_28 : decode cX3_takeFront 28 = .ok (.iaload, 1) := by decide +kernel
theorem dX3_takeFront_29 : decode cX3_takeFront 29 = .ok (.istore_n 1, 1) := by decide +kernel
theorem dX3_takeFront_30 : decode cX3_takeFront 30 = .ok (.aload_n 0, 1) := by decide +kernel
theorem dX3_takeFront_31 : decode cX3_takeFront 31 = .ok (.dup, 1) := by decide +kernel
theorem dX3_takeFront_32 : decode cX3_takeFront 32 = .ok (.getfield 28, 3) := by decide +kernel
theorem dX3_takeFront_35 : decode cX3_takeFront 35 = .ok (.lconst 1, 1) := by decide +kernel
theorem dX3_takeFront_36 : decode cX3_takeFront 36 = .ok (.iload_n 1, 1) := by decide +kernel
theorem dX3_takeFront_37 : decode cX3_takeFront 37 = .ok (.lshl, 1) := by decide +kernel
theorem dX3_takeFront_38 : decode cX3_takeFront 38 = .ok (.lor, 1) := by decide +kernel
theorem dX3_takeFront_39 : decode cX3_takeFront 39 = .ok (.putfield 28, 3) := by decide +kernel
theorem dX3_takeFront_42 : decode cX3_takeFront 42 = .ok (.iload_n 1, 1) := by decide +kernel
theorem dX3_takeFront_43 : decode cX3_takeFront 43 = .ok (.ireturn, 1) := by decide +kernel
theorem dX3_putFront_0 : decode cX3_putFront 0 = .ok (.iload_n 1, 1) := by decide +kernel
theorem dX3_putFront_1 : decode cX3_putFront 1 = .ok (.ifCond .lt 22, 3) := by decide +kernel
theorem dX3_putFront_4 : decode cX3_putFront 4 = .ok (.iload_n 1, 1) := by decide +kernel
theorem dX3_putFront_5 : decode cX3_putFront 5 = .ok (.aload_n 0, 1) := by decide +kernel
theorem dX3_putFront_6 : decode cX3_putFront 6 = .ok (.getfield 21, 3) := by decide +kernel
theorem dX3_putFront_9 : decode cX3_putFront 9 = .ok (.if_icmp .ge 14, 3) := by decide +kernel
theorem dX3_putFront_12 : decode cX3_putFront 12 = .ok (.aload_n 0, 1) := by decide +kernel
theorem dX3_putFront_13 : decode cX3_putFront 13 = .ok (.getfield 25, 3) := by decide +kernel
theorem dX3_putFront_16 : decode cX3_putFront 16 = .ok (.aload_n 0, 1) := by decide +kernel
theorem dX3_putFront_17 : decode cX3_putFront 17 = .ok (.getfield 21, 3) := by decide +kernel
theorem dX3_putFront_20 : decode cX3_putFront 20 = .ok (.if_icmp .lt 4, 3) := by decide +kernel
theorem dX3_putFront_23 : decode cX3_putFront 23 = .ok (.return_, 1) := by decide +kernel
theorem dX3_putFront_24 : decode cX3_putFront 24 = .ok (.aload_n 0, 1) := by decide +kernel
theorem dX3_putFront_25 : decode cX3_putFront 25 = .ok (.getfield 9, 3) := by decide +kernel
theorem dX3_putFront_28 : decode cX3_putFront 28 = .ok (.aload_n 0, 1) := by decide +kernel
theorem dX3_putFront_29 : decode cX3_putFront 29 = .ok (.getfield 25, 3) := by decide +kernel
theorem dX3_putFront_32 : decode cX3_putFront 32 = .ok (.iload_n 1, 1) := by decide +kernel
theorem dX3_putFront_33 : decode cX3_putFront 33 = .ok (.iastore, 1) := by decide +kernel
theorem dX3_putFront_34 : decode cX3_putFront 34 = .ok (.aload_n 0, 1) := by decide +kernel
theorem dX3_putFront_35 : decode cX3_putFront 35 = .ok (.dup, 1) := by decide +kernel
theorem dX3_putFront_36 : decode cX3_putFront 36 = .ok (.getfield 25, 3) := by decide +kernel
theorem dX3_putFront_39 : decode cX3_putFront 39 = .ok (.iconst 1, 1) := by decide +kernel
theorem dX3_putFront_40 : decode cX3_putFront 40 = .ok (.iadd, 1) := by decide +kernel
theorem dX3_putFront_41 : decode cX3_putFront 41 = .ok (.putfield 25, 3) := by decide +kernel
theorem dX3_putFront_44 : decode cX3_putFront 44 = .ok (.aload_n 0, 1) := by decide +kernel
theorem dX3_putFront_45 : decode cX3_putFront 45 = .ok (.dup, 1) := by decide +kernel
theorem dX3_putFront_46 : decode cX3_putFront 46 = .ok (.getfield 28, 3) := by decide +kernel
theorem dX3_putFront_49 : decode cX3_putFront 49 = .ok (.lconst 1, 1) := by decide +kernel
theorem dX3_putFront_50 : decode cX3_putFront 50 = .ok (.iload_n 1, 1) := by decide +kernel
theorem dX3_putFront_51 : decode cX3_putFront 51 = .ok (.lshl, 1) := by decide +kernel
theorem dX3_putFront_52 : decode cX3_putFront 52 = .ok (.ldc2_w 32, 3) := by decide +kernel
theorem dX3_putFront_55 : decode cX3_putFront 55 = .ok (.lxor, 1) := by decide +kernel
theorem dX3_putFront_56 : decode cX3_putFront 56 = .ok (.land, 1) := by decide +kernel
theorem dX3_putFront_57 : decode cX3_putFront 57 = .ok (.putfield 28, 3) := by decide +kernel
theorem dX3_putFront_60 : decode cX3_putFront 60 = .ok (.return_, 1) := by decide +kernel
theorem dX4_init_0 : decode cX4_init 0 = .ok (.aload_n 0, 1) := by decide +kernel
theorem dX4_init_1 : decode cX4_init 1 = .ok (.invokespecial 3, 3) := by decide +kernel
theorem dX4_init_4 : decode cX4_init 4 = .ok (.aload_n 0, 1) := by decide +kernel
theorem dX4_init_5 : decode cX4_init 5 = .ok (.new 9, 3) := by decide +kernel
theorem dX4_init_8 : decode cX4_init 8 = .ok (.dup, 1) := by decide +kernel
theorem dX4_init_9 : decode cX4_init 9 = .ok (.invokespecial 11, 3) := by decide +kernel
theorem dX4_init_12 : decode cX4_init 12 = .ok (.putfield 12, 3) := by decide +kernel
theorem dX4_init_15 : decode cX4_init 15 = .ok (.aload_n 0, 1) := by decide +kernel
theorem dX4_init_16 : decode cX4_init 16 = .ok (.new 16, 3) := by decide +kernel
theorem dX4_init_19 : decode cX4_init 19 = .ok (.dup, 1) := by decide +kernel
theorem dX4_init_20 : decode cX4_init 20 = .ok (.invokespecial 18, 3) := by decide +kernel
theorem dX4_init_23 : decode cX4_init 23 = .ok (.putfield 19, 3) := by decide +kernel
theorem dX4_init_26 : decode cX4_init 26 = .ok (.aload_n 0, 1) := by decide +kernel
theorem dX4_init_27 : decode cX4_init 27 = .ok (.sipush 256, 3) := by decide +kernel
theorem dX4_init_30 : decode cX4_init 30 = .ok (.anewarray 23, 3) := by decide +kernel
theorem dX4_init_33 : decode cX4_init 33 = .ok (.putfield 25, 3) := by decide +kernel
theorem dX4_init_36 : decode cX4_init 36 = .ok (.aload_n 0, 1) := by decide +kernel
theorem dX4_init_37 : decode cX4_init 37 = .ok (.bipush 12, 2) := by decide +kernel
theorem dX4_init_39 : decode cX4_init 39 = .ok (.anewarray 29, 3) := by decide +kernel
theorem dX4_init_42 : decode cX4_init 42 = .ok (.putfield 31, 3) := by decide +kernel
theorem dX4_init_45 : decode cX4_init 45 = .ok (.iconst 0, 1) := by decide +kernel
theorem dX4_init_46 : decode cX4_init 46 = .ok (.istore_n 1, 1) := by decide +kernel
theorem dX4_init_47 : decode cX4_init 47 = .ok (.iload_n 1, 1) := by decide +kernel
theorem dX4_init_48 : decode cX4_init 48 = .ok (.bipush 6, 2) := by decide +kernel
theorem dX4_init_50 : decode cX4_init 50 = .ok (.if_icmp .ge 35, 3) := by decide +kernel
theorem dX4_init_53 : decode cX4_init 53 = .ok (.bipush 8, 2) := by decide +kernel
theorem dX4_init_55 : decode cX4_init 55 = .ok (.iload_n 1, 1) := by decide +kernel
theorem dX4_init_56 : decode cX4_init 56 = .ok (.ishl, 1) := by decide +kernel
theorem dX4_init_57 : decode cX4_init 57 = .ok (.istore_n 2, 1) := by decide +kernel
theorem dX4_init_58 : decode cX4_init 58 = .ok (.aload_n 0, 1) := by decide +kernel
theorem dX4_init_59 : decode cX4_init 59 = .ok (.getfield 31, 3) := by decide +kernel
theorem dX4_init_62 : decode cX4_init 62 = .ok (.iload_n 1, 1) := by decide +kernel
theorem dX4_init_63 : decode cX4_init 63 = .ok (.new 29, 3) := by decide +kernel
theorem dX4_init_66 : decode cX4_init 66 = .ok (.dup, 1) := by decide +kernel
theorem dX4_init_67 : decode cX4_init 67 = .ok (.iload_n 1, 1) := by decide +kernel
theorem dX4_init_68 : decode cX4_init 68 = .ok (.iload_n 2, 1) := by decide +kernel
theorem dX4_init_69 : decode cX4_init 69 = .ok (.iload_n 2, 1) := by decide +kernel
theorem dX4_init_70 : decode cX4_init 70 = .ok (.bipush 64, 2) := by decide +kernel
theorem dX4_init_72 : decode cX4_init 72 = .ok (.invokestatic 35, 3) := by decide +kernel
theorem dX4_init_75 : decode cX4_init 75 = .ok (.invokespecial 41, 3) := by decide +kernel
theorem dX4_init_78 : decode cX4_init 78 = .ok (.aastore, 1) := by decide +kernel
theorem dX4_init_79 : decode cX4_init 79 = .ok (.iinc 1 1, 3) := by decide +kernel
theorem dX4_init_82 : decode cX4_init 82 = .ok (.goto (-35), 3) := by decide +kernel
theorem dX4_init_85 : decode cX4_init 85 = .ok (.aload_n 0, 1) := by decide +kernel
theorem dX4_init_86 : decode cX4_init 86 = .ok (.bipush 6, 2) := by decide +kernel
theorem dX4_init_88 : decode cX4_init 88 = .ok (.putfield 44, 3) := by decide +kernel
theorem dX4_init_91 : decode cX4_init 91 = .ok (.return_, 1) := by decide +kernel
theorem dX4_usable_0 : decode cX4_usable 0 = .ok (.aload_n 0, 1) := by decide +kernel
theorem dX4_usable_1 : decode cX4_usable 1 = .ok (.getfield 19, 3) := by decide +kernel
theorem dX4_usable_4 : decode cX4_usable 4 = .ok (.getfield 48, 3) := by decide +kernel
theorem dX4_usable_7 : decode cX4_usable 7 = .ok (.ifCond .ne 19, 3) := by decide +kernel
theorem dX4_usable_10 : decode cX4_usable 10 = .ok (.iload_n 1, 1) := by decide +kernel
theorem dX4_usable_11 : decode cX4_usable 11 = .ok (.ifCond .lt 15, 3) := by decide +kernel
theorem dX4_usable_14 : decode cX4_usable 14 = .ok (.iload_n 2, 1) := by decide +kernel
theorem dX4_usable_15 : decode cX4_usable 15 = .ok (.sipush 256, 3) := by decide +kernel
theorem dX4_usable_18 : decode cX4_usable 18 = .ok (.if_icmp .ge 8, 3) := by decide +kernel
theorem dX4_usable_21 : decode cX4_usable 21 = .ok (.iload_n 1, 1) := by decide +kernel
theorem dX4_usable_22 : decode cX4_usable 22 = .ok (.iload_n 2, 1) := by decide +kernel
theorem dX4_usable_23 : decode cX4_usable 23 = .ok (.if_icmp .le 5, 3) := by decide +kernel
theorem dX4_usable_26 : decode cX4_usable 26 = .ok (.iconst 0, 1) := by decide +kernel
theorem dX4_usable_27 : decode cX4_usable 27 = .ok (.ireturn, 1) := by decide +kernel
theorem dX4_usable_28 : decode cX4_usable 28 = .ok (.aload_n 0, 1) := by decide +kernel
theorem dX4_usable_29 : decode cX4_usable 29 = .ok (.getfield 19, 3) := by decide +kernel
theorem dX4_usable_32 : decode cX4_usable 32 = .ok (.iload_n 1, 1) := by decide +kernel
theorem dX4_usable_33 : decode cX4_usable 33 = .ok (.iload_n 2, 1) := by decide +kernel
theorem dX4_usable_34 : decode cX4_usable 34 = .ok (.invokevirtual 52, 3) := by decide +kernel
theorem dX4_usable_37 : decode cX4_usable 37 = .ok (.iconst 1, 1) := by decide +kernel
theorem dX4_usable_38 : decode cX4_usable 38 = .ok (.ireturn, 1) := by decide +kernel
theorem dX4_start_0 : decode cX4_start 0 = .ok (.aload_n 0, 1) := by decide +kernel
theorem dX4_start_1 : decode cX4_start 1 = .ok (.getfield 19, 3) := by decide +kernel
theorem dX4_start_4 : decode cX4_start 4 = .ok (.getfield 48, 3) := by decide +kernel
theorem dX4_start_7 : decode cX4_start 7 = .ok (.ifCond .eq 5, 3) := by decide +kernel
theorem dX4_start_10 : decode cX4_start 10 = .ok (.iconst (-1), 1) := by decide +kernel
theorem dX4_start_11 : decode cX4_start 11 = .ok (.ireturn, 1) := by decide +kernel
theorem dX4_start_12 : decode cX4_start 12 = .ok (.aload_n 0, 1) := by decide +kernel
theorem dX4_start_13 : decode cX4_start 13 = .ok (.getfield 19, 3) := by decide +kernel
theorem dX4_start_16 : decode cX4_start 16 = .ok (.invokevirtual 56, 3) := by decide +kernel
theorem dX4_start_19 : decode cX4_start 19 = .ok (.aload_n 0, 1) := by decide +kernel
theorem dX4_start_20 : decode cX4_start 20 = .ok (.getfield 19, 3) := by decide +kernel
theorem dX4_start_23 : decode cX4_start 23 = .ok (.getfield 59, 3) := by decide +kernel
theorem dX4_start_26 : decode cX4_start 26 = .ok (.ireturn, 1) := by decide +kernel
theorem dX4_pages_0 : decode cX4_pages 0 = .ok (.aload_n 0, 1) := by decide +kernel
theorem dX4_pages_1 : decode cX4_pages 1 = .ok (.getfield 19, 3) := by decide +kernel
theorem dX4_pages_4 : decode cX4_pages 4 = .ok (.getfield 48, 3) := by decide +kernel
theorem dX4_pages_7 : decode cX4_pages 7 = .ok (.ifCond .eq 10, 3) := by decide +kernel
theorem dX4_pages_10 : decode cX4_pages 10 = .ok (.iload_n 1, 1) := by decide +kernel
theorem dX4_pages_11 : decode cX4_pages 11 = .ok (.invokestatic 62, 3) := by decide +kernel
theorem dX4_pages_14 : decode cX4_pages 14 = .ok (.ifCond .ne 5, 3) := by decide +kernel
theorem dX4_pages_17 : decode cX4_pages 17 = .ok (.iconst (-1), 1) := by decide +kernel
theorem dX4_pages_18 : decode cX4_pages 18 = .ok (.ireturn, 1) := by decide +kernel
theorem dX4_pages_19 : decode cX4_pages 19 = .ok (.aload_n 0, 1) := by decide +kernel
theorem dX4_pages_20 : decode cX4_pages 20 = .ok (.getfield 19, 3) := by decide +kernel
theorem dX4_pages_23 : decode cX4_pages 23 = .ok (.iload_n 1, 1) := by decide +kernel
theorem dX4_pages_24 : decode cX4_pages 24 = .ok (.iconst 1, 1) := by decide +kernel
theorem dX4_pages_25 : decode cX4_pages 25 = .ok (.invokevirtual 66, 3) := by decide +kernel
theorem dX4_pages_28 : decode cX4_pages 28 = .ok (.ireturn, 1) := by decide +kernel
theorem dX4_freePages_0 : decode cX4_freePages 0 = .ok (.aload_n 0, 1) := by decide +kernel
theorem dX4_freePages_1 : decode cX4_freePages 1 = .ok (.iload_n 1, 1) := by decide +kernel
theorem dX4_freePages_2 : decode cX4_freePages 2 = .ok (.invokevirtual 69, 3) := by decide +kernel
theorem dX4_freePages_5 : decode cX4_freePages 5 = .ok (.istore_n 2, 1) := by decide +kernel
theorem dX4_freePages_6 : decode cX4_freePages 6 = .ok (.iload_n 2, 1) := by decide +kernel
theorem dX4_freePages_7 : decode cX4_freePages 7 = .ok (.ifCond .eq 5, 3) := by decide +kernel
theorem dX4_freePages_10 : decode cX4_freePages 10 = .ok (.iload_n 2, 1) := by decide +kernel
theorem dX4_freePages_11 : decode cX4_freePages 11 = .ok (.ireturn, 1) := by decide +kernel
theorem dX4_freePages_12 : decode cX4_freePages 12 = .ok (.iconst 1, 1) := by decide +kernel
theorem dX4_freePages_13 : decode cX4_freePages 13 = .ok (.aload_n 0, 1) := by decide +kernel
theorem dX4_freePages_14 : decode cX4_freePages 14 = .ok (.getfield 19, 3) := by decide +kernel
theorem dX4_freePages_17 : decode cX4_freePages 17 = .ok (.iload_n 1, 1) := by decide +kernel
theorem dX4_freePages_18 : decode cX4_freePages 18 = .ok (.invokevirtual 73, 3) := by decide +kernel
theorem dX4_freePages_21 : decode cX4_freePages 21 = .ok (.ishl, 1) := by decide +kernel
theorem dX4_freePages_22 : decode cX4_freePages 22 = .ok (.istore_n 3, 1) := by decide +kernel
theorem dX4_freePages_23 : decode cX4_freePages 23 = .ok (.aload_n 0, 1) := by decide +kernel
theorem dX4_freePages_24 : decode cX4_freePages 24 = .ok (.getfield 19, 3) := by decide +kernel
theorem dX4_freePages_27 : decode cX4_freePages 27 = .ok (.iload_n 1, 1) := by decide +kernel
theorem dX4_freePages_28 : decode cX4_freePages 28 = .ok (.invokevirtual 76, 3) := by decide +kernel
theorem dX4_freePages_31 : decode cX4_freePages 31 = .ok (.iload_n 3, 1) := by decide +kernel
theorem dX4_freePages_32 : decode cX4_freePages 32 = .ok (.ireturn, 1) := by decide +kernel
theorem dX4_cache_0 : decode cX4_cache 0 = .ok (.aload_n 0, 1) := by decide +kernel
theorem dX4_cache_1 : decode cX4_cache 1 = .ok (.getfield 19, 3) := by decide +kernel
theorem dX4_cache_4 : decode cX4_cache 4 = .ok (.getfield 48, 3) := by decide +kernel
theorem dX4_cache_7 : decode cX4_cache 7 = .ok (.ifCond .eq 12, 3) := by decide +kernel
theorem dX4_cache_10 : decode cX4_cache 10 = .ok (.aload_n 0, 1) := by decide +kernel
theorem dX4_cache_11 : decode cX4_cache 11 = .ok (.getfield 44, 3) := by decide +kernel
theorem dX4_cache_14 : decode cX4_cache 14 = .ok (.bipush 12, 2) := by decide +kernel
theorem dX4_cache_16 : decode cX4_cache 16 = .ok (.if_icmp .lt 5, 3) := by decide +kernel
theorem dX4_cache_19 : decode cX4_cache 19 = .ok (.iconst (-1), 1) := by decide +kernel
theorem dX4_cache_20 : decode cX4_cache 20 = .ok (.ireturn, 1) := by decide +kernel
theorem dX4_cache_21 : decode cX4_cache 21 = .ok (.iload_n 1, 1) := by decide +kernel
theorem dX4_cache_22 : decode cX4_cache 22 = .ok (.iconst 1, 1) := by decide +kernel
theorem dX4_cache_23 : decode cX4_cache 23 = .ok (.if_icmp .lt 17, 3) := by decide +kernel
theorem dX4_cache_26 : decode cX4_cache 26 = .ok (.iload_n 1, 1) := by decide +kernel
theorem dX4_cache_27 : decode cX4_cache 27 = .ok (.sipush 1024, 3) := by decide +kernel
theorem dX4_cache_30 : decode cX4_cache 30 = .ok (.if_icmp .gt 10, 3) := by decide +kernel
theorem dX4_cache_33 : decode cX4_cache 33 = .ok (.iload_n 2, 1) := by decide +kernel
theorem dX4_cache_34 : decode cX4_cache 34 = .ok (.invokestatic 80, 3) := by decide +kernel
theorem dX4_cache_37 : decode cX4_cache 37 = .ok (.ifCond .ne 5, 3) := by decide +kernel
theorem dX4_cache_40 : decode cX4_cache 40 = .ok (.iconst (-1), 1) := by decide +kernel
theorem dX4_cache_41 : decode cX4_cache 41 = .ok (.ireturn, 1) := by decide +kernel
theorem dX4_cache_42 : decode cX4_cache 42 = .ok (.aload_n 0, 1) := by decide +kernel
theorem dX4_cache_43 : decode cX4_cache 43 = .ok (.getfield 44, 3) := by decide +kernel
theorem dX4_cache_46 : decode cX4_cache 46 = .ok (.istore_n 3, 1) := by decide +kernel
theorem dX4_cache_47 : decode cX4_cache 47 = .ok (.aload_n 0, 1) := by decide +kernel
theorem dX4_cache_48 : decode cX4_cache 48 = .ok (.getfield 31, 3) := by decide +kernel
theorem dX4_cache_51 : decode cX4_cache 51 = .ok (.iload_n 3, 1) := by decide +kernel
theorem dX4_cache_52 : decode cX4_cache 52 = .ok (.new 29, 3) := by decide +kernel
theorem dX4_cache_55 : decode cX4_cache 55 = .ok (.dup, 1) := by decide +kernel
theorem dX4_cache_56 : decode cX4_cache 56 = .ok (.iload_n 3, 1) := by decide +kernel
theorem dX4_cache_57 : decode cX4_cache 57 = .ok (.iload_n 1, 1) := by decide +kernel
theorem dX4_cache_58 : decode cX4_cache 58 = .ok (.iload_n 2, 1) := by decide +kernel
theorem dX4_cache_59 : decode cX4_cache 59 = .ok (.invokespecial 41, 3) := by decide +kernel
theorem dX4_cache_62 : decode cX4_cache 62 = .ok (.aastore, 1) := by decide +kernel
theorem dX4_cache_63 : decode cX4_cache 63 = .ok (.aload_n 0, 1) := by decide +kernel
theorem dX4_cache_64 : decode cX4_cache 64 = .ok (.dup, 1) := by decide +kernel
theorem dX4_cache_65 : decode cX4_cache 65 = .ok (.getfield 44, 3) := by decide +kernel
theorem dX4_cache_68 : decode cX4_cache 68 = .ok (.iconst 1, 1) := by decide +kernel
theorem dX4_cache_69 : decode cX4_cache 69 = .ok (.iadd, 1) := by decide +kernel
theorem dX4_cache_70 : decode cX4_cache 70 = .ok (.putfield 44, 3) := by decide +kernel
theorem dX4_cache_73 : decode cX4_cache 73 = .ok (.iload_n 3, 1) := by decide +kernel
theorem dX4_cache_74 : decode cX4_cache 74 = .ok (.ireturn, 1) := by decide +kernel
theorem dX4_take_0 : decode cX4_take 0 = .ok (.aload_n 0, 1) := by decide +kernel
theorem dX4_take_1 : decode cX4_take 1 = .ok (.iload_n 1, 1) := by decide +kernel
theorem dX4_take_2 : decode cX4_take 2 = .ok (.invokevirtual 83, 3) := by decide +kernel
theorem dX4_take_5 : decode cX4_take 5 = .ok (.astore_n 2, 1) := by decide +kernel
theorem dX4_take_6 : decode cX4_take 6 = .ok (.aload_n 2, 1) := by decide +kernel
theorem dX4_take_7 : decode cX4_take 7 = .ok (.ifnull 13, 3) := by decide +kernel
theorem dX4_take_10 : decode cX4_take 10 = .ok (.aload_n 0, 1) := by decide +kernel
theorem dX4_take_11 : decode cX4_take 11 = .ok (.getfield 19, 3) := by decide +kernel
theorem dX4_take_14 : decode cX4_take 14 = .ok (.getfield 48, 3) := by decide +kernel
theorem dX4_take_17 : decode cX4_take 17 = .ok (.ifCond .ne 5, 3) := by decide +kernel
theorem dX4_take_20 : decode cX4_take 20 = .ok (.iconst (-1), 1) := by decide +kernel
theorem dX4_take_21 : decode cX4_take 21 = .ok (.ireturn, 1) := by decide +kernel
theorem dX4_take_22 : decode cX4_take 22 = .ok (.aload_n 0, 1) := by decide +kernel
theorem dX4_take_23 : decode cX4_take 23 = .ok (.aload_n 2, 1) := by decide +kernel
theorem dX4_take_24 : decode cX4_take 24 = .ok (.invokevirtual 87, 3) := by decide +kernel
theorem dX4_take_27 : decode cX4_take 27 = .ok (.ireturn, 1) := by decide +kernel
theorem dX4_give_0 : decode cX4_give 0 = .ok (.aload_n 0, 1) := by decide +kernel
theorem dX4_give_1 : decode cX4_give 1 = .ok (.iload_n 1, 1) := by decide +kernel
theorem dX4_give_2 : decode cX4_give 2 = .ok (.invokevirtual 83, 3) := by decide +kernel
theorem dX4_give_5 : decode cX4_give 5 = .ok (.astore_n 3, 1) := by decide +kernel
theorem dX4_give_6 : decode cX4_give 6 = .ok (.aload_n 3, 1) := by decide +kernel
theorem dX4_give_7 : decode cX4_give 7 = .ok (.ifnonnull 6, 3) := by decide +kernel
theorem dX4_give_10 : decode cX4_give 10 = .ok (.bipush (-2), 2) := by decide +kernel
theorem dX4_give_12 : decode cX4_give 12 = .ok (.ireturn, 1) := by decide +kernel
theorem dX4_give_13 : decode cX4_give 13 = .ok (.aload_n 0, 1) := by decide +kernel
theorem dX4_give_14 : decode cX4_give 14 = .ok (.aload_n 3, 1) := by decide +kernel
theorem dX4_give_15 : decode cX4_give 15 = .ok (.iload_n 2, 1) := by decide +kernel
theorem dX4_give_16 : decode cX4_give 16 = .ok (.invokevirtual 91, 3) := by decide +kernel
theorem dX4_give_19 : decode cX4_give 19 = .ok (.istore 4, 2) := by decide +kernel
theorem dX4_give_21 : decode cX4_give 21 = .ok (.iload 4, 2) := by decide +kernel
theorem dX4_give_23 : decode cX4_give 23 = .ok (.ifCond .eq 8, 3) := by decide +kernel
theorem dX4_give_26 : decode cX4_give 26 = .ok (.iload 4, 2) := by decide +kernel
theorem dX4_give_28 : decode cX4_give 28 = .ok (.goto 9, 3) := by decide +kernel
theorem dX4_give_31 : decode cX4_give 31 = .ok (.aload_n 0, 1) := by decide +kernel
theorem dX4_give_32 : decode cX4_give 32 = .ok (.aload_n 3, 1) := by decide +kernel
theorem dX4_give_33 : decode cX4_give 33 = .ok (.iload_n 2, 1) := by decide +kernel
theorem dX4_give_34 : decode cX4_give 34 = .ok (.invokevirtual 95, 3) := by decide +kernel
theorem dX4_give_37 : decode cX4_give 37 = .ok (.ireturn, 1) := by decide +kernel
theorem dX4_shrink_0 : decode cX4_shrink 0 = .ok (.aload_n 0, 1) := by decide +kernel
theorem dX4_shrink_1 : decode cX4_shrink 1 = .ok (.iload_n 1, 1) := by decide +kernel
theorem dX4_shrink_2 : decode cX4_shrink 2 = .ok (.invokevirtual 83, 3) := by decide +kernel
theorem dX4_shrink_5 : decode cX4_shrink 5 = .ok (.astore_n 2, 1) := by decide +kernel
theorem dX4_shrink_6 : decode cX4_shrink 6 = .ok (.aload_n 2, 1) := by decide +kernel
theorem dX4_shrink_7 : decode cX4_shrink 7 = .ok (.ifnonnull 5, 3) := by decide +kernel
theorem dX4_shrink_10 : decode cX4_shrink 10 = .ok (.iconst (-1), 1) := by decide +kernel
theorem dX4_shrink_11 : decode cX4_shrink 11 = .ok (.ireturn, 1) := by decide +kernel
theorem dX4_shrink_12 : decode cX4_shrink 12 = .ok (.aload_n 2, 1) := by decide +kernel
theorem dX4_shrink_13 : decode cX4_shrink 13 = .ok (.getfield 98, 3) := by decide +kernel
theorem dX4_shrink_16 : decode cX4_shrink 16 = .ok (.istore_n 3, 1) := by decide +kernel
theorem dX4_shrink_17 : decode cX4_shrink 17 = .ok (.iload_n 3, 1) := by decide +kernel
theorem dX4_shrink_18 : decode cX4_shrink 18 = .ok (.iconst (-1), 1) := by decide +kernel
theorem dX4_shrink_19 : decode cX4_shrink 19 = .ok (.if_icmp .ne 5, 3) := by decide +kernel
theorem dX4_shrink_22 : decode cX4_shrink 22 = .ok (.iconst 0, 1) := by decide +kernel
theorem dX4_shrink_23 : decode cX4_shrink 23 = .ok (.ireturn, 1) := by decide +kernel
theorem dX4_shrink_24 : decode cX4_shrink 24 = .ok (.aload_n 2, 1) := by decide +kernel
theorem dX4_shrink_25 : decode cX4_shrink 25 = .ok (.iconst (-1), 1) := by decide +kernel
theorem dX4_shrink_26 : decode cX4_shrink 26 = .ok (.putfield 98, 3) := by decide +kernel
theorem dX4_shrink_29 : decode cX4_shrink 29 = .ok (.aload_n 0, 1) := by decide +kernel
theorem dX4_shrink_30 : decode cX4_shrink 30 = .ok (.aload_n 2, 1) := by decide +kernel
theorem dX4_shrink_31 : decode cX4_shrink 31 = .ok (.iload_n 3, 1) := by decide +kernel
theorem dX4_shrink_32 : decode cX4_shrink 32 = .ok (.invokevirtual 101, 3) := by decide +kernel
theorem dX4_shrink_35 : decode cX4_shrink 35 = .ok (.iconst 1, 1) := by decide +kernel
theorem dX4_shrink_36 : decode cX4_shrink 36 = .ok (.aload_n 2, 1) := by decide +kernel
theorem dX4_shrink_37 : decode cX4_shrink 37 = .ok (.getfield 105, 3) := by decide +kernel
theorem dX4_shrink_40 : decode cX4_shrink 40 = .ok (.ishl, 1) := by decide +kernel
theorem dX4_shrink_41 : decode cX4_shrink 41 = .ok (.ireturn, 1) := by decide +kernel
theorem dX4_alloc_0 : decode cX4_alloc 0 = .ok (.aload_n 0, 1) := by decide +kernel
theorem dX4_alloc_1 : decode cX4_alloc 1 = .ok (.getfield 19, 3) := by decide +kernel
theorem dX4_alloc_4 : decode cX4_alloc 4 = .ok (.getfield 48, 3) := by decide +kernel
theorem dX4_alloc_7 : decode cX4_alloc 7 = .ok (.ifCond .eq 10, 3) := by decide +kernel
theorem dX4_alloc_10 : decode cX4_alloc 10 = .ok (.iload_n 1, 1) := by decide +kernel
theorem dX4_alloc_11 : decode cX4_alloc 11 = .ok (.invokestatic 108, 3) := by decide +kernel
theorem dX4_alloc_14 : decode cX4_alloc 14 = .ok (.ifCond .ne 5, 3) := by decide +kernel
theorem dX4_alloc_17 : decode cX4_alloc 17 = .ok (.iconst (-1), 1) := by decide +kernel
theorem dX4_alloc_18 : decode cX4_alloc 18 = .ok (.ireturn, 1) := by decide +kernel
theorem dX4_alloc_19 : decode cX4_alloc 19 = .ok (.aload_n 0, 1) := by decide +kernel
theorem dX4_alloc_20 : decode cX4_alloc 20 = .ok (.iload_n 1, 1) := by decide +kernel
theorem dX4_alloc_21 : decode cX4_alloc 21 = .ok (.invokestatic 111, 3) := by decide +kernel
theorem dX4_alloc_24 : decode cX4_alloc 24 = .ok (.invokevirtual 114, 3) := by decide +kernel
theorem dX4_alloc_27 : decode cX4_alloc 27 = .ok (.ireturn, 1) := by decide +kernel
theorem dX4_free_0 : decode cX4_free 0 = .ok (.aload_n 0, 1) := by decide +kernel
theorem dX4_free_1 : decode cX4_free 1 = .ok (.iload_n 1, 1) := by decide +kernel
theorem dX4_free_2 : decode cX4_free 2 = .ok (.invokevirtual 117, 3) := by decide +kernel
theorem dX4_free_5 : decode cX4_free 5 = .ok (.istore_n 2, 1) := by decide +kernel
theorem dX4_free_6 : decode cX4_free 6 = .ok (.iload_n 2, 1) := by decide +kernel
theorem dX4_free_7 : decode cX4_free 7 = .ok (.ifCond .eq 5, 3) := by decide +kernel
theorem dX4_free_10 : decode cX4_free 10 = .ok (.iload_n 2, 1) := by decide +kernel
theorem dX4_free_11 : decode cX4_free 11 = .ok (.ireturn, 1) := by decide +kernel
theorem dX4_free_12 : decode cX4_free 12 = .ok (.aload_n 0, 1) := by decide +kernel
theorem dX4_free_13 : decode cX4_free 13 = .ok (.iload_n 1, 1) := by decide +kernel
theorem dX4_free_14 : decode cX4_free 14 = .ok (.invokevirtual 120, 3) := by decide +kernel
theorem dX4_free_17 : decode cX4_free 17 = .ok (.invokestatic 123, 3) := by decide +kernel
theorem dX4_free_20 : decode cX4_free 20 = .ok (.istore_n 3, 1) := by decide +kernel
theorem dX4_free_21 : decode cX4_free 21 = .ok (.aload_n 0, 1) := by decide +kernel
theorem dX4_free_22 : decode cX4_free 22 = .ok (.iload_n 1, 1) := by decide +kernel
theorem dX4_free_23 : decode cX4_free 23 = .ok (.invokevirtual 126, 3) := by decide +kernel
theorem dX4_free_26 : decode cX4_free 26 = .ok (.iload_n 3, 1) := by decide +kernel
theorem dX4_free_27 : decode cX4_free 27 = .ok (.ireturn, 1) := by decide +kernel
theorem dX4_resize_0 : decode cX4_resize 0 = .ok (.aload_n 0, 1) := by decide +kernel
theorem dX4_resize_1 : decode cX4_resize 1 = .ok (.iload_n 1, 1) := by decide +kernel
theorem dX4_resize_2 : decode cX4_resize 2 = .ok (.invokevirtual 117, 3) := by decide +kernel
theorem dX4_resize_5 : decode cX4_resize 5 = .ok (.istore_n 3, 1) := by decide +kernel
theorem dX4_resize_6 : decode cX4_resize 6 = .ok (.iload_n 3, 1) := by decide +kernel
theorem dX4_resize_7 : decode cX4_resize 7 = .ok (.ifCond .eq 5, 3) := by decide +kernel
theorem dX4_resize_10 : decode cX4_resize 10 = .ok (.iload_n 3, 1) := by decide +kernel
theorem dX4_resize_11 : decode cX4_resize 11 = .ok (.ireturn, 1) := by decide +kernel
theorem dX4_resize_12 : decode cX4_resize 12 = .ok (.iload_n 2, 1) := by decide +kernel
theorem dX4_resize_13 : decode cX4_resize 13 = .ok (.invokestatic 108, 3) := by decide +kernel
theorem dX4_resize_16 : decode cX4_resize 16 = .ok (.ifCond .ne 5, 3) := by decide +kernel
theorem dX4_resize_19 : decode cX4_resize 19 = .ok (.iconst (-1), 1) := by decide +kernel
theorem dX4_resize_20 : decode cX4_resize 20 = .ok (.ireturn, 1) := by decide +kernel
theorem dX4_resize_21 : decode cX4_resize 21 = .ok (.aload_n 0, 1) := by decide +kernel
theorem dX4_resize_22 : decode cX4_resize 22 = .ok (.iload_n 1, 1) := by decide +kernel
theorem dX4_resize_23 : decode cX4_resize 23 = .ok (.invokevirtual 120, 3) := by decide +kernel
theorem dX4_resize_26 : decode cX4_resize 26 = .ok (.istore 4, 2) := by decide +kernel
theorem dX4_resize_28 : decode cX4_resize 28 = .ok (.iload_n 2, 1) := by decide +kernel
theorem dX4_resize_29 : decode cX4_resize 29 = .ok (.invokestatic 111, 3) := by decide +kernel
theorem dX4_resize_32 : decode cX4_resize 32 = .ok (.istore 5, 2) := by decide +kernel
theorem dX4_resize_34 : decode cX4_resize 34 = .ok (.iload 4, 2) := by decide +kernel
theorem dX4_resize_36 : decode cX4_resize 36 = .ok (.iload 5, 2) := by decide +kernel
theorem dX4_resize_38 : decode cX4_resize 38 = .ok (.if_icmp .ne 5, 3) := by decide +kernel
theorem dX4_resize_41 : decode cX4_resize 41 = .ok (.iload_n 1, 1) := by decide +kernel
theorem dX4_resize_42 : decode cX4_resize 42 = .ok (.ireturn, 1) := by decide +kernel
theorem dX4_resize_43 : decode cX4_resize 43 = .ok (.aload_n 0, 1) := by decide +kernel
theorem dX4_resize_44 : decode cX4_resize 44 = .ok (.iload 5, 2) := by decide +kernel
theorem dX4_resize_46 : decode cX4_resize 46 = .ok (.invokevirtual 114, 3) := by decide +kernel
theorem dX4_resize_49 : decode cX4_resize 49 = .ok (.istore 6, 2) := by decide +kernel
theorem dX4_resize_51 : decode cX4_resize 51 = .ok (.iload 6, 2) := by decide +kernel
theorem dX4_resize_53 : decode cX4_resize 53 = .ok (.iconst (-1), 1) := by decide +kernel
theorem dX4_resize_54 : decode cX4_resize 54 = .ok (.if_icmp .ne 5, 3) := by decide +kernel
theorem dX4_resize_57 : decode cX4_resize 57 = .ok (.iconst (-1), 1) := by decide +kernel
theorem dX4_resize_58 : decode cX4_resize 58 = .ok (.ireturn, 1) := by decide +kernel
theorem dX4_resize_59 : decode cX4_resize 59 = .ok (.aload_n 0, 1) := by decide +kernel
theorem dX4_resize_60 : decode cX4_resize 60 = .ok (.getfield 12, 3) := by decide +kernel
theorem dX4_resize_63 : decode cX4_resize 63 = .ok (.iload_n 1, 1) := by decide +kernel
theorem dX4_resize_64 : decode cX4_resize 64 = .ok (.iload 6, 2) := by decide +kernel
theorem dX4_resize_66 : decode cX4_resize 66 = .ok (.iload 4, 2) := by decide +kernel
theorem dX4_resize_68 : decode cX4_resize 68 = .ok (.invokestatic 123, 3) := by decide +kernel
theorem dX4_resize_71 : decode cX4_resize 71 = .ok (.iload_n 2, 1) := by decide +kernel
theorem dX4_resize_72 : decode cX4_resize 72 = .ok (.invokestatic 35, 3) := by decide +kernel
theorem dX4_resize_75 : decode cX4_resize 75 = .ok (.invokevirtual 129, 3) := by decide +kernel
theorem dX4_resize_78 : decode cX4_resize 78 = .ok (.aload_n 0, 1) := by decide +kernel
theorem dX4_resize_79 : decode cX4_resize 79 = .ok (.iload_n 1, 1) := by decide +kernel
theorem dX4_resize_80 : decode cX4_resize 80 = .ok (.invokevirtual 126, 3) := by decide +kernel
theorem dX4_resize_83 : decode cX4_resize 83 = .ok (.iload 6, 2) := by decide +kernel
theorem dX4_resize_85 : decode cX4_resize 85 = .ok (.ireturn, 1) := by decide +kernel
theorem dX4_size_0 : decode cX4_size 0 = .ok (.aload_n 0, 1) := by decide +kernel
theorem dX4_size_1 : decode cX4_size 1 = .ok (.iload_n 1, 1) := by decide +kernel
theorem dX4_size_2 : decode cX4_size 2 = .ok (.invokevirtual 117, 3) := by decide +kernel
theorem dX4_size_5 : decode cX4_size 5 = .ok (.istore_n 2, 1) := by decide +kernel
theorem dX4_size_6 : decode cX4_size 6 = .ok (.iload_n 2, 1) := by decide +kernel
theorem dX4_size_7 : decode cX4_size 7 = .ok (.ifCond .eq 7, 3) := by decide +kernel
theorem dX4_size_10 : decode cX4_size 10 = .ok (.iload_n 2, 1) := by decide +kernel
theorem dX4_size_11 : decode cX4_size 11 = .ok (.goto 11, 3) := by decide +kernel
theorem dX4_size_14 : decode cX4_size 14 = .ok (.aload_n 0, 1) := by decide +kernel
theorem dX4_size_15 : decode cX4_size 15 = .ok (.iload_n 1, 1) := by decide +kernel
theorem dX4_size_16 : decode cX4_size 16 = .ok (.invokevirtual 120, 3) := by decide +kernel
theorem dX4_size_19 : decode cX4_size 19 = .ok (.invokestatic 123, 3) := by decide +kernel
theorem dX4_size_22 : decode cX4_size 22 = .ok (.ireturn, 1) := by decide +kernel
theorem dX4_read_0 : decode cX4_read 0 = .ok (.iload_n 1, 1) := by decide +kernel
theorem dX4_read_1 : decode cX4_read 1 = .ok (.invokestatic 132, 3) := by decide +kernel
theorem dX4_read_4 : decode cX4_read 4 = .ok (.ifCond .eq 14, 3) := by decide +kernel
theorem dX4_read_7 : decode cX4_read 7 = .ok (.aload_n 0, 1) := by decide +kernel
theorem dX4_read_8 : decode cX4_read 8 = .ok (.getfield 12, 3) := by decide +kernel
theorem dX4_read_11 : decode cX4_read 11 = .ok (.iload_n 1, 1) := by decide +kernel
theorem dX4_read_12 : decode cX4_read 12 = .ok (.invokevirtual 135, 3) := by decide +kernel
theorem dX4_read_15 : decode cX4_read 15 = .ok (.goto 4, 3) := by decide +kernel
theorem dX4_read_18 : decode cX4_read 18 = .ok (.iconst (-1), 1) := by decide +kernel
theorem dX4_read_19 : decode cX4_read 19 = .ok (.ireturn, 1) := by decide +kernel
theorem dX4_write_0 : decode cX4_write 0 = .ok (.iload_n 1, 1) := by decide +kernel
theorem dX4_write_1 : decode cX4_write 1 = .ok (.invokestatic 132, 3) := by decide +kernel
theorem dX4_write_4 : decode cX4_write 4 = .ok (.ifCond .ne 5, 3) := by decide +kernel
theorem dX4_write_7 : decode cX4_write 7 = .ok (.iconst (-1), 1) := by decide +kernel
theorem dX4_write_8 : decode cX4_write 8 = .ok (.ireturn, 1) := by decide +kernel
theorem dX4_write_9 : decode cX4_write 9 = .ok (.aload_n 0, 1) := by decide +kernel
theorem dX4_write_10 : decode cX4_write 10 = .ok (.getfield 12, 3) := by decide +kernel
theorem dX4_write_13 : decode cX4_write 13 = .ok (.iload_n 1, 1) := by decide +kernel
theorem dX4_write_14 : decode cX4_write 14 = .ok (.invokevirtual 135, 3) := by decide +kernel
theorem dX4_write_17 : decode cX4_write 17 = .ok (.istore_n 3, 1) := by decide +kernel
theorem dX4_write_18 : decode cX4_write 18 = .ok (.aload_n 0, 1) := by decide +kernel
theorem dX4_write_19 : decode cX4_write 19 = .ok (.getfield 12, 3) := by decide +kernel
theorem dX4_write_22 : decode cX4_write 22 = .ok (.iload_n 1, 1) := by decide +kernel
theorem dX4_write_23 : decode cX4_write 23 = .ok (.iload_n 2, 1) := by decide +kernel
theorem dX4_write_24 : decode cX4_write 24 = .ok (.invokevirtual 138, 3) := by decide +kernel
theorem dX4_write_27 : decode cX4_write 27 = .ok (.iload_n 3, 1) := by decide +kernel
theorem dX4_write_28 : decode cX4_write 28 = .ok (.ireturn, 1) := by decide +kernel
theorem dX4_arm_0 : decode cX4_arm 0 = .ok (.iload_n 1, 1) := by decide +kernel
theorem dX4_arm_1 : decode cX4_arm 1 = .ok (.ifCond .lt 9, 3) := by decide +kernel
theorem dX4_arm_4 : decode cX4_arm 4 = .ok (.iload_n 1, 1) := by decide +kernel
theorem dX4_arm_5 : decode cX4_arm 5 = .ok (.bipush 100, 2) := by decide +kernel
theorem dX4_arm_7 : decode cX4_arm 7 = .ok (.if_icmp .le 5, 3) := by decide +kernel
theorem dX4_arm_10 : decode cX4_arm 10 = .ok (.iconst 0, 1) := by decide +kernel
theorem dX4_arm_11 : decode cX4_arm 11 = .ok (.ireturn, 1) := by decide +kernel
theorem dX4_arm_12 : decode cX4_arm 12 = .ok (.aload_n 0, 1) := by decide +kernel
theorem dX4_arm_13 : decode cX4_arm 13 = .ok (.getfield 19, 3) := by decide +kernel
theorem dX4_arm_16 : decode cX4_arm 16 = .ok (.iload_n 1, 1) := by decide +kernel
theorem dX4_arm_17 : decode cX4_arm 17 = .ok (.putfield 141, 3) := by decide +kernel
theorem dX4_arm_20 : decode cX4_arm 20 = .ok (.iconst 1, 1) := by decide +kernel
theorem dX4_arm_21 : decode cX4_arm 21 = .ok (.ireturn, 1) := by decide +kernel
theorem dX4_ofPage_0 : decode cX4_ofPage 0 = .ok (.iload_n 1, 1) := by decide +kernel
theorem dX4_ofPage_1 : decode cX4_ofPage 1 = .ok (.invokestatic 144, 3) := by decide +kernel
theorem dX4_ofPage_4 : decode cX4_ofPage 4 = .ok (.ifCond .ne 6, 3) := by decide +kernel
theorem dX4_ofPage_7 : decode cX4_ofPage 7 = .ok (.bipush (-2), 2) := by decide +kernel
theorem dX4_ofPage_9 : decode cX4_ofPage 9 = .ok (.ireturn, 1) := by decide +kernel
theorem dX4_ofPage_10 : decode cX4_ofPage 10 = .ok (.aload_n 0, 1) := by decide +kernel
theorem dX4_ofPage_11 : decode cX4_ofPage 11 = .ok (.getfield 19, 3) := by decide +kernel
theorem dX4_ofPage_14 : decode cX4_ofPage 14 = .ok (.iload_n 1, 1) := by decide +kernel
theorem dX4_ofPage_15 : decode cX4_ofPage 15 = .ok (.invokevirtual 147, 3) := by decide +kernel
theorem dX4_ofPage_18 : decode cX4_ofPage 18 = .ok (.istore_n 2, 1) := by decide +kernel
theorem dX4_ofPage_19 : decode cX4_ofPage 19 = .ok (.iload_n 2, 1) := by decide +kernel
theorem dX4_ofPage_20 : decode cX4_ofPage 20 = .ok (.iconst (-1), 1) := by decide +kernel
theorem dX4_ofPage_21 : decode cX4_ofPage 21 = .ok (.if_icmp .ne 7, 3) := by decide +kernel
theorem dX4_ofPage_24 : decode cX4_ofPage 24 = .ok (.iconst (-1), 1) := by decide +kernel
theorem dX4_ofPage_25 : decode cX4_ofPage 25 = .ok (.goto 11, 3) := by decide +kernel
theorem dX4_ofPage_28 : decode cX4_ofPage 28 = .ok (.aload_n 0, 1) := by decide +kernel
theorem dX4_ofPage_29 : decode cX4_ofPage 29 = .ok (.getfield 19, 3) := by decide +kernel
theorem dX4_ofPage_32 : decode cX4_ofPage 32 = .ok (.iload_n 2, 1) := by decide +kernel
theorem dX4_ofPage_33 : decode cX4_ofPage 33 = .ok (.invokevirtual 150, 3) := by decide +kernel
theorem dX4_ofPage_36 : decode cX4_ofPage 36 = .ok (.ireturn, 1) := by decide +kernel
theorem dX4_block_0 : decode cX4_block 0 = .ok (.aload_n 0, 1) := by decide +kernel
theorem dX4_block_1 : decode cX4_block 1 = .ok (.getfield 19, 3) := by decide +kernel
theorem dX4_block_4 : decode cX4_block 4 = .ok (.iload_n 1, 1) := by decide +kernel
theorem dX4_block_5 : decode cX4_block 5 = .ok (.invokevirtual 147, 3) := by decide +kernel
theorem dX4_block_8 : decode cX4_block 8 = .ok (.ireturn, 1) := by decide +kernel
theorem dX4_order_0 : decode cX4_order 0 = .ok (.aload_n 0, 1) := by decide +kernel
theorem dX4_order_1 : decode cX4_order 1 = .ok (.getfield 19, 3) := by decide +kernel
theorem dX4_order_4 : decode cX4_order 4 = .ok (.aload_n 0, 1) := by decide +kernel
theorem dX4_order_5 : decode cX4_order 5 = .ok (.getfield 19, 3) := by decide +kernel
theorem dX4_order_8 : decode cX4_order 8 = .ok (.iload_n 1, 1) := by decide +kernel
theorem dX4_order_9 : decode cX4_order 9 = .ok (.invokevirtual 147, 3) := by decide +kernel
theorem dX4_order_12 : decode cX4_order 12 = .ok (.invokevirtual 73, 3) := by decide +kernel
theorem dX4_order_15 : decode cX4_order 15 = .ok (.ireturn, 1) := by decide +kernel
theorem dX4_freeBlocks_0 : decode cX4_freeBlocks 0 = .ok (.iload_n 1, 1) := by decide +kernel
theorem dX4_freeBlocks_1 : decode cX4_freeBlocks 1 = .ok (.invokestatic 62, 3) := by decide +kernel
theorem dX4_freeBlocks_4 : decode cX4_freeBlocks 4 = .ok (.ifCond .eq 15, 3) := by decide +kernel
theorem dX4_freeBlocks_7 : decode cX4_freeBlocks 7 = .ok (.aload_n 0, 1) := by decide +kernel
theorem dX4_freeBlocks_8 : decode cX4_freeBlocks 8 = .ok (.getfield 19, 3) := by decide +kernel
theorem dX4_freeBlocks_11 : decode cX4_freeBlocks 11 = .ok (.getfield 153, 3) := by decide +kernel
theorem dX4_freeBlocks_14 : decode cX4_freeBlocks 14 = .ok (.iload_n 1, 1) := by decide +kernel
theorem dX4_freeBlocks_15 : decode cX4_freeBlocks 15 = .ok (.iaload, 1) := by decide +kernel
theorem dX4_freeBlocks_16 : decode cX4_freeBlocks 16 = .ok (.goto 4, 3) := by decide +kernel
theorem dX4_freeBlocks_19 : decode cX4_freeBlocks 19 = .ok (.iconst (-1), 1) := by decide +kernel
theorem dX4_freeBlocks_20 : decode cX4_freeBlocks 20 = .ok (.ireturn, 1) := by decide +kernel
theorem dX4_ofCache_0 : decode cX4_ofCache 0 = .ok (.aload_n 0, 1) := by decide +kernel
theorem dX4_ofCache_1 : decode cX4_ofCache 1 = .ok (.iload_n 1, 1) := by decide +kernel
theorem dX4_ofCache_2 : decode cX4_ofCache 2 = .ok (.invokevirtual 83, 3) := by decide +kernel
theorem dX4_ofCache_5 : decode cX4_ofCache 5 = .ok (.astore_n 3, 1) := by decide +kernel
theorem dX4_ofCache_6 : decode cX4_ofCache 6 = .ok (.aload_n 3, 1) := by decide +kernel
theorem dX4_ofCache_7 : decode cX4_ofCache 7 = .ok (.ifnonnull 7, 3) := by decide +kernel
theorem dX4_ofCache_10 : decode cX4_ofCache 10 = .ok (.iconst (-1), 1) := by decide +kernel
theorem dX4_ofCache_11 : decode cX4_ofCache 11 = .ok (.goto 8, 3) := by decide +kernel
theorem dX4_ofCache_14 : decode cX4_ofCache 14 = .ok (.aload_n 3, 1) := by decide +kernel
theorem dX4_ofCache_15 : decode cX4_ofCache 15 = .ok (.iload_n 2, 1) := by decide +kernel
theorem dX4_ofCache_16 : decode cX4_ofCache 16 = .ok (.invokevirtual 157, 3) := by decide +kernel
theorem dX4_ofCache_19 : decode cX4_ofCache 19 = .ok (.ireturn, 1) := by decide +kernel
theorem dX4_count_0 : decode cX4_count 0 = .ok (.iload_n 1, 1) := by decide +kernel
theorem dX4_count_1 : decode cX4_count 1 = .ok (.tableswitch 117 0 8 #[51, 59, 67, 75, 83, 91, 96, 101, 109], 51) := by decide +kernel
theorem dX4_count_52 : decode cX4_count 52 = .ok (.aload_n 0, 1) := by decide +kernel
theorem dX4_count_53 : decode cX4_count 53 = .ok (.getfield 19, 3) := by decide +kernel
theorem dX4_count_56 : decode cX4_count 56 = .ok (.getfield 59, 3) := by decide +kernel
theorem dX4_count_59 : decode cX4_count 59 = .ok (.ireturn, 1) := by decide +kernel
theorem dX4_count_60 : decode cX4_count 60 = .ok (.aload_n 0, 1) := by decide +kernel
theorem dX4_count_61 : decode cX4_count 61 = .ok (.getfield 19, 3) := by decide +kernel
theorem dX4_count_64 : decode cX4_count 64 = .ok (.getfield 160, 3) := by decide +kernel
theorem dX4_count_67 : decode cX4_count 67 = .ok (.ireturn, 1) := by decide +kernel
theorem dX4_count_68 : decode cX4_count 68 = .ok (.aload_n 0, 1) := by decide +kernel
theorem dX4_count_69 : decode cX4_count 69 = .ok (.getfield 19, 3) := by decide +kernel
theorem dX4_count_72 : decode cX4_count 72 = .ok (.getfield 163, 3) := by decide +kernel
theorem dX4_count_75 : decode cX4_count 75 = .ok (.ireturn, 1) := by decide +kernel
theorem dX4_count_76 : decode cX4_count 76 = .ok (.aload_n 0, 1) := by decide +kernel
theorem dX4_count_77 : decode cX4_count 77 = .ok (.getfield 19, 3) := by decide +kernel
theorem dX4_count_80 : decode cX4_count 80 = .ok (.getfield 166, 3) := by decide +kernel
theorem dX4_count_83 : decode cX4_count 83 = .ok (.ireturn, 1) := by decide +kernel
theorem dX4_count_84 : decode cX4_count 84 = .ok (.aload_n 0, 1) := by decide +kernel
theorem dX4_count_85 : decode cX4_count 85 = .ok (.getfield 19, 3) := by decide +kernel
theorem dX4_count_88 : decode cX4_count 88 = .ok (.getfield 169, 3) := by decide +kernel
theorem dX4_count_91 : decode cX4_count 91 = .ok (.ireturn, 1) := by decide +kernel
theorem dX4_count_92 : decode cX4_count 92 = .ok (.aload_n 0, 1) := by decide +kernel
theorem dX4_count_93 : decode cX4_count 93 = .ok (.invokevirtual 172, 3) := by decide +kernel
theorem dX4_count_96 : decode cX4_count 96 = .ok (.ireturn, 1) := by decide +kernel
theorem dX4_count_97 : decode cX4_count 97 = .ok (.aload_n 0, 1) := by decide +kernel
theorem dX4_count_98 : decode cX4_count 98 = .ok (.getfield 44, 3) := by decide +kernel
theorem dX4_count_101 : decode cX4_count 101 = .ok (.ireturn, 1) := by decide +kernel
theorem dX4_count_102 : decode cX4_count 102 = .ok (.aload_n 0, 1) := by decide +kernel
theorem dX4_count_103 : decode cX4_count 103 = .ok (.getfield 19, 3) := by decide +kernel
theorem dX4_count_106 : decode cX4_count 106 = .ok (.getfield 176, 3) := by decide +kernel
theorem dX4_count_109 : decode cX4_count 109 = .ok (.ireturn, 1) := by decide +kernel
theorem dX4_count_110 : decode cX4_count 110 = .ok (.aload_n 0, 1) := by decide +kernel
theorem dX4_count_111 : decode cX4_count 111 = .ok (.getfield 19, 3) := by decide +kernel
theorem dX4_count_114 : decode cX4_count 114 = .ok (.getfield 141, 3) := by decide +kernel
theorem dX4_count_117 : decode cX4_count 117 = .ok (.ireturn, 1) := by decide +kernel
theorem dX4_count_118 : decode cX4_count 118 = .ok (.iconst (-1), 1) := by decide +kernel
theorem dX4_count_119 : decode cX4_count 119 = .ok (.ireturn, 1) := by decide +kernel
theorem dX4_isPage_0 : decode cX4_isPage 0 = .ok (.iload_n 0, 1) := by decide +kernel
theorem dX4_isPage_1 : decode cX4_isPage 1 = .ok (.ifCond .lt 14, 3) := by decide +kernel
theorem dX4_isPage_4 : decode cX4_isPage 4 = .ok (.iload_n 0, 1) := by decide +kernel
theorem dX4_isPage_5 : decode cX4_isPage 5 = .ok (.sipush 256, 3) := by decide +kernel
theorem dX4_isPage_8 : decode cX4_isPage 8 = .ok (.if_icmp .ge 7, 3) := by decide +kernel
theorem dX4_isPage_11 : decode cX4_isPage 11 = .ok (.iconst 1, 1) := by decide +kernel
theorem dX4_isPage_12 : decode cX4_isPage 12 = .ok (.goto 4, 3) := by decide +kernel
theorem dX4_isPage_15 : decode cX4_isPage 15 = .ok (.iconst 0, 1) := by decide +kernel
theorem dX4_isPage_16 : decode cX4_isPage 16 = .ok (.ireturn, 1) := by decide +kernel
theorem dX4_isAddress_0 : decode cX4_isAddress 0 = .ok (.iload_n 0, 1) := by decide +kernel
theorem dX4_isAddress_1 : decode cX4_isAddress 1 = .ok (.ifCond .lt 14, 3) := by decide +kernel
theorem dX4_isAddress_4 : decode cX4_isAddress 4 = .ok (.iload_n 0, 1) := by decide +kernel
theorem dX4_isAddress_5 : decode cX4_isAddress 5 = .ok (.sipush 16384, 3) := by decide +kernel
theorem dX4_isAddress_8 : decode cX4_isAddress 8 = .ok (.if_icmp .ge 7, 3) := by decide +kernel
theorem dX4_isAddress_11 : decode cX4_isAddress 11 = .ok (.iconst 1, 1) := by decide +kernel
theorem dX4_isAddress_12 : decode cX4_isAddress 12 = .ok (.goto 4, 3) := by decide +kernel
theorem dX4_isAddress_15 : decode cX4_isAddress 15 = .ok (.iconst 0, 1) := by decide +kernel
theorem dX4_isAddress_16 : decode cX4_isAddress 16 = .ok (.ireturn, 1) := by decide +kernel
theorem dX4_isOrder_0 : decode cX4_isOrder 0 = .ok (.iload_n 0, 1) := by decide +kernel
theorem dX4_isOrder_1 : decode cX4_isOrder 1 = .ok (.ifCond .lt 13, 3) := by decide +kernel
theorem dX4_isOrder_4 : decode cX4_isOrder 4 = .ok (.iload_n 0, 1) := by decide +kernel
theorem dX4_isOrder_5 : decode cX4_isOrder 5 = .ok (.bipush 6, 2) := by decide +kernel
theorem dX4_isOrder_7 : decode cX4_isOrder 7 = .ok (.if_icmp .gt 7, 3) := by decide +kernel
theorem dX4_isOrder_10 : decode cX4_isOrder 10 = .ok (.iconst 1, 1) := by decide +kernel
theorem dX4_isOrder_11 : decode cX4_isOrder 11 = .ok (.goto 4, 3) := by decide +kernel
theorem dX4_isOrder_14 : decode cX4_isOrder 14 = .ok (.iconst 0, 1) := by decide +kernel
theorem dX4_isOrder_15 : decode cX4_isOrder 15 = .ok (.ireturn, 1) := by decide +kernel
theorem dX4_isAlignment_0 : decode cX4_isAlignment 0 = .ok (.iload_n 0, 1) := by decide +kernel
theorem dX4_isAlignment_1 : decode cX4_isAlignment 1 = .ok (.iconst 1, 1) := by decide +kernel
theorem dX4_isAlignment_2 : decode cX4_isAlignment 2 = .ok (.if_icmp .lt 21, 3) := by decide +kernel
theorem dX4_isAlignment_5 : decode cX4_isAlignment 5 = .ok (.iload_n 0, 1) := by decide +kernel
theorem dX4_isAlignment_6 : decode cX4_isAlignment 6 = .ok (.bipush 64, 2) := by decide +kernel
theorem dX4_isAlignment_8 : decode cX4_isAlignment 8 = .ok (.if_icmp .gt 15, 3) := by decide +kernel
theorem dX4_isAlignment_11 : decode cX4_isAlignment 11 = .ok (.iload_n 0, 1) := by decide +kernel
theorem dX4_isAlignment_12 : decode cX4_isAlignment 12 = .ok (.invokestatic 179, 3) := by decide +kernel
theorem dX4_isAlignment_15 : decode cX4_isAlignment 15 = .ok (.iconst 1, 1) := by decide +kernel
theorem dX4_isAlignment_16 : decode cX4_isAlignment 16 = .ok (.if_icmp .ne 7, 3) := by decide +kernel
theorem dX4_isAlignment_19 : decode cX4_isAlignment 19 = .ok (.iconst 1, 1) := by decide +kernel
theorem dX4_isAlignment_20 : decode cX4_isAlignment 20 = .ok (.goto 4, 3) := by decide +kernel
theorem dX4_isAlignment_23 : decode cX4_isAlignment 23 = .ok (.iconst 0, 1) := by decide +kernel
theorem dX4_isAlignment_24 : decode cX4_isAlignment 24 = .ok (.ireturn, 1) := by decide +kernel
theorem dX4_isBySize_0 : decode cX4_isBySize 0 = .ok (.iload_n 0, 1) := by decide +kernel
theorem dX4_isBySize_1 : decode cX4_isBySize 1 = .ok (.iconst 1, 1) := by decide +kernel
theorem dX4_isBySize_2 : decode cX4_isBySize 2 = .ok (.if_icmp .lt 14, 3) := by decide +kernel
theorem dX4_isBySize_5 : decode cX4_isBySize 5 = .ok (.iload_n 0, 1) := by decide +kernel
theorem dX4_isBySize_6 : decode cX4_isBySize 6 = .ok (.sipush 4096, 3) := by decide +kernel
theorem dX4_isBySize_9 : decode cX4_isBySize 9 = .ok (.if_icmp .gt 7, 3) := by decide +kernel
theorem dX4_isBySize_12 : decode cX4_isBySize 12 = .ok (.iconst 1, 1) := by decide +kernel
theorem dX4_isBySize_13 : decode cX4_isBySize 13 = .ok (.goto 4, 3) := by decide +kernel
theorem dX4_isBySize_16 : decode cX4_isBySize 16 = .ok (.iconst 0, 1) := by decide +kernel
theorem dX4_isBySize_17 : decode cX4_isBySize 17 = .ok (.ireturn, 1) := by decide +kernel
theorem dX4_cacheOf_0 : decode cX4_cacheOf 0 = .ok (.iload_n 1, 1) := by decide +kernel
theorem dX4_cacheOf_1 : decode cX4_cacheOf 1 = .ok (.ifCond .lt 26, 3) := by decide +kernel
theorem dX4_cacheOf_4 : decode cX4_cacheOf 4 = .ok (.iload_n 1, 1) := by decide +kernel
theorem dX4_cacheOf_5 : decode cX4_cacheOf 5 = .ok (.aload_n 0, 1) := by decide +kernel
theorem dX4_cacheOf_6 : decode cX4_cacheOf 6 = .ok (.getfield 44, 3) := by decide +kernel
theorem dX4_cacheOf_9 : decode cX4_cacheOf 9 = .ok (.if_icmp .ge 18, 3) := by decide +kernel
theorem dX4_cacheOf_12 : decode cX4_cacheOf 12 = .ok (.iload_n 1, 1) := by decide +kernel
theorem dX4_cacheOf_13 : decode cX4_cacheOf 13 = .ok (.bipush 12, 2) := by decide +kernel
theorem dX4_cacheOf_15 : decode cX4_cacheOf 15 = .ok (.if_icmp .ge 12, 3) := by decide +kernel
theorem dX4_cacheOf_18 : decode cX4_cacheOf 18 = .ok (.aload_n 0, 1) := by decide +kernel
theorem dX4_cacheOf_19 : decode cX4_cacheOf 19 = .ok (.getfield 31, 3) := by decide +kernel
theorem dX4_cacheOf_22 : decode cX4_cacheOf 22 = .ok (.iload_n 1, 1) := by decide +kernel
theorem dX4_cacheOf_23 : decode cX4_cacheOf 23 = .ok (.aaload, 1) := by decide +kernel
theorem dX4_cacheOf_24 : decode cX4_cacheOf 24 = .ok (.goto 4, 3) := by decide +kernel
theorem dX4_cacheOf_27 : decode cX4_cacheOf 27 = .ok (.aconst_null, 1) := by decide +kernel
theorem dX4_cacheOf_28 : decode cX4_cacheOf 28 = .ok (.areturn, 1) := by decide +kernel
theorem dX4_slabAt_0 : decode cX4_slabAt 0 = .ok (.iload_n 1, 1) := by decide +kernel
theorem dX4_slabAt_1 : decode cX4_slabAt 1 = .ok (.invokestatic 144, 3) := by decide +kernel
theorem dX4_slabAt_4 : decode cX4_slabAt 4 = .ok (.ifCond .eq 12, 3) := by decide +kernel
theorem dX4_slabAt_7 : decode cX4_slabAt 7 = .ok (.aload_n 0, 1) := by decide +kernel
theorem dX4_slabAt_8 : decode cX4_slabAt 8 = .ok (.getfield 25, 3) := by decide +kernel
theorem dX4_slabAt_11 : decode cX4_slabAt 11 = .ok (.iload_n 1, 1) := by decide +kernel
theorem dX4_slabAt_12 : decode cX4_slabAt 12 = .ok (.aaload, 1) := by decide +kernel
theorem dX4_slabAt_13 : decode cX4_slabAt 13 = .ok (.goto 4, 3) := by decide +kernel
theorem dX4_slabAt_16 : decode cX4_slabAt 16 = .ok (.aconst_null, 1) := by decide +kernel
theorem dX4_slabAt_17 : decode cX4_slabAt 17 = .ok (.areturn, 1) := by decide +kernel
theorem dX4_liveObjects_0 : decode cX4_liveObjects 0 = .ok (.iconst 0, 1) := by decide +kernel
theorem dX4_liveObjects_1 : decode cX4_liveObjects 1 = .ok (.istore_n 1, 1) := by decide +kernel
theorem dX4_liveObjects_2 : decode cX4_liveObjects 2 = .ok (.iconst 0, 1) := by decide +kernel
theorem dX4_liveObjects_3 : decode cX4_liveObjects 3 = .ok (.istore_n 2, 1) := by decide +kernel
theorem dX4_liveObjects_4 : decode cX4_liveObjects 4 = .ok (.iload_n 2, 1) := by decide +kernel
theorem dX4_liveObjects_5 : decode cX4_liveObjects 5 = .ok (.bipush 12, 2) := by decide +kernel
theorem dX4_liveObjects_7 : decode cX4_liveObjects 7 = .ok (.if_icmp .ge 30, 3) := by decide +kernel
theorem dX4_liveObjects_10 : decode cX4_liveObjects 10 = .ok (.aload_n 0, 1) := by decide +kernel
theorem dX4_liveObjects_11 : decode cX4_liveObjects 11 = .ok (.iload_n 2, 1) := by decide +kernel
theorem dX4_liveObjects_12 : decode cX4_liveObjects 12 = .ok (.invokevirtual 83, 3) := by decide +kernel
theorem dX4_liveObjects_15 : decode cX4_liveObjects 15 = .ok (.astore_n 3, 1) := by decide +kernel
theorem dX4_liveObjects_16 : decode cX4_liveObjects 16 = .ok (.iload_n 1, 1) := by decide +kernel
theorem dX4_liveObjects_17 : decode cX4_liveObjects 17 = .ok (.aload_n 3, 1) := by decide +kernel
theorem dX4_liveObjects_18 : decode cX4_liveObjects 18 = .ok (.ifnonnull 7, 3) := by decide +kernel
theorem dX4_liveObjects_21 : decode cX4_liveObjects 21 = .ok (.iconst 0, 1) := by decide +kernel
theorem dX4_liveObjects_22 : decode cX4_liveObjects 22 = .ok (.goto 7, 3) := by decide +kernel
theorem dX4_liveObjects_25 : decode cX4_liveObjects 25 = .ok (.aload_n 3, 1) := by decide +kernel
theorem dX4_liveObjects_26 : decode cX4_liveObjects 26 = .ok (.getfield 184, 3) := by decide +kernel
theorem dX4_liveObjects_29 : decode cX4_liveObjects 29 = .ok (.iadd, 1) := by decide +kernel
theorem dX4_liveObjects_30 : decode cX4_liveObjects 30 = .ok (.istore_n 1, 1) := by decide +kernel
theorem dX4_liveObjects_31 : decode cX4_liveObjects 31 = .ok (.iinc 2 1, 3) := by decide +kernel
theorem dX4_liveObjects_34 : decode cX4_liveObjects 34 = .ok (.goto (-30), 3) := by decide +kernel
theorem dX4_liveObjects_37 : decode cX4_liveObjects 37 = .ok (.iload_n 1, 1) := by decide +kernel
theorem dX4_liveObjects_38 : decode cX4_liveObjects 38 = .ok (.ireturn, 1) := by decide +kernel
theorem dX4_wrongWithPage_0 : decode cX4_wrongWithPage 0 = .ok (.aload_n 0, 1) := by decide +kernel
theorem dX4_wrongWithPage_1 : decode cX4_wrongWithPage 1 = .ok (.getfield 19, 3) := by decide +kernel
theorem dX4_wrongWithPage_4 : decode cX4_wrongWithPage 4 = .ok (.iload_n 1, 1) := by decide +kernel
theorem dX4_wrongWithPage_5 : decode cX4_wrongWithPage 5 = .ok (.invokevirtual 150, 3) := by decide +kernel
theorem dX4_wrongWithPage_8 : decode cX4_wrongWithPage 8 = .ok (.istore_n 2, 1) := by decide +kernel
theorem dX4_wrongWithPage_9 : decode cX4_wrongWithPage 9 = .ok (.iload_n 2, 1) := by decide +kernel
theorem dX4_wrongWithPage_10 : decode cX4_wrongWithPage 10 = .ok (.ifCond .ne 6, 3) := by decide +kernel
theorem dX4_wrongWithPage_13 : decode cX4_wrongWithPage 13 = .ok (.bipush (-3), 2) := by decide +kernel
theorem dX4_wrongWithPage_15 : decode cX4_wrongWithPage 15 = .ok (.ireturn, 1) := by decide +kernel
theorem dX4_wrongWithPage_16 : decode cX4_wrongWithPage 16 = .ok (.iload_n 2, 1) := by decide +kernel
theorem dX4_wrongWithPage_17 : decode cX4_wrongWithPage 17 = .ok (.iconst 1, 1) := by decide +kernel
theorem dX4_wrongWithPage_18 : decode cX4_wrongWithPage 18 = .ok (.if_icmp .ne 7, 3) := by decide +kernel
theorem dX4_wrongWithPage_21 : decode cX4_wrongWithPage 21 = .ok (.iconst 0, 1) := by decide +kernel
theorem dX4_wrongWithPage_22 : decode cX4_wrongWithPage 22 = .ok (.goto 5, 3) := by decide +kernel
theorem dX4_wrongWithPage_25 : decode cX4_wrongWithPage 25 = .ok (.bipush (-2), 2) := by decide +kernel
theorem dX4_wrongWithPage_27 : decode cX4_wrongWithPage 27 = .ok (.ireturn, 1) := by decide +kernel
theorem dX4_wrongWithObject_0 : decode cX4_wrongWithObject 0 = .ok (.iload_n 2, 1) := by decide +kernel
theorem dX4_wrongWithObject_1 : decode cX4_wrongWithObject 1 = .ok (.invokestatic 132, 3) := by decide +kernel
theorem dX4_wrongWithObject_4 : decode cX4_wrongWithObject 4 = .ok (.ifCond .ne 6, 3) := by decide +kernel
theorem dX4_wrongWithObject_7 : decode cX4_wrongWithObject 7 = .ok (.bipush (-2), 2) := by decide +kernel
theorem dX4_wrongWithObject_9 : decode cX4_wrongWithObject 9 = .ok (.ireturn, 1) := by decide +kernel
theorem dX4_wrongWithObject_10 : decode cX4_wrongWithObject 10 = .ok (.aload_n 0, 1) := by decide +kernel
theorem dX4_wrongWithObject_11 : decode cX4_wrongWithObject 11 = .ok (.getfield 19, 3) := by decide +kernel
theorem dX4_wrongWithObject_14 : decode cX4_wrongWithObject 14 = .ok (.iload_n 2, 1) := by decide +kernel
theorem dX4_wrongWithObject_15 : decode cX4_wrongWithObject 15 = .ok (.bipush 64, 2) := by decide +kernel
theorem dX4_wrongWithObject_17 : decode cX4_wrongWithObject 17 = .ok (.idiv, 1) := by decide +kernel
theorem dX4_wrongWithObject_18 : decode cX4_wrongWithObject 18 = .ok (.invokevirtual 147, 3) := by decide +kernel
theorem dX4_wrongWithObject_21 : decode cX4_wrongWithObject 21 = .ok (.istore_n 3, 1) := by decide +kernel
theorem dX4_wrongWithObject_22 : decode cX4_wrongWithObject 22 = .ok (.aload_n 0, 1) := by decide +kernel
theorem dX4_wrongWithObject_23 : decode cX4_wrongWithObject 23 = .ok (.iload_n 3, 1) := by decide +kernel
theorem dX4_wrongWithObject_24 : decode cX4_wrongWithObject 24 = .ok (.invokevirtual 187, 3) := by decide +kernel
theorem dX4_wrongWithObject_27 : decode cX4_wrongWithObject 27 = .ok (.astore 4, 2) := by decide +kernel
theorem dX4_wrongWithObject_29 : decode cX4_wrongWithObject 29 = .ok (.aload 4, 2) := by decide +kernel
theorem dX4_wrongWithObject_31 : decode cX4_wrongWithObject 31 = .ok (.ifnull 18, 3) := by decide +kernel
theorem dX4_wrongWithObject_34 : decode cX4_wrongWithObject 34 = .ok (.aload_n 0, 1) := by decide +kernel
theorem dX4_wrongWithObject_35 : decode cX4_wrongWithObject 35 = .ok (.getfield 19, 3) := by decide +kernel
theorem dX4_wrongWithObject_38 : decode cX4_wrongWithObject 38 = .ok (.iload_n 3, 1) := by decide +kernel
theorem dX4_wrongWithObject_39 : decode cX4_wrongWithObject 39 = .ok (.invokevirtual 150, 3) := by decide +kernel
theorem dX4_wrongWithObject_42 : decode cX4_wrongWithObject 42 = .ok (.aload_n 1, 1) := by decide +kernel
theorem dX4_wrongWithObject_43 : decode cX4_wrongWithObject 43 = .ok (.getfield 191, 3) := by decide +kernel
theorem dX4_wrongWithObject_46 : decode cX4_wrongWithObject 46 = .ok (.if_icmp .eq 6, 3) := by decide +kernel
theorem dX4_wrongWithObject_49 : decode cX4_wrongWithObject 49 = .ok (.bipush (-2), 2) := by decide +kernel
theorem dX4_wrongWithObject_51 : decode cX4_wrongWithObject 51 = .ok (.ireturn, 1) := by decide +kernel
theorem dX4_wrongWithObject_52 : decode cX4_wrongWithObject 52 = .ok (.aload_n 1, 1) := by decide +kernel
theorem dX4_wrongWithObject_53 : decode cX4_wrongWithObject 53 = .ok (.iload_n 2, 1) := by decide +kernel
theorem dX4_wrongWithObject_54 : decode cX4_wrongWithObject 54 = .ok (.iload_n 3, 1) := by decide +kernel
theorem dX4_wrongWithObject_55 : decode cX4_wrongWithObject 55 = .ok (.bipush 64, 2) := by decide +kernel
theorem dX4_wrongWithObject_57 : decode cX4_wrongWithObject 57 = .ok (.imul, 1) := by decide +kernel
theorem dX4_wrongWithObject_58 : decode cX4_wrongWithObject 58 = .ok (.isub, 1) := by decide +kernel
theorem dX4_wrongWithObject_59 : decode cX4_wrongWithObject 59 = .ok (.invokevirtual 194, 3) := by decide +kernel
theorem dX4_wrongWithObject_62 : decode cX4_wrongWithObject 62 = .ok (.istore 5, 2) := by decide +kernel
theorem dX4_wrongWithObject_64 : decode cX4_wrongWithObject 64 = .ok (.iload 5, 2) := by decide +kernel
theorem dX4_wrongWithObject_66 : decode cX4_wrongWithObject 66 = .ok (.iconst (-1), 1) := by decide +kernel
theorem dX4_wrongWithObject_67 : decode cX4_wrongWithObject 67 = .ok (.if_icmp .ne 6, 3) := by decide +kernel
theorem dX4_wrongWithObject_70 : decode cX4_wrongWithObject 70 = .ok (.bipush (-2), 2) := by decide +kernel
theorem dX4_wrongWithObject_72 : decode cX4_wrongWithObject 72 = .ok (.ireturn, 1) := by decide +kernel
theorem dX4_wrongWithObject_73 : decode cX4_wrongWithObject 73 = .ok (.aload 4, 2) := by decide +kernel
theorem dX4_wrongWithObject_75 : decode cX4_wrongWithObject 75 = .ok (.iload 5, 2) := by decide +kernel
theorem dX4_wrongWithObject_77 : decode cX4_wrongWithObject 77 = .ok (.invokevirtual 197, 3) := by decide +kernel
theorem dX4_wrongWithObject_80 : decode cX4_wrongWithObject 80 = .ok (.ifCond .eq 7, 3) := by decide +kernel
theorem dX4_wrongWithObject_83 : decode cX4_wrongWithObject 83 = .ok (.iconst 0, 1) := by decide +kernel
theorem dX4_wrongWithObject_84 : decode cX4_wrongWithObject 84 = .ok (.goto 5, 3) := by decide +kernel
theorem dX4_wrongWithObject_87 : decode cX4_wrongWithObject 87 = .ok (.bipush (-3), 2) := by decide +kernel
theorem dX4_wrongWithObject_89 : decode cX4_wrongWithObject 89 = .ok (.ireturn, 1) := by decide +kernel
theorem dX4_wrongBySize_0 : decode cX4_wrongBySize 0 = .ok (.iload_n 1, 1) := by decide +kernel
theorem dX4_wrongBySize_1 : decode cX4_wrongBySize 1 = .ok (.invokestatic 132, 3) := by decide +kernel
theorem dX4_wrongBySize_4 : decode cX4_wrongBySize 4 = .ok (.ifCond .ne 6, 3) := by decide +kernel
theorem dX4_wrongBySize_7 : decode cX4_wrongBySize 7 = .ok (.bipush (-2), 2) := by decide +kernel
theorem dX4_wrongBySize_9 : decode cX4_wrongBySize 9 = .ok (.ireturn, 1) := by decide +kernel
theorem dX4_wrongBySize_10 : decode cX4_wrongBySize 10 = .ok (.iload_n 1, 1) := by decide +kernel
theorem dX4_wrongBySize_11 : decode cX4_wrongBySize 11 = .ok (.bipush 64, 2) := by decide +kernel
theorem dX4_wrongBySize_13 : decode cX4_wrongBySize 13 = .ok (.idiv, 1) := by decide +kernel
theorem dX4_wrongBySize_14 : decode cX4_wrongBySize 14 = .ok (.istore_n 2, 1) := by decide +kernel
theorem dX4_wrongBySize_15 : decode cX4_wrongBySize 15 = .ok (.aload_n 0, 1) := by decide +kernel
theorem dX4_wrongBySize_16 : decode cX4_wrongBySize 16 = .ok (.getfield 19, 3) := by decide +kernel
theorem dX4_wrongBySize_19 : decode cX4_wrongBySize 19 = .ok (.aload_n 0, 1) := by decide +kernel
theorem dX4_wrongBySize_20 : decode cX4_wrongBySize 20 = .ok (.getfield 19, 3) := by decide +kernel
theorem dX4_wrongBySize_23 : decode cX4_wrongBySize 23 = .ok (.iload_n 2, 1) := by decide +kernel
theorem dX4_wrongBySize_24 : decode cX4_wrongBySize 24 = .ok (.invokevirtual 147, 3) := by decide +kernel
theorem dX4_wrongBySize_27 : decode cX4_wrongBySize 27 = .ok (.invokevirtual 150, 3) := by decide +kernel
theorem dX4_wrongBySize_30 : decode cX4_wrongBySize 30 = .ok (.istore_n 3, 1) := by decide +kernel
theorem dX4_wrongBySize_31 : decode cX4_wrongBySize 31 = .ok (.iload_n 3, 1) := by decide +kernel
theorem dX4_wrongBySize_32 : decode cX4_wrongBySize 32 = .ok (.iconst 2, 1) := by decide +kernel
theorem dX4_wrongBySize_33 : decode cX4_wrongBySize 33 = .ok (.if_icmp .lt 40, 3) := by decide +kernel
theorem dX4_wrongBySize_36 : decode cX4_wrongBySize 36 = .ok (.iload_n 3, 1) := by decide +kernel
theorem dX4_wrongBySize_37 : decode cX4_wrongBySize 37 = .ok (.bipush 8, 2) := by decide +kernel
theorem dX4_wrongBySize_39 : decode cX4_wrongBySize 39 = .ok (.if_icmp .ge 13, 3) := by decide +kernel
theorem dX4_wrongBySize_42 : decode cX4_wrongBySize 42 = .ok (.aload_n 0, 1) := by decide +kernel
theorem dX4_wrongBySize_43 : decode cX4_wrongBySize 43 = .ok (.iload_n 3, 1) := by decide +kernel
theorem dX4_wrongBySize_44 : decode cX4_wrongBySize 44 = .ok (.iconst 2, 1) := by decide +kernel
theorem dX4_wrongBySize_45 : decode cX4_wrongBySize 45 = .ok (.isub, 1) := by decide +kernel
theorem dX4_wrongBySize_46 : decode cX4_wrongBySize 46 = .ok (.invokevirtual 83, 3) := by decide +kernel
theorem dX4_wrongBySize_49 : decode cX4_wrongBySize 49 = .ok (.goto 4, 3) := by decide +kernel
theorem dX4_wrongBySize_52 : decode cX4_wrongBySize 52 = .ok (.aconst_null, 1) := by decide +kernel
theorem dX4_wrongBySize_53 : decode cX4_wrongBySize 53 = .ok (.astore 4, 2) := by decide +kernel
theorem dX4_wrongBySize_55 : decode cX4_wrongBySize 55 = .ok (.aload 4, 2) := by decide +kernel
theorem dX4_wrongBySize_57 : decode cX4_wrongBySize 57 = .ok (.ifnonnull 8, 3) := by decide +kernel
theorem dX4_wrongBySize_60 : decode cX4_wrongBySize 60 = .ok (.bipush (-2), 2) := by decide +kernel
theorem dX4_wrongBySize_62 : decode cX4_wrongBySize 62 = .ok (.goto 10, 3) := by decide +kernel
theorem dX4_wrongBySize_65 : decode cX4_wrongBySize 65 = .ok (.aload_n 0, 1) := by decide +kernel
theorem dX4_wrongBySize_66 : decode cX4_wrongBySize 66 = .ok (.aload 4, 2) := by decide +kernel
theorem dX4_wrongBySize_68 : decode cX4_wrongBySize 68 = .ok (.iload_n 1, 1) := by decide +kernel
theorem dX4_wrongBySize_69 : decode cX4_wrongBySize 69 = .ok (.invokevirtual 91, 3) := by decide +kernel
theorem dX4_wrongBySize_72 : decode cX4_wrongBySize 72 = .ok (.ireturn, 1) := by decide +kernel
theorem dX4_wrongBySize_73 : decode cX4_wrongBySize 73 = .ok (.iload_n 1, 1) := by decide +kernel
theorem dX4_wrongBySize_74 : decode cX4_wrongBySize 74 = .ok (.bipush 64, 2) := by decide +kernel
theorem dX4_wrongBySize_76 : decode cX4_wrongBySize 76 = .ok (.irem, 1) := by decide +kernel
theorem dX4_wrongBySize_77 : decode cX4_wrongBySize 77 = .ok (.ifCond .ne 11, 3) := by decide +kernel
theorem dX4_wrongBySize_80 : decode cX4_wrongBySize 80 = .ok (.aload_n 0, 1) := by decide +kernel
theorem dX4_wrongBySize_81 : decode cX4_wrongBySize 81 = .ok (.iload_n 2, 1) := by decide +kernel
theorem dX4_wrongBySize_82 : decode cX4_wrongBySize 82 = .ok (.invokevirtual 69, 3) := by decide +kernel
theorem dX4_wrongBySize_85 : decode cX4_wrongBySize 85 = .ok (.goto 5, 3) := by decide +kernel
theorem dX4_wrongBySize_88 : decode cX4_wrongBySize 88 = .ok (.bipush (-2), 2) := by decide +kernel
theorem dX4_wrongBySize_90 : decode cX4_wrongBySize 90 = .ok (.ireturn, 1) := by decide +kernel
theorem dX4_takeObject_0 : decode cX4_takeObject 0 = .ok (.aload_n 0, 1) := by decide +kernel
theorem dX4_takeObject_1 : decode cX4_takeObject 1 = .ok (.aload_n 1, 1) := by decide +kernel
theorem dX4_takeObject_2 : decode cX4_takeObject 2 = .ok (.invokevirtual 200, 3) := by decide +kernel
theorem dX4_takeObject_5 : decode cX4_takeObject 5 = .ok (.istore_n 2, 1) := by decide +kernel
theorem dX4_takeObject_6 : decode cX4_takeObject 6 = .ok (.iload_n 2, 1) := by decide +kernel
theorem dX4_takeObject_7 : decode cX4_takeObject 7 = .ok (.iconst (-1), 1) := by decide +kernel
theorem dX4_takeObject_8 : decode cX4_takeObject 8 = .ok (.if_icmp .ne 8, 3) := by decide +kernel
theorem dX4_takeObject_11 : decode cX4_takeObject 11 = .ok (.aload_n 1, 1) := by decide +kernel
theorem dX4_takeObject_12 : decode cX4_takeObject 12 = .ok (.getfield 98, 3) := by decide +kernel
theorem dX4_takeObject_15 : decode cX4_takeObject 15 = .ok (.istore_n 2, 1) := by decide +kernel
theorem dX4_takeObject_16 : decode cX4_takeObject 16 = .ok (.iload_n 2, 1) := by decide +kernel
theorem dX4_takeObject_17 : decode cX4_takeObject 17 = .ok (.iconst (-1), 1) := by decide +kernel
theorem dX4_takeObject_18 : decode cX4_takeObject 18 = .ok (.if_icmp .ne 9, 3) := by decide +kernel
theorem dX4_takeObject_21 : decode cX4_takeObject 21 = .ok (.aload_n 0, 1) := by decide +kernel
theorem dX4_takeObject_22 : decode cX4_takeObject 22 = .ok (.aload_n 1, 1) := by decide +kernel
theorem dX4_takeObject_23 : decode cX4_takeObject 23 = .ok (.invokevirtual 203, 3) := by decide +kernel
theorem dX4_takeObject_26 : decode cX4_takeObject 26 = .ok (.istore_n 2, 1) := by decide +kernel
theorem dX4_takeObject_27 : decode cX4_takeObject 27 = .ok (.aload_n 0, 1) := by decide +kernel
theorem dX4_takeObject_28 : decode cX4_takeObject 28 = .ok (.iload_n 2, 1) := by decide +kernel
theorem dX4_takeObject_29 : decode cX4_takeObject 29 = .ok (.invokevirtual 187, 3) := by decide +kernel
theorem dX4_takeObject_32 : decode cX4_takeObject 32 = .ok (.astore_n 3, 1) := by decide +kernel
theorem dX4_takeObject_33 : decode cX4_takeObject 33 = .ok (.aload_n 3, 1) := by decide +kernel
theorem dX4_takeObject_34 : decode cX4_takeObject 34 = .ok (.ifnonnull 7, 3) := by decide +kernel
theorem dX4_takeObject_37 : decode cX4_takeObject 37 = .ok (.iconst (-1), 1) := by decide +kernel
theorem dX4_takeObject_38 : decode cX4_takeObject 38 = .ok (.goto 7, 3) := by decide +kernel
theorem dX4_takeObject_41 : decode cX4_takeObject 41 = .ok (.aload_n 3, 1) := by decide +kernel
theorem dX4_takeObject_42 : decode cX4_takeObject 42 = .ok (.invokevirtual 206, 3) := by decide +kernel
theorem dX4_takeObject_45 : decode cX4_takeObject 45 = .ok (.istore 4, 2) := by decide +kernel
theorem dX4_takeObject_47 : decode cX4_takeObject 47 = .ok (.iload 4, 2) := by decide +kernel
theorem dX4_takeObject_49 : decode cX4_takeObject 49 = .ok (.iconst (-1), 1) := by decide +kernel
theorem dX4_takeObject_50 : decode cX4_takeObject 50 = .ok (.if_icmp .ne 5, 3) := by decide +kernel
theorem dX4_takeObject_53 : decode cX4_takeObject 53 = .ok (.iconst (-1), 1) := by decide +kernel
theorem dX4_takeObject_54 : decode cX4_takeObject 54 = .ok (.ireturn, 1) := by decide +kernel
theorem dX4_takeObject_55 : decode cX4_takeObject 55 = .ok (.iload_n 2, 1) := by decide +kernel
theorem dX4_takeObject_56 : decode cX4_takeObject 56 = .ok (.aload_n 1, 1) := by decide +kernel
theorem dX4_takeObject_57 : decode cX4_takeObject 57 = .ok (.getfield 98, 3) := by decide +kernel
theorem dX4_takeObject_60 : decode cX4_takeObject 60 = .ok (.if_icmp .ne 8, 3) := by decide +kernel
theorem dX4_takeObject_63 : decode cX4_takeObject 63 = .ok (.aload_n 1, 1) := by decide +kernel
theorem dX4_takeObject_64 : decode cX4_takeObject 64 = .ok (.iconst (-1), 1) := by decide +kernel
theorem dX4_takeObject_65 : decode cX4_takeObject 65 = .ok (.putfield 98, 3) := by decide +kernel
theorem dX4_takeObject_68 : decode cX4_takeObject 68 = .ok (.aload_n 1, 1) := by decide +kernel
theorem dX4_takeObject_69 : decode cX4_takeObject 69 = .ok (.dup, 1) := by decide +kernel
theorem dX4_takeObject_70 : decode cX4_takeObject 70 = .ok (.getfield 184, 3) := by decide +kernel
theorem dX4_takeObject_73 : decode cX4_takeObject 73 = .ok (.iconst 1, 1) := by decide +kernel
theorem dX4_takeObject_74 : decode cX4_takeObject 74 = .ok (.iadd, 1) := by decide +kernel
theorem dX4_takeObject_75 : decode cX4_takeObject 75 = .ok (.putfield 184, 3) := by decide +kernel
theorem dX4_takeObject_78 : decode cX4_takeObject 78 = .ok (.iload_n 2, 1) := by decide +kernel
theorem dX4_takeObject_79 : decode cX4_takeObject 79 = .ok (.bipush 64, 2) := by decide +kernel
theorem dX4_takeObject_81 : decode cX4_takeObject 81 = .ok (.imul, 1) := by decide +kernel
theorem dX4_takeObject_82 : decode cX4_takeObject 82 = .ok (.iload 4, 2) := by decide +kernel
theorem dX4_takeObject_84 : decode cX4_takeObject 84 = .ok (.aload_n 1, 1) := by decide +kernel
theorem dX4_takeObject_85 : decode cX4_takeObject 85 = .ok (.getfield 209, 3) := by decide +kernel
theorem dX4_takeObject_88 : decode cX4_takeObject 88 = .ok (.imul, 1) := by decide +kernel
theorem dX4_takeObject_89 : decode cX4_takeObject 89 = .ok (.iadd, 1) := by decide +kernel
theorem dX4_takeObject_90 : decode cX4_takeObject 90 = .ok (.ireturn, 1) := by decide +kernel
theorem dX4_partlyLiveSlab_0 : decode cX4_partlyLiveSlab 0 = .ok (.iconst 0, 1) := by decide +kernel
theorem dX4_partlyLiveSlab_1 : decode cX4_partlyLiveSlab 1 = .ok (.istore_n 2, 1) := by decide +kernel
theorem dX4_partlyLiveSlab_2 : decode cX4_partlyLiveSlab 2 = .ok (.iload_n 2, 1) := by decide +kernel
theorem dX4_partlyLiveSlab_3 : decode cX4_partlyLiveSlab 3 = .ok (.sipush 256, 3) := by decide +kernel
theorem dX4_partlyLiveSlab_6 : decode cX4_partlyLiveSlab 6 = .ok (.if_icmp .ge 44, 3) := by decide +kernel
theorem dX4_partlyLiveSlab_9 : decode cX4_partlyLiveSlab 9 = .ok (.aload_n 0, 1) := by decide +kernel
theorem dX4_partlyLiveSlab_10 : decode cX4_partlyLiveSlab 10 = .ok (.getfield 25, 3) := by decide +kernel
theorem dX4_partlyLiveSlab_13 : decode cX4_partlyLiveSlab 13 = .ok (.iload_n 2, 1) := by decide +kernel
theorem dX4_partlyLiveSlab_14 : decode cX4_partlyLiveSlab 14 = .ok (.aaload, 1) := by decide +kernel
theorem dX4_partlyLiveSlab_15 : decode cX4_partlyLiveSlab 15 = .ok (.astore_n 3, 1) := by decide +kernel
theorem dX4_partlyLiveSlab_16 : decode cX4_partlyLiveSlab 16 = .ok (.aload_n 3, 1) := by decide +kernel
theorem dX4_partlyLiveSlab_17 : decode cX4_partlyLiveSlab 17 = .ok (.ifnull 27, 3) := by decide +kernel
theorem dX4_partlyLiveSlab_20 : decode cX4_partlyLiveSlab 20 = .ok (.aload_n 0, 1) := by decide +kernel
theorem dX4_partlyLiveSlab_21 : decode cX4_partlyLiveSlab 21 = .ok (.getfield 19, 3) := by decide +kernel
theorem dX4_partlyLiveSlab_24 : decode cX4_partlyLiveSlab 24 = .ok (.iload_n 2, 1) := by decide +kernel
theorem dX4_partlyLiveSlab_25 : decode cX4_partlyLiveSlab 25 = .ok (.invokevirtual 150, 3) := by decide +kernel
theorem dX4_partlyLiveSlab_28 : decode cX4_partlyLiveSlab 28 = .ok (.aload_n 1, 1) := by decide +kernel
theorem dX4_partlyLiveSlab_29 : decode cX4_partlyLiveSlab 29 = .ok (.getfield 191, 3) := by decide +kernel
theorem dX4_partlyLiveSlab_32 : decode cX4_partlyLiveSlab 32 = .ok (.if_icmp .ne 12, 3) := by decide +kernel
theorem dX4_partlyLiveSlab_35 : decode cX4_partlyLiveSlab 35 = .ok (.aload_n 3, 1) := by decide +kernel
theorem dX4_partlyLiveSlab_36 : decode cX4_partlyLiveSlab 36 = .ok (.invokevirtual 212, 3) := by decide +kernel
theorem dX4_partlyLiveSlab_39 : decode cX4_partlyLiveSlab 39 = .ok (.ifCond .eq 5, 3) := by decide +kernel
theorem dX4_partlyLiveSlab_42 : decode cX4_partlyLiveSlab 42 = .ok (.iload_n 2, 1) := by decide +kernel
theorem dX4_partlyLiveSlab_43 : decode cX4_partlyLiveSlab 43 = .ok (.ireturn, 1) := by decide +kernel
theorem dX4_partlyLiveSlab_44 : decode cX4_partlyLiveSlab 44 = .ok (.iinc 2 1, 3) := by decide +kernel
theorem dX4_partlyLiveSlab_47 : decode cX4_partlyLiveSlab 47 = .ok (.goto (-45), 3) := by decide +kernel
theorem dX4_partlyLiveSlab_50 : decode cX4_partlyLiveSlab 50 = .ok (.iconst (-1), 1) := by decide +kernel
theorem dX4_partlyLiveSlab_51 : decode cX4_partlyLiveSlab 51 = .ok (.ireturn, 1) := by decide +kernel
theorem dX4_newSlab_0 : decode cX4_newSlab 0 = .ok (.aload_n 0, 1) := by decide +kernel
theorem dX4_newSlab_1 : decode cX4_newSlab 1 = .ok (.getfield 19, 3) := by decide +kernel
theorem dX4_newSlab_4 : decode cX4_newSlab 4 = .ok (.aload_n 1, 1) := by decide +kernel
theorem dX4_newSlab_5 : decode cX4_newSlab 5 = .ok (.getfield 105, 3) := by decide +kernel
theorem dX4_newSlab_8 : decode cX4_newSlab 8 = .ok (.aload_n 1, 1) := by decide +kernel
theorem dX4_newSlab_9 : decode cX4_newSlab 9 = .ok (.getfield 191, 3) := by decide +kernel
theorem dX4_newSlab_12 : decode cX4_newSlab 12 = .ok (.invokevirtual 66, 3) := by decide +kernel
theorem dX4_newSlab_15 : decode cX4_newSlab 15 = .ok (.istore_n 2, 1) := by decide +kernel
theorem dX4_newSlab_16 : decode cX4_newSlab 16 = .ok (.iload_n 2, 1) := by decide +kernel
theorem dX4_newSlab_17 : decode cX4_newSlab 17 = .ok (.invokestatic 144, 3) := by decide +kernel
theorem dX4_newSlab_20 : decode cX4_newSlab 20 = .ok (.ifCond .ne 5, 3) := by decide +kernel
theorem dX4_newSlab_23 : decode cX4_newSlab 23 = .ok (.iconst (-1), 1) := by decide +kernel
theorem dX4_newSlab_24 : decode cX4_newSlab 24 = .ok (.ireturn, 1) := by decide +kernel
theorem dX4_newSlab_25 : decode cX4_newSlab 25 = .ok (.aload_n 0, 1) := by decide +kernel
theorem dX4_newSlab_26 : decode cX4_newSlab 26 = .ok (.getfield 25, 3) := by decide +kernel
theorem dX4_newSlab_29 : decode cX4_newSlab 29 = .ok (.iload_n 2, 1) := by decide +kernel
theorem dX4_newSlab_30 : decode cX4_newSlab 30 = .ok (.aaload, 1) := by decide +kernel
theorem dX4_newSlab_31 : decode cX4_newSlab 31 = .ok (.astore_n 3, 1) := by decide +kernel
theorem dX4_newSlab_32 : decode cX4_newSlab 32 = .ok (.aload_n 3, 1) := by decide +kernel
theorem dX4_newSlab_33 : decode cX4_newSlab 33 = .ok (.ifnonnull 18, 3) := by decide +kernel
theorem dX4_newSlab_36 : decode cX4_newSlab 36 = .ok (.new 23, 3) := by decide +kernel
theorem dX4_newSlab_39 : decode cX4_newSlab 39 = .ok (.dup, 1) := by decide +kernel
theorem dX4_newSlab_40 : decode cX4_newSlab 40 = .ok (.invokespecial 216, 3) := by decide +kernel
theorem dX4_newSlab_43 : decode cX4_newSlab 43 = .ok (.astore_n 3, 1) := by decide +kernel
theorem dX4_newSlab_44 : decode cX4_newSlab 44 = .ok (.aload_n 0, 1) := by decide +kernel
theorem dX4_newSlab_45 : decode cX4_newSlab 45 = .ok (.getfield 25, 3) := by decide +kernel
theorem dX4_newSlab_48 : decode cX4_newSlab 48 = .ok (.iload_n 2, 1) := by decide +kernel
theorem dX4_newSlab_49 : decode cX4_newSlab 49 = .ok (.aload_n 3, 1) := by decide +kernel
theorem dX4_newSlab_50 : decode cX4_newSlab 50 = .ok (.aastore, 1) := by decide +kernel
theorem dX4_newSlab_51 : decode cX4_newSlab 51 = .ok (.aload_n 3, 1) := by decide +kernel
theorem dX4_newSlab_52 : decode cX4_newSlab 52 = .ok (.aload_n 1, 1) := by decide +kernel
theorem dX4_newSlab_53 : decode cX4_newSlab 53 = .ok (.getfield 217, 3) := by decide +kernel
theorem dX4_newSlab_56 : decode cX4_newSlab 56 = .ok (.invokevirtual 220, 3) := by decide +kernel
theorem dX4_newSlab_59 : decode cX4_newSlab 59 = .ok (.aload_n 1, 1) := by decide +kernel
theorem dX4_newSlab_60 : decode cX4_newSlab 60 = .ok (.dup, 1) := by decide +kernel
theorem dX4_newSlab_61 : decode cX4_newSlab 61 = .ok (.getfield 223, 3) := by decide +kernel
theorem dX4_newSlab_64 : decode cX4_newSlab 64 = .ok (.iconst 1, 1) := by decide +kernel
theorem dX4_newSlab_65 : decode cX4_newSlab 65 = .ok (.iadd, 1) := by decide +kernel
theorem dX4_newSlab_66 : decode cX4_newSlab 66 = .ok (.putfield 223, 3) := by decide +kernel
theorem dX4_newSlab_69 : decode cX4_newSlab 69 = .ok (.iload_n 2, 1) := by decide +kernel
theorem dX4_newSlab_70 : decode cX4_newSlab 70 = .ok (.ireturn, 1) := by decide +kernel
theorem dX4_giveObject_0 : decode cX4_giveObject 0 = .ok (.aload_n 0, 1) := by decide +kernel
theorem dX4_giveObject_1 : decode cX4_giveObject 1 = .ok (.getfield 19, 3) := by decide +kernel
theorem dX4_giveObject_4 : decode cX4_giveObject 4 = .ok (.iload_n 2, 1) := by decide +kernel
theorem dX4_giveObject_5 : decode cX4_giveObject 5 = .ok (.bipush 64, 2) := by decide +kernel
theorem dX4_giveObject_7 : decode cX4_giveObject 7 = .ok (.idiv, 1) := by decide +kernel
theorem dX4_giveObject_8 : decode cX4_giveObject 8 = .ok (.invokevirtual 147, 3) := by decide +kernel
theorem dX4_giveObject_11 : decode cX4_giveObject 11 = .ok (.istore_n 3, 1) := by decide +kernel
theorem dX4_giveObject_12 : decode cX4_giveObject 12 = .ok (.aload_n 0, 1) := by decide +kernel
theorem dX4_giveObject_13 : decode cX4_giveObject 13 = .ok (.iload_n 3, 1) := by decide +kernel
theorem dX4_giveObject_14 : decode cX4_giveObject 14 = .ok (.invokevirtual 187, 3) := by decide +kernel
theorem dX4_giveObject_17 : decode cX4_giveObject 17 = .ok (.astore 4, 2) := by decide +kernel
theorem dX4_giveObject_19 : decode cX4_giveObject 19 = .ok (.aload 4, 2) := by decide +kernel
theorem dX4_giveObject_21 : decode cX4_giveObject 21 = .ok (.ifnonnull 6, 3) := by decide +kernel
theorem dX4_giveObject_24 : decode cX4_giveObject 24 = .ok (.bipush (-2), 2) := by decide +kernel
theorem dX4_giveObject_26 : decode cX4_giveObject 26 = .ok (.ireturn, 1) := by decide +kernel
theorem dX4_giveObject_27 : decode cX4_giveObject 27 = .ok (.aload 4, 2) := by decide +kernel
theorem dX4_giveObject_29 : decode cX4_giveObject 29 = .ok (.aload_n 1, 1) := by decide +kernel
theorem dX4_giveObject_30 : decode cX4_giveObject 30 = .ok (.iload_n 2, 1) := by decide +kernel
theorem dX4_giveObject_31 : decode cX4_giveObject 31 = .ok (.iload_n 3, 1) := by decide +kernel
theorem dX4_giveObject_32 : decode cX4_giveObject 32 = .ok (.bipush 64, 2) := by decide +kernel
theorem dX4_giveObject_34 : decode cX4_giveObject 34 = .ok (.imul, 1) := by decide +kernel
theorem dX4_giveObject_35 : decode cX4_giveObject 35 = .ok (.isub, 1) := by decide +kernel
theorem dX4_giveObject_36 : decode cX4_giveObject 36 = .ok (.invokevirtual 194, 3) := by decide +kernel
theorem dX4_giveObject_39 : decode cX4_giveObject 39 = .ok (.invokevirtual 226, 3) := by decide +kernel
theorem dX4_giveObject_42 : decode cX4_giveObject 42 = .ok (.aload_n 1, 1) := by decide +kernel
theorem dX4_giveObject_43 : decode cX4_giveObject 43 = .ok (.dup, 1) := by decide +kernel
theorem dX4_giveObject_44 : decode cX4_giveObject 44 = .ok (.getfield 184, 3) := by decide +kernel
theorem dX4_giveObject_47 : decode cX4_giveObject 47 = .ok (.iconst 1, 1) := by decide +kernel
theorem dX4_giveObject_48 : decode cX4_giveObject 48 = .ok (.isub, 1) := by decide +kernel
theorem dX4_giveObject_49 : decode cX4_giveObject 49 = .ok (.putfield 184, 3) := by decide +kernel
theorem dX4_giveObject_52 : decode cX4_giveObject 52 = .ok (.aload 4, 2) := by decide +kernel
theorem dX4_giveObject_54 : decode cX4_giveObject 54 = .ok (.invokevirtual 229, 3) := by decide +kernel
theorem dX4_giveObject_57 : decode cX4_giveObject 57 = .ok (.istore 5, 2) := by decide +kernel
theorem dX4_giveObject_59 : decode cX4_giveObject 59 = .ok (.iload 5, 2) := by decide +kernel
theorem dX4_giveObject_61 : decode cX4_giveObject 61 = .ok (.ifCond .ne 19, 3) := by decide +kernel
theorem dX4_giveObject_64 : decode cX4_giveObject 64 = .ok (.aload_n 1, 1) := by decide +kernel
theorem dX4_giveObject_65 : decode cX4_giveObject 65 = .ok (.getfield 98, 3) := by decide +kernel
theorem dX4_giveObject_68 : decode cX4_giveObject 68 = .ok (.iconst (-1), 1) := by decide +kernel
theorem dX4_giveObject_69 : decode cX4_giveObject 69 = .ok (.if_icmp .ne 11, 3) := by decide +kernel
theorem dX4_giveObject_72 : decode cX4_giveObject 72 = .ok (.aload_n 1, 1) := by decide +kernel
theorem dX4_giveObject_73 : decode cX4_giveObject 73 = .ok (.iload_n 3, 1) := by decide +kernel
theorem dX4_giveObject_74 : decode cX4_giveObject 74 = .ok (.putfield 98, 3) := by decide +kernel
theorem dX4_giveObject_77 : decode cX4_giveObject 77 = .ok (.goto 14, 3) := by decide +kernel
theorem dX4_giveObject_80 : decode cX4_giveObject 80 = .ok (.iload 5, 2) := by decide +kernel
theorem dX4_giveObject_82 : decode cX4_giveObject 82 = .ok (.ifCond .ne 9, 3) := by decide +kernel
theorem dX4_giveObject_85 : decode cX4_giveObject 85 = .ok (.aload_n 0, 1) := by decide +kernel
theorem dX4_giveObject_86 : decode cX4_giveObject 86 = .ok (.aload_n 1, 1) := by decide +kernel
theorem dX4_giveObject_87 : decode cX4_giveObject 87 = .ok (.iload_n 3, 1) := by decide +kernel
theorem dX4_giveObject_88 : decode cX4_giveObject 88 = .ok (.invokevirtual 101, 3) := by decide +kernel
theorem dX4_giveObject_91 : decode cX4_giveObject 91 = .ok (.iload 5, 2) := by decide +kernel
theorem dX4_giveObject_93 : decode cX4_giveObject 93 = .ok (.ireturn, 1) := by decide +kernel
theorem dX4_dropSlab_0 : decode cX4_dropSlab 0 = .ok (.aload_n 1, 1) := by decide +kernel
theorem dX4_dropSlab_1 : decode cX4_dropSlab 1 = .ok (.dup, 1) := by decide +kernel
theorem dX4_dropSlab_2 : decode cX4_dropSlab 2 = .ok (.getfield 223, 3) := by decide +kernel
theorem dX4_dropSlab_5 : decode cX4_dropSlab 5 = .ok (.iconst 1, 1) := by decide +kernel
theorem dX4_dropSlab_6 : decode cX4_dropSlab 6 = .ok (.isub, 1) := by decide +kernel
theorem dX4_dropSlab_7 : decode cX4_dropSlab 7 = .ok (.putfield 223, 3) := by decide +kernel
theorem dX4_dropSlab_10 : decode cX4_dropSlab 10 = .ok (.aload_n 0, 1) := by decide +kernel
theorem dX4_dropSlab_11 : decode cX4_dropSlab 11 = .ok (.getfield 19, 3) := by decide +kernel
theorem dX4_dropSlab_14 : decode cX4_dropSlab 14 = .ok (.iload_n 2, 1) := by decide +kernel
theorem dX4_dropSlab_15 : decode cX4_dropSlab 15 = .ok (.invokevirtual 76, 3) := by decide +kernel
theorem dX4_dropSlab_18 : decode cX4_dropSlab 18 = .ok (.return_, 1) := by decide +kernel
theorem dX4_kindFor_0 : decode cX4_kindFor 0 = .ok (.iconst 0, 1) := by decide +kernel
theorem dX4_kindFor_1 : decode cX4_kindFor 1 = .ok (.istore_n 1, 1) := by decide +kernel
theorem dX4_kindFor_2 : decode cX4_kindFor 2 = .ok (.iload_n 1, 1) := by decide +kernel
theorem dX4_kindFor_3 : decode cX4_kindFor 3 = .ok (.bipush 12, 2) := by decide +kernel
theorem dX4_kindFor_5 : decode cX4_kindFor 5 = .ok (.if_icmp .ge 17, 3) := by decide +kernel
theorem dX4_kindFor_8 : decode cX4_kindFor 8 = .ok (.iload_n 1, 1) := by decide +kernel
theorem dX4_kindFor_9 : decode cX4_kindFor 9 = .ok (.invokestatic 123, 3) := by decide +kernel
theorem dX4_kindFor_12 : decode cX4_kindFor 12 = .ok (.iload_n 0, 1) := by decide +kernel
theorem dX4_kindFor_13 : decode cX4_kindFor 13 = .ok (.if_icmp .ge 9, 3) := by decide +kernel
theorem dX4_kindFor_16 : decode cX4_kindFor 16 = .ok (.iinc 1 1, 3) := by decide +kernel
theorem dX4_kindFor_19 : decode cX4_kindFor 19 = .ok (.goto (-17), 3) := by decide +kernel
theorem dX4_kindFor_22 : decode cX4_kindFor 22 = .ok (.iload_n 1, 1) := by decide +kernel
theorem dX4_kindFor_23 : decode cX4_kindFor 23 = .ok (.ireturn, 1) := by decide +kernel
theorem dX4_bytesOfKind_0 : decode cX4_bytesOfKind 0 = .ok (.iload_n 0, 1) := by decide +kernel
theorem dX4_bytesOfKind_1 : decode cX4_bytesOfKind 1 = .ok (.bipush 6, 2) := by decide +kernel
theorem dX4_bytesOfKind_3 : decode cX4_bytesOfKind 3 = .ok (.if_icmp .ge 10, 3) := by decide +kernel
theorem dX4_bytesOfKind_6 : decode cX4_bytesOfKind 6 = .ok (.bipush 8, 2) := by decide +kernel
theorem dX4_bytesOfKind_8 : decode cX4_bytesOfKind 8 = .ok (.iload_n 0, 1) := by decide +kernel
theorem dX4_bytesOfKind_9 : decode cX4_bytesOfKind 9 = .ok (.ishl, 1) := by decide +kernel
theorem dX4_bytesOfKind_10 : decode cX4_bytesOfKind 10 = .ok (.goto 10, 3) := by decide +kernel
theorem dX4_bytesOfKind_13 : decode cX4_bytesOfKind 13 = .ok (.bipush 64, 2) := by decide +kernel
theorem dX4_bytesOfKind_15 : decode cX4_bytesOfKind 15 = .ok (.iload_n 0, 1) := by decide +kernel
theorem dX4_bytesOfKind_16 : decode cX4_bytesOfKind 16 = .ok (.bipush 6, 2) := by decide +kernel
theorem dX4_bytesOfKind_18 : decode cX4_bytesOfKind 18 = .ok (.isub, 1) := by decide +kernel
theorem dX4_bytesOfKind_19 : decode cX4_bytesOfKind 19 = .ok (.ishl, 1) := by decide +kernel
theorem dX4_bytesOfKind_20 : decode cX4_bytesOfKind 20 = .ok (.ireturn, 1) := by decide +kernel
theorem dX4_kindAt_0 : decode cX4_kindAt 0 = .ok (.aload_n 0, 1) := by decide +kernel
theorem dX4_kindAt_1 : decode cX4_kindAt 1 = .ok (.getfield 19, 3) := by decide +kernel
theorem dX4_kindAt_4 : decode cX4_kindAt 4 = .ok (.iload_n 1, 1) := by decide +kernel
theorem dX4_kindAt_5 : decode cX4_kindAt 5 = .ok (.bipush 64, 2) := by decide +kernel
theorem dX4_kindAt_7 : decode cX4_kindAt 7 = .ok (.idiv, 1) := by decide +kernel
theorem dX4_kindAt_8 : decode cX4_kindAt 8 = .ok (.invokevirtual 147, 3) := by decide +kernel
theorem dX4_kindAt_11 : decode cX4_kindAt 11 = .ok (.istore_n 2, 1) := by decide +kernel
theorem dX4_kindAt_12 : decode cX4_kindAt 12 = .ok (.aload_n 0, 1) := by decide +kernel
theorem dX4_kindAt_13 : decode cX4_kindAt 13 = .ok (.getfield 19, 3) := by decide +kernel
theorem dX4_kindAt_16 : decode cX4_kindAt 16 = .ok (.iload_n 2, 1) := by decide +kernel
theorem dX4_kindAt_17 : decode cX4_kindAt 17 = .ok (.invokevirtual 150, 3) := by decide +kernel
theorem dX4_kindAt_20 : decode cX4_kindAt 20 = .ok (.istore_n 3, 1) := by decide +kernel
theorem dX4_kindAt_21 : decode cX4_kindAt 21 = .ok (.iload_n 3, 1) := by decide +kernel
theorem dX4_kindAt_22 : decode cX4_kindAt 22 = .ok (.iconst 2, 1) := by decide +kernel
theorem dX4_kindAt_23 : decode cX4_kindAt 23 = .ok (.if_icmp .lt 9, 3) := by decide +kernel
theorem dX4_kindAt_26 : decode cX4_kindAt 26 = .ok (.iload_n 3, 1) := by decide +kernel
theorem dX4_kindAt_27 : decode cX4_kindAt 27 = .ok (.iconst 2, 1) := by decide +kernel
theorem dX4_kindAt_28 : decode cX4_kindAt 28 = .ok (.isub, 1) := by decide +kernel
theorem dX4_kindAt_29 : decode cX4_kindAt 29 = .ok (.goto 14, 3) := by decide +kernel
theorem dX4_kindAt_32 : decode cX4_kindAt 32 = .ok (.bipush 6, 2) := by decide +kernel
theorem dX4_kindAt_34 : decode cX4_kindAt 34 = .ok (.aload_n 0, 1) := by decide +kernel
theorem dX4_kindAt_35 : decode cX4_kindAt 35 = .ok (.getfield 19, 3) := by decide +kernel
theorem dX4_kindAt_38 : decode cX4_kindAt 38 = .ok (.iload_n 2, 1) := by decide +kernel
theorem dX4_kindAt_39 : decode cX4_kindAt 39 = .ok (.invokevirtual 73, 3) := by decide +kernel
theorem dX4_kindAt_42 : decode cX4_kindAt 42 = .ok (.iadd, 1) := by decide +kernel
theorem dX4_kindAt_43 : decode cX4_kindAt 43 = .ok (.ireturn, 1) := by decide +kernel
theorem dX4_takeKind_0 : decode cX4_takeKind 0 = .ok (.iload_n 1, 1) := by decide +kernel
theorem dX4_takeKind_1 : decode cX4_takeKind 1 = .ok (.bipush 6, 2) := by decide +kernel
theorem dX4_takeKind_3 : decode cX4_takeKind 3 = .ok (.if_icmp .ge 23, 3) := by decide +kernel
theorem dX4_takeKind_6 : decode cX4_takeKind 6 = .ok (.aload_n 0, 1) := by decide +kernel
theorem dX4_takeKind_7 : decode cX4_takeKind 7 = .ok (.iload_n 1, 1) := by decide +kernel
theorem dX4_takeKind_8 : decode cX4_takeKind 8 = .ok (.invokevirtual 83, 3) := by decide +kernel
theorem dX4_takeKind_11 : decode cX4_takeKind 11 = .ok (.astore_n 2, 1) := by decide +kernel
theorem dX4_takeKind_12 : decode cX4_takeKind 12 = .ok (.aload_n 2, 1) := by decide +kernel
theorem dX4_takeKind_13 : decode cX4_takeKind 13 = .ok (.ifnonnull 7, 3) := by decide +kernel
theorem dX4_takeKind_16 : decode cX4_takeKind 16 = .ok (.iconst (-1), 1) := by decide +kernel
theorem dX4_takeKind_17 : decode cX4_takeKind 17 = .ok (.goto 8, 3) := by decide +kernel
theorem dX4_takeKind_20 : decode cX4_takeKind 20 = .ok (.aload_n 0, 1) := by decide +kernel
theorem dX4_takeKind_21 : decode cX4_takeKind 21 = .ok (.aload_n 2, 1) := by decide +kernel
theorem dX4_takeKind_22 : decode cX4_takeKind 22 = .ok (.invokevirtual 87, 3) := by decide +kernel
theorem dX4_takeKind_25 : decode cX4_takeKind 25 = .ok (.ireturn, 1) := by decide +kernel
theorem dX4_takeKind_26 : decode cX4_takeKind 26 = .ok (.aload_n 0, 1) := by decide +kernel
theorem dX4_takeKind_27 : decode cX4_takeKind 27 = .ok (.getfield 19, 3) := by decide +kernel
theorem dX4_takeKind_30 : decode cX4_takeKind 30 = .ok (.iload_n 1, 1) := by decide +kernel
theorem dX4_takeKind_31 : decode cX4_takeKind 31 = .ok (.bipush 6, 2) := by decide +kernel
theorem dX4_takeKind_33 : decode cX4_takeKind 33 = .ok (.isub, 1) := by decide +kernel
theorem dX4_takeKind_34 : decode cX4_takeKind 34 = .ok (.iconst 1, 1) := by decide +kernel
theorem dX4_takeKind_35 : decode cX4_takeKind 35 = .ok (.invokevirtual 66, 3) := by decide +kernel
theorem dX4_takeKind_38 : decode cX4_takeKind 38 = .ok (.istore_n 2, 1) := by decide +kernel
theorem dX4_takeKind_39 : decode cX4_takeKind 39 = .ok (.iload_n 2, 1) := by decide +kernel
theorem dX4_takeKind_40 : decode cX4_takeKind 40 = .ok (.iconst (-1), 1) := by decide +kernel
theorem dX4_takeKind_41 : decode cX4_takeKind 41 = .ok (.if_icmp .ne 7, 3) := by decide +kernel
theorem dX4_takeKind_44 : decode cX4_takeKind 44 = .ok (.iconst (-1), 1) := by decide +kernel
theorem dX4_takeKind_45 : decode cX4_takeKind 45 = .ok (.goto 7, 3) := by decide +kernel
theorem dX4_takeKind_48 : decode cX4_takeKind 48 = .ok (.iload_n 2, 1) := by decide +kernel
theorem dX4_takeKind_49 : decode cX4_takeKind 49 = .ok (.bipush 64, 2) := by decide +kernel
theorem dX4_takeKind_51 : decode cX4_takeKind 51 = .ok (.imul, 1) := by decide +kernel
theorem dX4_takeKind_52 : decode cX4_takeKind 52 = .ok (.ireturn, 1) := by decide +kernel
theorem dX4_giveBySize_0 : decode cX4_giveBySize 0 = .ok (.aload_n 0, 1) := by decide +kernel
theorem dX4_giveBySize_1 : decode cX4_giveBySize 1 = .ok (.iload_n 1, 1) := by decide +kernel
theorem dX4_giveBySize_2 : decode cX4_giveBySize 2 = .ok (.invokevirtual 120, 3) := by decide +kernel
theorem dX4_giveBySize_5 : decode cX4_giveBySize 5 = .ok (.istore_n 2, 1) := by decide +kernel
theorem dX4_giveBySize_6 : decode cX4_giveBySize 6 = .ok (.iload_n 2, 1) := by decide +kernel
theorem dX4_giveBySize_7 : decode cX4_giveBySize 7 = .ok (.bipush 6, 2) := by decide +kernel
theorem dX4_giveBySize_9 : decode cX4_giveBySize 9 = .ok (.if_icmp .ge 11, 3) := by decide +kernel
theorem dX4_giveBySize_12 : decode cX4_giveBySize 12 = .ok (.aload_n 0, 1) := by decide +kernel
theorem dX4_giveBySize_13 : decode cX4_giveBySize 13 = .ok (.iload_n 2, 1) := by decide +kernel
theorem dX4_giveBySize_14 : decode cX4_giveBySize 14 = .ok (.invokevirtual 83, 3) := by decide +kernel
theorem dX4_giveBySize_17 : decode cX4_giveBySize 17 = .ok (.goto 4, 3) := by decide +kernel
theorem dX4_giveBySize_20 : decode cX4_giveBySize 20 = .ok (.aconst_null, 1) := by decide +kernel
theorem dX4_giveBySize_21 : decode cX4_giveBySize 21 = .ok (.astore_n 3, 1) := by decide +kernel
theorem dX4_giveBySize_22 : decode cX4_giveBySize 22 = .ok (.aload_n 3, 1) := by decide +kernel
theorem dX4_giveBySize_23 : decode cX4_giveBySize 23 = .ok (.ifnonnull 17, 3) := by decide +kernel
theorem dX4_giveBySize_26 : decode cX4_giveBySize 26 = .ok (.aload_n 0, 1) := by decide +kernel
theorem dX4_giveBySize_27 : decode cX4_giveBySize 27 = .ok (.getfield 19, 3) := by decide +kernel
theorem dX4_giveBySize_30 : decode cX4_giveBySize 30 = .ok (.iload_n 1, 1) := by decide +kernel
theorem dX4_giveBySize_31 : decode cX4_giveBySize 31 = .ok (.bipush 64, 2) := by decide +kernel
theorem dX4_giveBySize_33 : decode cX4_giveBySize 33 = .ok (.idiv, 1) := by decide +kernel
theorem dX4_giveBySize_34 : decode cX4_giveBySize 34 = .ok (.invokevirtual 76, 3) := by decide +kernel
theorem dX4_giveBySize_37 : decode cX4_giveBySize 37 = .ok (.goto 10, 3) := by decide +kernel
theorem dX4_giveBySize_40 : decode cX4_giveBySize 40 = .ok (.aload_n 0, 1) := by decide +kernel
theorem dX4_giveBySize_41 : decode cX4_giveBySize 41 = .ok (.aload_n 3, 1) := by decide +kernel
theorem dX4_giveBySize_42 : decode cX4_giveBySize 42 = .ok (.iload_n 1, 1) := by decide +kernel
theorem dX4_giveBySize_43 : decode cX4_giveBySize 43 = .ok (.invokevirtual 95, 3) := by decide +kernel
theorem dX4_giveBySize_46 : decode cX4_giveBySize 46 = .ok (.pop, 1) := by decide +kernel
theorem dX4_giveBySize_47 : decode cX4_giveBySize 47 = .ok (.return_, 1) := by decide +kernel
theorem dJ6_bitCount_0f7a4_0 : decode cJ6_bitCount_0f7a4 0 = .ok (.iload_n 0, 1) := by decide +kernel
theorem dJ6_bitCount_0f7a4_1 : decode cJ6_bitCount_0f7a4 1 = .ok (.iload_n 0, 1) := by decide +kernel
theorem dJ6_bitCount_0f7a4_2 : decode cJ6_bitCount_0f7a4 2 = .ok (.iconst 1, 1) := by decide +kernel
theorem dJ6_bitCount_0f7a4_3 : decode cJ6_bitCount_0f7a4 3 = .ok (.iushr, 1) := by decide +kernel
theorem dJ6_bitCount_0f7a4_4 : decode cJ6_bitCount_0f7a4 4 = .ok (.ldc_w 265, 3) := by decide +kernel
theorem dJ6_bitCount_0f7a4_7 : decode cJ6_bitCount_0f7a4 7 = .ok (.iand, 1) := by decide +kernel
theorem dJ6_bitCount_0f7a4_8 : decode cJ6_bitCount_0f7a4 8 = .ok (.isub, 1) := by decide +kernel
theorem dJ6_bitCount_0f7a4_9 : decode cJ6_bitCount_0f7a4 9 = .ok (.istore_n 0, 1) := by decide +kernel
theorem dJ6_bitCount_0f7a4_10 : decode cJ6_bitCount_0f7a4 10 = .ok (.iload_n 0, 1) := by decide +kernel
theorem dJ6_bitCount_0f7a4_11 : decode cJ6_bitCount_0f7a4 11 = .ok (.ldc_w 266, 3) := by decide +kernel
theorem dJ6_bitCount_0f7a4_14 : decode cJ6_bitCount_0f7a4 14 = .ok (.iand, 1) := by decide +kernel
theorem dJ6_bitCount_0f7a4_15 : decode cJ6_bitCount_0f7a4 15 = .ok (.iload_n 0, 1) := by decide +kernel
theorem dJ6_bitCount_0f7a4_16 : decode cJ6_bitCount_0f7a4 16 = .ok (.iconst 2, 1) := by decide +kernel
theorem dJ6_bitCount_0f7a4_17 : decode cJ6_bitCount_0f7a4 17 = .ok (.iushr, 1) := by decide +kernel
theorem dJ6_bitCount_0f7a4_18 : decode cJ6_bitCount_0f7a4 18 = .ok (.ldc_w 266, 3) := by decide +kernel
theorem dJ6_bitCount_0f7a4_21 : decode cJ6_bitCount_0f7a4 21 = .ok (.iand, 1) := by decide +kernel
theorem dJ6_bitCount_0f7a4_22 : decode cJ6_bitCount_0f7a4 22 = .ok (.iadd, 1) := by decide +kernel
theorem dJ6_bitCount_0f7a4_23 : decode cJ6_bitCount_0f7a4 23 = .ok (.istore_n 0, 1) := by decide +kernel
theorem dJ6_bitCount_0f7a4_24 : decode cJ6_bitCount_0f7a4 24 = .ok (.iload_n 0, 1) := by decide +kernel
theorem dJ6_bitCount_0f7a4_25 : decode cJ6_bitCount_0f7a4 25 = .ok (.iload_n 0, 1) := by decide +kernel
theorem dJ6_bitCount_0f7a4_26 : decode cJ6_bitCount_0f7a4 26 = .ok (.iconst 4, 1) := by decide +kernel
theorem dJ6_bitCount_0f7a4_27 : decode cJ6_bitCount_0f7a4 27 = .ok (.iushr, 1) := by decide +kernel
theorem dJ6_bitCount_0f7a4_28 : decode cJ6_bitCount_0f7a4 28 = .ok (.iadd, 1) := by decide +kernel
theorem dJ6_bitCount_0f7a4_29 : decode cJ6_bitCount_0f7a4 29 = .ok (.ldc_w 267, 3) := by decide +kernel
theorem dJ6_bitCount_0f7a4_32 : decode cJ6_bitCount_0f7a4 32 = .ok (.iand, 1) := by decide +kernel
theorem dJ6_bitCount_0f7a4_33 : decode cJ6_bitCount_0f7a4 33 = .ok (.istore_n 0, 1) := by decide +kernel
theorem dJ6_bitCount_0f7a4_34 : decode cJ6_bitCount_0f7a4 34 = .ok (.iload_n 0, 1) := by decide +kernel
theorem dJ6_bitCount_0f7a4_35 : decode cJ6_bitCount_0f7a4 35 = .ok (.iload_n 0, 1) := by decide +kernel
theorem dJ6_bitCount_0f7a4_36 : decode cJ6_bitCount_0f7a4 36 = .ok (.bipush 8, 2) := by decide +kernel
theorem dJ6_bitCount_0f7a4_38 : decode cJ6_bitCount_0f7a4 38 = .ok (.iushr, 1) := by decide +kernel
theorem dJ6_bitCount_0f7a4_39 : decode cJ6_bitCount_0f7a4 39 = .ok (.iadd, 1) := by decide +kernel
theorem dJ6_bitCount_0f7a4_40 : decode cJ6_bitCount_0f7a4 40 = .ok (.istore_n 0, 1) := by decide +kernel
theorem dJ6_bitCount_0f7a4_41 : decode cJ6_bitCount_0f7a4 41 = .ok (.iload_n 0, 1) := by decide +kernel
theorem dJ6_bitCount_0f7a4_42 : decode cJ6_bitCount_0f7a4 42 = .ok (.iload_n 0, 1) := by decide +kernel
theorem dJ6_bitCount_0f7a4_43 : decode cJ6_bitCount_0f7a4 43 = .ok (.bipush 16, 2) := by decide +kernel
theorem dJ6_bitCount_0f7a4_45 : decode cJ6_bitCount_0f7a4 45 = .ok (.iushr, 1) := by decide +kernel
theorem dJ6_bitCount_0f7a4_46 : decode cJ6_bitCount_0f7a4 46 = .ok (.iadd, 1) := by decide +kernel
theorem dJ6_bitCount_0f7a4_47 : decode cJ6_bitCount_0f7a4 47 = .ok (.istore_n 0, 1) := by decide +kernel
theorem dJ6_bitCount_0f7a4_48 : decode cJ6_bitCount_0f7a4 48 = .ok (.iload_n 0, 1) := by decide +kernel
theorem dJ6_bitCount_0f7a4_49 : decode cJ6_bitCount_0f7a4 49 = .ok (.bipush 63, 2) := by decide +kernel
theorem dJ6_bitCount_0f7a4_51 : decode cJ6_bitCount_0f7a4 51 = .ok (.iand, 1) := by decide +kernel
theorem dJ6_bitCount_0f7a4_52 : decode cJ6_bitCount_0f7a4 52 = .ok (.ireturn, 1) := by decide +kernel
theorem dJ9_max_7cf53_0 : decode cJ9_max_7cf53 0 = .ok (.iload_n 0, 1) := by decide +kernel
theorem dJ9_max_7cf53_1 : decode cJ9_max_7cf53 1 = .ok (.iload_n 1, 1) := by decide +kernel
theorem dJ9_max_7cf53_2 : decode cJ9_max_7cf53 2 = .ok (.if_icmp .lt 7, 3) := by decide +kernel
theorem dJ9_max_7cf53_5 : decode cJ9_max_7cf53 5 = .ok (.iload_n 0, 1) := by decide +kernel
theorem dJ9_max_7cf53_6 : decode cJ9_max_7cf53 6 = .ok (.goto 4, 3) := by decide +kernel
theorem dJ9_max_7cf53_9 : decode cJ9_max_7cf53 9 = .ok (.iload_n 1, 1) := by decide +kernel
theorem dJ9_max_7cf53_10 : decode cJ9_max_7cf53 10 = .ok (.ireturn, 1) := by decide +kernel
theorem dJ9_min_7cf53_0 : decode cJ9_min_7cf53 0 = .ok (.iload_n 0, 1) := by decide +kernel
theorem dJ9_min_7cf53_1 : decode cJ9_min_7cf53 1 = .ok (.iload_n 1, 1) := by decide +kernel
theorem dJ9_min_7cf53_2 : decode cJ9_min_7cf53 2 = .ok (.if_icmp .gt 7, 3) := by decide +kernel
theorem dJ9_min_7cf53_5 : decode cJ9_min_7cf53 5 = .ok (.iload_n 0, 1) := by decide +kernel
theorem dJ9_min_7cf53_6 : decode cJ9_min_7cf53 6 = .ok (.goto 4, 3) := by decide +kernel
theorem dJ9_min_7cf53_9 : decode cJ9_min_7cf53 9 = .ok (.iload_n 1, 1) := by decide +kernel
theorem dJ9_min_7cf53_10 : decode cJ9_min_7cf53 10 = .ok (.ireturn, 1) := by decide +kernel
end
section
theorem dX5_init_0 : decode cX5_init 0 = .ok (.aload_n 0, 1) := by decide +kernel
theorem dX5_init_1 : decode cX5_init 1 = .ok (.invokespecial 1, 3) := by decide +kernel
theorem dX5_init_4 : decode cX5_init 4 = .ok (.aload_n 0, 1) := by decide +kernel
theorem dX5_init_5 : decode cX5_init 5 = .ok (.sipush 16384, 3) := by decide +kernel
theorem dX5_init_8 : decode cX5_init 8 = .ok (.newarray .int, 2) := by decide +kernel
theorem dX5_init_10 : decode cX5_init 10 = .ok (.putfield 7, 3) := by decide +kernel
theorem dX5_init_13 : decode cX5_init 13 = .ok (.aload_n 0, 1) := by decide +kernel
theorem dX5_init_14 : decode cX5_init 14 = .ok (.sipush 256, 3) := by decide +kernel
theorem dX5_init_17 : decode cX5_init 17 = .ok (.newarray .boolean, 2) := by decide +kernel
theorem dX5_init_19 : decode cX5_init 19 = .ok (.putfield 13, 3) := by decide +kernel
theorem dX5_init_22 : decode cX5_init 22 = .ok (.aload_n 0, 1) := by decide +kernel
theorem dX5_init_23 : decode cX5_init 23 = .ok (.sipush 256, 3) := by decide +kernel
theorem dX5_init_26 : decode cX5_init 26 = .ok (.newarray .int, 2) := by decide +kernel
theorem dX5_init_28 : decode cX5_init 28 = .ok (.putfield 17, 3) := by decide +kernel
theorem dX5_init_31 : decode cX5_init 31 = .ok (.aload_n 0, 1) := by decide +kernel
theorem dX5_init_32 : decode cX5_init 32 = .ok (.sipush 256, 3) := by decide +kernel
theorem dX5_init_35 : decode cX5_init 35 = .ok (.newarray .int, 2) := by decide +kernel
theorem dX5_init_37 : decode cX5_init 37 = .ok (.putfield 20, 3) := by decide +kernel
theorem dX5_init_40 : decode cX5_init 40 = .ok (.aload_n 0, 1) := by decide +kernel
theorem dX5_init_41 : decode cX5_init 41 = .ok (.sipush 256, 3) := by decide +kernel
theorem dX5_init_44 : decode cX5_init 44 = .ok (.newarray .boolean, 2) := by decide +kernel
theorem dX5_init_46 : decode cX5_init 46 = .ok (.putfield 23, 3) := by decide +kernel
theorem dX5_init_49 : decode cX5_init 49 = .ok (.aload_n 0, 1) := by decide +kernel
theorem dX5_init_50 : decode cX5_init 50 = .ok (.sipush 256, 3) := by decide +kernel
theorem dX5_init_53 : decode cX5_init 53 = .ok (.newarray .int, 2) := by decide +kernel
theorem dX5_init_55 : decode cX5_init 55 = .ok (.putfield 26, 3) := by decide +kernel
theorem dX5_init_58 : decode cX5_init 58 = .ok (.aload_n 0, 1) := by decide +kernel
theorem dX5_init_59 : decode cX5_init 59 = .ok (.sipush 16384, 3) := by decide +kernel
theorem dX5_init_62 : decode cX5_init 62 = .ok (.newarray .int, 2) := by decide +kernel
theorem dX5_init_64 : decode cX5_init 64 = .ok (.putfield 29, 3) := by decide +kernel
theorem dX5_init_67 : decode cX5_init 67 = .ok (.aload_n 0, 1) := by decide +kernel
theorem dX5_init_68 : decode cX5_init 68 = .ok (.sipush 256, 3) := by decide +kernel
theorem dX5_init_71 : decode cX5_init 71 = .ok (.newarray .int, 2) := by decide +kernel
theorem dX5_init_73 : decode cX5_init 73 = .ok (.putfield 32, 3) := by decide +kernel
theorem dX5_init_76 : decode cX5_init 76 = .ok (.aload_n 0, 1) := by decide +kernel
theorem dX5_init_77 : decode cX5_init 77 = .ok (.bipush 12, 2) := by decide +kernel
theorem dX5_init_79 : decode cX5_init 79 = .ok (.newarray .int, 2) := by decide +kernel
theorem dX5_init_81 : decode cX5_init 81 = .ok (.putfield 35, 3) := by decide +kernel
theorem dX5_init_84 : decode cX5_init 84 = .ok (.aload_n 0, 1) := by decide +kernel
theorem dX5_init_85 : decode cX5_init 85 = .ok (.bipush 12, 2) := by decide +kernel
theorem dX5_init_87 : decode cX5_init 87 = .ok (.newarray .int, 2) := by decide +kernel
theorem dX5_init_89 : decode cX5_init 89 = .ok (.putfield 38, 3) := by decide +kernel
theorem dX5_init_92 : decode cX5_init 92 = .ok (.aload_n 0, 1) := by decide +kernel
theorem dX5_init_93 : decode cX5_init 93 = .ok (.bipush 12, 2) := by decide +kernel
theorem dX5_init_95 : decode cX5_init 95 = .ok (.newarray .int, 2) := by decide +kernel
theorem dX5_init_97 : decode cX5_init 97 = .ok (.putfield 41, 3) := by decide +kernel
theorem dX5_init_100 : decode cX5_init 100 = .ok (.aload_n 0, 1) := by decide +kernel
theorem dX5_init_101 : decode cX5_init 101 = .ok (.bipush 12, 2) := by decide +kernel
theorem dX5_init_103 : decode cX5_init 103 = .ok (.newarray .int, 2) := by decide +kernel
theorem dX5_init_105 : decode cX5_init 105 = .ok (.putfield 44, 3) := by decide +kernel
theorem dX5_init_108 : decode cX5_init 108 = .ok (.aload_n 0, 1) := by decide +kernel
theorem dX5_init_109 : decode cX5_init 109 = .ok (.bipush 12, 2) := by decide +kernel
theorem dX5_init_111 : decode cX5_init 111 = .ok (.newarray .int, 2) := by decide +kernel
theorem dX5_init_113 : decode cX5_init 113 = .ok (.putfield 47, 3) := by decide +kernel
theorem dX5_init_116 : decode cX5_init 116 = .ok (.aload_n 0, 1) := by decide +kernel
theorem dX5_init_117 : decode cX5_init 117 = .ok (.iconst (-1), 1) := by decide +kernel
theorem dX5_init_118 : decode cX5_init 118 = .ok (.putfield 50, 3) := by decide +kernel
theorem dX5_init_121 : decode cX5_init 121 = .ok (.iconst 0, 1) := by decide +kernel
theorem dX5_init_122 : decode cX5_init 122 = .ok (.istore_n 1, 1) := by decide +kernel
theorem dX5_init_123 : decode cX5_init 123 = .ok (.iload_n 1, 1) := by decide +kernel
theorem dX5_init_124 : decode cX5_init 124 = .ok (.bipush 6, 2) := by decide +kernel
theorem dX5_init_126 : decode cX5_init 126 = .ok (.if_icmp .ge 32, 3) := by decide +kernel
theorem dX5_init_129 : decode cX5_init 129 = .ok (.bipush 8, 2) := by decide +kernel
theorem dX5_init_131 : decode cX5_init 131 = .ok (.iload_n 1, 1) := by decide +kernel
theorem dX5_init_132 : decode cX5_init 132 = .ok (.ishl, 1) := by decide +kernel
theorem dX5_init_133 : decode cX5_init 133 = .ok (.istore_n 2, 1) := by decide +kernel
theorem dX5_init_134 : decode cX5_init 134 = .ok (.aload_n 0, 1) := by decide +kernel
theorem dX5_init_135 : decode cX5_init 135 = .ok (.iload_n 2, 1) := by decide +kernel
theorem dX5_init_136 : decode cX5_init 136 = .ok (.iload_n 2, 1) := by decide +kernel
theorem dX5_init_137 : decode cX5_init 137 = .ok (.bipush 64, 2) := by decide +kernel
theorem dX5_init_139 : decode cX5_init 139 = .ok (.if_icmp .ge 7, 3) := by decide +kernel
theorem dX5_init_142 : decode cX5_init 142 = .ok (.iload_n 2, 1) := by decide +kernel
theorem dX5_init_143 : decode cX5_init 143 = .ok (.goto 5, 3) := by decide +kernel
theorem dX5_init_146 : decode cX5_init 146 = .ok (.bipush 64, 2) := by decide +kernel
theorem dX5_init_148 : decode cX5_init 148 = .ok (.invokevirtual 54, 3) := by decide +kernel
theorem dX5_init_151 : decode cX5_init 151 = .ok (.istore_n 3, 1) := by decide +kernel
theorem dX5_init_152 : decode cX5_init 152 = .ok (.iinc 1 1, 3) := by decide +kernel
theorem dX5_init_155 : decode cX5_init 155 = .ok (.goto (-32), 3) := by decide +kernel
theorem dX5_init_158 : decode cX5_init 158 = .ok (.return_, 1) := by decide +kernel
theorem dX5_in_0 : decode cX5_in 0 = .ok (.iload_n 0, 1) := by decide +kernel
theorem dX5_in_1 : decode cX5_in 1 = .ok (.iload_n 1, 1) := by decide +kernel
theorem dX5_in_2 : decode cX5_in 2 = .ok (.if_icmp .lt 12, 3) := by decide +kernel
theorem dX5_in_5 : decode cX5_in 5 = .ok (.iload_n 0, 1) := by decide +kernel
theorem dX5_in_6 : decode cX5_in 6 = .ok (.iload_n 2, 1) := by decide +kernel
theorem dX5_in_7 : decode cX5_in 7 = .ok (.if_icmp .gt 7, 3) := by decide +kernel
theorem dX5_in_10 : decode cX5_in 10 = .ok (.iconst 1, 1) := by decide +kernel
theorem dX5_in_11 : decode cX5_in 11 = .ok (.goto 4, 3) := by decide +kernel
theorem dX5_in_14 : decode cX5_in 14 = .ok (.iconst 0, 1) := by decide +kernel
theorem dX5_in_15 : decode cX5_in 15 = .ok (.ireturn, 1) := by decide +kernel
theorem dX5_usable_0 : decode cX5_usable 0 = .ok (.aload_n 0, 1) := by decide +kernel
theorem dX5_usable_1 : decode cX5_usable 1 = .ok (.getfield 58, 3) := by decide +kernel
theorem dX5_usable_4 : decode cX5_usable 4 = .ok (.ifCond .ne 25, 3) := by decide +kernel
theorem dX5_usable_7 : decode cX5_usable 7 = .ok (.iload_n 1, 1) := by decide +kernel
theorem dX5_usable_8 : decode cX5_usable 8 = .ok (.iconst 0, 1) := by decide +kernel
theorem dX5_usable_9 : decode cX5_usable 9 = .ok (.sipush 255, 3) := by decide +kernel
theorem dX5_usable_12 : decode cX5_usable 12 = .ok (.invokestatic 62, 3) := by decide +kernel
theorem dX5_usable_15 : decode cX5_usable 15 = .ok (.ifCond .eq 14, 3) := by decide +kernel
theorem dX5_usable_18 : decode cX5_usable 18 = .ok (.iload_n 2, 1) := by decide +kernel
theorem dX5_usable_19 : decode cX5_usable 19 = .ok (.iload_n 1, 1) := by decide +kernel
theorem dX5_usable_20 : decode cX5_usable 20 = .ok (.sipush 255, 3) := by decide +kernel
theorem dX5_usable_23 : decode cX5_usable 23 = .ok (.invokestatic 62, 3) := by decide +kernel
theorem dX5_usable_26 : decode cX5_usable 26 = .ok (.ifCond .ne 5, 3) := by decide +kernel
theorem dX5_usable_29 : decode cX5_usable 29 = .ok (.iconst 0, 1) := by decide +kernel
theorem dX5_usable_30 : decode cX5_usable 30 = .ok (.ireturn, 1) := by decide +kernel
theorem dX5_usable_31 : decode cX5_usable 31 = .ok (.iload_n 1, 1) := by decide +kernel
theorem dX5_usable_32 : decode cX5_usable 32 = .ok (.istore_n 3, 1) := by decide +kernel
theorem dX5_usable_33 : decode cX5_usable 33 = .ok (.iload_n 3, 1) := by decide +kernel
theorem dX5_usable_34 : decode cX5_usable 34 = .ok (.iload_n 2, 1) := by decide +kernel
theorem dX5_usable_35 : decode cX5_usable 35 = .ok (.if_icmp .gt 16, 3) := by decide +kernel
theorem dX5_usable_38 : decode cX5_usable 38 = .ok (.aload_n 0, 1) := by decide +kernel
theorem dX5_usable_39 : decode cX5_usable 39 = .ok (.getfield 13, 3) := by decide +kernel
theorem dX5_usable_42 : decode cX5_usable 42 = .ok (.iload_n 3, 1) := by decide +kernel
theorem dX5_usable_43 : decode cX5_usable 43 = .ok (.iconst 1, 1) := by decide +kernel
theorem dX5_usable_44 : decode cX5_usable 44 = .ok (.bastore, 1) := by decide +kernel
theorem dX5_usable_45 : decode cX5_usable 45 = .ok (.iinc 3 1, 3) := by decide +kernel
theorem dX5_usable_48 : decode cX5_usable 48 = .ok (.goto (-15), 3) := by decide +kernel
theorem dX5_usable_51 : decode cX5_usable 51 = .ok (.iconst 1, 1) := by decide +kernel
theorem dX5_usable_52 : decode cX5_usable 52 = .ok (.ireturn, 1) := by decide +kernel
theorem dX5_usablePages_0 : decode cX5_usablePages 0 = .ok (.iconst 0, 1) := by decide +kernel
theorem dX5_usablePages_1 : decode cX5_usablePages 1 = .ok (.istore_n 1, 1) := by decide +kernel
theorem dX5_usablePages_2 : decode cX5_usablePages 2 = .ok (.iconst 0, 1) := by decide +kernel
theorem dX5_usablePages_3 : decode cX5_usablePages 3 = .ok (.istore_n 2, 1) := by decide +kernel
theorem dX5_usablePages_4 : decode cX5_usablePages 4 = .ok (.iload_n 2, 1) := by decide +kernel
theorem dX5_usablePages_5 : decode cX5_usablePages 5 = .ok (.sipush 256, 3) := by decide +kernel
theorem dX5_usablePages_8 : decode cX5_usablePages 8 = .ok (.if_icmp .ge 26, 3) := by decide +kernel
theorem dX5_usablePages_11 : decode cX5_usablePages 11 = .ok (.aload_n 0, 1) := by decide +kernel
theorem dX5_usablePages_12 : decode cX5_usablePages 12 = .ok (.getfield 13, 3) := by decide +kernel
theorem dX5_usablePages_15 : decode cX5_usablePages 15 = .ok (.iload_n 2, 1) := by decide +kernel
theorem dX5_usablePages_16 : decode cX5_usablePages 16 = .ok (.baload, 1) := by decide +kernel
theorem dX5_usablePages_17 : decode cX5_usablePages 17 = .ok (.ifCond .eq 9, 3) := by decide +kernel
theorem dX5_usablePages_20 : decode cX5_usablePages 20 = .ok (.iload_n 1, 1) := by decide +kernel
theorem dX5_usablePages_21 : decode cX5_usablePages 21 = .ok (.iconst 1, 1) := by decide +kernel
theorem dX5_usablePages_22 : decode cX5_usablePages 22 = .ok (.iadd, 1) := by decide +kernel
theorem dX5_usablePages_23 : decode cX5_usablePages 23 = .ok (.goto 4, 3) := by decide +kernel
theorem dX5_usablePages_26 : decode cX5_usablePages 26 = .ok (.iload_n 1, 1) := by decide +kernel
theorem dX5_usablePages_27 : decode cX5_usablePages 27 = .ok (.istore_n 1, 1) := by decide +kernel
theorem dX5_usablePages_28 : decode cX5_usablePages 28 = .ok (.iinc 2 1, 3) := by decide +kernel
theorem dX5_usablePages_31 : decode cX5_usablePages 31 = .ok (.goto (-27), 3) := by decide +kernel
theorem dX5_usablePages_34 : decode cX5_usablePages 34 = .ok (.iload_n 1, 1) := by decide +kernel
theorem dX5_usablePages_35 : decode cX5_usablePages 35 = .ok (.ireturn, 1) := by decide +kernel
theorem dX5_areUsable_0 : decode cX5_areUsable 0 = .ok (.iconst 1, 1) := by decide +kernel
theorem dX5_areUsable_1 : decode cX5_areUsable 1 = .ok (.istore_n 3, 1) := by decide +kernel
theorem dX5_areUsable_2 : decode cX5_areUsable 2 = .ok (.iload_n 1, 1) := by decide +kernel
theorem dX5_areUsable_3 : decode cX5_areUsable 3 = .ok (.istore 4, 2) := by decide +kernel
theorem dX5_areUsable_5 : decode cX5_areUsable 5 = .ok (.iload 4, 2) := by decide +kernel
theorem dX5_areUsable_7 : decode cX5_areUsable 7 = .ok (.iload_n 1, 1) := by decide +kernel
theorem dX5_areUsable_8 : decode cX5_areUsable 8 = .ok (.iload_n 2, 1) := by decide +kernel
theorem dX5_areUsable_9 : decode cX5_areUsable 9 = .ok (.iadd, 1) := by decide +kernel
theorem dX5_areUsable_10 : decode cX5_areUsable 10 = .ok (.if_icmp .ge 37, 3) := by decide +kernel
theorem dX5_areUsable_13 : decode cX5_areUsable 13 = .ok (.iload_n 3, 1) := by decide +kernel
theorem dX5_areUsable_14 : decode cX5_areUsable 14 = .ok (.ifCond .eq 25, 3) := by decide +kernel
theorem dX5_areUsable_17 : decode cX5_areUsable 17 = .ok (.iload 4, 2) := by decide +kernel
theorem dX5_areUsable_19 : decode cX5_areUsable 19 = .ok (.sipush 256, 3) := by decide +kernel
theorem dX5_areUsable_22 : decode cX5_areUsable 22 = .ok (.if_icmp .ge 17, 3) := by decide +kernel
theorem dX5_areUsable_25 : decode cX5_areUsable 25 = .ok (.aload_n 0, 1) := by decide +kernel
theorem dX5_areUsable_26 : decode cX5_areUsable 26 = .ok (.getfield 13, 3) := by decide +kernel
theorem dX5_areUsable_29 : decode cX5_areUsable 29 = .ok (.iload 4, 2) := by decide +kernel
theorem dX5_areUsable_31 : decode cX5_areUsable 31 = .ok (.baload, 1) := by decide +kernel
theorem dX5_areUsable_32 : decode cX5_areUsable 32 = .ok (.ifCond .eq 7, 3) := by decide +kernel
theorem dX5_areUsable_35 : decode cX5_areUsable 35 = .ok (.iconst 1, 1) := by decide +kernel
theorem dX5_areUsable_36 : decode cX5_areUsable 36 = .ok (.goto 4, 3) := by decide +kernel
theorem dX5_areUsable_39 : decode cX5_areUsable 39 = .ok (.iconst 0, 1) := by decide +kernel
theorem dX5_areUsable_40 : decode cX5_areUsable 40 = .ok (.istore_n 3, 1) := by decide +kernel
theorem dX5_areUsable_41 : decode cX5_areUsable 41 = .ok (.iinc 4 1, 3) := by decide +kernel
theorem dX5_areUsable_44 : decode cX5_areUsable 44 = .ok (.goto (-39), 3) := by decide +kernel
theorem dX5_areUsable_47 : decode cX5_areUsable 47 = .ok (.iload_n 3, 1) := by decide +kernel
theorem dX5_areUsable_48 : decode cX5_areUsable 48 = .ok (.ireturn, 1) := by decide +kernel
theorem dX5_start_0 : decode cX5_start 0 = .ok (.aload_n 0, 1) := by decide +kernel
theorem dX5_start_1 : decode cX5_start 1 = .ok (.getfield 58, 3) := by decide +kernel
theorem dX5_start_4 : decode cX5_start 4 = .ok (.ifCond .eq 5, 3) := by decide +kernel
theorem dX5_start_7 : decode cX5_start 7 = .ok (.iconst (-1), 1) := by decide +kernel
theorem dX5_start_8 : decode cX5_start 8 = .ok (.ireturn, 1) := by decide +kernel
theorem dX5_start_9 : decode cX5_start 9 = .ok (.aload_n 0, 1) := by decide +kernel
theorem dX5_start_10 : decode cX5_start 10 = .ok (.iconst 1, 1) := by decide +kernel
theorem dX5_start_11 : decode cX5_start 11 = .ok (.putfield 58, 3) := by decide +kernel
theorem dX5_start_14 : decode cX5_start 14 = .ok (.iconst 0, 1) := by decide +kernel
theorem dX5_start_15 : decode cX5_start 15 = .ok (.istore_n 1, 1) := by decide +kernel
theorem dX5_start_16 : decode cX5_start 16 = .ok (.iload_n 1, 1) := by decide +kernel
theorem dX5_start_17 : decode cX5_start 17 = .ok (.sipush 256, 3) := by decide +kernel
theorem dX5_start_20 : decode cX5_start 20 = .ok (.if_icmp .ge 62, 3) := by decide +kernel
theorem dX5_start_23 : decode cX5_start 23 = .ok (.aload_n 0, 1) := by decide +kernel
theorem dX5_start_24 : decode cX5_start 24 = .ok (.getfield 13, 3) := by decide +kernel
theorem dX5_start_27 : decode cX5_start 27 = .ok (.iload_n 1, 1) := by decide +kernel
theorem dX5_start_28 : decode cX5_start 28 = .ok (.baload, 1) := by decide +kernel
theorem dX5_start_29 : decode cX5_start 29 = .ok (.ifCond .eq 47, 3) := by decide +kernel
theorem dX5_start_32 : decode cX5_start 32 = .ok (.bipush 6, 2) := by decide +kernel
theorem dX5_start_34 : decode cX5_start 34 = .ok (.istore_n 2, 1) := by decide +kernel
theorem dX5_start_35 : decode cX5_start 35 = .ok (.iload_n 1, 1) := by decide +kernel
theorem dX5_start_36 : decode cX5_start 36 = .ok (.iconst 1, 1) := by decide +kernel
theorem dX5_start_37 : decode cX5_start 37 = .ok (.iload_n 2, 1) := by decide +kernel
theorem dX5_start_38 : decode cX5_start 38 = .ok (.ishl, 1) := by decide +kernel
theorem dX5_start_39 : decode cX5_start 39 = .ok (.irem, 1) := by decide +kernel
theorem dX5_start_40 : decode cX5_start 40 = .ok (.ifCond .ne 14, 3) := by decide +kernel
theorem dX5_start_43 : decode cX5_start 43 = .ok (.aload_n 0, 1) := by decide +kernel
theorem dX5_start_44 : decode cX5_start 44 = .ok (.iload_n 1, 1) := by decide +kernel
theorem dX5_start_45 : decode cX5_start 45 = .ok (.iconst 1, 1) := by decide +kernel
theorem dX5_start_46 : decode cX5_start 46 = .ok (.iload_n 2, 1) := by decide +kernel
theorem dX5_start_47 : decode cX5_start 47 = .ok (.ishl, 1) := by decide +kernel
theorem dX5_start_48 : decode cX5_start 48 = .ok (.invokevirtual 66, 3) := by decide +kernel
theorem dX5_start_51 : decode cX5_start 51 = .ok (.ifCond .ne 9, 3) := by decide +kernel
theorem dX5_start_54 : decode cX5_start 54 = .ok (.iinc 2 (-1), 3) := by decide +kernel
theorem dX5_start_57 : decode cX5_start 57 = .ok (.goto (-22), 3) := by decide +kernel
theorem dX5_start_60 : decode cX5_start 60 = .ok (.aload_n 0, 1) := by decide +kernel
theorem dX5_start_61 : decode cX5_start 61 = .ok (.iload_n 1, 1) := by decide +kernel
theorem dX5_start_62 : decode cX5_start 62 = .ok (.iload_n 2, 1) := by decide +kernel
theorem dX5_start_63 : decode cX5_start 63 = .ok (.iconst 0, 1) := by decide +kernel
theorem dX5_start_64 : decode cX5_start 64 = .ok (.invokevirtual 70, 3) := by decide +kernel
theorem dX5_start_67 : decode cX5_start 67 = .ok (.iload_n 1, 1) := by decide +kernel
theorem dX5_start_68 : decode cX5_start 68 = .ok (.iconst 1, 1) := by decide +kernel
theorem dX5_start_69 : decode cX5_start 69 = .ok (.iload_n 2, 1) := by decide +kernel
theorem dX5_start_70 : decode cX5_start 70 = .ok (.ishl, 1) := by decide +kernel
theorem dX5_start_71 : decode cX5_start 71 = .ok (.iadd, 1) := by decide +kernel
theorem dX5_start_72 : decode cX5_start 72 = .ok (.istore_n 1, 1) := by decide +kernel
theorem dX5_start_73 : decode cX5_start 73 = .ok (.goto (-57), 3) := by decide +kernel
theorem dX5_start_76 : decode cX5_start 76 = .ok (.iinc 1 1, 3) := by decide +kernel
theorem dX5_start_79 : decode cX5_start 79 = .ok (.goto (-63), 3) := by decide +kernel
theorem dX5_start_82 : decode cX5_start 82 = .ok (.aload_n 0, 1) := by decide +kernel
theorem dX5_start_83 : decode cX5_start 83 = .ok (.invokevirtual 74, 3) := by decide +kernel
theorem dX5_start_86 : decode cX5_start 86 = .ok (.ireturn, 1) := by decide +kernel
theorem dX5_makeBlock_0 : decode cX5_makeBlock 0 = .ok (.iload_n 1, 1) := by decide +kernel
theorem dX5_makeBlock_1 : decode cX5_makeBlock 1 = .ok (.istore 4, 2) := by decide +kernel
theorem dX5_makeBlock_3 : decode cX5_makeBlock 3 = .ok (.iload 4, 2) := by decide +kernel
theorem dX5_makeBlock_5 : decode cX5_makeBlock 5 = .ok (.iload_n 1, 1) := by decide +kernel
theorem dX5_makeBlock_6 : decode cX5_makeBlock 6 = .ok (.iconst 1, 1) := by decide +kernel
theorem dX5_makeBlock_7 : decode cX5_makeBlock 7 = .ok (.iload_n 2, 1) := by decide +kernel
theorem dX5_makeBlock_8 : decode cX5_makeBlock 8 = .ok (.ishl, 1) := by decide +kernel
theorem dX5_makeBlock_9 : decode cX5_makeBlock 9 = .ok (.iadd, 1) := by decide +kernel
theorem dX5_makeBlock_10 : decode cX5_makeBlock 10 = .ok (.if_icmp .ge 17, 3) := by decide +kernel
theorem dX5_makeBlock_13 : decode cX5_makeBlock 13 = .ok (.aload_n 0, 1) := by decide +kernel
theorem dX5_makeBlock_14 : decode cX5_makeBlock 14 = .ok (.getfield 17, 3) := by decide +kernel
theorem dX5_makeBlock_17 : decode cX5_makeBlock 17 = .ok (.iload 4, 2) := by decide +kernel
theorem dX5_makeBlock_19 : decode cX5_makeBlock 19 = .ok (.iload_n 1, 1) := by decide +kernel
theorem dX5_makeBlock_20 : decode cX5_makeBlock 20 = .ok (.iastore, 1) := by decide +kernel
theorem dX5_makeBlock_21 : decode cX5_makeBlock 21 = .ok (.iinc 4 1, 3) := by decide +kernel
theorem dX5_makeBlock_24 : decode cX5_makeBlock 24 = .ok (.goto (-21), 3) := by decide +kernel
theorem dX5_makeBlock_27 : decode cX5_makeBlock 27 = .ok (.aload_n 0, 1) := by decide +kernel
theorem dX5_makeBlock_28 : decode cX5_makeBlock 28 = .ok (.getfield 20, 3) := by decide +kernel
theorem dX5_makeBlock_31 : decode cX5_makeBlock 31 = .ok (.iload_n 1, 1) := by decide +kernel
theorem dX5_makeBlock_32 : decode cX5_makeBlock 32 = .ok (.iload_n 2, 1) := by decide +kernel
theorem dX5_makeBlock_33 : decode cX5_makeBlock 33 = .ok (.iastore, 1) := by decide +kernel
theorem dX5_makeBlock_34 : decode cX5_makeBlock 34 = .ok (.aload_n 0, 1) := by decide +kernel
theorem dX5_makeBlock_35 : decode cX5_makeBlock 35 = .ok (.getfield 23, 3) := by decide +kernel
theorem dX5_makeBlock_38 : decode cX5_makeBlock 38 = .ok (.iload_n 1, 1) := by decide +kernel
theorem dX5_makeBlock_39 : decode cX5_makeBlock 39 = .ok (.iload_n 3, 1) := by decide +kernel
theorem dX5_makeBlock_40 : decode cX5_makeBlock 40 = .ok (.bastore, 1) := by decide +kernel
theorem dX5_makeBlock_41 : decode cX5_makeBlock 41 = .ok (.aload_n 0, 1) := by decide +kernel
theorem dX5_makeBlock_42 : decode cX5_makeBlock 42 = .ok (.getfield 26, 3) := by decide +kernel
theorem dX5_makeBlock_45 : decode cX5_makeBlock 45 = .ok (.iload_n 1, 1) := by decide +kernel
theorem dX5_makeBlock_46 : decode cX5_makeBlock 46 = .ok (.iconst (-1), 1) := by decide +kernel
theorem dX5_makeBlock_47 : decode cX5_makeBlock 47 = .ok (.iastore, 1) := by decide +kernel
theorem dX5_makeBlock_48 : decode cX5_makeBlock 48 = .ok (.return_, 1) := by decide +kernel
theorem dX5_isFirst_0 : decode cX5_isFirst 0 = .ok (.aload_n 0, 1) := by decide +kernel
theorem dX5_isFirst_1 : decode cX5_isFirst 1 = .ok (.getfield 58, 3) := by decide +kernel
theorem dX5_isFirst_4 : decode cX5_isFirst 4 = .ok (.ifCond .eq 37, 3) := by decide +kernel
theorem dX5_isFirst_7 : decode cX5_isFirst 7 = .ok (.iload_n 1, 1) := by decide +kernel
theorem dX5_isFirst_8 : decode cX5_isFirst 8 = .ok (.iconst 0, 1) := by decide +kernel
theorem dX5_isFirst_9 : decode cX5_isFirst 9 = .ok (.sipush 255, 3) := by decide +kernel
theorem dX5_isFirst_12 : decode cX5_isFirst 12 = .ok (.invokestatic 62, 3) := by decide +kernel
theorem dX5_isFirst_15 : decode cX5_isFirst 15 = .ok (.ifCond .eq 26, 3) := by decide +kernel
theorem dX5_isFirst_18 : decode cX5_isFirst 18 = .ok (.aload_n 0, 1) := by decide +kernel
theorem dX5_isFirst_19 : decode cX5_isFirst 19 = .ok (.getfield 13, 3) := by decide +kernel
theorem dX5_isFirst_22 : decode cX5_isFirst 22 = .ok (.iload_n 1, 1) := by decide +kernel
theorem dX5_isFirst_23 : decode cX5_isFirst 23 = .ok (.baload, 1) := by decide +kernel
theorem dX5_isFirst_24 : decode cX5_isFirst 24 = .ok (.ifCond .eq 17, 3) := by decide +kernel
theorem dX5_isFirst_27 : decode cX5_isFirst 27 = .ok (.aload_n 0, 1) := by decide +kernel
theorem dX5_isFirst_28 : decode cX5_isFirst 28 = .ok (.getfield 17, 3) := by decide +kernel
theorem dX5_isFirst_31 : decode cX5_isFirst 31 = .ok (.iload_n 1, 1) := by decide +kernel
theorem dX5_isFirst_32 : decode cX5_isFirst 32 = .ok (.iaload, 1) := by decide +kernel
theorem dX5_isFirst_33 : decode cX5_isFirst 33 = .ok (.iload_n 1, 1) := by decide +kernel
theorem dX5_isFirst_34 : decode cX5_isFirst 34 = .ok (.if_icmp .ne 7, 3) := by decide +kernel
theorem dX5_isFirst_37 : decode cX5_isFirst 37 = .ok (.iconst 1, 1) := by decide +kernel
theorem dX5_isFirst_38 : decode cX5_isFirst 38 = .ok (.goto 4, 3) := by decide +kernel
theorem dX5_isFirst_41 : decode cX5_isFirst 41 = .ok (.iconst 0, 1) := by decide +kernel
theorem dX5_isFirst_42 : decode cX5_isFirst 42 = .ok (.ireturn, 1) := by decide +kernel
theorem dX5_isFree_0 : decode cX5_isFree 0 = .ok (.aload_n 0, 1) := by decide +kernel
theorem dX5_isFree_1 : decode cX5_isFree 1 = .ok (.iload_n 1, 1) := by decide +kernel
theorem dX5_isFree_2 : decode cX5_isFree 2 = .ok (.invokevirtual 78, 3) := by decide +kernel
theorem dX5_isFree_5 : decode cX5_isFree 5 = .ok (.ifCond .eq 16, 3) := by decide +kernel
theorem dX5_isFree_8 : decode cX5_isFree 8 = .ok (.aload_n 0, 1) := by decide +kernel
theorem dX5_isFree_9 : decode cX5_isFree 9 = .ok (.getfield 23, 3) := by decide +kernel
theorem dX5_isFree_12 : decode cX5_isFree 12 = .ok (.iload_n 1, 1) := by decide +kernel
theorem dX5_isFree_13 : decode cX5_isFree 13 = .ok (.baload, 1) := by decide +kernel
theorem dX5_isFree_14 : decode cX5_isFree 14 = .ok (.ifCond .ne 7, 3) := by decide +kernel
theorem dX5_isFree_17 : decode cX5_isFree 17 = .ok (.iconst 1, 1) := by decide +kernel
theorem dX5_isFree_18 : decode cX5_isFree 18 = .ok (.goto 4, 3) := by decide +kernel
theorem dX5_isFree_21 : decode cX5_isFree 21 = .ok (.iconst 0, 1) := by decide +kernel
theorem dX5_isFree_22 : decode cX5_isFree 22 = .ok (.ireturn, 1) := by decide +kernel
theorem dX5_freePageCount_0 : decode cX5_freePageCount 0 = .ok (.iconst 0, 1) := by decide +kernel
theorem dX5_freePageCount_1 : decode cX5_freePageCount 1 = .ok (.istore_n 1, 1) := by decide +kernel
theorem dX5_freePageCount_2 : decode cX5_freePageCount 2 = .ok (.iconst 0, 1) := by decide +kernel
theorem dX5_freePageCount_3 : decode cX5_freePageCount 3 = .ok (.istore_n 2, 1) := by decide +kernel
theorem dX5_freePageCount_4 : decode cX5_freePageCount 4 = .ok (.iload_n 2, 1) := by decide +kernel
theorem dX5_freePageCount_5 : decode cX5_freePageCount 5 = .ok (.sipush 256, 3) := by decide +kernel
theorem dX5_freePageCount_8 : decode cX5_freePageCount 8 = .ok (.if_icmp .ge 32, 3) := by decide +kernel
theorem dX5_freePageCount_11 : decode cX5_freePageCount 11 = .ok (.aload_n 0, 1) := by decide +kernel
theorem dX5_freePageCount_12 : decode cX5_freePageCount 12 = .ok (.iload_n 2, 1) := by decide +kernel
theorem dX5_freePageCount_13 : decode cX5_freePageCount 13 = .ok (.invokevirtual 82, 3) := by decide +kernel
theorem dX5_freePageCount_16 : decode cX5_freePageCount 16 = .ok (.ifCond .eq 16, 3) := by decide +kernel
theorem dX5_freePageCount_19 : decode cX5_freePageCount 19 = .ok (.iload_n 1, 1) := by decide +kernel
theorem dX5_freePageCount_20 : decode cX5_freePageCount 20 = .ok (.iconst 1, 1) := by decide +kernel
theorem dX5_freePageCount_21 : decode cX5_freePageCount 21 = .ok (.aload_n 0, 1) := by decide +kernel
theorem dX5_freePageCount_22 : decode cX5_freePageCount 22 = .ok (.getfield 20, 3) := by decide +kernel
theorem dX5_freePageCount_25 : decode cX5_freePageCount 25 = .ok (.iload_n 2, 1) := by decide +kernel
theorem dX5_freePageCount_26 : decode cX5_freePageCount 26 = .ok (.iaload, 1) := by decide +kernel
theorem dX5_freePageCount_27 : decode cX5_freePageCount 27 = .ok (.ishl, 1) := by decide +kernel
theorem dX5_freePageCount_28 : decode cX5_freePageCount 28 = .ok (.iadd, 1) := by decide +kernel
theorem dX5_freePageCount_29 : decode cX5_freePageCount 29 = .ok (.goto 4, 3) := by decide +kernel
theorem dX5_freePageCount_32 : decode cX5_freePageCount 32 = .ok (.iload_n 1, 1) := by decide +kernel
theorem dX5_freePageCount_33 : decode cX5_freePageCount 33 = .ok (.istore_n 1, 1) := by decide +kernel
theorem dX5_freePageCount_34 : decode cX5_freePageCount 34 = .ok (.iinc 2 1, 3) := by decide +kernel
theorem dX5_freePageCount_37 : decode cX5_freePageCount 37 = .ok (.goto (-33), 3) := by decide +kernel
theorem dX5_freePageCount_40 : decode cX5_freePageCount 40 = .ok (.iload_n 1, 1) := by decide +kernel
theorem dX5_freePageCount_41 : decode cX5_freePageCount 41 = .ok (.ireturn, 1) := by decide +kernel
theorem dX5_takeBlock_0 : decode cX5_takeBlock 0 = .ok (.aload_n 0, 1) := by decide +kernel
theorem dX5_takeBlock_1 : decode cX5_takeBlock 1 = .ok (.getfield 50, 3) := by decide +kernel
theorem dX5_takeBlock_4 : decode cX5_takeBlock 4 = .ok (.ifCond .ne 7, 3) := by decide +kernel
theorem dX5_takeBlock_7 : decode cX5_takeBlock 7 = .ok (.iconst 1, 1) := by decide +kernel
theorem dX5_takeBlock_8 : decode cX5_takeBlock 8 = .ok (.goto 4, 3) := by decide +kernel
theorem dX5_takeBlock_11 : decode cX5_takeBlock 11 = .ok (.iconst 0, 1) := by decide +kernel
theorem dX5_takeBlock_12 : decode cX5_takeBlock 12 = .ok (.istore_n 2, 1) := by decide +kernel
theorem dX5_takeBlock_13 : decode cX5_takeBlock 13 = .ok (.aload_n 0, 1) := by decide +kernel
theorem dX5_takeBlock_14 : decode cX5_takeBlock 14 = .ok (.aload_n 0, 1) := by decide +kernel
theorem dX5_takeBlock_15 : decode cX5_takeBlock 15 = .ok (.getfield 50, 3) := by decide +kernel
theorem dX5_takeBlock_18 : decode cX5_takeBlock 18 = .ok (.ifCond .ge 7, 3) := by decide +kernel
theorem dX5_takeBlock_21 : decode cX5_takeBlock 21 = .ok (.iconst (-1), 1) := by decide +kernel
theorem dX5_takeBlock_22 : decode cX5_takeBlock 22 = .ok (.goto 9, 3) := by decide +kernel
theorem dX5_takeBlock_25 : decode cX5_takeBlock 25 = .ok (.aload_n 0, 1) := by decide +kernel
theorem dX5_takeBlock_26 : decode cX5_takeBlock 26 = .ok (.getfield 50, 3) := by decide +kernel
theorem dX5_takeBlock_29 : decode cX5_takeBlock 29 = .ok (.iconst 1, 1) := by decide +kernel
theorem dX5_takeBlock_30 : decode cX5_takeBlock 30 = .ok (.isub, 1) := by decide +kernel
theorem dX5_takeBlock_31 : decode cX5_takeBlock 31 = .ok (.putfield 50, 3) := by decide +kernel
theorem dX5_takeBlock_34 : decode cX5_takeBlock 34 = .ok (.iconst (-1), 1) := by decide +kernel
theorem dX5_takeBlock_35 : decode cX5_takeBlock 35 = .ok (.istore_n 3, 1) := by decide +kernel
theorem dX5_takeBlock_36 : decode cX5_takeBlock 36 = .ok (.iload_n 1, 1) := by decide +kernel
theorem dX5_takeBlock_37 : decode cX5_takeBlock 37 = .ok (.istore 4, 2) := by decide +kernel
theorem dX5_takeBlock_39 : decode cX5_takeBlock 39 = .ok (.iload 4, 2) := by decide +kernel
theorem dX5_takeBlock_41 : decode cX5_takeBlock 41 = .ok (.bipush 6, 2) := by decide +kernel
theorem dX5_takeBlock_43 : decode cX5_takeBlock 43 = .ok (.if_icmp .gt 57, 3) := by decide +kernel
theorem dX5_takeBlock_46 : decode cX5_takeBlock 46 = .ok (.iload_n 3, 1) := by decide +kernel
theorem dX5_takeBlock_47 : decode cX5_takeBlock 47 = .ok (.ifCond .ge 53, 3) := by decide +kernel
theorem dX5_takeBlock_50 : decode cX5_takeBlock 50 = .ok (.sipush 255, 3) := by decide +kernel
theorem dX5_takeBlock_53 : decode cX5_takeBlock 53 = .ok (.istore 5, 2) := by decide +kernel
theorem dX5_takeBlock_55 : decode cX5_takeBlock 55 = .ok (.iload 5, 2) := by decide +kernel
theorem dX5_takeBlock_57 : decode cX5_takeBlock 57 = .ok (.ifCond .lt 37, 3) := by decide +kernel
theorem dX5_takeBlock_60 : decode cX5_takeBlock 60 = .ok (.aload_n 0, 1) := by decide +kernel
theorem dX5_takeBlock_61 : decode cX5_takeBlock 61 = .ok (.iload 5, 2) := by decide +kernel
theorem dX5_takeBlock_63 : decode cX5_takeBlock 63 = .ok (.invokevirtual 82, 3) := by decide +kernel
theorem dX5_takeBlock_66 : decode cX5_takeBlock 66 = .ok (.ifCond .eq 20, 3) := by decide +kernel
theorem dX5_takeBlock_69 : decode cX5_takeBlock 69 = .ok (.aload_n 0, 1) := by decide +kernel
theorem dX5_takeBlock_70 : decode cX5_takeBlock 70 = .ok (.getfield 20, 3) := by decide +kernel
theorem dX5_takeBlock_73 : decode cX5_takeBlock 73 = .ok (.iload 5, 2) := by decide +kernel
theorem dX5_takeBlock_75 : decode cX5_takeBlock 75 = .ok (.iaload, 1) := by decide +kernel
theorem dX5_takeBlock_76 : decode cX5_takeBlock 76 = .ok (.iload 4, 2) := by decide +kernel
theorem dX5_takeBlock_78 : decode cX5_takeBlock 78 = .ok (.if_icmp .ne 8, 3) := by decide +kernel
theorem dX5_takeBlock_81 : decode cX5_takeBlock 81 = .ok (.iload 5, 2) := by decide +kernel
theorem dX5_takeBlock_83 : decode cX5_takeBlock 83 = .ok (.goto 4, 3) := by decide +kernel
theorem dX5_takeBlock_86 : decode cX5_takeBlock 86 = .ok (.iload_n 3, 1) := by decide +kernel
theorem dX5_takeBlock_87 : decode cX5_takeBlock 87 = .ok (.istore_n 3, 1) := by decide +kernel
theorem dX5_takeBlock_88 : decode cX5_takeBlock 88 = .ok (.iinc 5 (-1), 3) := by decide +kernel
theorem dX5_takeBlock_91 : decode cX5_takeBlock 91 = .ok (.goto (-36), 3) := by decide +kernel
theorem dX5_takeBlock_94 : decode cX5_takeBlock 94 = .ok (.iinc 4 1, 3) := by decide +kernel
theorem dX5_takeBlock_97 : decode cX5_takeBlock 97 = .ok (.goto (-58), 3) := by decide +kernel
theorem dX5_takeBlock_100 : decode cX5_takeBlock 100 = .ok (.iload_n 2, 1) := by decide +kernel
theorem dX5_takeBlock_101 : decode cX5_takeBlock 101 = .ok (.ifCond .ne 7, 3) := by decide +kernel
theorem dX5_takeBlock_104 : decode cX5_takeBlock 104 = .ok (.iload_n 3, 1) := by decide +kernel
theorem dX5_takeBlock_105 : decode cX5_takeBlock 105 = .ok (.ifCond .ge 15, 3) := by decide +kernel
theorem dX5_takeBlock_108 : decode cX5_takeBlock 108 = .ok (.aload_n 0, 1) := by decide +kernel
theorem dX5_takeBlock_109 : decode cX5_takeBlock 109 = .ok (.dup, 1) := by decide +kernel
theorem dX5_takeBlock_110 : decode cX5_takeBlock 110 = .ok (.getfield 85, 3) := by decide +kernel
theorem dX5_takeBlock_113 : decode cX5_takeBlock 113 = .ok (.iconst 1, 1) := by decide +kernel
theorem dX5_takeBlock_114 : decode cX5_takeBlock 114 = .ok (.iadd, 1) := by decide +kernel
theorem dX5_takeBlock_115 : decode cX5_takeBlock 115 = .ok (.putfield 85, 3) := by decide +kernel
theorem dX5_takeBlock_118 : decode cX5_takeBlock 118 = .ok (.iconst (-1), 1) := by decide +kernel
theorem dX5_takeBlock_119 : decode cX5_takeBlock 119 = .ok (.ireturn, 1) := by decide +kernel
theorem dX5_takeBlock_120 : decode cX5_takeBlock 120 = .ok (.aload_n 0, 1) := by decide +kernel
theorem dX5_takeBlock_121 : decode cX5_takeBlock 121 = .ok (.getfield 20, 3) := by decide +kernel
theorem dX5_takeBlock_124 : decode cX5_takeBlock 124 = .ok (.iload_n 3, 1) := by decide +kernel
theorem dX5_takeBlock_125 : decode cX5_takeBlock 125 = .ok (.iaload, 1) := by decide +kernel
theorem dX5_takeBlock_126 : decode cX5_takeBlock 126 = .ok (.istore 4, 2) := by decide +kernel
theorem dX5_takeBlock_128 : decode cX5_takeBlock 128 = .ok (.iload 4, 2) := by decide +kernel
theorem dX5_takeBlock_130 : decode cX5_takeBlock 130 = .ok (.iload_n 1, 1) := by decide +kernel
theorem dX5_takeBlock_131 : decode cX5_takeBlock 131 = .ok (.if_icmp .le 22, 3) := by decide +kernel
theorem dX5_takeBlock_134 : decode cX5_takeBlock 134 = .ok (.iinc 4 (-1), 3) := by decide +kernel
theorem dX5_takeBlock_137 : decode cX5_takeBlock 137 = .ok (.aload_n 0, 1) := by decide +kernel
theorem dX5_takeBlock_138 : decode cX5_takeBlock 138 = .ok (.iload_n 3, 1) := by decide +kernel
theorem dX5_takeBlock_139 : decode cX5_takeBlock 139 = .ok (.iconst 1, 1) := by decide +kernel
theorem dX5_takeBlock_140 : decode cX5_takeBlock 140 = .ok (.iload 4, 2) := by decide +kernel
theorem dX5_takeBlock_142 : decode cX5_takeBlock 142 = .ok (.ishl, 1) := by decide +kernel
theorem dX5_takeBlock_143 : decode cX5_takeBlock 143 = .ok (.iadd, 1) := by decide +kernel
theorem dX5_takeBlock_144 : decode cX5_takeBlock 144 = .ok (.iload 4, 2) := by decide +kernel
theorem dX5_takeBlock_146 : decode cX5_takeBlock 146 = .ok (.iconst 0, 1) := by decide +kernel
theorem dX5_takeBlock_147 : decode cX5_takeBlock 147 = .ok (.invokevirtual 70, 3) := by decide +kernel
theorem dX5_takeBlock_150 : decode cX5_takeBlock 150 = .ok (.goto (-22), 3) := by decide +kernel
theorem dX5_takeBlock_153 : decode cX5_takeBlock 153 = .ok (.aload_n 0, 1) := by decide +kernel
theorem dX5_takeBlock_154 : decode cX5_takeBlock 154 = .ok (.iload_n 3, 1) := by decide +kernel
theorem dX5_takeBlock_155 : decode cX5_takeBlock 155 = .ok (.iload_n 1, 1) := by decide +kernel
theorem dX5_takeBlock_156 : decode cX5_takeBlock 156 = .ok (.iconst 1, 1) := by decide +kernel
theorem dX5_takeBlock_157 : decode cX5_takeBlock 157 = .ok (.invokevirtual 70, 3) := by decide +kernel
theorem dX5_takeBlock_160 : decode cX5_takeBlock 160 = .ok (.aload_n 0, 1) := by decide +kernel
theorem dX5_takeBlock_161 : decode cX5_takeBlock 161 = .ok (.dup, 1) := by decide +kernel
theorem dX5_takeBlock_162 : decode cX5_takeBlock 162 = .ok (.getfield 88, 3) := by decide +kernel
theorem dX5_takeBlock_165 : decode cX5_takeBlock 165 = .ok (.iconst 1, 1) := by decide +kernel
theorem dX5_takeBlock_166 : decode cX5_takeBlock 166 = .ok (.iadd, 1) := by decide +kernel
theorem dX5_takeBlock_167 : decode cX5_takeBlock 167 = .ok (.putfield 88, 3) := by decide +kernel
theorem dX5_takeBlock_170 : decode cX5_takeBlock 170 = .ok (.aload_n 0, 1) := by decide +kernel
theorem dX5_takeBlock_171 : decode cX5_takeBlock 171 = .ok (.invokevirtual 74, 3) := by decide +kernel
theorem dX5_takeBlock_174 : decode cX5_takeBlock 174 = .ok (.aload_n 0, 1) := by decide +kernel
theorem dX5_takeBlock_175 : decode cX5_takeBlock 175 = .ok (.invokevirtual 91, 3) := by decide +kernel
theorem dX5_takeBlock_178 : decode cX5_takeBlock 178 = .ok (.isub, 1) := by decide +kernel
theorem dX5_takeBlock_179 : decode cX5_takeBlock 179 = .ok (.istore 5, 2) := by decide +kernel
theorem dX5_takeBlock_181 : decode cX5_takeBlock 181 = .ok (.aload_n 0, 1) := by decide +kernel
theorem dX5_takeBlock_182 : decode cX5_takeBlock 182 = .ok (.iload 5, 2) := by decide +kernel
theorem dX5_takeBlock_184 : decode cX5_takeBlock 184 = .ok (.aload_n 0, 1) := by decide +kernel
theorem dX5_takeBlock_185 : decode cX5_takeBlock 185 = .ok (.getfield 94, 3) := by decide +kernel
theorem dX5_takeBlock_188 : decode cX5_takeBlock 188 = .ok (.if_icmp .le 8, 3) := by decide +kernel
theorem dX5_takeBlock_191 : decode cX5_takeBlock 191 = .ok (.iload 5, 2) := by decide +kernel
theorem dX5_takeBlock_193 : decode cX5_takeBlock 193 = .ok (.goto 7, 3) := by decide +kernel
theorem dX5_takeBlock_196 : decode cX5_takeBlock 196 = .ok (.aload_n 0, 1) := by decide +kernel
theorem dX5_takeBlock_197 : decode cX5_takeBlock 197 = .ok (.getfield 94, 3) := by decide +kernel
theorem dX5_takeBlock_200 : decode cX5_takeBlock 200 = .ok (.putfield 94, 3) := by decide +kernel
theorem dX5_takeBlock_203 : decode cX5_takeBlock 203 = .ok (.iload_n 3, 1) := by decide +kernel
theorem dX5_takeBlock_204 : decode cX5_takeBlock 204 = .ok (.ireturn, 1) := by decide +kernel
theorem dX5_giveBlock_0 : decode cX5_giveBlock 0 = .ok (.iconst 1, 1) := by decide +kernel
theorem dX5_giveBlock_1 : decode cX5_giveBlock 1 = .ok (.aload_n 0, 1) := by decide +kernel
theorem dX5_giveBlock_2 : decode cX5_giveBlock 2 = .ok (.getfield 20, 3) := by decide +kernel
theorem dX5_giveBlock_5 : decode cX5_giveBlock 5 = .ok (.iload_n 1, 1) := by decide +kernel
theorem dX5_giveBlock_6 : decode cX5_giveBlock 6 = .ok (.iaload, 1) := by decide +kernel
theorem dX5_giveBlock_7 : decode cX5_giveBlock 7 = .ok (.ishl, 1) := by decide +kernel
theorem dX5_giveBlock_8 : decode cX5_giveBlock 8 = .ok (.istore_n 2, 1) := by decide +kernel
theorem dX5_giveBlock_9 : decode cX5_giveBlock 9 = .ok (.iload_n 1, 1) := by decide +kernel
theorem dX5_giveBlock_10 : decode cX5_giveBlock 10 = .ok (.istore_n 3, 1) := by decide +kernel
theorem dX5_giveBlock_11 : decode cX5_giveBlock 11 = .ok (.aload_n 0, 1) := by decide +kernel
theorem dX5_giveBlock_12 : decode cX5_giveBlock 12 = .ok (.getfield 20, 3) := by decide +kernel
theorem dX5_giveBlock_15 : decode cX5_giveBlock 15 = .ok (.iload_n 1, 1) := by decide +kernel
theorem dX5_giveBlock_16 : decode cX5_giveBlock 16 = .ok (.iaload, 1) := by decide +kernel
theorem dX5_giveBlock_17 : decode cX5_giveBlock 17 = .ok (.istore 4, 2) := by decide +kernel
theorem dX5_giveBlock_19 : decode cX5_giveBlock 19 = .ok (.aload_n 0, 1) := by decide +kernel
theorem dX5_giveBlock_20 : decode cX5_giveBlock 20 = .ok (.iload_n 3, 1) := by decide +kernel
theorem dX5_giveBlock_21 : decode cX5_giveBlock 21 = .ok (.iload 4, 2) := by decide +kernel
theorem dX5_giveBlock_23 : decode cX5_giveBlock 23 = .ok (.iconst 0, 1) := by decide +kernel
theorem dX5_giveBlock_24 : decode cX5_giveBlock 24 = .ok (.invokevirtual 70, 3) := by decide +kernel
theorem dX5_giveBlock_27 : decode cX5_giveBlock 27 = .ok (.iconst 1, 1) := by decide +kernel
theorem dX5_giveBlock_28 : decode cX5_giveBlock 28 = .ok (.istore 5, 2) := by decide +kernel
theorem dX5_giveBlock_30 : decode cX5_giveBlock 30 = .ok (.iload 5, 2) := by decide +kernel
theorem dX5_giveBlock_32 : decode cX5_giveBlock 32 = .ok (.ifCond .eq 78, 3) := by decide +kernel
theorem dX5_giveBlock_35 : decode cX5_giveBlock 35 = .ok (.iload_n 3, 1) := by decide +kernel
theorem dX5_giveBlock_36 : decode cX5_giveBlock 36 = .ok (.iconst 1, 1) := by decide +kernel
theorem dX5_giveBlock_37 : decode cX5_giveBlock 37 = .ok (.iload 4, 2) := by decide +kernel
theorem dX5_giveBlock_39 : decode cX5_giveBlock 39 = .ok (.ishl, 1) := by decide +kernel
theorem dX5_giveBlock_40 : decode cX5_giveBlock 40 = .ok (.ixor, 1) := by decide +kernel
theorem dX5_giveBlock_41 : decode cX5_giveBlock 41 = .ok (.istore 6, 2) := by decide +kernel
theorem dX5_giveBlock_43 : decode cX5_giveBlock 43 = .ok (.iload 4, 2) := by decide +kernel
theorem dX5_giveBlock_45 : decode cX5_giveBlock 45 = .ok (.bipush 6, 2) := by decide +kernel
theorem dX5_giveBlock_47 : decode cX5_giveBlock 47 = .ok (.if_icmp .ge 28, 3) := by decide +kernel
theorem dX5_giveBlock_50 : decode cX5_giveBlock 50 = .ok (.aload_n 0, 1) := by decide +kernel
theorem dX5_giveBlock_51 : decode cX5_giveBlock 51 = .ok (.iload 6, 2) := by decide +kernel
theorem dX5_giveBlock_53 : decode cX5_giveBlock 53 = .ok (.invokevirtual 82, 3) := by decide +kernel
theorem dX5_giveBlock_56 : decode cX5_giveBlock 56 = .ok (.ifCond .eq 19, 3) := by decide +kernel
theorem dX5_giveBlock_59 : decode cX5_giveBlock 59 = .ok (.aload_n 0, 1) := by decide +kernel
theorem dX5_giveBlock_60 : decode cX5_giveBlock 60 = .ok (.getfield 20, 3) := by decide +kernel
theorem dX5_giveBlock_63 : decode cX5_giveBlock 63 = .ok (.iload 6, 2) := by decide +kernel
theorem dX5_giveBlock_65 : decode cX5_giveBlock 65 = .ok (.iaload, 1) := by decide +kernel
theorem dX5_giveBlock_66 : decode cX5_giveBlock 66 = .ok (.iload 4, 2) := by decide +kernel
theorem dX5_giveBlock_68 : decode cX5_giveBlock 68 = .ok (.if_icmp .ne 7, 3) := by decide +kernel
theorem dX5_giveBlock_71 : decode cX5_giveBlock 71 = .ok (.iconst 1, 1) := by decide +kernel
theorem dX5_giveBlock_72 : decode cX5_giveBlock 72 = .ok (.goto 4, 3) := by decide +kernel
theorem dX5_giveBlock_75 : decode cX5_giveBlock 75 = .ok (.iconst 0, 1) := by decide +kernel
theorem dX5_giveBlock_76 : decode cX5_giveBlock 76 = .ok (.istore 5, 2) := by decide +kernel
theorem dX5_giveBlock_78 : decode cX5_giveBlock 78 = .ok (.iload 5, 2) := by decide +kernel
theorem dX5_giveBlock_80 : decode cX5_giveBlock 80 = .ok (.ifCond .eq 27, 3) := by decide +kernel
theorem dX5_giveBlock_83 : decode cX5_giveBlock 83 = .ok (.iload 6, 2) := by decide +kernel
theorem dX5_giveBlock_85 : decode cX5_giveBlock 85 = .ok (.iload_n 3, 1) := by decide +kernel
theorem dX5_giveBlock_86 : decode cX5_giveBlock 86 = .ok (.if_icmp .ge 8, 3) := by decide +kernel
theorem dX5_giveBlock_89 : decode cX5_giveBlock 89 = .ok (.iload 6, 2) := by decide +kernel
theorem dX5_giveBlock_91 : decode cX5_giveBlock 91 = .ok (.goto 4, 3) := by decide +kernel
theorem dX5_giveBlock_94 : decode cX5_giveBlock 94 = .ok (.iload_n 3, 1) := by decide +kernel
theorem dX5_giveBlock_95 : decode cX5_giveBlock 95 = .ok (.istore_n 3, 1) := by decide +kernel
theorem dX5_giveBlock_96 : decode cX5_giveBlock 96 = .ok (.iinc 4 1, 3) := by decide +kernel
theorem dX5_giveBlock_99 : decode cX5_giveBlock 99 = .ok (.aload_n 0, 1) := by decide +kernel
theorem dX5_giveBlock_100 : decode cX5_giveBlock 100 = .ok (.iload_n 3, 1) := by decide +kernel
theorem dX5_giveBlock_101 : decode cX5_giveBlock 101 = .ok (.iload 4, 2) := by decide +kernel
theorem dX5_giveBlock_103 : decode cX5_giveBlock 103 = .ok (.iconst 0, 1) := by decide +kernel
theorem dX5_giveBlock_104 : decode cX5_giveBlock 104 = .ok (.invokevirtual 70, 3) := by decide +kernel
theorem dX5_giveBlock_107 : decode cX5_giveBlock 107 = .ok (.goto (-77), 3) := by decide +kernel
theorem dX5_giveBlock_110 : decode cX5_giveBlock 110 = .ok (.aload_n 0, 1) := by decide +kernel
theorem dX5_giveBlock_111 : decode cX5_giveBlock 111 = .ok (.dup, 1) := by decide +kernel
theorem dX5_giveBlock_112 : decode cX5_giveBlock 112 = .ok (.getfield 97, 3) := by decide +kernel
theorem dX5_giveBlock_115 : decode cX5_giveBlock 115 = .ok (.iconst 1, 1) := by decide +kernel
theorem dX5_giveBlock_116 : decode cX5_giveBlock 116 = .ok (.iadd, 1) := by decide +kernel
theorem dX5_giveBlock_117 : decode cX5_giveBlock 117 = .ok (.putfield 97, 3) := by decide +kernel
theorem dX5_giveBlock_120 : decode cX5_giveBlock 120 = .ok (.iload_n 2, 1) := by decide +kernel
theorem dX5_giveBlock_121 : decode cX5_giveBlock 121 = .ok (.ireturn, 1) := by decide +kernel
theorem dX5_pages_0 : decode cX5_pages 0 = .ok (.aload_n 0, 1) := by decide +kernel
theorem dX5_pages_1 : decode cX5_pages 1 = .ok (.getfield 58, 3) := by decide +kernel
theorem dX5_pages_4 : decode cX5_pages 4 = .ok (.ifCond .eq 21, 3) := by decide +kernel
theorem dX5_pages_7 : decode cX5_pages 7 = .ok (.iload_n 1, 1) := by decide +kernel
theorem dX5_pages_8 : decode cX5_pages 8 = .ok (.iconst 0, 1) := by decide +kernel
theorem dX5_pages_9 : decode cX5_pages 9 = .ok (.bipush 6, 2) := by decide +kernel
theorem dX5_pages_11 : decode cX5_pages 11 = .ok (.invokestatic 62, 3) := by decide +kernel
theorem dX5_pages_14 : decode cX5_pages 14 = .ok (.ifCond .eq 11, 3) := by decide +kernel
theorem dX5_pages_17 : decode cX5_pages 17 = .ok (.aload_n 0, 1) := by decide +kernel
theorem dX5_pages_18 : decode cX5_pages 18 = .ok (.iload_n 1, 1) := by decide +kernel
theorem dX5_pages_19 : decode cX5_pages 19 = .ok (.invokevirtual 100, 3) := by decide +kernel
theorem dX5_pages_22 : decode cX5_pages 22 = .ok (.goto 4, 3) := by decide +kernel
theorem dX5_pages_25 : decode cX5_pages 25 = .ok (.iconst (-1), 1) := by decide +kernel
theorem dX5_pages_26 : decode cX5_pages 26 = .ok (.ireturn, 1) := by decide +kernel
theorem dX5_faultOfPage_0 : decode cX5_faultOfPage 0 = .ok (.aload_n 0, 1) := by decide +kernel
theorem dX5_faultOfPage_1 : decode cX5_faultOfPage 1 = .ok (.iload_n 1, 1) := by decide +kernel
theorem dX5_faultOfPage_2 : decode cX5_faultOfPage 2 = .ok (.invokevirtual 78, 3) := by decide +kernel
theorem dX5_faultOfPage_5 : decode cX5_faultOfPage 5 = .ok (.ifCond .ne 6, 3) := by decide +kernel
theorem dX5_faultOfPage_8 : decode cX5_faultOfPage 8 = .ok (.bipush (-2), 2) := by decide +kernel
theorem dX5_faultOfPage_10 : decode cX5_faultOfPage 10 = .ok (.ireturn, 1) := by decide +kernel
theorem dX5_faultOfPage_11 : decode cX5_faultOfPage 11 = .ok (.aload_n 0, 1) := by decide +kernel
theorem dX5_faultOfPage_12 : decode cX5_faultOfPage 12 = .ok (.getfield 23, 3) := by decide +kernel
theorem dX5_faultOfPage_15 : decode cX5_faultOfPage 15 = .ok (.iload_n 1, 1) := by decide +kernel
theorem dX5_faultOfPage_16 : decode cX5_faultOfPage 16 = .ok (.baload, 1) := by decide +kernel
theorem dX5_faultOfPage_17 : decode cX5_faultOfPage 17 = .ok (.ifCond .ne 8, 3) := by decide +kernel
theorem dX5_faultOfPage_20 : decode cX5_faultOfPage 20 = .ok (.bipush (-3), 2) := by decide +kernel
theorem dX5_faultOfPage_22 : decode cX5_faultOfPage 22 = .ok (.goto 18, 3) := by decide +kernel
theorem dX5_faultOfPage_25 : decode cX5_faultOfPage 25 = .ok (.aload_n 0, 1) := by decide +kernel
theorem dX5_faultOfPage_26 : decode cX5_faultOfPage 26 = .ok (.getfield 26, 3) := by decide +kernel
theorem dX5_faultOfPage_29 : decode cX5_faultOfPage 29 = .ok (.iload_n 1, 1) := by decide +kernel
theorem dX5_faultOfPage_30 : decode cX5_faultOfPage 30 = .ok (.iaload, 1) := by decide +kernel
theorem dX5_faultOfPage_31 : decode cX5_faultOfPage 31 = .ok (.ifCond .lt 8, 3) := by decide +kernel
theorem dX5_faultOfPage_34 : decode cX5_faultOfPage 34 = .ok (.bipush (-2), 2) := by decide +kernel
theorem dX5_faultOfPage_36 : decode cX5_faultOfPage 36 = .ok (.goto 4, 3) := by decide +kernel
theorem dX5_faultOfPage_39 : decode cX5_faultOfPage 39 = .ok (.iconst 0, 1) := by decide +kernel
theorem dX5_faultOfPage_40 : decode cX5_faultOfPage 40 = .ok (.ireturn, 1) := by decide +kernel
theorem dX5_freePages_0 : decode cX5_freePages 0 = .ok (.aload_n 0, 1) := by decide +kernel
theorem dX5_freePages_1 : decode cX5_freePages 1 = .ok (.iload_n 1, 1) := by decide +kernel
theorem dX5_freePages_2 : decode cX5_freePages 2 = .ok (.invokevirtual 104, 3) := by decide +kernel
theorem dX5_freePages_5 : decode cX5_freePages 5 = .ok (.istore_n 2, 1) := by decide +kernel
theorem dX5_freePages_6 : decode cX5_freePages 6 = .ok (.iload_n 2, 1) := by decide +kernel
theorem dX5_freePages_7 : decode cX5_freePages 7 = .ok (.ifCond .ge 7, 3) := by decide +kernel
theorem dX5_freePages_10 : decode cX5_freePages 10 = .ok (.iload_n 2, 1) := by decide +kernel
theorem dX5_freePages_11 : decode cX5_freePages 11 = .ok (.goto 8, 3) := by decide +kernel
theorem dX5_freePages_14 : decode cX5_freePages 14 = .ok (.aload_n 0, 1) := by decide +kernel
theorem dX5_freePages_15 : decode cX5_freePages 15 = .ok (.iload_n 1, 1) := by decide +kernel
theorem dX5_freePages_16 : decode cX5_freePages 16 = .ok (.invokevirtual 107, 3) := by decide +kernel
theorem dX5_freePages_19 : decode cX5_freePages 19 = .ok (.ireturn, 1) := by decide +kernel
theorem dX5_addCache_0 : decode cX5_addCache 0 = .ok (.aload_n 0, 1) := by decide +kernel
theorem dX5_addCache_1 : decode cX5_addCache 1 = .ok (.getfield 35, 3) := by decide +kernel
theorem dX5_addCache_4 : decode cX5_addCache 4 = .ok (.aload_n 0, 1) := by decide +kernel
theorem dX5_addCache_5 : decode cX5_addCache 5 = .ok (.getfield 110, 3) := by decide +kernel
theorem dX5_addCache_8 : decode cX5_addCache 8 = .ok (.iload_n 1, 1) := by decide +kernel
theorem dX5_addCache_9 : decode cX5_addCache 9 = .ok (.iastore, 1) := by decide +kernel
theorem dX5_addCache_10 : decode cX5_addCache 10 = .ok (.aload_n 0, 1) := by decide +kernel
theorem dX5_addCache_11 : decode cX5_addCache 11 = .ok (.getfield 38, 3) := by decide +kernel
theorem dX5_addCache_14 : decode cX5_addCache 14 = .ok (.aload_n 0, 1) := by decide +kernel
theorem dX5_addCache_15 : decode cX5_addCache 15 = .ok (.getfield 110, 3) := by decide +kernel
theorem dX5_addCache_18 : decode cX5_addCache 18 = .ok (.iload_n 2, 1) := by decide +kernel
theorem dX5_addCache_19 : decode cX5_addCache 19 = .ok (.iastore, 1) := by decide +kernel
theorem dX5_addCache_20 : decode cX5_addCache 20 = .ok (.aload_n 0, 1) := by decide +kernel
theorem dX5_addCache_21 : decode cX5_addCache 21 = .ok (.getfield 41, 3) := by decide +kernel
theorem dX5_addCache_24 : decode cX5_addCache 24 = .ok (.aload_n 0, 1) := by decide +kernel
theorem dX5_addCache_25 : decode cX5_addCache 25 = .ok (.getfield 110, 3) := by decide +kernel
theorem dX5_addCache_28 : decode cX5_addCache 28 = .ok (.iload_n 1, 1) := by decide +kernel
theorem dX5_addCache_29 : decode cX5_addCache 29 = .ok (.iload_n 2, 1) := by decide +kernel
theorem dX5_addCache_30 : decode cX5_addCache 30 = .ok (.iadd, 1) := by decide +kernel
theorem dX5_addCache_31 : decode cX5_addCache 31 = .ok (.iconst 1, 1) := by decide +kernel
theorem dX5_addCache_32 : decode cX5_addCache 32 = .ok (.isub, 1) := by decide +kernel
theorem dX5_addCache_33 : decode cX5_addCache 33 = .ok (.iload_n 2, 1) := by decide +kernel
theorem dX5_addCache_34 : decode cX5_addCache 34 = .ok (.idiv, 1) := by decide +kernel
theorem dX5_addCache_35 : decode cX5_addCache 35 = .ok (.iload_n 2, 1) := by decide +kernel
theorem dX5_addCache_36 : decode cX5_addCache 36 = .ok (.imul, 1) := by decide +kernel
theorem dX5_addCache_37 : decode cX5_addCache 37 = .ok (.iastore, 1) := by decide +kernel
theorem dX5_addCache_38 : decode cX5_addCache 38 = .ok (.iconst 0, 1) := by decide +kernel
theorem dX5_addCache_39 : decode cX5_addCache 39 = .ok (.istore_n 3, 1) := by decide +kernel
theorem dX5_addCache_40 : decode cX5_addCache 40 = .ok (.iload_n 3, 1) := by decide +kernel
theorem dX5_addCache_41 : decode cX5_addCache 41 = .ok (.iconst 4, 1) := by decide +kernel
theorem dX5_addCache_42 : decode cX5_addCache 42 = .ok (.if_icmp .ge 27, 3) := by decide +kernel
theorem dX5_addCache_45 : decode cX5_addCache 45 = .ok (.bipush 64, 2) := by decide +kernel
theorem dX5_addCache_47 : decode cX5_addCache 47 = .ok (.iload_n 3, 1) := by decide +kernel
theorem dX5_addCache_48 : decode cX5_addCache 48 = .ok (.ishl, 1) := by decide +kernel
theorem dX5_addCache_49 : decode cX5_addCache 49 = .ok (.aload_n 0, 1) := by decide +kernel
theorem dX5_addCache_50 : decode cX5_addCache 50 = .ok (.getfield 41, 3) := by decide +kernel
theorem dX5_addCache_53 : decode cX5_addCache 53 = .ok (.aload_n 0, 1) := by decide +kernel
theorem dX5_addCache_54 : decode cX5_addCache 54 = .ok (.getfield 110, 3) := by decide +kernel
theorem dX5_addCache_57 : decode cX5_addCache 57 = .ok (.iaload, 1) := by decide +kernel
theorem dX5_addCache_58 : decode cX5_addCache 58 = .ok (.idiv, 1) := by decide +kernel
theorem dX5_addCache_59 : decode cX5_addCache 59 = .ok (.iconst 4, 1) := by decide +kernel
theorem dX5_addCache_60 : decode cX5_addCache 60 = .ok (.if_icmp .ge 9, 3) := by decide +kernel
theorem dX5_addCache_63 : decode cX5_addCache 63 = .ok (.iinc 3 1, 3) := by decide +kernel
theorem dX5_addCache_66 : decode cX5_addCache 66 = .ok (.goto (-26), 3) := by decide +kernel
theorem dX5_addCache_69 : decode cX5_addCache 69 = .ok (.aload_n 0, 1) := by decide +kernel
theorem dX5_addCache_70 : decode cX5_addCache 70 = .ok (.getfield 44, 3) := by decide +kernel
theorem dX5_addCache_73 : decode cX5_addCache 73 = .ok (.aload_n 0, 1) := by decide +kernel
theorem dX5_addCache_74 : decode cX5_addCache 74 = .ok (.getfield 110, 3) := by decide +kernel
theorem dX5_addCache_77 : decode cX5_addCache 77 = .ok (.iload_n 3, 1) := by decide +kernel
theorem dX5_addCache_78 : decode cX5_addCache 78 = .ok (.iastore, 1) := by decide +kernel
theorem dX5_addCache_79 : decode cX5_addCache 79 = .ok (.aload_n 0, 1) := by decide +kernel
theorem dX5_addCache_80 : decode cX5_addCache 80 = .ok (.getfield 47, 3) := by decide +kernel
theorem dX5_addCache_83 : decode cX5_addCache 83 = .ok (.aload_n 0, 1) := by decide +kernel
theorem dX5_addCache_84 : decode cX5_addCache 84 = .ok (.getfield 110, 3) := by decide +kernel
theorem dX5_addCache_87 : decode cX5_addCache 87 = .ok (.iconst (-1), 1) := by decide +kernel
theorem dX5_addCache_88 : decode cX5_addCache 88 = .ok (.iastore, 1) := by decide +kernel
theorem dX5_addCache_89 : decode cX5_addCache 89 = .ok (.aload_n 0, 1) := by decide +kernel
theorem dX5_addCache_90 : decode cX5_addCache 90 = .ok (.dup, 1) := by decide +kernel
theorem dX5_addCache_91 : decode cX5_addCache 91 = .ok (.getfield 110, 3) := by decide +kernel
theorem dX5_addCache_94 : decode cX5_addCache 94 = .ok (.iconst 1, 1) := by decide +kernel
theorem dX5_addCache_95 : decode cX5_addCache 95 = .ok (.iadd, 1) := by decide +kernel
theorem dX5_addCache_96 : decode cX5_addCache 96 = .ok (.putfield 110, 3) := by decide +kernel
theorem dX5_addCache_99 : decode cX5_addCache 99 = .ok (.aload_n 0, 1) := by decide +kernel
theorem dX5_addCache_100 : decode cX5_addCache 100 = .ok (.getfield 110, 3) := by decide +kernel
theorem dX5_addCache_103 : decode cX5_addCache 103 = .ok (.iconst 1, 1) := by decide +kernel
theorem dX5_addCache_104 : decode cX5_addCache 104 = .ok (.isub, 1) := by decide +kernel
theorem dX5_addCache_105 : decode cX5_addCache 105 = .ok (.ireturn, 1) := by decide +kernel
theorem dX5_cache_0 : decode cX5_cache 0 = .ok (.aload_n 0, 1) := by decide +kernel
theorem dX5_cache_1 : decode cX5_cache 1 = .ok (.getfield 58, 3) := by decide +kernel
theorem dX5_cache_4 : decode cX5_cache 4 = .ok (.ifCond .eq 45, 3) := by decide +kernel
theorem dX5_cache_7 : decode cX5_cache 7 = .ok (.iload_n 1, 1) := by decide +kernel
theorem dX5_cache_8 : decode cX5_cache 8 = .ok (.iconst 1, 1) := by decide +kernel
theorem dX5_cache_9 : decode cX5_cache 9 = .ok (.sipush 1024, 3) := by decide +kernel
theorem dX5_cache_12 : decode cX5_cache 12 = .ok (.invokestatic 62, 3) := by decide +kernel
theorem dX5_cache_15 : decode cX5_cache 15 = .ok (.ifCond .eq 34, 3) := by decide +kernel
theorem dX5_cache_18 : decode cX5_cache 18 = .ok (.iload_n 2, 1) := by decide +kernel
theorem dX5_cache_19 : decode cX5_cache 19 = .ok (.iconst 1, 1) := by decide +kernel
theorem dX5_cache_20 : decode cX5_cache 20 = .ok (.bipush 64, 2) := by decide +kernel
theorem dX5_cache_22 : decode cX5_cache 22 = .ok (.invokestatic 62, 3) := by decide +kernel
theorem dX5_cache_25 : decode cX5_cache 25 = .ok (.ifCond .eq 24, 3) := by decide +kernel
theorem dX5_cache_28 : decode cX5_cache 28 = .ok (.iload_n 2, 1) := by decide +kernel
theorem dX5_cache_29 : decode cX5_cache 29 = .ok (.iload_n 2, 1) := by decide +kernel
theorem dX5_cache_30 : decode cX5_cache 30 = .ok (.iconst 1, 1) := by decide +kernel
theorem dX5_cache_31 : decode cX5_cache 31 = .ok (.isub, 1) := by decide +kernel
theorem dX5_cache_32 : decode cX5_cache 32 = .ok (.iand, 1) := by decide +kernel
theorem dX5_cache_33 : decode cX5_cache 33 = .ok (.ifCond .ne 16, 3) := by decide +kernel
theorem dX5_cache_36 : decode cX5_cache 36 = .ok (.aload_n 0, 1) := by decide +kernel
theorem dX5_cache_37 : decode cX5_cache 37 = .ok (.getfield 110, 3) := by decide +kernel
theorem dX5_cache_40 : decode cX5_cache 40 = .ok (.bipush 12, 2) := by decide +kernel
theorem dX5_cache_42 : decode cX5_cache 42 = .ok (.if_icmp .ge 7, 3) := by decide +kernel
theorem dX5_cache_45 : decode cX5_cache 45 = .ok (.iconst 1, 1) := by decide +kernel
theorem dX5_cache_46 : decode cX5_cache 46 = .ok (.goto 4, 3) := by decide +kernel
theorem dX5_cache_49 : decode cX5_cache 49 = .ok (.iconst 0, 1) := by decide +kernel
theorem dX5_cache_50 : decode cX5_cache 50 = .ok (.istore_n 3, 1) := by decide +kernel
theorem dX5_cache_51 : decode cX5_cache 51 = .ok (.iload_n 3, 1) := by decide +kernel
theorem dX5_cache_52 : decode cX5_cache 52 = .ok (.ifCond .eq 12, 3) := by decide +kernel
theorem dX5_cache_55 : decode cX5_cache 55 = .ok (.aload_n 0, 1) := by decide +kernel
theorem dX5_cache_56 : decode cX5_cache 56 = .ok (.iload_n 1, 1) := by decide +kernel
theorem dX5_cache_57 : decode cX5_cache 57 = .ok (.iload_n 2, 1) := by decide +kernel
theorem dX5_cache_58 : decode cX5_cache 58 = .ok (.invokevirtual 54, 3) := by decide +kernel
theorem dX5_cache_61 : decode cX5_cache 61 = .ok (.goto 4, 3) := by decide +kernel
theorem dX5_cache_64 : decode cX5_cache 64 = .ok (.iconst (-1), 1) := by decide +kernel
theorem dX5_cache_65 : decode cX5_cache 65 = .ok (.ireturn, 1) := by decide +kernel
theorem dX5_objectsOf_0 : decode cX5_objectsOf 0 = .ok (.bipush 64, 2) := by decide +kernel
theorem dX5_objectsOf_2 : decode cX5_objectsOf 2 = .ok (.aload_n 0, 1) := by decide +kernel
theorem dX5_objectsOf_3 : decode cX5_objectsOf 3 = .ok (.getfield 44, 3) := by decide +kernel
theorem dX5_objectsOf_6 : decode cX5_objectsOf 6 = .ok (.iload_n 1, 1) := by decide +kernel
theorem dX5_objectsOf_7 : decode cX5_objectsOf 7 = .ok (.iaload, 1) := by decide +kernel
theorem dX5_objectsOf_8 : decode cX5_objectsOf 8 = .ok (.ishl, 1) := by decide +kernel
theorem dX5_objectsOf_9 : decode cX5_objectsOf 9 = .ok (.aload_n 0, 1) := by decide +kernel
theorem dX5_objectsOf_10 : decode cX5_objectsOf 10 = .ok (.getfield 41, 3) := by decide +kernel
theorem dX5_objectsOf_13 : decode cX5_objectsOf 13 = .ok (.iload_n 1, 1) := by decide +kernel
theorem dX5_objectsOf_14 : decode cX5_objectsOf 14 = .ok (.iaload, 1) := by decide +kernel
theorem dX5_objectsOf_15 : decode cX5_objectsOf 15 = .ok (.idiv, 1) := by decide +kernel
theorem dX5_objectsOf_16 : decode cX5_objectsOf 16 = .ok (.ireturn, 1) := by decide +kernel
theorem dX5_isCache_0 : decode cX5_isCache 0 = .ok (.iload_n 1, 1) := by decide +kernel
theorem dX5_isCache_1 : decode cX5_isCache 1 = .ok (.iconst 0, 1) := by decide +kernel
theorem dX5_isCache_2 : decode cX5_isCache 2 = .ok (.aload_n 0, 1) := by decide +kernel
theorem dX5_isCache_3 : decode cX5_isCache 3 = .ok (.getfield 110, 3) := by decide +kernel
theorem dX5_isCache_6 : decode cX5_isCache 6 = .ok (.iconst 1, 1) := by decide +kernel
theorem dX5_isCache_7 : decode cX5_isCache 7 = .ok (.isub, 1) := by decide +kernel
theorem dX5_isCache_8 : decode cX5_isCache 8 = .ok (.invokestatic 62, 3) := by decide +kernel
theorem dX5_isCache_11 : decode cX5_isCache 11 = .ok (.ireturn, 1) := by decide +kernel
theorem dX5_liveOf_0 : decode cX5_liveOf 0 = .ok (.aload_n 0, 1) := by decide +kernel
theorem dX5_liveOf_1 : decode cX5_liveOf 1 = .ok (.aload_n 0, 1) := by decide +kernel
theorem dX5_liveOf_2 : decode cX5_liveOf 2 = .ok (.getfield 26, 3) := by decide +kernel
theorem dX5_liveOf_5 : decode cX5_liveOf 5 = .ok (.iload_n 1, 1) := by decide +kernel
theorem dX5_liveOf_6 : decode cX5_liveOf 6 = .ok (.iaload, 1) := by decide +kernel
theorem dX5_liveOf_7 : decode cX5_liveOf 7 = .ok (.invokevirtual 113, 3) := by decide +kernel
theorem dX5_liveOf_10 : decode cX5_liveOf 10 = .ok (.aload_n 0, 1) := by decide +kernel
theorem dX5_liveOf_11 : decode cX5_liveOf 11 = .ok (.getfield 32, 3) := by decide +kernel
theorem dX5_liveOf_14 : decode cX5_liveOf 14 = .ok (.iload_n 1, 1) := by decide +kernel
theorem dX5_liveOf_15 : decode cX5_liveOf 15 = .ok (.iaload, 1) := by decide +kernel
theorem dX5_liveOf_16 : decode cX5_liveOf 16 = .ok (.isub, 1) := by decide +kernel
theorem dX5_liveOf_17 : decode cX5_liveOf 17 = .ok (.ireturn, 1) := by decide +kernel
theorem dX5_newSlab_0 : decode cX5_newSlab 0 = .ok (.aload_n 0, 1) := by decide +kernel
theorem dX5_newSlab_1 : decode cX5_newSlab 1 = .ok (.aload_n 0, 1) := by decide +kernel
theorem dX5_newSlab_2 : decode cX5_newSlab 2 = .ok (.getfield 44, 3) := by decide +kernel
theorem dX5_newSlab_5 : decode cX5_newSlab 5 = .ok (.iload_n 1, 1) := by decide +kernel
theorem dX5_newSlab_6 : decode cX5_newSlab 6 = .ok (.iaload, 1) := by decide +kernel
theorem dX5_newSlab_7 : decode cX5_newSlab 7 = .ok (.invokevirtual 100, 3) := by decide +kernel
theorem dX5_newSlab_10 : decode cX5_newSlab 10 = .ok (.istore_n 2, 1) := by decide +kernel
theorem dX5_newSlab_11 : decode cX5_newSlab 11 = .ok (.iload_n 2, 1) := by decide +kernel
theorem dX5_newSlab_12 : decode cX5_newSlab 12 = .ok (.ifCond .lt 56, 3) := by decide +kernel
theorem dX5_newSlab_15 : decode cX5_newSlab 15 = .ok (.aload_n 0, 1) := by decide +kernel
theorem dX5_newSlab_16 : decode cX5_newSlab 16 = .ok (.getfield 26, 3) := by decide +kernel
theorem dX5_newSlab_19 : decode cX5_newSlab 19 = .ok (.iload_n 2, 1) := by decide +kernel
theorem dX5_newSlab_20 : decode cX5_newSlab 20 = .ok (.iload_n 1, 1) := by decide +kernel
theorem dX5_newSlab_21 : decode cX5_newSlab 21 = .ok (.iastore, 1) := by decide +kernel
theorem dX5_newSlab_22 : decode cX5_newSlab 22 = .ok (.aload_n 0, 1) := by decide +kernel
theorem dX5_newSlab_23 : decode cX5_newSlab 23 = .ok (.iload_n 1, 1) := by decide +kernel
theorem dX5_newSlab_24 : decode cX5_newSlab 24 = .ok (.invokevirtual 113, 3) := by decide +kernel
theorem dX5_newSlab_27 : decode cX5_newSlab 27 = .ok (.istore_n 3, 1) := by decide +kernel
theorem dX5_newSlab_28 : decode cX5_newSlab 28 = .ok (.iconst 0, 1) := by decide +kernel
theorem dX5_newSlab_29 : decode cX5_newSlab 29 = .ok (.istore 4, 2) := by decide +kernel
theorem dX5_newSlab_31 : decode cX5_newSlab 31 = .ok (.iload 4, 2) := by decide +kernel
theorem dX5_newSlab_33 : decode cX5_newSlab 33 = .ok (.iload_n 3, 1) := by decide +kernel
theorem dX5_newSlab_34 : decode cX5_newSlab 34 = .ok (.if_icmp .ge 27, 3) := by decide +kernel
theorem dX5_newSlab_37 : decode cX5_newSlab 37 = .ok (.aload_n 0, 1) := by decide +kernel
theorem dX5_newSlab_38 : decode cX5_newSlab 38 = .ok (.getfield 29, 3) := by decide +kernel
theorem dX5_newSlab_41 : decode cX5_newSlab 41 = .ok (.bipush 64, 2) := by decide +kernel
theorem dX5_newSlab_43 : decode cX5_newSlab 43 = .ok (.iload_n 2, 1) := by decide +kernel
theorem dX5_newSlab_44 : decode cX5_newSlab 44 = .ok (.imul, 1) := by decide +kernel
theorem dX5_newSlab_45 : decode cX5_newSlab 45 = .ok (.iload 4, 2) := by decide +kernel
theorem dX5_newSlab_47 : decode cX5_newSlab 47 = .ok (.iadd, 1) := by decide +kernel
theorem dX5_newSlab_48 : decode cX5_newSlab 48 = .ok (.iload_n 3, 1) := by decide +kernel
theorem dX5_newSlab_49 : decode cX5_newSlab 49 = .ok (.iconst 1, 1) := by decide +kernel
theorem dX5_newSlab_50 : decode cX5_newSlab 50 = .ok (.isub, 1) := by decide +kernel
theorem dX5_newSlab_51 : decode cX5_newSlab 51 = .ok (.iload 4, 2) := by decide +kernel
theorem dX5_newSlab_53 : decode cX5_newSlab 53 = .ok (.isub, 1) := by decide +kernel
theorem dX5_newSlab_54 : decode cX5_newSlab 54 = .ok (.iastore, 1) := by decide +kernel
theorem dX5_newSlab_55 : decode cX5_newSlab 55 = .ok (.iinc 4 1, 3) := by decide +kernel
theorem dX5_newSlab_58 : decode cX5_newSlab 58 = .ok (.goto (-27), 3) := by decide +kernel
theorem dX5_newSlab_61 : decode cX5_newSlab 61 = .ok (.aload_n 0, 1) := by decide +kernel
theorem dX5_newSlab_62 : decode cX5_newSlab 62 = .ok (.getfield 32, 3) := by decide +kernel
theorem dX5_newSlab_65 : decode cX5_newSlab 65 = .ok (.iload_n 2, 1) := by decide +kernel
theorem dX5_newSlab_66 : decode cX5_newSlab 66 = .ok (.iload_n 3, 1) := by decide +kernel
theorem dX5_newSlab_67 : decode cX5_newSlab 67 = .ok (.iastore, 1) := by decide +kernel
theorem dX5_newSlab_68 : decode cX5_newSlab 68 = .ok (.iload_n 2, 1) := by decide +kernel
theorem dX5_newSlab_69 : decode cX5_newSlab 69 = .ok (.ireturn, 1) := by decide +kernel
theorem dX5_isSlab_0 : decode cX5_isSlab 0 = .ok (.aload_n 0, 1) := by decide +kernel
theorem dX5_isSlab_1 : decode cX5_isSlab 1 = .ok (.iload_n 1, 1) := by decide +kernel
theorem dX5_isSlab_2 : decode cX5_isSlab 2 = .ok (.invokevirtual 78, 3) := by decide +kernel
theorem dX5_isSlab_5 : decode cX5_isSlab 5 = .ok (.ifCond .eq 26, 3) := by decide +kernel
theorem dX5_isSlab_8 : decode cX5_isSlab 8 = .ok (.aload_n 0, 1) := by decide +kernel
theorem dX5_isSlab_9 : decode cX5_isSlab 9 = .ok (.getfield 23, 3) := by decide +kernel
theorem dX5_isSlab_12 : decode cX5_isSlab 12 = .ok (.iload_n 1, 1) := by decide +kernel
theorem dX5_isSlab_13 : decode cX5_isSlab 13 = .ok (.baload, 1) := by decide +kernel
theorem dX5_isSlab_14 : decode cX5_isSlab 14 = .ok (.ifCond .eq 17, 3) := by decide +kernel
theorem dX5_isSlab_17 : decode cX5_isSlab 17 = .ok (.aload_n 0, 1) := by decide +kernel
theorem dX5_isSlab_18 : decode cX5_isSlab 18 = .ok (.getfield 26, 3) := by decide +kernel
theorem dX5_isSlab_21 : decode cX5_isSlab 21 = .ok (.iload_n 1, 1) := by decide +kernel
theorem dX5_isSlab_22 : decode cX5_isSlab 22 = .ok (.iaload, 1) := by decide +kernel
theorem dX5_isSlab_23 : decode cX5_isSlab 23 = .ok (.iload_n 2, 1) := by decide +kernel
theorem dX5_isSlab_24 : decode cX5_isSlab 24 = .ok (.if_icmp .ne 7, 3) := by decide +kernel
theorem dX5_isSlab_27 : decode cX5_isSlab 27 = .ok (.iconst 1, 1) := by decide +kernel
theorem dX5_isSlab_28 : decode cX5_isSlab 28 = .ok (.goto 4, 3) := by decide +kernel
theorem dX5_isSlab_31 : decode cX5_isSlab 31 = .ok (.iconst 0, 1) := by decide +kernel
theorem dX5_isSlab_32 : decode cX5_isSlab 32 = .ok (.ireturn, 1) := by decide +kernel
theorem dX5_take_0 : decode cX5_take 0 = .ok (.aload_n 0, 1) := by decide +kernel
theorem dX5_take_1 : decode cX5_take 1 = .ok (.getfield 58, 3) := by decide +kernel
theorem dX5_take_4 : decode cX5_take 4 = .ok (.ifCond .eq 11, 3) := by decide +kernel
theorem dX5_take_7 : decode cX5_take 7 = .ok (.aload_n 0, 1) := by decide +kernel
theorem dX5_take_8 : decode cX5_take 8 = .ok (.iload_n 1, 1) := by decide +kernel
theorem dX5_take_9 : decode cX5_take 9 = .ok (.invokevirtual 116, 3) := by decide +kernel
theorem dX5_take_12 : decode cX5_take 12 = .ok (.ifCond .ne 5, 3) := by decide +kernel
theorem dX5_take_15 : decode cX5_take 15 = .ok (.iconst (-1), 1) := by decide +kernel
theorem dX5_take_16 : decode cX5_take 16 = .ok (.ireturn, 1) := by decide +kernel
theorem dX5_take_17 : decode cX5_take 17 = .ok (.iconst (-1), 1) := by decide +kernel
theorem dX5_take_18 : decode cX5_take 18 = .ok (.istore_n 2, 1) := by decide +kernel
theorem dX5_take_19 : decode cX5_take 19 = .ok (.sipush 255, 3) := by decide +kernel
theorem dX5_take_22 : decode cX5_take 22 = .ok (.istore_n 3, 1) := by decide +kernel
theorem dX5_take_23 : decode cX5_take 23 = .ok (.iload_n 3, 1) := by decide +kernel
theorem dX5_take_24 : decode cX5_take 24 = .ok (.ifCond .lt 41, 3) := by decide +kernel
theorem dX5_take_27 : decode cX5_take 27 = .ok (.aload_n 0, 1) := by decide +kernel
theorem dX5_take_28 : decode cX5_take 28 = .ok (.iload_n 3, 1) := by decide +kernel
theorem dX5_take_29 : decode cX5_take 29 = .ok (.iload_n 1, 1) := by decide +kernel
theorem dX5_take_30 : decode cX5_take 30 = .ok (.invokevirtual 119, 3) := by decide +kernel
theorem dX5_take_33 : decode cX5_take 33 = .ok (.ifCond .eq 24, 3) := by decide +kernel
theorem dX5_take_36 : decode cX5_take 36 = .ok (.aload_n 0, 1) := by decide +kernel
theorem dX5_take_37 : decode cX5_take 37 = .ok (.getfield 32, 3) := by decide +kernel
theorem dX5_take_40 : decode cX5_take 40 = .ok (.iload_n 3, 1) := by decide +kernel
theorem dX5_take_41 : decode cX5_take 41 = .ok (.iaload, 1) := by decide +kernel
theorem dX5_take_42 : decode cX5_take 42 = .ok (.ifCond .le 15, 3) := by decide +kernel
theorem dX5_take_45 : decode cX5_take 45 = .ok (.aload_n 0, 1) := by decide +kernel
theorem dX5_take_46 : decode cX5_take 46 = .ok (.iload_n 3, 1) := by decide +kernel
theorem dX5_take_47 : decode cX5_take 47 = .ok (.invokevirtual 122, 3) := by decide +kernel
theorem dX5_take_50 : decode cX5_take 50 = .ok (.ifCond .le 7, 3) := by decide +kernel
theorem dX5_take_53 : decode cX5_take 53 = .ok (.iload_n 3, 1) := by decide +kernel
theorem dX5_take_54 : decode cX5_take 54 = .ok (.goto 4, 3) := by decide +kernel
theorem dX5_take_57 : decode cX5_take 57 = .ok (.iload_n 2, 1) := by decide +kernel
theorem dX5_take_58 : decode cX5_take 58 = .ok (.istore_n 2, 1) := by decide +kernel
theorem dX5_take_59 : decode cX5_take 59 = .ok (.iinc 3 (-1), 3) := by decide +kernel
theorem dX5_take_62 : decode cX5_take 62 = .ok (.goto (-39), 3) := by decide +kernel
theorem dX5_take_65 : decode cX5_take 65 = .ok (.iload_n 2, 1) := by decide +kernel
theorem dX5_take_66 : decode cX5_take 66 = .ok (.ifCond .ge 26, 3) := by decide +kernel
theorem dX5_take_69 : decode cX5_take 69 = .ok (.aload_n 0, 1) := by decide +kernel
theorem dX5_take_70 : decode cX5_take 70 = .ok (.getfield 47, 3) := by decide +kernel
theorem dX5_take_73 : decode cX5_take 73 = .ok (.iload_n 1, 1) := by decide +kernel
theorem dX5_take_74 : decode cX5_take 74 = .ok (.iaload, 1) := by decide +kernel
theorem dX5_take_75 : decode cX5_take 75 = .ok (.ifCond .lt 17, 3) := by decide +kernel
theorem dX5_take_78 : decode cX5_take 78 = .ok (.aload_n 0, 1) := by decide +kernel
theorem dX5_take_79 : decode cX5_take 79 = .ok (.getfield 47, 3) := by decide +kernel
theorem dX5_take_82 : decode cX5_take 82 = .ok (.iload_n 1, 1) := by decide +kernel
theorem dX5_take_83 : decode cX5_take 83 = .ok (.iaload, 1) := by decide +kernel
theorem dX5_take_84 : decode cX5_take 84 = .ok (.istore_n 2, 1) := by decide +kernel
theorem dX5_take_85 : decode cX5_take 85 = .ok (.aload_n 0, 1) := by decide +kernel
theorem dX5_take_86 : decode cX5_take 86 = .ok (.getfield 47, 3) := by decide +kernel
theorem dX5_take_89 : decode cX5_take 89 = .ok (.iload_n 1, 1) := by decide +kernel
theorem dX5_take_90 : decode cX5_take 90 = .ok (.iconst (-1), 1) := by decide +kernel
theorem dX5_take_91 : decode cX5_take 91 = .ok (.iastore, 1) := by decide +kernel
theorem dX5_take_92 : decode cX5_take 92 = .ok (.iload_n 2, 1) := by decide +kernel
theorem dX5_take_93 : decode cX5_take 93 = .ok (.ifCond .ge 11, 3) := by decide +kernel
theorem dX5_take_96 : decode cX5_take 96 = .ok (.aload_n 0, 1) := by decide +kernel
theorem dX5_take_97 : decode cX5_take 97 = .ok (.iload_n 1, 1) := by decide +kernel
theorem dX5_take_98 : decode cX5_take 98 = .ok (.invokevirtual 125, 3) := by decide +kernel
theorem dX5_take_101 : decode cX5_take 101 = .ok (.goto 4, 3) := by decide +kernel
theorem dX5_take_104 : decode cX5_take 104 = .ok (.iload_n 2, 1) := by decide +kernel
theorem dX5_take_105 : decode cX5_take 105 = .ok (.istore_n 2, 1) := by decide +kernel
theorem dX5_take_106 : decode cX5_take 106 = .ok (.iload_n 2, 1) := by decide +kernel
theorem dX5_take_107 : decode cX5_take 107 = .ok (.ifCond .ge 5, 3) := by decide +kernel
theorem dX5_take_110 : decode cX5_take 110 = .ok (.iconst (-1), 1) := by decide +kernel
theorem dX5_take_111 : decode cX5_take 111 = .ok (.ireturn, 1) := by decide +kernel
theorem dX5_take_112 : decode cX5_take 112 = .ok (.aload_n 0, 1) := by decide +kernel
theorem dX5_take_113 : decode cX5_take 113 = .ok (.getfield 32, 3) := by decide +kernel
theorem dX5_take_116 : decode cX5_take 116 = .ok (.iload_n 2, 1) := by decide +kernel
theorem dX5_take_117 : decode cX5_take 117 = .ok (.dup2, 1) := by decide +kernel
theorem dX5_take_118 : decode cX5_take 118 = .ok (.iaload, 1) := by decide +kernel
theorem dX5_take_119 : decode cX5_take 119 = .ok (.iconst 1, 1) := by decide +kernel
theorem dX5_take_120 : decode cX5_take 120 = .ok (.isub, 1) := by decide +kernel
theorem dX5_take_121 : decode cX5_take 121 = .ok (.iastore, 1) := by decide +kernel
theorem dX5_take_122 : decode cX5_take 122 = .ok (.bipush 64, 2) := by decide +kernel
theorem dX5_take_124 : decode cX5_take 124 = .ok (.iload_n 2, 1) := by decide +kernel
theorem dX5_take_125 : decode cX5_take 125 = .ok (.imul, 1) := by decide +kernel
theorem dX5_take_126 : decode cX5_take 126 = .ok (.aload_n 0, 1) := by decide +kernel
theorem dX5_take_127 : decode cX5_take 127 = .ok (.getfield 41, 3) := by decide +kernel
theorem dX5_take_130 : decode cX5_take 130 = .ok (.iload_n 1, 1) := by decide +kernel
theorem dX5_take_131 : decode cX5_take 131 = .ok (.iaload, 1) := by decide +kernel
theorem dX5_take_132 : decode cX5_take 132 = .ok (.aload_n 0, 1) := by decide +kernel
theorem dX5_take_133 : decode cX5_take 133 = .ok (.getfield 29, 3) := by decide +kernel
theorem dX5_take_136 : decode cX5_take 136 = .ok (.bipush 64, 2) := by decide +kernel
theorem dX5_take_138 : decode cX5_take 138 = .ok (.iload_n 2, 1) := by decide +kernel
theorem dX5_take_139 : decode cX5_take 139 = .ok (.imul, 1) := by decide +kernel
theorem dX5_take_140 : decode cX5_take 140 = .ok (.aload_n 0, 1) := by decide +kernel
theorem dX5_take_141 : decode cX5_take 141 = .ok (.getfield 32, 3) := by decide +kernel
theorem dX5_take_144 : decode cX5_take 144 = .ok (.iload_n 2, 1) := by decide +kernel
theorem dX5_take_145 : decode cX5_take 145 = .ok (.iaload, 1) := by decide +kernel
theorem dX5_take_146 : decode cX5_take 146 = .ok (.iadd, 1) := by decide +kernel
theorem dX5_take_147 : decode cX5_take 147 = .ok (.iaload, 1) := by decide +kernel
theorem dX5_take_148 : decode cX5_take 148 = .ok (.imul, 1) := by decide +kernel
theorem dX5_take_149 : decode cX5_take 149 = .ok (.iadd, 1) := by decide +kernel
theorem dX5_take_150 : decode cX5_take 150 = .ok (.ireturn, 1) := by decide +kernel
theorem dX5_slabAt_0 : decode cX5_slabAt 0 = .ok (.iload_n 1, 1) := by decide +kernel
theorem dX5_slabAt_1 : decode cX5_slabAt 1 = .ok (.bipush 64, 2) := by decide +kernel
theorem dX5_slabAt_3 : decode cX5_slabAt 3 = .ok (.idiv, 1) := by decide +kernel
theorem dX5_slabAt_4 : decode cX5_slabAt 4 = .ok (.istore_n 2, 1) := by decide +kernel
theorem dX5_slabAt_5 : decode cX5_slabAt 5 = .ok (.aload_n 0, 1) := by decide +kernel
theorem dX5_slabAt_6 : decode cX5_slabAt 6 = .ok (.getfield 58, 3) := by decide +kernel
theorem dX5_slabAt_9 : decode cX5_slabAt 9 = .ok (.ifCond .eq 23, 3) := by decide +kernel
theorem dX5_slabAt_12 : decode cX5_slabAt 12 = .ok (.iload_n 1, 1) := by decide +kernel
theorem dX5_slabAt_13 : decode cX5_slabAt 13 = .ok (.ifCond .lt 19, 3) := by decide +kernel
theorem dX5_slabAt_16 : decode cX5_slabAt 16 = .ok (.iload_n 2, 1) := by decide +kernel
theorem dX5_slabAt_17 : decode cX5_slabAt 17 = .ok (.sipush 256, 3) := by decide +kernel
theorem dX5_slabAt_20 : decode cX5_slabAt 20 = .ok (.if_icmp .ge 12, 3) := by decide +kernel
theorem dX5_slabAt_23 : decode cX5_slabAt 23 = .ok (.aload_n 0, 1) := by decide +kernel
theorem dX5_slabAt_24 : decode cX5_slabAt 24 = .ok (.getfield 13, 3) := by decide +kernel
theorem dX5_slabAt_27 : decode cX5_slabAt 27 = .ok (.iload_n 2, 1) := by decide +kernel
theorem dX5_slabAt_28 : decode cX5_slabAt 28 = .ok (.baload, 1) := by decide +kernel
theorem dX5_slabAt_29 : decode cX5_slabAt 29 = .ok (.ifCond .ne 5, 3) := by decide +kernel
theorem dX5_slabAt_32 : decode cX5_slabAt 32 = .ok (.iconst (-1), 1) := by decide +kernel
theorem dX5_slabAt_33 : decode cX5_slabAt 33 = .ok (.ireturn, 1) := by decide +kernel
theorem dX5_slabAt_34 : decode cX5_slabAt 34 = .ok (.aload_n 0, 1) := by decide +kernel
theorem dX5_slabAt_35 : decode cX5_slabAt 35 = .ok (.getfield 17, 3) := by decide +kernel
theorem dX5_slabAt_38 : decode cX5_slabAt 38 = .ok (.iload_n 2, 1) := by decide +kernel
theorem dX5_slabAt_39 : decode cX5_slabAt 39 = .ok (.iaload, 1) := by decide +kernel
theorem dX5_slabAt_40 : decode cX5_slabAt 40 = .ok (.istore_n 3, 1) := by decide +kernel
theorem dX5_slabAt_41 : decode cX5_slabAt 41 = .ok (.aload_n 0, 1) := by decide +kernel
theorem dX5_slabAt_42 : decode cX5_slabAt 42 = .ok (.getfield 23, 3) := by decide +kernel
theorem dX5_slabAt_45 : decode cX5_slabAt 45 = .ok (.iload_n 3, 1) := by decide +kernel
theorem dX5_slabAt_46 : decode cX5_slabAt 46 = .ok (.baload, 1) := by decide +kernel
theorem dX5_slabAt_47 : decode cX5_slabAt 47 = .ok (.ifCond .eq 16, 3) := by decide +kernel
theorem dX5_slabAt_50 : decode cX5_slabAt 50 = .ok (.aload_n 0, 1) := by decide +kernel
theorem dX5_slabAt_51 : decode cX5_slabAt 51 = .ok (.getfield 26, 3) := by decide +kernel
theorem dX5_slabAt_54 : decode cX5_slabAt 54 = .ok (.iload_n 3, 1) := by decide +kernel
theorem dX5_slabAt_55 : decode cX5_slabAt 55 = .ok (.iaload, 1) := by decide +kernel
theorem dX5_slabAt_56 : decode cX5_slabAt 56 = .ok (.ifCond .lt 7, 3) := by decide +kernel
theorem dX5_slabAt_59 : decode cX5_slabAt 59 = .ok (.iload_n 3, 1) := by decide +kernel
theorem dX5_slabAt_60 : decode cX5_slabAt 60 = .ok (.goto 4, 3) := by decide +kernel
theorem dX5_slabAt_63 : decode cX5_slabAt 63 = .ok (.iconst (-1), 1) := by decide +kernel
theorem dX5_slabAt_64 : decode cX5_slabAt 64 = .ok (.ireturn, 1) := by decide +kernel
theorem dX5_faultOfObject_0 : decode cX5_faultOfObject 0 = .ok (.aload_n 0, 1) := by decide +kernel
theorem dX5_faultOfObject_1 : decode cX5_faultOfObject 1 = .ok (.getfield 26, 3) := by decide +kernel
theorem dX5_faultOfObject_4 : decode cX5_faultOfObject 4 = .ok (.iload_n 1, 1) := by decide +kernel
theorem dX5_faultOfObject_5 : decode cX5_faultOfObject 5 = .ok (.iaload, 1) := by decide +kernel
theorem dX5_faultOfObject_6 : decode cX5_faultOfObject 6 = .ok (.istore_n 3, 1) := by decide +kernel
theorem dX5_faultOfObject_7 : decode cX5_faultOfObject 7 = .ok (.iload_n 2, 1) := by decide +kernel
theorem dX5_faultOfObject_8 : decode cX5_faultOfObject 8 = .ok (.bipush 64, 2) := by decide +kernel
theorem dX5_faultOfObject_10 : decode cX5_faultOfObject 10 = .ok (.iload_n 1, 1) := by decide +kernel
theorem dX5_faultOfObject_11 : decode cX5_faultOfObject 11 = .ok (.imul, 1) := by decide +kernel
theorem dX5_faultOfObject_12 : decode cX5_faultOfObject 12 = .ok (.isub, 1) := by decide +kernel
theorem dX5_faultOfObject_13 : decode cX5_faultOfObject 13 = .ok (.istore 4, 2) := by decide +kernel
theorem dX5_faultOfObject_15 : decode cX5_faultOfObject 15 = .ok (.iload 4, 2) := by decide +kernel
theorem dX5_faultOfObject_17 : decode cX5_faultOfObject 17 = .ok (.aload_n 0, 1) := by decide +kernel
theorem dX5_faultOfObject_18 : decode cX5_faultOfObject 18 = .ok (.getfield 41, 3) := by decide +kernel
theorem dX5_faultOfObject_21 : decode cX5_faultOfObject 21 = .ok (.iload_n 3, 1) := by decide +kernel
theorem dX5_faultOfObject_22 : decode cX5_faultOfObject 22 = .ok (.iaload, 1) := by decide +kernel
theorem dX5_faultOfObject_23 : decode cX5_faultOfObject 23 = .ok (.idiv, 1) := by decide +kernel
theorem dX5_faultOfObject_24 : decode cX5_faultOfObject 24 = .ok (.istore 5, 2) := by decide +kernel
theorem dX5_faultOfObject_26 : decode cX5_faultOfObject 26 = .ok (.iload 4, 2) := by decide +kernel
theorem dX5_faultOfObject_28 : decode cX5_faultOfObject 28 = .ok (.aload_n 0, 1) := by decide +kernel
theorem dX5_faultOfObject_29 : decode cX5_faultOfObject 29 = .ok (.getfield 41, 3) := by decide +kernel
theorem dX5_faultOfObject_32 : decode cX5_faultOfObject 32 = .ok (.iload_n 3, 1) := by decide +kernel
theorem dX5_faultOfObject_33 : decode cX5_faultOfObject 33 = .ok (.iaload, 1) := by decide +kernel
theorem dX5_faultOfObject_34 : decode cX5_faultOfObject 34 = .ok (.irem, 1) := by decide +kernel
theorem dX5_faultOfObject_35 : decode cX5_faultOfObject 35 = .ok (.ifCond .ne 13, 3) := by decide +kernel
theorem dX5_faultOfObject_38 : decode cX5_faultOfObject 38 = .ok (.iload 5, 2) := by decide +kernel
theorem dX5_faultOfObject_40 : decode cX5_faultOfObject 40 = .ok (.aload_n 0, 1) := by decide +kernel
theorem dX5_faultOfObject_41 : decode cX5_faultOfObject 41 = .ok (.iload_n 3, 1) := by decide +kernel
theorem dX5_faultOfObject_42 : decode cX5_faultOfObject 42 = .ok (.invokevirtual 113, 3) := by decide +kernel
theorem dX5_faultOfObject_45 : decode cX5_faultOfObject 45 = .ok (.if_icmp .lt 6, 3) := by decide +kernel
theorem dX5_faultOfObject_48 : decode cX5_faultOfObject 48 = .ok (.bipush (-2), 2) := by decide +kernel
theorem dX5_faultOfObject_50 : decode cX5_faultOfObject 50 = .ok (.ireturn, 1) := by decide +kernel
theorem dX5_faultOfObject_51 : decode cX5_faultOfObject 51 = .ok (.iconst 0, 1) := by decide +kernel
theorem dX5_faultOfObject_52 : decode cX5_faultOfObject 52 = .ok (.istore 6, 2) := by decide +kernel
theorem dX5_faultOfObject_54 : decode cX5_faultOfObject 54 = .ok (.iload 6, 2) := by decide +kernel
theorem dX5_faultOfObject_56 : decode cX5_faultOfObject 56 = .ok (.aload_n 0, 1) := by decide +kernel
theorem dX5_faultOfObject_57 : decode cX5_faultOfObject 57 = .ok (.getfield 32, 3) := by decide +kernel
theorem dX5_faultOfObject_60 : decode cX5_faultOfObject 60 = .ok (.iload_n 1, 1) := by decide +kernel
theorem dX5_faultOfObject_61 : decode cX5_faultOfObject 61 = .ok (.iaload, 1) := by decide +kernel
theorem dX5_faultOfObject_62 : decode cX5_faultOfObject 62 = .ok (.if_icmp .ge 29, 3) := by decide +kernel
theorem dX5_faultOfObject_65 : decode cX5_faultOfObject 65 = .ok (.aload_n 0, 1) := by decide +kernel
theorem dX5_faultOfObject_66 : decode cX5_faultOfObject 66 = .ok (.getfield 29, 3) := by decide +kernel
theorem dX5_faultOfObject_69 : decode cX5_faultOfObject 69 = .ok (.bipush 64, 2) := by decide +kernel
theorem dX5_faultOfObject_71 : decode cX5_faultOfObject 71 = .ok (.iload_n 1, 1) := by decide +kernel
theorem dX5_faultOfObject_72 : decode cX5_faultOfObject 72 = .ok (.imul, 1) := by decide +kernel
theorem dX5_faultOfObject_73 : decode cX5_faultOfObject 73 = .ok (.iload 6, 2) := by decide +kernel
theorem dX5_faultOfObject_75 : decode cX5_faultOfObject 75 = .ok (.iadd, 1) := by decide +kernel
theorem dX5_faultOfObject_76 : decode cX5_faultOfObject 76 = .ok (.iaload, 1) := by decide +kernel
theorem dX5_faultOfObject_77 : decode cX5_faultOfObject 77 = .ok (.iload 5, 2) := by decide +kernel
theorem dX5_faultOfObject_79 : decode cX5_faultOfObject 79 = .ok (.if_icmp .ne 6, 3) := by decide +kernel
theorem dX5_faultOfObject_82 : decode cX5_faultOfObject 82 = .ok (.bipush (-3), 2) := by decide +kernel
theorem dX5_faultOfObject_84 : decode cX5_faultOfObject 84 = .ok (.ireturn, 1) := by decide +kernel
theorem dX5_faultOfObject_85 : decode cX5_faultOfObject 85 = .ok (.iinc 6 1, 3) := by decide +kernel
theorem dX5_faultOfObject_88 : decode cX5_faultOfObject 88 = .ok (.goto (-34), 3) := by decide +kernel
theorem dX5_faultOfObject_91 : decode cX5_faultOfObject 91 = .ok (.iconst 0, 1) := by decide +kernel
theorem dX5_faultOfObject_92 : decode cX5_faultOfObject 92 = .ok (.ireturn, 1) := by decide +kernel
theorem dX5_give_0 : decode cX5_give 0 = .ok (.aload_n 0, 1) := by decide +kernel
theorem dX5_give_1 : decode cX5_give 1 = .ok (.iload_n 2, 1) := by decide +kernel
theorem dX5_give_2 : decode cX5_give 2 = .ok (.invokevirtual 128, 3) := by decide +kernel
theorem dX5_give_5 : decode cX5_give 5 = .ok (.istore_n 3, 1) := by decide +kernel
theorem dX5_give_6 : decode cX5_give 6 = .ok (.aload_n 0, 1) := by decide +kernel
theorem dX5_give_7 : decode cX5_give 7 = .ok (.iload_n 1, 1) := by decide +kernel
theorem dX5_give_8 : decode cX5_give 8 = .ok (.invokevirtual 116, 3) := by decide +kernel
theorem dX5_give_11 : decode cX5_give 11 = .ok (.ifCond .eq 17, 3) := by decide +kernel
theorem dX5_give_14 : decode cX5_give 14 = .ok (.iload_n 3, 1) := by decide +kernel
theorem dX5_give_15 : decode cX5_give 15 = .ok (.ifCond .lt 13, 3) := by decide +kernel
theorem dX5_give_18 : decode cX5_give 18 = .ok (.aload_n 0, 1) := by decide +kernel
theorem dX5_give_19 : decode cX5_give 19 = .ok (.getfield 26, 3) := by decide +kernel
theorem dX5_give_22 : decode cX5_give 22 = .ok (.iload_n 3, 1) := by decide +kernel
theorem dX5_give_23 : decode cX5_give 23 = .ok (.iaload, 1) := by decide +kernel
theorem dX5_give_24 : decode cX5_give 24 = .ok (.iload_n 1, 1) := by decide +kernel
theorem dX5_give_25 : decode cX5_give 25 = .ok (.if_icmp .eq 6, 3) := by decide +kernel
theorem dX5_give_28 : decode cX5_give 28 = .ok (.bipush (-2), 2) := by decide +kernel
theorem dX5_give_30 : decode cX5_give 30 = .ok (.ireturn, 1) := by decide +kernel
theorem dX5_give_31 : decode cX5_give 31 = .ok (.aload_n 0, 1) := by decide +kernel
theorem dX5_give_32 : decode cX5_give 32 = .ok (.iload_n 3, 1) := by decide +kernel
theorem dX5_give_33 : decode cX5_give 33 = .ok (.iload_n 2, 1) := by decide +kernel
theorem dX5_give_34 : decode cX5_give 34 = .ok (.invokevirtual 131, 3) := by decide +kernel
theorem dX5_give_37 : decode cX5_give 37 = .ok (.istore 4, 2) := by decide +kernel
theorem dX5_give_39 : decode cX5_give 39 = .ok (.iload 4, 2) := by decide +kernel
theorem dX5_give_41 : decode cX5_give 41 = .ok (.ifCond .ge 8, 3) := by decide +kernel
theorem dX5_give_44 : decode cX5_give 44 = .ok (.iload 4, 2) := by decide +kernel
theorem dX5_give_46 : decode cX5_give 46 = .ok (.goto 9, 3) := by decide +kernel
theorem dX5_give_49 : decode cX5_give 49 = .ok (.aload_n 0, 1) := by decide +kernel
theorem dX5_give_50 : decode cX5_give 50 = .ok (.iload_n 3, 1) := by decide +kernel
theorem dX5_give_51 : decode cX5_give 51 = .ok (.iload_n 2, 1) := by decide +kernel
theorem dX5_give_52 : decode cX5_give 52 = .ok (.invokevirtual 134, 3) := by decide +kernel
theorem dX5_give_55 : decode cX5_give 55 = .ok (.ireturn, 1) := by decide +kernel
theorem dX5_giveObject_0 : decode cX5_giveObject 0 = .ok (.aload_n 0, 1) := by decide +kernel
theorem dX5_giveObject_1 : decode cX5_giveObject 1 = .ok (.getfield 26, 3) := by decide +kernel
theorem dX5_giveObject_4 : decode cX5_giveObject 4 = .ok (.iload_n 1, 1) := by decide +kernel
theorem dX5_giveObject_5 : decode cX5_giveObject 5 = .ok (.iaload, 1) := by decide +kernel
theorem dX5_giveObject_6 : decode cX5_giveObject 6 = .ok (.istore_n 3, 1) := by decide +kernel
theorem dX5_giveObject_7 : decode cX5_giveObject 7 = .ok (.aload_n 0, 1) := by decide +kernel
theorem dX5_giveObject_8 : decode cX5_giveObject 8 = .ok (.getfield 29, 3) := by decide +kernel
theorem dX5_giveObject_11 : decode cX5_giveObject 11 = .ok (.bipush 64, 2) := by decide +kernel
theorem dX5_giveObject_13 : decode cX5_giveObject 13 = .ok (.iload_n 1, 1) := by decide +kernel
theorem dX5_giveObject_14 : decode cX5_giveObject 14 = .ok (.imul, 1) := by decide +kernel
theorem dX5_giveObject_15 : decode cX5_giveObject 15 = .ok (.aload_n 0, 1) := by decide +kernel
theorem dX5_giveObject_16 : decode cX5_giveObject 16 = .ok (.getfield 32, 3) := by decide +kernel
theorem dX5_giveObject_19 : decode cX5_giveObject 19 = .ok (.iload_n 1, 1) := by decide +kernel
theorem dX5_giveObject_20 : decode cX5_giveObject 20 = .ok (.iaload, 1) := by decide +kernel
theorem dX5_giveObject_21 : decode cX5_giveObject 21 = .ok (.iadd, 1) := by decide +kernel
theorem dX5_giveObject_22 : decode cX5_giveObject 22 = .ok (.iload_n 2, 1) := by decide +kernel
theorem dX5_giveObject_23 : decode cX5_giveObject 23 = .ok (.bipush 64, 2) := by decide +kernel
theorem dX5_giveObject_25 : decode cX5_giveObject 25 = .ok (.iload_n 1, 1) := by decide +kernel
theorem dX5_giveObject_26 : decode cX5_giveObject 26 = .ok (.imul, 1) := by decide +kernel
theorem dX5_giveObject_27 : decode cX5_giveObject 27 = .ok (.isub, 1) := by decide +kernel
theorem dX5_giveObject_28 : decode cX5_giveObject 28 = .ok (.aload_n 0, 1) := by decide +kernel
theorem dX5_giveObject_29 : decode cX5_giveObject 29 = .ok (.getfield 41, 3) := by decide +kernel
theorem dX5_giveObject_32 : decode cX5_giveObject 32 = .ok (.iload_n 3, 1) := by decide +kernel
theorem dX5_giveObject_33 : decode cX5_giveObject 33 = .ok (.iaload, 1) := by decide +kernel
theorem dX5_giveObject_34 : decode cX5_giveObject 34 = .ok (.idiv, 1) := by decide +kernel
theorem dX5_giveObject_35 : decode cX5_giveObject 35 = .ok (.iastore, 1) := by decide +kernel
theorem dX5_giveObject_36 : decode cX5_giveObject 36 = .ok (.aload_n 0, 1) := by decide +kernel
theorem dX5_giveObject_37 : decode cX5_giveObject 37 = .ok (.getfield 32, 3) := by decide +kernel
theorem dX5_giveObject_40 : decode cX5_giveObject 40 = .ok (.iload_n 1, 1) := by decide +kernel
theorem dX5_giveObject_41 : decode cX5_giveObject 41 = .ok (.dup2, 1) := by decide +kernel
theorem dX5_giveObject_42 : decode cX5_giveObject 42 = .ok (.iaload, 1) := by decide +kernel
theorem dX5_giveObject_43 : decode cX5_giveObject 43 = .ok (.iconst 1, 1) := by decide +kernel
theorem dX5_giveObject_44 : decode cX5_giveObject 44 = .ok (.iadd, 1) := by decide +kernel
theorem dX5_giveObject_45 : decode cX5_giveObject 45 = .ok (.iastore, 1) := by decide +kernel
theorem dX5_giveObject_46 : decode cX5_giveObject 46 = .ok (.aload_n 0, 1) := by decide +kernel
theorem dX5_giveObject_47 : decode cX5_giveObject 47 = .ok (.iload_n 1, 1) := by decide +kernel
theorem dX5_giveObject_48 : decode cX5_giveObject 48 = .ok (.invokevirtual 122, 3) := by decide +kernel
theorem dX5_giveObject_51 : decode cX5_giveObject 51 = .ok (.istore 4, 2) := by decide +kernel
theorem dX5_giveObject_53 : decode cX5_giveObject 53 = .ok (.iload 4, 2) := by decide +kernel
theorem dX5_giveObject_55 : decode cX5_giveObject 55 = .ok (.ifCond .ne 22, 3) := by decide +kernel
theorem dX5_giveObject_58 : decode cX5_giveObject 58 = .ok (.aload_n 0, 1) := by decide +kernel
theorem dX5_giveObject_59 : decode cX5_giveObject 59 = .ok (.getfield 47, 3) := by decide +kernel
theorem dX5_giveObject_62 : decode cX5_giveObject 62 = .ok (.iload_n 3, 1) := by decide +kernel
theorem dX5_giveObject_63 : decode cX5_giveObject 63 = .ok (.iaload, 1) := by decide +kernel
theorem dX5_giveObject_64 : decode cX5_giveObject 64 = .ok (.ifCond .ge 13, 3) := by decide +kernel
theorem dX5_giveObject_67 : decode cX5_giveObject 67 = .ok (.aload_n 0, 1) := by decide +kernel
theorem dX5_giveObject_68 : decode cX5_giveObject 68 = .ok (.getfield 47, 3) := by decide +kernel
theorem dX5_giveObject_71 : decode cX5_giveObject 71 = .ok (.iload_n 3, 1) := by decide +kernel
theorem dX5_giveObject_72 : decode cX5_giveObject 72 = .ok (.iload_n 1, 1) := by decide +kernel
theorem dX5_giveObject_73 : decode cX5_giveObject 73 = .ok (.iastore, 1) := by decide +kernel
theorem dX5_giveObject_74 : decode cX5_giveObject 74 = .ok (.goto 26, 3) := by decide +kernel
theorem dX5_giveObject_77 : decode cX5_giveObject 77 = .ok (.iload 4, 2) := by decide +kernel
theorem dX5_giveObject_79 : decode cX5_giveObject 79 = .ok (.ifCond .ne 21, 3) := by decide +kernel
theorem dX5_giveObject_82 : decode cX5_giveObject 82 = .ok (.aload_n 0, 1) := by decide +kernel
theorem dX5_giveObject_83 : decode cX5_giveObject 83 = .ok (.iload_n 1, 1) := by decide +kernel
theorem dX5_giveObject_84 : decode cX5_giveObject 84 = .ok (.invokevirtual 107, 3) := by decide +kernel
theorem dX5_giveObject_87 : decode cX5_giveObject 87 = .ok (.istore 5, 2) := by decide +kernel
theorem dX5_giveObject_89 : decode cX5_giveObject 89 = .ok (.iload 5, 2) := by decide +kernel
theorem dX5_giveObject_91 : decode cX5_giveObject 91 = .ok (.ifCond .le 7, 3) := by decide +kernel
theorem dX5_giveObject_94 : decode cX5_giveObject 94 = .ok (.iconst 0, 1) := by decide +kernel
theorem dX5_giveObject_95 : decode cX5_giveObject 95 = .ok (.goto 4, 3) := by decide +kernel
theorem dX5_giveObject_98 : decode cX5_giveObject 98 = .ok (.iconst (-1), 1) := by decide +kernel
theorem dX5_giveObject_99 : decode cX5_giveObject 99 = .ok (.ireturn, 1) := by decide +kernel
theorem dX5_giveObject_100 : decode cX5_giveObject 100 = .ok (.iload 4, 2) := by decide +kernel
theorem dX5_giveObject_102 : decode cX5_giveObject 102 = .ok (.ireturn, 1) := by decide +kernel
theorem dX5_shrink_0 : decode cX5_shrink 0 = .ok (.aload_n 0, 1) := by decide +kernel
theorem dX5_shrink_1 : decode cX5_shrink 1 = .ok (.iload_n 1, 1) := by decide +kernel
theorem dX5_shrink_2 : decode cX5_shrink 2 = .ok (.invokevirtual 116, 3) := by decide +kernel
theorem dX5_shrink_5 : decode cX5_shrink 5 = .ok (.ifCond .ne 5, 3) := by decide +kernel
theorem dX5_shrink_8 : decode cX5_shrink 8 = .ok (.iconst (-1), 1) := by decide +kernel
theorem dX5_shrink_9 : decode cX5_shrink 9 = .ok (.ireturn, 1) := by decide +kernel
theorem dX5_shrink_10 : decode cX5_shrink 10 = .ok (.aload_n 0, 1) := by decide +kernel
theorem dX5_shrink_11 : decode cX5_shrink 11 = .ok (.getfield 47, 3) := by decide +kernel
theorem dX5_shrink_14 : decode cX5_shrink 14 = .ok (.iload_n 1, 1) := by decide +kernel
theorem dX5_shrink_15 : decode cX5_shrink 15 = .ok (.iaload, 1) := by decide +kernel
theorem dX5_shrink_16 : decode cX5_shrink 16 = .ok (.istore_n 2, 1) := by decide +kernel
theorem dX5_shrink_17 : decode cX5_shrink 17 = .ok (.aload_n 0, 1) := by decide +kernel
theorem dX5_shrink_18 : decode cX5_shrink 18 = .ok (.getfield 47, 3) := by decide +kernel
theorem dX5_shrink_21 : decode cX5_shrink 21 = .ok (.iload_n 1, 1) := by decide +kernel
theorem dX5_shrink_22 : decode cX5_shrink 22 = .ok (.iconst (-1), 1) := by decide +kernel
theorem dX5_shrink_23 : decode cX5_shrink 23 = .ok (.iastore, 1) := by decide +kernel
theorem dX5_shrink_24 : decode cX5_shrink 24 = .ok (.iload_n 2, 1) := by decide +kernel
theorem dX5_shrink_25 : decode cX5_shrink 25 = .ok (.ifCond .ge 7, 3) := by decide +kernel
theorem dX5_shrink_28 : decode cX5_shrink 28 = .ok (.iconst 0, 1) := by decide +kernel
theorem dX5_shrink_29 : decode cX5_shrink 29 = .ok (.goto 8, 3) := by decide +kernel
theorem dX5_shrink_32 : decode cX5_shrink 32 = .ok (.aload_n 0, 1) := by decide +kernel
theorem dX5_shrink_33 : decode cX5_shrink 33 = .ok (.iload_n 2, 1) := by decide +kernel
theorem dX5_shrink_34 : decode cX5_shrink 34 = .ok (.invokevirtual 107, 3) := by decide +kernel
theorem dX5_shrink_37 : decode cX5_shrink 37 = .ok (.ireturn, 1) := by decide +kernel
theorem dX5_classOf_0 : decode cX5_classOf 0 = .ok (.iconst 0, 1) := by decide +kernel
theorem dX5_classOf_1 : decode cX5_classOf 1 = .ok (.istore_n 1, 1) := by decide +kernel
theorem dX5_classOf_2 : decode cX5_classOf 2 = .ok (.iload_n 1, 1) := by decide +kernel
theorem dX5_classOf_3 : decode cX5_classOf 3 = .ok (.bipush 6, 2) := by decide +kernel
theorem dX5_classOf_5 : decode cX5_classOf 5 = .ok (.if_icmp .ge 17, 3) := by decide +kernel
theorem dX5_classOf_8 : decode cX5_classOf 8 = .ok (.bipush 8, 2) := by decide +kernel
theorem dX5_classOf_10 : decode cX5_classOf 10 = .ok (.iload_n 1, 1) := by decide +kernel
theorem dX5_classOf_11 : decode cX5_classOf 11 = .ok (.ishl, 1) := by decide +kernel
theorem dX5_classOf_12 : decode cX5_classOf 12 = .ok (.iload_n 0, 1) := by decide +kernel
theorem dX5_classOf_13 : decode cX5_classOf 13 = .ok (.if_icmp .ge 9, 3) := by decide +kernel
theorem dX5_classOf_16 : decode cX5_classOf 16 = .ok (.iinc 1 1, 3) := by decide +kernel
theorem dX5_classOf_19 : decode cX5_classOf 19 = .ok (.goto (-17), 3) := by decide +kernel
theorem dX5_classOf_22 : decode cX5_classOf 22 = .ok (.iload_n 1, 1) := by decide +kernel
theorem dX5_classOf_23 : decode cX5_classOf 23 = .ok (.bipush 6, 2) := by decide +kernel
theorem dX5_classOf_25 : decode cX5_classOf 25 = .ok (.if_icmp .ge 12, 3) := by decide +kernel
theorem dX5_classOf_28 : decode cX5_classOf 28 = .ok (.iload_n 0, 1) := by decide +kernel
theorem dX5_classOf_29 : decode cX5_classOf 29 = .ok (.sipush 256, 3) := by decide +kernel
theorem dX5_classOf_32 : decode cX5_classOf 32 = .ok (.if_icmp .gt 5, 3) := by decide +kernel
theorem dX5_classOf_35 : decode cX5_classOf 35 = .ok (.iload_n 1, 1) := by decide +kernel
theorem dX5_classOf_36 : decode cX5_classOf 36 = .ok (.ireturn, 1) := by decide +kernel
theorem dX5_classOf_37 : decode cX5_classOf 37 = .ok (.iconst 0, 1) := by decide +kernel
theorem dX5_classOf_38 : decode cX5_classOf 38 = .ok (.istore_n 2, 1) := by decide +kernel
theorem dX5_classOf_39 : decode cX5_classOf 39 = .ok (.bipush 64, 2) := by decide +kernel
theorem dX5_classOf_41 : decode cX5_classOf 41 = .ok (.iload_n 2, 1) := by decide +kernel
theorem dX5_classOf_42 : decode cX5_classOf 42 = .ok (.ishl, 1) := by decide +kernel
theorem dX5_classOf_43 : decode cX5_classOf 43 = .ok (.iload_n 0, 1) := by decide +kernel
theorem dX5_classOf_44 : decode cX5_classOf 44 = .ok (.if_icmp .ge 9, 3) := by decide +kernel
theorem dX5_classOf_47 : decode cX5_classOf 47 = .ok (.iinc 2 1, 3) := by decide +kernel
theorem dX5_classOf_50 : decode cX5_classOf 50 = .ok (.goto (-11), 3) := by decide +kernel
theorem dX5_classOf_53 : decode cX5_classOf 53 = .ok (.bipush 6, 2) := by decide +kernel
theorem dX5_classOf_55 : decode cX5_classOf 55 = .ok (.iload_n 2, 1) := by decide +kernel
theorem dX5_classOf_56 : decode cX5_classOf 56 = .ok (.iadd, 1) := by decide +kernel
theorem dX5_classOf_57 : decode cX5_classOf 57 = .ok (.ireturn, 1) := by decide +kernel
theorem dX5_alloc_0 : decode cX5_alloc 0 = .ok (.aload_n 0, 1) := by decide +kernel
theorem dX5_alloc_1 : decode cX5_alloc 1 = .ok (.getfield 58, 3) := by decide +kernel
theorem dX5_alloc_4 : decode cX5_alloc 4 = .ok (.ifCond .eq 14, 3) := by decide +kernel
theorem dX5_alloc_7 : decode cX5_alloc 7 = .ok (.iload_n 1, 1) := by decide +kernel
theorem dX5_alloc_8 : decode cX5_alloc 8 = .ok (.iconst 1, 1) := by decide +kernel
theorem dX5_alloc_9 : decode cX5_alloc 9 = .ok (.sipush 4096, 3) := by decide +kernel
theorem dX5_alloc_12 : decode cX5_alloc 12 = .ok (.invokestatic 62, 3) := by decide +kernel
theorem dX5_alloc_15 : decode cX5_alloc 15 = .ok (.ifCond .ne 5, 3) := by decide +kernel
theorem dX5_alloc_18 : decode cX5_alloc 18 = .ok (.iconst (-1), 1) := by decide +kernel
theorem dX5_alloc_19 : decode cX5_alloc 19 = .ok (.ireturn, 1) := by decide +kernel
theorem dX5_alloc_20 : decode cX5_alloc 20 = .ok (.iload_n 1, 1) := by decide +kernel
theorem dX5_alloc_21 : decode cX5_alloc 21 = .ok (.invokestatic 137, 3) := by decide +kernel
theorem dX5_alloc_24 : decode cX5_alloc 24 = .ok (.istore_n 2, 1) := by decide +kernel
theorem dX5_alloc_25 : decode cX5_alloc 25 = .ok (.iload_n 2, 1) := by decide +kernel
theorem dX5_alloc_26 : decode cX5_alloc 26 = .ok (.bipush 6, 2) := by decide +kernel
theorem dX5_alloc_28 : decode cX5_alloc 28 = .ok (.if_icmp .ge 9, 3) := by decide +kernel
theorem dX5_alloc_31 : decode cX5_alloc 31 = .ok (.aload_n 0, 1) := by decide +kernel
theorem dX5_alloc_32 : decode cX5_alloc 32 = .ok (.iload_n 2, 1) := by decide +kernel
theorem dX5_alloc_33 : decode cX5_alloc 33 = .ok (.invokevirtual 140, 3) := by decide +kernel
theorem dX5_alloc_36 : decode cX5_alloc 36 = .ok (.ireturn, 1) := by decide +kernel
theorem dX5_alloc_37 : decode cX5_alloc 37 = .ok (.aload_n 0, 1) := by decide +kernel
theorem dX5_alloc_38 : decode cX5_alloc 38 = .ok (.iload_n 2, 1) := by decide +kernel
theorem dX5_alloc_39 : decode cX5_alloc 39 = .ok (.bipush 6, 2) := by decide +kernel
theorem dX5_alloc_41 : decode cX5_alloc 41 = .ok (.isub, 1) := by decide +kernel
theorem dX5_alloc_42 : decode cX5_alloc 42 = .ok (.invokevirtual 100, 3) := by decide +kernel
theorem dX5_alloc_45 : decode cX5_alloc 45 = .ok (.istore_n 3, 1) := by decide +kernel
theorem dX5_alloc_46 : decode cX5_alloc 46 = .ok (.iload_n 3, 1) := by decide +kernel
theorem dX5_alloc_47 : decode cX5_alloc 47 = .ok (.ifCond .ge 7, 3) := by decide +kernel
theorem dX5_alloc_50 : decode cX5_alloc 50 = .ok (.iconst (-1), 1) := by decide +kernel
theorem dX5_alloc_51 : decode cX5_alloc 51 = .ok (.goto 7, 3) := by decide +kernel
theorem dX5_alloc_54 : decode cX5_alloc 54 = .ok (.bipush 64, 2) := by decide +kernel
theorem dX5_alloc_56 : decode cX5_alloc 56 = .ok (.iload_n 3, 1) := by decide +kernel
theorem dX5_alloc_57 : decode cX5_alloc 57 = .ok (.imul, 1) := by decide +kernel
theorem dX5_alloc_58 : decode cX5_alloc 58 = .ok (.ireturn, 1) := by decide +kernel
theorem dX5_classAt_0 : decode cX5_classAt 0 = .ok (.aload_n 0, 1) := by decide +kernel
theorem dX5_classAt_1 : decode cX5_classAt 1 = .ok (.iload_n 1, 1) := by decide +kernel
theorem dX5_classAt_2 : decode cX5_classAt 2 = .ok (.invokevirtual 128, 3) := by decide +kernel
theorem dX5_classAt_5 : decode cX5_classAt 5 = .ok (.istore_n 2, 1) := by decide +kernel
theorem dX5_classAt_6 : decode cX5_classAt 6 = .ok (.iload_n 2, 1) := by decide +kernel
theorem dX5_classAt_7 : decode cX5_classAt 7 = .ok (.ifCond .lt 40, 3) := by decide +kernel
theorem dX5_classAt_10 : decode cX5_classAt 10 = .ok (.aload_n 0, 1) := by decide +kernel
theorem dX5_classAt_11 : decode cX5_classAt 11 = .ok (.getfield 26, 3) := by decide +kernel
theorem dX5_classAt_14 : decode cX5_classAt 14 = .ok (.iload_n 2, 1) := by decide +kernel
theorem dX5_classAt_15 : decode cX5_classAt 15 = .ok (.iaload, 1) := by decide +kernel
theorem dX5_classAt_16 : decode cX5_classAt 16 = .ok (.iconst 5, 1) := by decide +kernel
theorem dX5_classAt_17 : decode cX5_classAt 17 = .ok (.if_icmp .le 8, 3) := by decide +kernel
theorem dX5_classAt_20 : decode cX5_classAt 20 = .ok (.bipush (-2), 2) := by decide +kernel
theorem dX5_classAt_22 : decode cX5_classAt 22 = .ok (.goto 9, 3) := by decide +kernel
theorem dX5_classAt_25 : decode cX5_classAt 25 = .ok (.aload_n 0, 1) := by decide +kernel
theorem dX5_classAt_26 : decode cX5_classAt 26 = .ok (.iload_n 2, 1) := by decide +kernel
theorem dX5_classAt_27 : decode cX5_classAt 27 = .ok (.iload_n 1, 1) := by decide +kernel
theorem dX5_classAt_28 : decode cX5_classAt 28 = .ok (.invokevirtual 131, 3) := by decide +kernel
theorem dX5_classAt_31 : decode cX5_classAt 31 = .ok (.istore_n 3, 1) := by decide +kernel
theorem dX5_classAt_32 : decode cX5_classAt 32 = .ok (.iload_n 3, 1) := by decide +kernel
theorem dX5_classAt_33 : decode cX5_classAt 33 = .ok (.ifCond .ge 7, 3) := by decide +kernel
theorem dX5_classAt_36 : decode cX5_classAt 36 = .ok (.iload_n 3, 1) := by decide +kernel
theorem dX5_classAt_37 : decode cX5_classAt 37 = .ok (.goto 9, 3) := by decide +kernel
theorem dX5_classAt_40 : decode cX5_classAt 40 = .ok (.aload_n 0, 1) := by decide +kernel
theorem dX5_classAt_41 : decode cX5_classAt 41 = .ok (.getfield 26, 3) := by decide +kernel
theorem dX5_classAt_44 : decode cX5_classAt 44 = .ok (.iload_n 2, 1) := by decide +kernel
theorem dX5_classAt_45 : decode cX5_classAt 45 = .ok (.iaload, 1) := by decide +kernel
theorem dX5_classAt_46 : decode cX5_classAt 46 = .ok (.ireturn, 1) := by decide +kernel
theorem dX5_classAt_47 : decode cX5_classAt 47 = .ok (.iload_n 1, 1) := by decide +kernel
theorem dX5_classAt_48 : decode cX5_classAt 48 = .ok (.ifCond .lt 10, 3) := by decide +kernel
theorem dX5_classAt_51 : decode cX5_classAt 51 = .ok (.iload_n 1, 1) := by decide +kernel
theorem dX5_classAt_52 : decode cX5_classAt 52 = .ok (.bipush 64, 2) := by decide +kernel
theorem dX5_classAt_54 : decode cX5_classAt 54 = .ok (.irem, 1) := by decide +kernel
theorem dX5_classAt_55 : decode cX5_classAt 55 = .ok (.ifCond .eq 6, 3) := by decide +kernel
theorem dX5_classAt_58 : decode cX5_classAt 58 = .ok (.bipush (-2), 2) := by decide +kernel
theorem dX5_classAt_60 : decode cX5_classAt 60 = .ok (.ireturn, 1) := by decide +kernel
theorem dX5_classAt_61 : decode cX5_classAt 61 = .ok (.aload_n 0, 1) := by decide +kernel
theorem dX5_classAt_62 : decode cX5_classAt 62 = .ok (.iload_n 1, 1) := by decide +kernel
theorem dX5_classAt_63 : decode cX5_classAt 63 = .ok (.bipush 64, 2) := by decide +kernel
theorem dX5_classAt_65 : decode cX5_classAt 65 = .ok (.idiv, 1) := by decide +kernel
theorem dX5_classAt_66 : decode cX5_classAt 66 = .ok (.invokevirtual 104, 3) := by decide +kernel
theorem dX5_classAt_69 : decode cX5_classAt 69 = .ok (.istore_n 3, 1) := by decide +kernel
theorem dX5_classAt_70 : decode cX5_classAt 70 = .ok (.iload_n 3, 1) := by decide +kernel
theorem dX5_classAt_71 : decode cX5_classAt 71 = .ok (.ifCond .ge 7, 3) := by decide +kernel
theorem dX5_classAt_74 : decode cX5_classAt 74 = .ok (.iload_n 3, 1) := by decide +kernel
theorem dX5_classAt_75 : decode cX5_classAt 75 = .ok (.goto 15, 3) := by decide +kernel
theorem dX5_classAt_78 : decode cX5_classAt 78 = .ok (.bipush 6, 2) := by decide +kernel
theorem dX5_classAt_80 : decode cX5_classAt 80 = .ok (.aload_n 0, 1) := by decide +kernel
theorem dX5_classAt_81 : decode cX5_classAt 81 = .ok (.getfield 20, 3) := by decide +kernel
theorem dX5_classAt_84 : decode cX5_classAt 84 = .ok (.iload_n 1, 1) := by decide +kernel
theorem dX5_classAt_85 : decode cX5_classAt 85 = .ok (.bipush 64, 2) := by decide +kernel
theorem dX5_classAt_87 : decode cX5_classAt 87 = .ok (.idiv, 1) := by decide +kernel
theorem dX5_classAt_88 : decode cX5_classAt 88 = .ok (.iaload, 1) := by decide +kernel
theorem dX5_classAt_89 : decode cX5_classAt 89 = .ok (.iadd, 1) := by decide +kernel
theorem dX5_classAt_90 : decode cX5_classAt 90 = .ok (.ireturn, 1) := by decide +kernel
theorem dX5_bytesOf_0 : decode cX5_bytesOf 0 = .ok (.iload_n 0, 1) := by decide +kernel
theorem dX5_bytesOf_1 : decode cX5_bytesOf 1 = .ok (.bipush 6, 2) := by decide +kernel
theorem dX5_bytesOf_3 : decode cX5_bytesOf 3 = .ok (.if_icmp .ge 10, 3) := by decide +kernel
theorem dX5_bytesOf_6 : decode cX5_bytesOf 6 = .ok (.bipush 8, 2) := by decide +kernel
theorem dX5_bytesOf_8 : decode cX5_bytesOf 8 = .ok (.iload_n 0, 1) := by decide +kernel
theorem dX5_bytesOf_9 : decode cX5_bytesOf 9 = .ok (.ishl, 1) := by decide +kernel
theorem dX5_bytesOf_10 : decode cX5_bytesOf 10 = .ok (.goto 10, 3) := by decide +kernel
theorem dX5_bytesOf_13 : decode cX5_bytesOf 13 = .ok (.bipush 64, 2) := by decide +kernel
theorem dX5_bytesOf_15 : decode cX5_bytesOf 15 = .ok (.iload_n 0, 1) := by decide +kernel
theorem dX5_bytesOf_16 : decode cX5_bytesOf 16 = .ok (.bipush 6, 2) := by decide +kernel
theorem dX5_bytesOf_18 : decode cX5_bytesOf 18 = .ok (.isub, 1) := by decide +kernel
theorem dX5_bytesOf_19 : decode cX5_bytesOf 19 = .ok (.ishl, 1) := by decide +kernel
theorem dX5_bytesOf_20 : decode cX5_bytesOf 20 = .ok (.ireturn, 1) := by decide +kernel
theorem dX5_release_0 : decode cX5_release 0 = .ok (.iload_n 2, 1) := by decide +kernel
theorem dX5_release_1 : decode cX5_release 1 = .ok (.bipush 6, 2) := by decide +kernel
theorem dX5_release_3 : decode cX5_release 3 = .ok (.if_icmp .ge 14, 3) := by decide +kernel
theorem dX5_release_6 : decode cX5_release 6 = .ok (.aload_n 0, 1) := by decide +kernel
theorem dX5_release_7 : decode cX5_release 7 = .ok (.aload_n 0, 1) := by decide +kernel
theorem dX5_release_8 : decode cX5_release 8 = .ok (.iload_n 1, 1) := by decide +kernel
theorem dX5_release_9 : decode cX5_release 9 = .ok (.invokevirtual 128, 3) := by decide +kernel
theorem dX5_release_12 : decode cX5_release 12 = .ok (.iload_n 1, 1) := by decide +kernel
theorem dX5_release_13 : decode cX5_release 13 = .ok (.invokevirtual 134, 3) := by decide +kernel
theorem dX5_release_16 : decode cX5_release 16 = .ok (.ireturn, 1) := by decide +kernel
theorem dX5_release_17 : decode cX5_release 17 = .ok (.aload_n 0, 1) := by decide +kernel
theorem dX5_release_18 : decode cX5_release 18 = .ok (.iload_n 1, 1) := by decide +kernel
theorem dX5_release_19 : decode cX5_release 19 = .ok (.bipush 64, 2) := by decide +kernel
theorem dX5_release_21 : decode cX5_release 21 = .ok (.idiv, 1) := by decide +kernel
theorem dX5_release_22 : decode cX5_release 22 = .ok (.invokevirtual 107, 3) := by decide +kernel
theorem dX5_release_25 : decode cX5_release 25 = .ok (.ireturn, 1) := by decide +kernel
theorem dX5_free_0 : decode cX5_free 0 = .ok (.aload_n 0, 1) := by decide +kernel
theorem dX5_free_1 : decode cX5_free 1 = .ok (.iload_n 1, 1) := by decide +kernel
theorem dX5_free_2 : decode cX5_free 2 = .ok (.invokevirtual 143, 3) := by decide +kernel
theorem dX5_free_5 : decode cX5_free 5 = .ok (.istore_n 2, 1) := by decide +kernel
theorem dX5_free_6 : decode cX5_free 6 = .ok (.iload_n 2, 1) := by decide +kernel
theorem dX5_free_7 : decode cX5_free 7 = .ok (.ifCond .ge 5, 3) := by decide +kernel
theorem dX5_free_10 : decode cX5_free 10 = .ok (.iload_n 2, 1) := by decide +kernel
theorem dX5_free_11 : decode cX5_free 11 = .ok (.ireturn, 1) := by decide +kernel
theorem dX5_free_12 : decode cX5_free 12 = .ok (.aload_n 0, 1) := by decide +kernel
theorem dX5_free_13 : decode cX5_free 13 = .ok (.iload_n 1, 1) := by decide +kernel
theorem dX5_free_14 : decode cX5_free 14 = .ok (.iload_n 2, 1) := by decide +kernel
theorem dX5_free_15 : decode cX5_free 15 = .ok (.invokevirtual 146, 3) := by decide +kernel
theorem dX5_free_18 : decode cX5_free 18 = .ok (.istore_n 3, 1) := by decide +kernel
theorem dX5_free_19 : decode cX5_free 19 = .ok (.iload_n 3, 1) := by decide +kernel
theorem dX5_free_20 : decode cX5_free 20 = .ok (.ifCond .ge 7, 3) := by decide +kernel
theorem dX5_free_23 : decode cX5_free 23 = .ok (.iload_n 3, 1) := by decide +kernel
theorem dX5_free_24 : decode cX5_free 24 = .ok (.goto 7, 3) := by decide +kernel
theorem dX5_free_27 : decode cX5_free 27 = .ok (.iload_n 2, 1) := by decide +kernel
theorem dX5_free_28 : decode cX5_free 28 = .ok (.invokestatic 149, 3) := by decide +kernel
theorem dX5_free_31 : decode cX5_free 31 = .ok (.ireturn, 1) := by decide +kernel
theorem dX5_size_0 : decode cX5_size 0 = .ok (.aload_n 0, 1) := by decide +kernel
theorem dX5_size_1 : decode cX5_size 1 = .ok (.iload_n 1, 1) := by decide +kernel
theorem dX5_size_2 : decode cX5_size 2 = .ok (.invokevirtual 143, 3) := by decide +kernel
theorem dX5_size_5 : decode cX5_size 5 = .ok (.istore_n 2, 1) := by decide +kernel
theorem dX5_size_6 : decode cX5_size 6 = .ok (.iload_n 2, 1) := by decide +kernel
theorem dX5_size_7 : decode cX5_size 7 = .ok (.ifCond .ge 7, 3) := by decide +kernel
theorem dX5_size_10 : decode cX5_size 10 = .ok (.iload_n 2, 1) := by decide +kernel
theorem dX5_size_11 : decode cX5_size 11 = .ok (.goto 7, 3) := by decide +kernel
theorem dX5_size_14 : decode cX5_size 14 = .ok (.iload_n 2, 1) := by decide +kernel
theorem dX5_size_15 : decode cX5_size 15 = .ok (.invokestatic 149, 3) := by decide +kernel
theorem dX5_size_18 : decode cX5_size 18 = .ok (.ireturn, 1) := by decide +kernel
theorem dX5_resize_0 : decode cX5_resize 0 = .ok (.aload_n 0, 1) := by decide +kernel
theorem dX5_resize_1 : decode cX5_resize 1 = .ok (.iload_n 1, 1) := by decide +kernel
theorem dX5_resize_2 : decode cX5_resize 2 = .ok (.invokevirtual 143, 3) := by decide +kernel
theorem dX5_resize_5 : decode cX5_resize 5 = .ok (.istore_n 3, 1) := by decide +kernel
theorem dX5_resize_6 : decode cX5_resize 6 = .ok (.iload_n 3, 1) := by decide +kernel
theorem dX5_resize_7 : decode cX5_resize 7 = .ok (.ifCond .ge 5, 3) := by decide +kernel
theorem dX5_resize_10 : decode cX5_resize 10 = .ok (.iload_n 3, 1) := by decide +kernel
theorem dX5_resize_11 : decode cX5_resize 11 = .ok (.ireturn, 1) := by decide +kernel
theorem dX5_resize_12 : decode cX5_resize 12 = .ok (.iload_n 2, 1) := by decide +kernel
theorem dX5_resize_13 : decode cX5_resize 13 = .ok (.iconst 1, 1) := by decide +kernel
theorem dX5_resize_14 : decode cX5_resize 14 = .ok (.sipush 4096, 3) := by decide +kernel
theorem dX5_resize_17 : decode cX5_resize 17 = .ok (.invokestatic 62, 3) := by decide +kernel
theorem dX5_resize_20 : decode cX5_resize 20 = .ok (.ifCond .ne 5, 3) := by decide +kernel
theorem dX5_resize_23 : decode cX5_resize 23 = .ok (.iconst (-1), 1) := by decide +kernel
theorem dX5_resize_24 : decode cX5_resize 24 = .ok (.ireturn, 1) := by decide +kernel
theorem dX5_resize_25 : decode cX5_resize 25 = .ok (.iload_n 2, 1) := by decide +kernel
theorem dX5_resize_26 : decode cX5_resize 26 = .ok (.invokestatic 137, 3) := by decide +kernel
theorem dX5_resize_29 : decode cX5_resize 29 = .ok (.istore 4, 2) := by decide +kernel
theorem dX5_resize_31 : decode cX5_resize 31 = .ok (.iload_n 3, 1) := by decide +kernel
theorem dX5_resize_32 : decode cX5_resize 32 = .ok (.iload 4, 2) := by decide +kernel
theorem dX5_resize_34 : decode cX5_resize 34 = .ok (.if_icmp .ne 5, 3) := by decide +kernel
theorem dX5_resize_37 : decode cX5_resize 37 = .ok (.iload_n 1, 1) := by decide +kernel
theorem dX5_resize_38 : decode cX5_resize 38 = .ok (.ireturn, 1) := by decide +kernel
theorem dX5_resize_39 : decode cX5_resize 39 = .ok (.aload_n 0, 1) := by decide +kernel
theorem dX5_resize_40 : decode cX5_resize 40 = .ok (.iload_n 2, 1) := by decide +kernel
theorem dX5_resize_41 : decode cX5_resize 41 = .ok (.invokevirtual 152, 3) := by decide +kernel
theorem dX5_resize_44 : decode cX5_resize 44 = .ok (.istore 5, 2) := by decide +kernel
theorem dX5_resize_46 : decode cX5_resize 46 = .ok (.iload 5, 2) := by decide +kernel
theorem dX5_resize_48 : decode cX5_resize 48 = .ok (.ifCond .ge 5, 3) := by decide +kernel
theorem dX5_resize_51 : decode cX5_resize 51 = .ok (.iconst (-1), 1) := by decide +kernel
theorem dX5_resize_52 : decode cX5_resize 52 = .ok (.ireturn, 1) := by decide +kernel
theorem dX5_resize_53 : decode cX5_resize 53 = .ok (.iload_n 3, 1) := by decide +kernel
theorem dX5_resize_54 : decode cX5_resize 54 = .ok (.invokestatic 149, 3) := by decide +kernel
theorem dX5_resize_57 : decode cX5_resize 57 = .ok (.iload_n 2, 1) := by decide +kernel
theorem dX5_resize_58 : decode cX5_resize 58 = .ok (.if_icmp .ge 10, 3) := by decide +kernel
theorem dX5_resize_61 : decode cX5_resize 61 = .ok (.iload_n 3, 1) := by decide +kernel
theorem dX5_resize_62 : decode cX5_resize 62 = .ok (.invokestatic 149, 3) := by decide +kernel
theorem dX5_resize_65 : decode cX5_resize 65 = .ok (.goto 4, 3) := by decide +kernel
theorem dX5_resize_68 : decode cX5_resize 68 = .ok (.iload_n 2, 1) := by decide +kernel
theorem dX5_resize_69 : decode cX5_resize 69 = .ok (.istore 6, 2) := by decide +kernel
theorem dX5_resize_71 : decode cX5_resize 71 = .ok (.iconst 0, 1) := by decide +kernel
theorem dX5_resize_72 : decode cX5_resize 72 = .ok (.istore 7, 2) := by decide +kernel
theorem dX5_resize_74 : decode cX5_resize 74 = .ok (.iload 7, 2) := by decide +kernel
theorem dX5_resize_76 : decode cX5_resize 76 = .ok (.iload 6, 2) := by decide +kernel
theorem dX5_resize_78 : decode cX5_resize 78 = .ok (.if_icmp .ge 28, 3) := by decide +kernel
theorem dX5_resize_81 : decode cX5_resize 81 = .ok (.aload_n 0, 1) := by decide +kernel
theorem dX5_resize_82 : decode cX5_resize 82 = .ok (.getfield 7, 3) := by decide +kernel
theorem dX5_resize_85 : decode cX5_resize 85 = .ok (.iload 5, 2) := by decide +kernel
theorem dX5_resize_87 : decode cX5_resize 87 = .ok (.iload 7, 2) := by decide +kernel
theorem dX5_resize_89 : decode cX5_resize 89 = .ok (.iadd, 1) := by decide +kernel
theorem dX5_resize_90 : decode cX5_resize 90 = .ok (.aload_n 0, 1) := by decide +kernel
theorem dX5_resize_91 : decode cX5_resize 91 = .ok (.getfield 7, 3) := by decide +kernel
theorem dX5_resize_94 : decode cX5_resize 94 = .ok (.iload_n 1, 1) := by decide +kernel
theorem dX5_resize_95 : decode cX5_resize 95 = .ok (.iload 7, 2) := by decide +kernel
theorem dX5_resize_97 : decode cX5_resize 97 = .ok (.iadd, 1) := by decide +kernel
theorem dX5_resize_98 : decode cX5_resize 98 = .ok (.iaload, 1) := by decide +kernel
theorem dX5_resize_99 : decode cX5_resize 99 = .ok (.iastore, 1) := by decide +kernel
theorem dX5_resize_100 : decode cX5_resize 100 = .ok (.iinc 7 1, 3) := by decide +kernel
theorem dX5_resize_103 : decode cX5_resize 103 = .ok (.goto (-29), 3) := by decide +kernel
theorem dX5_resize_106 : decode cX5_resize 106 = .ok (.aload_n 0, 1) := by decide +kernel
theorem dX5_resize_107 : decode cX5_resize 107 = .ok (.iload_n 1, 1) := by decide +kernel
theorem dX5_resize_108 : decode cX5_resize 108 = .ok (.iload_n 3, 1) := by decide +kernel
theorem dX5_resize_109 : decode cX5_resize 109 = .ok (.invokevirtual 146, 3) := by decide +kernel
theorem dX5_resize_112 : decode cX5_resize 112 = .ok (.istore 7, 2) := by decide +kernel
theorem dX5_resize_114 : decode cX5_resize 114 = .ok (.iload 7, 2) := by decide +kernel
theorem dX5_resize_116 : decode cX5_resize 116 = .ok (.ifCond .ge 7, 3) := by decide +kernel
theorem dX5_resize_119 : decode cX5_resize 119 = .ok (.iconst (-1), 1) := by decide +kernel
theorem dX5_resize_120 : decode cX5_resize 120 = .ok (.goto 5, 3) := by decide +kernel
theorem dX5_resize_123 : decode cX5_resize 123 = .ok (.iload 5, 2) := by decide +kernel
theorem dX5_resize_125 : decode cX5_resize 125 = .ok (.ireturn, 1) := by decide +kernel
theorem dX5_isAddress_0 : decode cX5_isAddress 0 = .ok (.iload_n 0, 1) := by decide +kernel
theorem dX5_isAddress_1 : decode cX5_isAddress 1 = .ok (.iconst 0, 1) := by decide +kernel
theorem dX5_isAddress_2 : decode cX5_isAddress 2 = .ok (.sipush 16383, 3) := by decide +kernel
theorem dX5_isAddress_5 : decode cX5_isAddress 5 = .ok (.invokestatic 62, 3) := by decide +kernel
theorem dX5_isAddress_8 : decode cX5_isAddress 8 = .ok (.ireturn, 1) := by decide +kernel
theorem dX5_read_0 : decode cX5_read 0 = .ok (.iload_n 1, 1) := by decide +kernel
theorem dX5_read_1 : decode cX5_read 1 = .ok (.invokestatic 155, 3) := by decide +kernel
theorem dX5_read_4 : decode cX5_read 4 = .ok (.ifCond .eq 12, 3) := by decide +kernel
theorem dX5_read_7 : decode cX5_read 7 = .ok (.aload_n 0, 1) := by decide +kernel
theorem dX5_read_8 : decode cX5_read 8 = .ok (.getfield 7, 3) := by decide +kernel
theorem dX5_read_11 : decode cX5_read 11 = .ok (.iload_n 1, 1) := by decide +kernel
theorem dX5_read_12 : decode cX5_read 12 = .ok (.iaload, 1) := by decide +kernel
theorem dX5_read_13 : decode cX5_read 13 = .ok (.goto 4, 3) := by decide +kernel
theorem dX5_read_16 : decode cX5_read 16 = .ok (.iconst (-1), 1) := by decide +kernel
theorem dX5_read_17 : decode cX5_read 17 = .ok (.ireturn, 1) := by decide +kernel
theorem dX5_write_0 : decode cX5_write 0 = .ok (.iload_n 1, 1) := by decide +kernel
theorem dX5_write_1 : decode cX5_write 1 = .ok (.invokestatic 155, 3) := by decide +kernel
theorem dX5_write_4 : decode cX5_write 4 = .ok (.ifCond .ne 5, 3) := by decide +kernel
theorem dX5_write_7 : decode cX5_write 7 = .ok (.iconst (-1), 1) := by decide +kernel
theorem dX5_write_8 : decode cX5_write 8 = .ok (.ireturn, 1) := by decide +kernel
theorem dX5_write_9 : decode cX5_write 9 = .ok (.aload_n 0, 1) := by decide +kernel
theorem dX5_write_10 : decode cX5_write 10 = .ok (.getfield 7, 3) := by decide +kernel
theorem dX5_write_13 : decode cX5_write 13 = .ok (.iload_n 1, 1) := by decide +kernel
theorem dX5_write_14 : decode cX5_write 14 = .ok (.iaload, 1) := by decide +kernel
theorem dX5_write_15 : decode cX5_write 15 = .ok (.istore_n 3, 1) := by decide +kernel
theorem dX5_write_16 : decode cX5_write 16 = .ok (.aload_n 0, 1) := by decide +kernel
theorem dX5_write_17 : decode cX5_write 17 = .ok (.getfield 7, 3) := by decide +kernel
theorem dX5_write_20 : decode cX5_write 20 = .ok (.iload_n 1, 1) := by decide +kernel
theorem dX5_write_21 : decode cX5_write 21 = .ok (.iload_n 2, 1) := by decide +kernel
theorem dX5_write_22 : decode cX5_write 22 = .ok (.sipush 255, 3) := by decide +kernel
theorem dX5_write_25 : decode cX5_write 25 = .ok (.iand, 1) := by decide +kernel
theorem dX5_write_26 : decode cX5_write 26 = .ok (.iastore, 1) := by decide +kernel
theorem dX5_write_27 : decode cX5_write 27 = .ok (.iload_n 3, 1) := by decide +kernel
theorem dX5_write_28 : decode cX5_write 28 = .ok (.ireturn, 1) := by decide +kernel
theorem dX5_arm_0 : decode cX5_arm 0 = .ok (.iload_n 1, 1) := by decide +kernel
theorem dX5_arm_1 : decode cX5_arm 1 = .ok (.iconst 0, 1) := by decide +kernel
theorem dX5_arm_2 : decode cX5_arm 2 = .ok (.bipush 100, 2) := by decide +kernel
theorem dX5_arm_4 : decode cX5_arm 4 = .ok (.invokestatic 62, 3) := by decide +kernel
theorem dX5_arm_7 : decode cX5_arm 7 = .ok (.ifCond .ne 5, 3) := by decide +kernel
theorem dX5_arm_10 : decode cX5_arm 10 = .ok (.iconst 0, 1) := by decide +kernel
theorem dX5_arm_11 : decode cX5_arm 11 = .ok (.ireturn, 1) := by decide +kernel
theorem dX5_arm_12 : decode cX5_arm 12 = .ok (.aload_n 0, 1) := by decide +kernel
theorem dX5_arm_13 : decode cX5_arm 13 = .ok (.iload_n 1, 1) := by decide +kernel
theorem dX5_arm_14 : decode cX5_arm 14 = .ok (.putfield 50, 3) := by decide +kernel
theorem dX5_arm_17 : decode cX5_arm 17 = .ok (.iconst 1, 1) := by decide +kernel
theorem dX5_arm_18 : decode cX5_arm 18 = .ok (.ireturn, 1) := by decide +kernel
theorem dX5_ofPage_0 : decode cX5_ofPage 0 = .ok (.iload_n 1, 1) := by decide +kernel
theorem dX5_ofPage_1 : decode cX5_ofPage 1 = .ok (.iconst 0, 1) := by decide +kernel
theorem dX5_ofPage_2 : decode cX5_ofPage 2 = .ok (.sipush 255, 3) := by decide +kernel
theorem dX5_ofPage_5 : decode cX5_ofPage 5 = .ok (.invokestatic 62, 3) := by decide +kernel
theorem dX5_ofPage_8 : decode cX5_ofPage 8 = .ok (.ifCond .ne 6, 3) := by decide +kernel
theorem dX5_ofPage_11 : decode cX5_ofPage 11 = .ok (.bipush (-2), 2) := by decide +kernel
theorem dX5_ofPage_13 : decode cX5_ofPage 13 = .ok (.ireturn, 1) := by decide +kernel
theorem dX5_ofPage_14 : decode cX5_ofPage 14 = .ok (.aload_n 0, 1) := by decide +kernel
theorem dX5_ofPage_15 : decode cX5_ofPage 15 = .ok (.getfield 58, 3) := by decide +kernel
theorem dX5_ofPage_18 : decode cX5_ofPage 18 = .ok (.ifCond .eq 12, 3) := by decide +kernel
theorem dX5_ofPage_21 : decode cX5_ofPage 21 = .ok (.aload_n 0, 1) := by decide +kernel
theorem dX5_ofPage_22 : decode cX5_ofPage 22 = .ok (.getfield 13, 3) := by decide +kernel
theorem dX5_ofPage_25 : decode cX5_ofPage 25 = .ok (.iload_n 1, 1) := by decide +kernel
theorem dX5_ofPage_26 : decode cX5_ofPage 26 = .ok (.baload, 1) := by decide +kernel
theorem dX5_ofPage_27 : decode cX5_ofPage 27 = .ok (.ifCond .ne 5, 3) := by decide +kernel
theorem dX5_ofPage_30 : decode cX5_ofPage 30 = .ok (.iconst (-1), 1) := by decide +kernel
theorem dX5_ofPage_31 : decode cX5_ofPage 31 = .ok (.ireturn, 1) := by decide +kernel
theorem dX5_ofPage_32 : decode cX5_ofPage 32 = .ok (.aload_n 0, 1) := by decide +kernel
theorem dX5_ofPage_33 : decode cX5_ofPage 33 = .ok (.getfield 17, 3) := by decide +kernel
theorem dX5_ofPage_36 : decode cX5_ofPage 36 = .ok (.iload_n 1, 1) := by decide +kernel
theorem dX5_ofPage_37 : decode cX5_ofPage 37 = .ok (.iaload, 1) := by decide +kernel
theorem dX5_ofPage_38 : decode cX5_ofPage 38 = .ok (.istore_n 2, 1) := by decide +kernel
theorem dX5_ofPage_39 : decode cX5_ofPage 39 = .ok (.aload_n 0, 1) := by decide +kernel
theorem dX5_ofPage_40 : decode cX5_ofPage 40 = .ok (.getfield 23, 3) := by decide +kernel
theorem dX5_ofPage_43 : decode cX5_ofPage 43 = .ok (.iload_n 2, 1) := by decide +kernel
theorem dX5_ofPage_44 : decode cX5_ofPage 44 = .ok (.baload, 1) := by decide +kernel
theorem dX5_ofPage_45 : decode cX5_ofPage 45 = .ok (.ifCond .ne 7, 3) := by decide +kernel
theorem dX5_ofPage_48 : decode cX5_ofPage 48 = .ok (.iconst 0, 1) := by decide +kernel
theorem dX5_ofPage_49 : decode cX5_ofPage 49 = .ok (.goto 24, 3) := by decide +kernel
theorem dX5_ofPage_52 : decode cX5_ofPage 52 = .ok (.aload_n 0, 1) := by decide +kernel
theorem dX5_ofPage_53 : decode cX5_ofPage 53 = .ok (.getfield 26, 3) := by decide +kernel
theorem dX5_ofPage_56 : decode cX5_ofPage 56 = .ok (.iload_n 2, 1) := by decide +kernel
theorem dX5_ofPage_57 : decode cX5_ofPage 57 = .ok (.iaload, 1) := by decide +kernel
theorem dX5_ofPage_58 : decode cX5_ofPage 58 = .ok (.ifCond .ge 7, 3) := by decide +kernel
theorem dX5_ofPage_61 : decode cX5_ofPage 61 = .ok (.iconst 1, 1) := by decide +kernel
theorem dX5_ofPage_62 : decode cX5_ofPage 62 = .ok (.goto 11, 3) := by decide +kernel
theorem dX5_ofPage_65 : decode cX5_ofPage 65 = .ok (.iconst 2, 1) := by decide +kernel
theorem dX5_ofPage_66 : decode cX5_ofPage 66 = .ok (.aload_n 0, 1) := by decide +kernel
theorem dX5_ofPage_67 : decode cX5_ofPage 67 = .ok (.getfield 26, 3) := by decide +kernel
theorem dX5_ofPage_70 : decode cX5_ofPage 70 = .ok (.iload_n 2, 1) := by decide +kernel
theorem dX5_ofPage_71 : decode cX5_ofPage 71 = .ok (.iaload, 1) := by decide +kernel
theorem dX5_ofPage_72 : decode cX5_ofPage 72 = .ok (.iadd, 1) := by decide +kernel
theorem dX5_ofPage_73 : decode cX5_ofPage 73 = .ok (.ireturn, 1) := by decide +kernel
theorem dX5_block_0 : decode cX5_block 0 = .ok (.aload_n 0, 1) := by decide +kernel
theorem dX5_block_1 : decode cX5_block 1 = .ok (.getfield 58, 3) := by decide +kernel
theorem dX5_block_4 : decode cX5_block 4 = .ok (.ifCond .eq 32, 3) := by decide +kernel
theorem dX5_block_7 : decode cX5_block 7 = .ok (.iload_n 1, 1) := by decide +kernel
theorem dX5_block_8 : decode cX5_block 8 = .ok (.iconst 0, 1) := by decide +kernel
theorem dX5_block_9 : decode cX5_block 9 = .ok (.sipush 255, 3) := by decide +kernel
theorem dX5_block_12 : decode cX5_block 12 = .ok (.invokestatic 62, 3) := by decide +kernel
theorem dX5_block_15 : decode cX5_block 15 = .ok (.ifCond .eq 21, 3) := by decide +kernel
theorem dX5_block_18 : decode cX5_block 18 = .ok (.aload_n 0, 1) := by decide +kernel
theorem dX5_block_19 : decode cX5_block 19 = .ok (.getfield 13, 3) := by decide +kernel
theorem dX5_block_22 : decode cX5_block 22 = .ok (.iload_n 1, 1) := by decide +kernel
theorem dX5_block_23 : decode cX5_block 23 = .ok (.baload, 1) := by decide +kernel
theorem dX5_block_24 : decode cX5_block 24 = .ok (.ifCond .eq 12, 3) := by decide +kernel
theorem dX5_block_27 : decode cX5_block 27 = .ok (.aload_n 0, 1) := by decide +kernel
theorem dX5_block_28 : decode cX5_block 28 = .ok (.getfield 17, 3) := by decide +kernel
theorem dX5_block_31 : decode cX5_block 31 = .ok (.iload_n 1, 1) := by decide +kernel
theorem dX5_block_32 : decode cX5_block 32 = .ok (.iaload, 1) := by decide +kernel
theorem dX5_block_33 : decode cX5_block 33 = .ok (.goto 4, 3) := by decide +kernel
theorem dX5_block_36 : decode cX5_block 36 = .ok (.iconst (-1), 1) := by decide +kernel
theorem dX5_block_37 : decode cX5_block 37 = .ok (.ireturn, 1) := by decide +kernel
theorem dX5_order_0 : decode cX5_order 0 = .ok (.aload_n 0, 1) := by decide +kernel
theorem dX5_order_1 : decode cX5_order 1 = .ok (.iload_n 1, 1) := by decide +kernel
theorem dX5_order_2 : decode cX5_order 2 = .ok (.invokevirtual 158, 3) := by decide +kernel
theorem dX5_order_5 : decode cX5_order 5 = .ok (.istore_n 2, 1) := by decide +kernel
theorem dX5_order_6 : decode cX5_order 6 = .ok (.iload_n 2, 1) := by decide +kernel
theorem dX5_order_7 : decode cX5_order 7 = .ok (.ifCond .ge 7, 3) := by decide +kernel
theorem dX5_order_10 : decode cX5_order 10 = .ok (.iconst (-1), 1) := by decide +kernel
theorem dX5_order_11 : decode cX5_order 11 = .ok (.goto 9, 3) := by decide +kernel
theorem dX5_order_14 : decode cX5_order 14 = .ok (.aload_n 0, 1) := by decide +kernel
theorem dX5_order_15 : decode cX5_order 15 = .ok (.getfield 20, 3) := by decide +kernel
theorem dX5_order_18 : decode cX5_order 18 = .ok (.iload_n 2, 1) := by decide +kernel
theorem dX5_order_19 : decode cX5_order 19 = .ok (.iaload, 1) := by decide +kernel
theorem dX5_order_20 : decode cX5_order 20 = .ok (.ireturn, 1) := by decide +kernel
theorem dX5_freeBlocks_0 : decode cX5_freeBlocks 0 = .ok (.iload_n 1, 1) := by decide +kernel
theorem dX5_freeBlocks_1 : decode cX5_freeBlocks 1 = .ok (.iconst 0, 1) := by decide +kernel
theorem dX5_freeBlocks_2 : decode cX5_freeBlocks 2 = .ok (.bipush 6, 2) := by decide +kernel
theorem dX5_freeBlocks_4 : decode cX5_freeBlocks 4 = .ok (.invokestatic 62, 3) := by decide +kernel
theorem dX5_freeBlocks_7 : decode cX5_freeBlocks 7 = .ok (.ifCond .ne 5, 3) := by decide +kernel
theorem dX5_freeBlocks_10 : decode cX5_freeBlocks 10 = .ok (.iconst (-1), 1) := by decide +kernel
theorem dX5_freeBlocks_11 : decode cX5_freeBlocks 11 = .ok (.ireturn, 1) := by decide +kernel
theorem dX5_freeBlocks_12 : decode cX5_freeBlocks 12 = .ok (.iconst 0, 1) := by decide +kernel
theorem dX5_freeBlocks_13 : decode cX5_freeBlocks 13 = .ok (.istore_n 2, 1) := by decide +kernel
theorem dX5_freeBlocks_14 : decode cX5_freeBlocks 14 = .ok (.iconst 0, 1) := by decide +kernel
theorem dX5_freeBlocks_15 : decode cX5_freeBlocks 15 = .ok (.istore_n 3, 1) := by decide +kernel
theorem dX5_freeBlocks_16 : decode cX5_freeBlocks 16 = .ok (.iload_n 3, 1) := by decide +kernel
theorem dX5_freeBlocks_17 : decode cX5_freeBlocks 17 = .ok (.sipush 256, 3) := by decide +kernel
theorem dX5_freeBlocks_20 : decode cX5_freeBlocks 20 = .ok (.if_icmp .ge 35, 3) := by decide +kernel
theorem dX5_freeBlocks_23 : decode cX5_freeBlocks 23 = .ok (.aload_n 0, 1) := by decide +kernel
theorem dX5_freeBlocks_24 : decode cX5_freeBlocks 24 = .ok (.iload_n 3, 1) := by decide +kernel
theorem dX5_freeBlocks_25 : decode cX5_freeBlocks 25 = .ok (.invokevirtual 82, 3) := by decide +kernel
theorem dX5_freeBlocks_28 : decode cX5_freeBlocks 28 = .ok (.ifCond .eq 19, 3) := by decide +kernel
theorem dX5_freeBlocks_31 : decode cX5_freeBlocks 31 = .ok (.aload_n 0, 1) := by decide +kernel
theorem dX5_freeBlocks_32 : decode cX5_freeBlocks 32 = .ok (.getfield 20, 3) := by decide +kernel
theorem dX5_freeBlocks_35 : decode cX5_freeBlocks 35 = .ok (.iload_n 3, 1) := by decide +kernel
theorem dX5_freeBlocks_36 : decode cX5_freeBlocks 36 = .ok (.iaload, 1) := by decide +kernel
theorem dX5_freeBlocks_37 : decode cX5_freeBlocks 37 = .ok (.iload_n 1, 1) := by decide +kernel
theorem dX5_freeBlocks_38 : decode cX5_freeBlocks 38 = .ok (.if_icmp .ne 9, 3) := by decide +kernel
theorem dX5_freeBlocks_41 : decode cX5_freeBlocks 41 = .ok (.iload_n 2, 1) := by decide +kernel
theorem dX5_freeBlocks_42 : decode cX5_freeBlocks 42 = .ok (.iconst 1, 1) := by decide +kernel
theorem dX5_freeBlocks_43 : decode cX5_freeBlocks 43 = .ok (.iadd, 1) := by decide +kernel
theorem dX5_freeBlocks_44 : decode cX5_freeBlocks 44 = .ok (.goto 4, 3) := by decide +kernel
theorem dX5_freeBlocks_47 : decode cX5_freeBlocks 47 = .ok (.iload_n 2, 1) := by decide +kernel
theorem dX5_freeBlocks_48 : decode cX5_freeBlocks 48 = .ok (.istore_n 2, 1) := by decide +kernel
theorem dX5_freeBlocks_49 : decode cX5_freeBlocks 49 = .ok (.iinc 3 1, 3) := by decide +kernel
theorem dX5_freeBlocks_52 : decode cX5_freeBlocks 52 = .ok (.goto (-36), 3) := by decide +kernel
theorem dX5_freeBlocks_55 : decode cX5_freeBlocks 55 = .ok (.iload_n 2, 1) := by decide +kernel
theorem dX5_freeBlocks_56 : decode cX5_freeBlocks 56 = .ok (.ireturn, 1) := by decide +kernel
theorem dX5_slabsOf_0 : decode cX5_slabsOf 0 = .ok (.iconst 0, 1) := by decide +kernel
theorem dX5_slabsOf_1 : decode cX5_slabsOf 1 = .ok (.istore_n 2, 1) := by decide +kernel
theorem dX5_slabsOf_2 : decode cX5_slabsOf 2 = .ok (.iconst 0, 1) := by decide +kernel
theorem dX5_slabsOf_3 : decode cX5_slabsOf 3 = .ok (.istore_n 3, 1) := by decide +kernel
theorem dX5_slabsOf_4 : decode cX5_slabsOf 4 = .ok (.iload_n 3, 1) := by decide +kernel
theorem dX5_slabsOf_5 : decode cX5_slabsOf 5 = .ok (.sipush 256, 3) := by decide +kernel
theorem dX5_slabsOf_8 : decode cX5_slabsOf 8 = .ok (.if_icmp .ge 26, 3) := by decide +kernel
theorem dX5_slabsOf_11 : decode cX5_slabsOf 11 = .ok (.aload_n 0, 1) := by decide +kernel
theorem dX5_slabsOf_12 : decode cX5_slabsOf 12 = .ok (.iload_n 3, 1) := by decide +kernel
theorem dX5_slabsOf_13 : decode cX5_slabsOf 13 = .ok (.iload_n 1, 1) := by decide +kernel
theorem dX5_slabsOf_14 : decode cX5_slabsOf 14 = .ok (.invokevirtual 119, 3) := by decide +kernel
theorem dX5_slabsOf_17 : decode cX5_slabsOf 17 = .ok (.ifCond .eq 9, 3) := by decide +kernel
theorem dX5_slabsOf_20 : decode cX5_slabsOf 20 = .ok (.iload_n 2, 1) := by decide +kernel
theorem dX5_slabsOf_21 : decode cX5_slabsOf 21 = .ok (.iconst 1, 1) := by decide +kernel
theorem dX5_slabsOf_22 : decode cX5_slabsOf 22 = .ok (.iadd, 1) := by decide +kernel
theorem dX5_slabsOf_23 : decode cX5_slabsOf 23 = .ok (.goto 4, 3) := by decide +kernel
theorem dX5_slabsOf_26 : decode cX5_slabsOf 26 = .ok (.iload_n 2, 1) := by decide +kernel
theorem dX5_slabsOf_27 : decode cX5_slabsOf 27 = .ok (.istore_n 2, 1) := by decide +kernel
theorem dX5_slabsOf_28 : decode cX5_slabsOf 28 = .ok (.iinc 3 1, 3) := by decide +kernel
theorem dX5_slabsOf_31 : decode cX5_slabsOf 31 = .ok (.goto (-27), 3) := by decide +kernel
theorem dX5_slabsOf_34 : decode cX5_slabsOf 34 = .ok (.iload_n 2, 1) := by decide +kernel
theorem dX5_slabsOf_35 : decode cX5_slabsOf 35 = .ok (.ireturn, 1) := by decide +kernel
theorem dX5_liveIn_0 : decode cX5_liveIn 0 = .ok (.iconst 0, 1) := by decide +kernel
theorem dX5_liveIn_1 : decode cX5_liveIn 1 = .ok (.istore_n 2, 1) := by decide +kernel
theorem dX5_liveIn_2 : decode cX5_liveIn 2 = .ok (.iconst 0, 1) := by decide +kernel
theorem dX5_liveIn_3 : decode cX5_liveIn 3 = .ok (.istore_n 3, 1) := by decide +kernel
theorem dX5_liveIn_4 : decode cX5_liveIn 4 = .ok (.iload_n 3, 1) := by decide +kernel
theorem dX5_liveIn_5 : decode cX5_liveIn 5 = .ok (.sipush 256, 3) := by decide +kernel
theorem dX5_liveIn_8 : decode cX5_liveIn 8 = .ok (.if_icmp .ge 30, 3) := by decide +kernel
theorem dX5_liveIn_11 : decode cX5_liveIn 11 = .ok (.aload_n 0, 1) := by decide +kernel
theorem dX5_liveIn_12 : decode cX5_liveIn 12 = .ok (.iload_n 3, 1) := by decide +kernel
theorem dX5_liveIn_13 : decode cX5_liveIn 13 = .ok (.iload_n 1, 1) := by decide +kernel
theorem dX5_liveIn_14 : decode cX5_liveIn 14 = .ok (.invokevirtual 119, 3) := by decide +kernel
theorem dX5_liveIn_17 : decode cX5_liveIn 17 = .ok (.ifCond .eq 13, 3) := by decide +kernel
theorem dX5_liveIn_20 : decode cX5_liveIn 20 = .ok (.iload_n 2, 1) := by decide +kernel
theorem dX5_liveIn_21 : decode cX5_liveIn 21 = .ok (.aload_n 0, 1) := by decide +kernel
theorem dX5_liveIn_22 : decode cX5_liveIn 22 = .ok (.iload_n 3, 1) := by decide +kernel
theorem dX5_liveIn_23 : decode cX5_liveIn 23 = .ok (.invokevirtual 122, 3) := by decide +kernel
theorem dX5_liveIn_26 : decode cX5_liveIn 26 = .ok (.iadd, 1) := by decide +kernel
theorem dX5_liveIn_27 : decode cX5_liveIn 27 = .ok (.goto 4, 3) := by decide +kernel
theorem dX5_liveIn_30 : decode cX5_liveIn 30 = .ok (.iload_n 2, 1) := by decide +kernel
theorem dX5_liveIn_31 : decode cX5_liveIn 31 = .ok (.istore_n 2, 1) := by decide +kernel
theorem dX5_liveIn_32 : decode cX5_liveIn 32 = .ok (.iinc 3 1, 3) := by decide +kernel
theorem dX5_liveIn_35 : decode cX5_liveIn 35 = .ok (.goto (-31), 3) := by decide +kernel
theorem dX5_liveIn_38 : decode cX5_liveIn 38 = .ok (.iload_n 2, 1) := by decide +kernel
theorem dX5_liveIn_39 : decode cX5_liveIn 39 = .ok (.ireturn, 1) := by decide +kernel
theorem dX5_ofCache_0 : decode cX5_ofCache 0 = .ok (.aload_n 0, 1) := by decide +kernel
theorem dX5_ofCache_1 : decode cX5_ofCache 1 = .ok (.iload_n 1, 1) := by decide +kernel
theorem dX5_ofCache_2 : decode cX5_ofCache 2 = .ok (.invokevirtual 116, 3) := by decide +kernel
theorem dX5_ofCache_5 : decode cX5_ofCache 5 = .ok (.ifCond .ne 5, 3) := by decide +kernel
theorem dX5_ofCache_8 : decode cX5_ofCache 8 = .ok (.iconst (-1), 1) := by decide +kernel
theorem dX5_ofCache_9 : decode cX5_ofCache 9 = .ok (.ireturn, 1) := by decide +kernel
theorem dX5_ofCache_10 : decode cX5_ofCache 10 = .ok (.iload_n 2, 1) := by decide +kernel
theorem dX5_ofCache_11 : decode cX5_ofCache 11 = .ok (.tableswitch 98 0 7 #[45, 52, 59, 66, 73, 79, 85, 91], 45) := by decide +kernel
theorem dX5_ofCache_56 : decode cX5_ofCache 56 = .ok (.aload_n 0, 1) := by decide +kernel
theorem dX5_ofCache_57 : decode cX5_ofCache 57 = .ok (.getfield 35, 3) := by decide +kernel
theorem dX5_ofCache_60 : decode cX5_ofCache 60 = .ok (.iload_n 1, 1) := by decide +kernel
theorem dX5_ofCache_61 : decode cX5_ofCache 61 = .ok (.iaload, 1) := by decide +kernel
theorem dX5_ofCache_62 : decode cX5_ofCache 62 = .ok (.ireturn, 1) := by decide +kernel
theorem dX5_ofCache_63 : decode cX5_ofCache 63 = .ok (.aload_n 0, 1) := by decide +kernel
theorem dX5_ofCache_64 : decode cX5_ofCache 64 = .ok (.getfield 38, 3) := by decide +kernel
theorem dX5_ofCache_67 : decode cX5_ofCache 67 = .ok (.iload_n 1, 1) := by decide +kernel
theorem dX5_ofCache_68 : decode cX5_ofCache 68 = .ok (.iaload, 1) := by decide +kernel
theorem dX5_ofCache_69 : decode cX5_ofCache 69 = .ok (.ireturn, 1) := by decide +kernel
theorem dX5_ofCache_70 : decode cX5_ofCache 70 = .ok (.aload_n 0, 1) := by decide +kernel
theorem dX5_ofCache_71 : decode cX5_ofCache 71 = .ok (.getfield 41, 3) := by decide +kernel
theorem dX5_ofCache_74 : decode cX5_ofCache 74 = .ok (.iload_n 1, 1) := by decide +kernel
theorem dX5_ofCache_75 : decode cX5_ofCache 75 = .ok (.iaload, 1) := by decide +kernel
theorem dX5_ofCache_76 : decode cX5_ofCache 76 = .ok (.ireturn, 1) := by decide +kernel
theorem dX5_ofCache_77 : decode cX5_ofCache 77 = .ok (.aload_n 0, 1) := by decide +kernel
theorem dX5_ofCache_78 : decode cX5_ofCache 78 = .ok (.getfield 44, 3) := by decide +kernel
theorem dX5_ofCache_81 : decode cX5_ofCache 81 = .ok (.iload_n 1, 1) := by decide +kernel
theorem dX5_ofCache_82 : decode cX5_ofCache 82 = .ok (.iaload, 1) := by decide +kernel
theorem dX5_ofCache_83 : decode cX5_ofCache 83 = .ok (.ireturn, 1) := by decide +kernel
theorem dX5_ofCache_84 : decode cX5_ofCache 84 = .ok (.aload_n 0, 1) := by decide +kernel
theorem dX5_ofCache_85 : decode cX5_ofCache 85 = .ok (.iload_n 1, 1) := by decide +kernel
theorem dX5_ofCache_86 : decode cX5_ofCache 86 = .ok (.invokevirtual 113, 3) := by decide +kernel
theorem dX5_ofCache_89 : decode cX5_ofCache 89 = .ok (.ireturn, 1) := by decide +kernel
theorem dX5_ofCache_90 : decode cX5_ofCache 90 = .ok (.aload_n 0, 1) := by decide +kernel
theorem dX5_ofCache_91 : decode cX5_ofCache 91 = .ok (.iload_n 1, 1) := by decide +kernel
theorem dX5_ofCache_92 : decode cX5_ofCache 92 = .ok (.invokevirtual 161, 3) := by decide +kernel
theorem dX5_ofCache_95 : decode cX5_ofCache 95 = .ok (.ireturn, 1) := by decide +kernel
theorem dX5_ofCache_96 : decode cX5_ofCache 96 = .ok (.aload_n 0, 1) := by decide +kernel
theorem dX5_ofCache_97 : decode cX5_ofCache 97 = .ok (.iload_n 1, 1) := by decide +kernel
theorem dX5_ofCache_98 : decode cX5_ofCache 98 = .ok (.invokevirtual 164, 3) := by decide +kernel
theorem dX5_ofCache_101 : decode cX5_ofCache 101 = .ok (.ireturn, 1) := by decide +kernel
theorem dX5_ofCache_102 : decode cX5_ofCache 102 = .ok (.aload_n 0, 1) := by decide +kernel
theorem dX5_ofCache_103 : decode cX5_ofCache 103 = .ok (.getfield 47, 3) := by decide +kernel
theorem dX5_ofCache_106 : decode cX5_ofCache 106 = .ok (.iload_n 1, 1) := by decide +kernel
theorem dX5_ofCache_107 : decode cX5_ofCache 107 = .ok (.iaload, 1) := by decide +kernel
theorem dX5_ofCache_108 : decode cX5_ofCache 108 = .ok (.ireturn, 1) := by decide +kernel
theorem dX5_ofCache_109 : decode cX5_ofCache 109 = .ok (.iconst (-1), 1) := by decide +kernel
theorem dX5_ofCache_110 : decode cX5_ofCache 110 = .ok (.ireturn, 1) := by decide +kernel
theorem dX5_count_0 : decode cX5_count 0 = .ok (.iconst 0, 1) := by decide +kernel
theorem dX5_count_1 : decode cX5_count 1 = .ok (.istore_n 2, 1) := by decide +kernel
theorem dX5_count_2 : decode cX5_count 2 = .ok (.iconst 0, 1) := by decide +kernel
theorem dX5_count_3 : decode cX5_count 3 = .ok (.istore_n 3, 1) := by decide +kernel
theorem dX5_count_4 : decode cX5_count 4 = .ok (.iload_n 3, 1) := by decide +kernel
theorem dX5_count_5 : decode cX5_count 5 = .ok (.aload_n 0, 1) := by decide +kernel
theorem dX5_count_6 : decode cX5_count 6 = .ok (.getfield 110, 3) := by decide +kernel
theorem dX5_count_9 : decode cX5_count 9 = .ok (.if_icmp .ge 17, 3) := by decide +kernel
theorem dX5_count_12 : decode cX5_count 12 = .ok (.iload_n 2, 1) := by decide +kernel
theorem dX5_count_13 : decode cX5_count 13 = .ok (.aload_n 0, 1) := by decide +kernel
theorem dX5_count_14 : decode cX5_count 14 = .ok (.iload_n 3, 1) := by decide +kernel
theorem dX5_count_15 : decode cX5_count 15 = .ok (.invokevirtual 164, 3) := by decide +kernel
theorem dX5_count_18 : decode cX5_count 18 = .ok (.iadd, 1) := by decide +kernel
theorem dX5_count_19 : decode cX5_count 19 = .ok (.istore_n 2, 1) := by decide +kernel
theorem dX5_count_20 : decode cX5_count 20 = .ok (.iinc 3 1, 3) := by decide +kernel
theorem dX5_count_23 : decode cX5_count 23 = .ok (.goto (-19), 3) := by decide +kernel
theorem dX5_count_26 : decode cX5_count 26 = .ok (.iload_n 1, 1) := by decide +kernel
theorem dX5_count_27 : decode cX5_count 27 = .ok (.tableswitch 91 0 8 #[49, 54, 59, 64, 69, 74, 76, 81, 86], 49) := by decide +kernel
theorem dX5_count_76 : decode cX5_count 76 = .ok (.aload_n 0, 1) := by decide +kernel
theorem dX5_count_77 : decode cX5_count 77 = .ok (.invokevirtual 74, 3) := by decide +kernel
theorem dX5_count_80 : decode cX5_count 80 = .ok (.ireturn, 1) := by decide +kernel
theorem dX5_count_81 : decode cX5_count 81 = .ok (.aload_n 0, 1) := by decide +kernel
theorem dX5_count_82 : decode cX5_count 82 = .ok (.invokevirtual 91, 3) := by decide +kernel
theorem dX5_count_85 : decode cX5_count 85 = .ok (.ireturn, 1) := by decide +kernel
theorem dX5_count_86 : decode cX5_count 86 = .ok (.aload_n 0, 1) := by decide +kernel
theorem dX5_count_87 : decode cX5_count 87 = .ok (.getfield 85, 3) := by decide +kernel
theorem dX5_count_90 : decode cX5_count 90 = .ok (.ireturn, 1) := by decide +kernel
theorem dX5_count_91 : decode cX5_count 91 = .ok (.aload_n 0, 1) := by decide +kernel
theorem dX5_count_92 : decode cX5_count 92 = .ok (.getfield 88, 3) := by decide +kernel
theorem dX5_count_95 : decode cX5_count 95 = .ok (.ireturn, 1) := by decide +kernel
theorem dX5_count_96 : decode cX5_count 96 = .ok (.aload_n 0, 1) := by decide +kernel
theorem dX5_count_97 : decode cX5_count 97 = .ok (.getfield 97, 3) := by decide +kernel
theorem dX5_count_100 : decode cX5_count 100 = .ok (.ireturn, 1) := by decide +kernel
theorem dX5_count_101 : decode cX5_count 101 = .ok (.iload_n 2, 1) := by decide +kernel
theorem dX5_count_102 : decode cX5_count 102 = .ok (.ireturn, 1) := by decide +kernel
theorem dX5_count_103 : decode cX5_count 103 = .ok (.aload_n 0, 1) := by decide +kernel
theorem dX5_count_104 : decode cX5_count 104 = .ok (.getfield 110, 3) := by decide +kernel
theorem dX5_count_107 : decode cX5_count 107 = .ok (.ireturn, 1) := by decide +kernel
theorem dX5_count_108 : decode cX5_count 108 = .ok (.aload_n 0, 1) := by decide +kernel
theorem dX5_count_109 : decode cX5_count 109 = .ok (.getfield 94, 3) := by decide +kernel
theorem dX5_count_112 : decode cX5_count 112 = .ok (.ireturn, 1) := by decide +kernel
theorem dX5_count_113 : decode cX5_count 113 = .ok (.aload_n 0, 1) := by decide +kernel
theorem dX5_count_114 : decode cX5_count 114 = .ok (.getfield 50, 3) := by decide +kernel
theorem dX5_count_117 : decode cX5_count 117 = .ok (.ireturn, 1) := by decide +kernel
theorem dX5_count_118 : decode cX5_count 118 = .ok (.iconst (-1), 1) := by decide +kernel
theorem dX5_count_119 : decode cX5_count 119 = .ok (.ireturn, 1) := by decide +kernel
end
section
theorem dL_law_0 : decode cL_law 0 = .ok (.new 7, 3) := by decide +kernel
theorem dL_law_3 : decode cL_law 3 = .ok (.dup, 1) := by decide +kernel
theorem dL_law_4 : decode cL_law 4 = .ok (.invokespecial 9, 3) := by decide +kernel
theorem dL_law_7 : decode cL_law 7 = .ok (.astore_n 1, 1) := by decide +kernel
theorem dL_law_8 : decode cL_law 8 = .ok (.new 10, 3) := by decide +kernel
theorem dL_law_11 : decode cL_law 11 = .ok (.dup, 1) := by decide +kernel
theorem dL_law_12 : decode cL_law 12 = .ok (.invokespecial 12, 3) := by decide +kernel
theorem dL_law_15 : decode cL_law 15 = .ok (.astore_n 2, 1) := by decide +kernel
theorem dL_law_16 : decode cL_law 16 = .ok (.iconst 0, 1) := by decide +kernel
theorem dL_law_17 : decode cL_law 17 = .ok (.istore_n 3, 1) := by decide +kernel
theorem dL_law_18 : decode cL_law 18 = .ok (.iload_n 3, 1) := by decide +kernel
theorem dL_law_19 : decode cL_law 19 = .ok (.aload_n 0, 1) := by decide +kernel
theorem dL_law_20 : decode cL_law 20 = .ok (.arraylength, 1) := by decide +kernel
theorem dL_law_21 : decode cL_law 21 = .ok (.iconst 3, 1) := by decide +kernel
theorem dL_law_22 : decode cL_law 22 = .ok (.isub, 1) := by decide +kernel
theorem dL_law_23 : decode cL_law 23 = .ok (.if_icmp .gt 648, 3) := by decide +kernel
theorem dL_law_26 : decode cL_law 26 = .ok (.aload_n 0, 1) := by decide +kernel
theorem dL_law_27 : decode cL_law 27 = .ok (.iload_n 3, 1) := by decide +kernel
theorem dL_law_28 : decode cL_law 28 = .ok (.iaload, 1) := by decide +kernel
theorem dL_law_29 : decode cL_law 29 = .ok (.bipush 31, 2) := by decide +kernel
theorem dL_law_31 : decode cL_law 31 = .ok (.iand, 1) := by decide +kernel
theorem dL_law_32 : decode cL_law 32 = .ok (.tableswitch 633 0 20 #[100, 133, 146, 169, 192, 225, 248, 281, 304, 327, 350, 383, 406, 429, 462, 485, 508, 531, 554, 577, 610], 100) := by decide +kernel
theorem dL_law_132 : decode cL_law 132 = .ok (.aload_n 1, 1) := by decide +kernel
theorem dL_law_133 : decode cL_law 133 = .ok (.aload_n 0, 1) := by decide +kernel
theorem dL_law_134 : decode cL_law 134 = .ok (.iload_n 3, 1) := by decide +kernel
theorem dL_law_135 : decode cL_law 135 = .ok (.iconst 1, 1) := by decide +kernel
theorem dL_law_136 : decode cL_law 136 = .ok (.iadd, 1) := by decide +kernel
theorem dL_law_137 : decode cL_law 137 = .ok (.iaload, 1) := by decide +kernel
theorem dL_law_138 : decode cL_law 138 = .ok (.aload_n 0, 1) := by decide +kernel
theorem dL_law_139 : decode cL_law 139 = .ok (.iload_n 3, 1) := by decide +kernel
theorem dL_law_140 : decode cL_law 140 = .ok (.iconst 2, 1) := by decide +kernel
theorem dL_law_141 : decode cL_law 141 = .ok (.iadd, 1) := by decide +kernel
theorem dL_law_142 : decode cL_law 142 = .ok (.iaload, 1) := by decide +kernel
theorem dL_law_143 : decode cL_law 143 = .ok (.invokevirtual 13, 3) := by decide +kernel
theorem dL_law_146 : decode cL_law 146 = .ok (.aload_n 2, 1) := by decide +kernel
theorem dL_law_147 : decode cL_law 147 = .ok (.aload_n 0, 1) := by decide +kernel
theorem dL_law_148 : decode cL_law 148 = .ok (.iload_n 3, 1) := by decide +kernel
theorem dL_law_149 : decode cL_law 149 = .ok (.iconst 1, 1) := by decide +kernel
theorem dL_law_150 : decode cL_law 150 = .ok (.iadd, 1) := by decide +kernel
theorem dL_law_151 : decode cL_law 151 = .ok (.iaload, 1) := by decide +kernel
theorem dL_law_152 : decode cL_law 152 = .ok (.aload_n 0, 1) := by decide +kernel
theorem dL_law_153 : decode cL_law 153 = .ok (.iload_n 3, 1) := by decide +kernel
theorem dL_law_154 : decode cL_law 154 = .ok (.iconst 2, 1) := by decide +kernel
theorem dL_law_155 : decode cL_law 155 = .ok (.iadd, 1) := by decide +kernel
theorem dL_law_156 : decode cL_law 156 = .ok (.iaload, 1) := by decide +kernel
theorem dL_law_157 : decode cL_law 157 = .ok (.invokevirtual 17, 3) := by decide +kernel
theorem dL_law_160 : decode cL_law 160 = .ok (.if_icmp .eq 505, 3) := by decide +kernel
theorem dL_law_163 : decode cL_law 163 = .ok (.iconst 0, 1) := by decide +kernel
theorem dL_law_164 : decode cL_law 164 = .ok (.ireturn, 1) := by decide +kernel
theorem dL_law_165 : decode cL_law 165 = .ok (.aload_n 1, 1) := by decide +kernel
theorem dL_law_166 : decode cL_law 166 = .ok (.invokevirtual 18, 3) := by decide +kernel
theorem dL_law_169 : decode cL_law 169 = .ok (.aload_n 2, 1) := by decide +kernel
theorem dL_law_170 : decode cL_law 170 = .ok (.invokevirtual 22, 3) := by decide +kernel
theorem dL_law_173 : decode cL_law 173 = .ok (.if_icmp .eq 492, 3) := by decide +kernel
theorem dL_law_176 : decode cL_law 176 = .ok (.iconst 0, 1) := by decide +kernel
theorem dL_law_177 : decode cL_law 177 = .ok (.ireturn, 1) := by decide +kernel
theorem dL_law_178 : decode cL_law 178 = .ok (.aload_n 1, 1) := by decide +kernel
theorem dL_law_179 : decode cL_law 179 = .ok (.aload_n 0, 1) := by decide +kernel
theorem dL_law_180 : decode cL_law 180 = .ok (.iload_n 3, 1) := by decide +kernel
theorem dL_law_181 : decode cL_law 181 = .ok (.iconst 1, 1) := by decide +kernel
theorem dL_law_182 : decode cL_law 182 = .ok (.iadd, 1) := by decide +kernel
theorem dL_law_183 : decode cL_law 183 = .ok (.iaload, 1) := by decide +kernel
theorem dL_law_184 : decode cL_law 184 = .ok (.invokevirtual 23, 3) := by decide +kernel
theorem dL_law_187 : decode cL_law 187 = .ok (.aload_n 2, 1) := by decide +kernel
theorem dL_law_188 : decode cL_law 188 = .ok (.aload_n 0, 1) := by decide +kernel
theorem dL_law_189 : decode cL_law 189 = .ok (.iload_n 3, 1) := by decide +kernel
theorem dL_law_190 : decode cL_law 190 = .ok (.iconst 1, 1) := by decide +kernel
theorem dL_law_191 : decode cL_law 191 = .ok (.iadd, 1) := by decide +kernel
theorem dL_law_192 : decode cL_law 192 = .ok (.iaload, 1) := by decide +kernel
theorem dL_law_193 : decode cL_law 193 = .ok (.invokevirtual 27, 3) := by decide +kernel
theorem dL_law_196 : decode cL_law 196 = .ok (.if_icmp .eq 469, 3) := by decide +kernel
theorem dL_law_199 : decode cL_law 199 = .ok (.iconst 0, 1) := by decide +kernel
theorem dL_law_200 : decode cL_law 200 = .ok (.ireturn, 1) := by decide +kernel
theorem dL_law_201 : decode cL_law 201 = .ok (.aload_n 1, 1) := by decide +kernel
theorem dL_law_202 : decode cL_law 202 = .ok (.aload_n 0, 1) := by decide +kernel
theorem dL_law_203 : decode cL_law 203 = .ok (.iload_n 3, 1) := by decide +kernel
theorem dL_law_204 : decode cL_law 204 = .ok (.iconst 1, 1) := by decide +kernel
theorem dL_law_205 : decode cL_law 205 = .ok (.iadd, 1) := by decide +kernel
theorem dL_law_206 : decode cL_law 206 = .ok (.iaload, 1) := by decide +kernel
theorem dL_law_207 : decode cL_law 207 = .ok (.invokevirtual 28, 3) := by decide +kernel
theorem dL_law_210 : decode cL_law 210 = .ok (.aload_n 2, 1) := by decide +kernel
theorem dL_law_211 : decode cL_law 211 = .ok (.aload_n 0, 1) := by decide +kernel
theorem dL_law_212 : decode cL_law 212 = .ok (.iload_n 3, 1) := by decide +kernel
theorem dL_law_213 : decode cL_law 213 = .ok (.iconst 1, 1) := by decide +kernel
theorem dL_law_214 : decode cL_law 214 = .ok (.iadd, 1) := by decide +kernel
theorem dL_law_215 : decode cL_law 215 = .ok (.iaload, 1) := by decide +kernel
theorem dL_law_216 : decode cL_law 216 = .ok (.invokevirtual 31, 3) := by decide +kernel
theorem dL_law_219 : decode cL_law 219 = .ok (.if_icmp .eq 446, 3) := by decide +kernel
theorem dL_law_222 : decode cL_law 222 = .ok (.iconst 0, 1) := by decide +kernel
theorem dL_law_223 : decode cL_law 223 = .ok (.ireturn, 1) := by decide +kernel
theorem dL_law_224 : decode cL_law 224 = .ok (.aload_n 1, 1) := by decide +kernel
theorem dL_law_225 : decode cL_law 225 = .ok (.aload_n 0, 1) := by decide +kernel
theorem dL_law_226 : decode cL_law 226 = .ok (.iload_n 3, 1) := by decide +kernel
theorem dL_law_227 : decode cL_law 227 = .ok (.iconst 1, 1) := by decide +kernel
theorem dL_law_228 : decode cL_law 228 = .ok (.iadd, 1) := by decide +kernel
theorem dL_law_229 : decode cL_law 229 = .ok (.iaload, 1) := by decide +kernel
theorem dL_law_230 : decode cL_law 230 = .ok (.aload_n 0, 1) := by decide +kernel
theorem dL_law_231 : decode cL_law 231 = .ok (.iload_n 3, 1) := by decide +kernel
theorem dL_law_232 : decode cL_law 232 = .ok (.iconst 2, 1) := by decide +kernel
theorem dL_law_233 : decode cL_law 233 = .ok (.iadd, 1) := by decide +kernel
theorem dL_law_234 : decode cL_law 234 = .ok (.iaload, 1) := by decide +kernel
theorem dL_law_235 : decode cL_law 235 = .ok (.invokevirtual 32, 3) := by decide +kernel
theorem dL_law_238 : decode cL_law 238 = .ok (.aload_n 2, 1) := by decide +kernel
theorem dL_law_239 : decode cL_law 239 = .ok (.aload_n 0, 1) := by decide +kernel
theorem dL_law_240 : decode cL_law 240 = .ok (.iload_n 3, 1) := by decide +kernel
theorem dL_law_241 : decode cL_law 241 = .ok (.iconst 1, 1) := by decide +kernel
theorem dL_law_242 : decode cL_law 242 = .ok (.iadd, 1) := by decide +kernel
theorem dL_law_243 : decode cL_law 243 = .ok (.iaload, 1) := by decide +kernel
theorem dL_law_244 : decode cL_law 244 = .ok (.aload_n 0, 1) := by decide +kernel
theorem dL_law_245 : decode cL_law 245 = .ok (.iload_n 3, 1) := by decide +kernel
theorem dL_law_246 : decode cL_law 246 = .ok (.iconst 2, 1) := by decide +kernel
theorem dL_law_247 : decode cL_law 247 = .ok (.iadd, 1) := by decide +kernel
theorem dL_law_248 : decode cL_law 248 = .ok (.iaload, 1) := by decide +kernel
theorem dL_law_249 : decode cL_law 249 = .ok (.invokevirtual 36, 3) := by decide +kernel
theorem dL_law_252 : decode cL_law 252 = .ok (.if_icmp .eq 413, 3) := by decide +kernel
theorem dL_law_255 : decode cL_law 255 = .ok (.iconst 0, 1) := by decide +kernel
theorem dL_law_256 : decode cL_law 256 = .ok (.ireturn, 1) := by decide +kernel
theorem dL_law_257 : decode cL_law 257 = .ok (.aload_n 1, 1) := by decide +kernel
theorem dL_law_258 : decode cL_law 258 = .ok (.aload_n 0, 1) := by decide +kernel
theorem dL_law_259 : decode cL_law 259 = .ok (.iload_n 3, 1) := by decide +kernel
theorem dL_law_260 : decode cL_law 260 = .ok (.iconst 1, 1) := by decide +kernel
theorem dL_law_261 : decode cL_law 261 = .ok (.iadd, 1) := by decide +kernel
theorem dL_law_262 : decode cL_law 262 = .ok (.iaload, 1) := by decide +kernel
theorem dL_law_263 : decode cL_law 263 = .ok (.invokevirtual 37, 3) := by decide +kernel
theorem dL_law_266 : decode cL_law 266 = .ok (.aload_n 2, 1) := by decide +kernel
theorem dL_law_267 : decode cL_law 267 = .ok (.aload_n 0, 1) := by decide +kernel
theorem dL_law_268 : decode cL_law 268 = .ok (.iload_n 3, 1) := by decide +kernel
theorem dL_law_269 : decode cL_law 269 = .ok (.iconst 1, 1) := by decide +kernel
theorem dL_law_270 : decode cL_law 270 = .ok (.iadd, 1) := by decide +kernel
theorem dL_law_271 : decode cL_law 271 = .ok (.iaload, 1) := by decide +kernel
theorem dL_law_272 : decode cL_law 272 = .ok (.invokevirtual 40, 3) := by decide +kernel
theorem dL_law_275 : decode cL_law 275 = .ok (.if_icmp .eq 390, 3) := by decide +kernel
theorem dL_law_278 : decode cL_law 278 = .ok (.iconst 0, 1) := by decide +kernel
theorem dL_law_279 : decode cL_law 279 = .ok (.ireturn, 1) := by decide +kernel
theorem dL_law_280 : decode cL_law 280 = .ok (.aload_n 1, 1) := by decide +kernel
theorem dL_law_281 : decode cL_law 281 = .ok (.aload_n 0, 1) := by decide +kernel
theorem dL_law_282 : decode cL_law 282 = .ok (.iload_n 3, 1) := by decide +kernel
theorem dL_law_283 : decode cL_law 283 = .ok (.iconst 1, 1) := by decide +kernel
theorem dL_law_284 : decode cL_law 284 = .ok (.iadd, 1) := by decide +kernel
theorem dL_law_285 : decode cL_law 285 = .ok (.iaload, 1) := by decide +kernel
theorem dL_law_286 : decode cL_law 286 = .ok (.aload_n 0, 1) := by decide +kernel
theorem dL_law_287 : decode cL_law 287 = .ok (.iload_n 3, 1) := by decide +kernel
theorem dL_law_288 : decode cL_law 288 = .ok (.iconst 2, 1) := by decide +kernel
theorem dL_law_289 : decode cL_law 289 = .ok (.iadd, 1) := by decide +kernel
theorem dL_law_290 : decode cL_law 290 = .ok (.iaload, 1) := by decide +kernel
theorem dL_law_291 : decode cL_law 291 = .ok (.invokevirtual 41, 3) := by decide +kernel
theorem dL_law_294 : decode cL_law 294 = .ok (.aload_n 2, 1) := by decide +kernel
theorem dL_law_295 : decode cL_law 295 = .ok (.aload_n 0, 1) := by decide +kernel
theorem dL_law_296 : decode cL_law 296 = .ok (.iload_n 3, 1) := by decide +kernel
theorem dL_law_297 : decode cL_law 297 = .ok (.iconst 1, 1) := by decide +kernel
theorem dL_law_298 : decode cL_law 298 = .ok (.iadd, 1) := by decide +kernel
theorem dL_law_299 : decode cL_law 299 = .ok (.iaload, 1) := by decide +kernel
theorem dL_law_300 : decode cL_law 300 = .ok (.aload_n 0, 1) := by decide +kernel
theorem dL_law_301 : decode cL_law 301 = .ok (.iload_n 3, 1) := by decide +kernel
theorem dL_law_302 : decode cL_law 302 = .ok (.iconst 2, 1) := by decide +kernel
theorem dL_law_303 : decode cL_law 303 = .ok (.iadd, 1) := by decide +kernel
theorem dL_law_304 : decode cL_law 304 = .ok (.iaload, 1) := by decide +kernel
theorem dL_law_305 : decode cL_law 305 = .ok (.invokevirtual 44, 3) := by decide +kernel
theorem dL_law_308 : decode cL_law 308 = .ok (.if_icmp .eq 357, 3) := by decide +kernel
theorem dL_law_311 : decode cL_law 311 = .ok (.iconst 0, 1) := by decide +kernel
theorem dL_law_312 : decode cL_law 312 = .ok (.ireturn, 1) := by decide +kernel
theorem dL_law_313 : decode cL_law 313 = .ok (.aload_n 1, 1) := by decide +kernel
theorem dL_law_314 : decode cL_law 314 = .ok (.aload_n 0, 1) := by decide +kernel
theorem dL_law_315 : decode cL_law 315 = .ok (.iload_n 3, 1) := by decide +kernel
theorem dL_law_316 : decode cL_law 316 = .ok (.iconst 1, 1) := by decide +kernel
theorem dL_law_317 : decode cL_law 317 = .ok (.iadd, 1) := by decide +kernel
theorem dL_law_318 : decode cL_law 318 = .ok (.iaload, 1) := by decide +kernel
theorem dL_law_319 : decode cL_law 319 = .ok (.invokevirtual 45, 3) := by decide +kernel
theorem dL_law_322 : decode cL_law 322 = .ok (.aload_n 2, 1) := by decide +kernel
theorem dL_law_323 : decode cL_law 323 = .ok (.aload_n 0, 1) := by decide +kernel
theorem dL_law_324 : decode cL_law 324 = .ok (.iload_n 3, 1) := by decide +kernel
theorem dL_law_325 : decode cL_law 325 = .ok (.iconst 1, 1) := by decide +kernel
theorem dL_law_326 : decode cL_law 326 = .ok (.iadd, 1) := by decide +kernel
theorem dL_law_327 : decode cL_law 327 = .ok (.iaload, 1) := by decide +kernel
theorem dL_law_328 : decode cL_law 328 = .ok (.invokevirtual 48, 3) := by decide +kernel
theorem dL_law_331 : decode cL_law 331 = .ok (.if_icmp .eq 334, 3) := by decide +kernel
theorem dL_law_334 : decode cL_law 334 = .ok (.iconst 0, 1) := by decide +kernel
theorem dL_law_335 : decode cL_law 335 = .ok (.ireturn, 1) := by decide +kernel
theorem dL_law_336 : decode cL_law 336 = .ok (.aload_n 1, 1) := by decide +kernel
theorem dL_law_337 : decode cL_law 337 = .ok (.aload_n 0, 1) := by decide +kernel
theorem dL_law_338 : decode cL_law 338 = .ok (.iload_n 3, 1) := by decide +kernel
theorem dL_law_339 : decode cL_law 339 = .ok (.iconst 1, 1) := by decide +kernel
theorem dL_law_340 : decode cL_law 340 = .ok (.iadd, 1) := by decide +kernel
theorem dL_law_341 : decode cL_law 341 = .ok (.iaload, 1) := by decide +kernel
theorem dL_law_342 : decode cL_law 342 = .ok (.invokevirtual 49, 3) := by decide +kernel
theorem dL_law_345 : decode cL_law 345 = .ok (.aload_n 2, 1) := by decide +kernel
theorem dL_law_346 : decode cL_law 346 = .ok (.aload_n 0, 1) := by decide +kernel
theorem dL_law_347 : decode cL_law 347 = .ok (.iload_n 3, 1) := by decide +kernel
theorem dL_law_348 : decode cL_law 348 = .ok (.iconst 1, 1) := by decide +kernel
theorem dL_law_349 : decode cL_law 349 = .ok (.iadd, 1) := by decide +kernel
theorem dL_law_350 : decode cL_law 350 = .ok (.iaload, 1) := by decide +kernel
theorem dL_law_351 : decode cL_law 351 = .ok (.invokevirtual 52, 3) := by decide +kernel
theorem dL_law_354 : decode cL_law 354 = .ok (.if_icmp .eq 311, 3) := by decide +kernel
theorem dL_law_357 : decode cL_law 357 = .ok (.iconst 0, 1) := by decide +kernel
theorem dL_law_358 : decode cL_law 358 = .ok (.ireturn, 1) := by decide +kernel
theorem dL_law_359 : decode cL_law 359 = .ok (.aload_n 1, 1) := by decide +kernel
theorem dL_law_360 : decode cL_law 360 = .ok (.aload_n 0, 1) := by decide +kernel
theorem dL_law_361 : decode cL_law 361 = .ok (.iload_n 3, 1) := by decide +kernel
theorem dL_law_362 : decode cL_law 362 = .ok (.iconst 1, 1) := by decide +kernel
theorem dL_law_363 : decode cL_law 363 = .ok (.iadd, 1) := by decide +kernel
theorem dL_law_364 : decode cL_law 364 = .ok (.iaload, 1) := by decide +kernel
theorem dL_law_365 : decode cL_law 365 = .ok (.invokevirtual 53, 3) := by decide +kernel
theorem dL_law_368 : decode cL_law 368 = .ok (.aload_n 2, 1) := by decide +kernel
theorem dL_law_369 : decode cL_law 369 = .ok (.aload_n 0, 1) := by decide +kernel
theorem dL_law_370 : decode cL_law 370 = .ok (.iload_n 3, 1) := by decide +kernel
theorem dL_law_371 : decode cL_law 371 = .ok (.iconst 1, 1) := by decide +kernel
theorem dL_law_372 : decode cL_law 372 = .ok (.iadd, 1) := by decide +kernel
theorem dL_law_373 : decode cL_law 373 = .ok (.iaload, 1) := by decide +kernel
theorem dL_law_374 : decode cL_law 374 = .ok (.invokevirtual 56, 3) := by decide +kernel
theorem dL_law_377 : decode cL_law 377 = .ok (.if_icmp .eq 288, 3) := by decide +kernel
theorem dL_law_380 : decode cL_law 380 = .ok (.iconst 0, 1) := by decide +kernel
theorem dL_law_381 : decode cL_law 381 = .ok (.ireturn, 1) := by decide +kernel
theorem dL_law_382 : decode cL_law 382 = .ok (.aload_n 1, 1) := by decide +kernel
theorem dL_law_383 : decode cL_law 383 = .ok (.aload_n 0, 1) := by decide +kernel
theorem dL_law_384 : decode cL_law 384 = .ok (.iload_n 3, 1) := by decide +kernel
theorem dL_law_385 : decode cL_law 385 = .ok (.iconst 1, 1) := by decide +kernel
theorem dL_law_386 : decode cL_law 386 = .ok (.iadd, 1) := by decide +kernel
theorem dL_law_387 : decode cL_law 387 = .ok (.iaload, 1) := by decide +kernel
theorem dL_law_388 : decode cL_law 388 = .ok (.aload_n 0, 1) := by decide +kernel
theorem dL_law_389 : decode cL_law 389 = .ok (.iload_n 3, 1) := by decide +kernel
theorem dL_law_390 : decode cL_law 390 = .ok (.iconst 2, 1) := by decide +kernel
theorem dL_law_391 : decode cL_law 391 = .ok (.iadd, 1) := by decide +kernel
theorem dL_law_392 : decode cL_law 392 = .ok (.iaload, 1) := by decide +kernel
theorem dL_law_393 : decode cL_law 393 = .ok (.invokevirtual 57, 3) := by decide +kernel
theorem dL_law_396 : decode cL_law 396 = .ok (.aload_n 2, 1) := by decide +kernel
theorem dL_law_397 : decode cL_law 397 = .ok (.aload_n 0, 1) := by decide +kernel
theorem dL_law_398 : decode cL_law 398 = .ok (.iload_n 3, 1) := by decide +kernel
theorem dL_law_399 : decode cL_law 399 = .ok (.iconst 1, 1) := by decide +kernel
theorem dL_law_400 : decode cL_law 400 = .ok (.iadd, 1) := by decide +kernel
theorem dL_law_401 : decode cL_law 401 = .ok (.iaload, 1) := by decide +kernel
theorem dL_law_402 : decode cL_law 402 = .ok (.aload_n 0, 1) := by decide +kernel
theorem dL_law_403 : decode cL_law 403 = .ok (.iload_n 3, 1) := by decide +kernel
theorem dL_law_404 : decode cL_law 404 = .ok (.iconst 2, 1) := by decide +kernel
theorem dL_law_405 : decode cL_law 405 = .ok (.iadd, 1) := by decide +kernel
theorem dL_law_406 : decode cL_law 406 = .ok (.iaload, 1) := by decide +kernel
theorem dL_law_407 : decode cL_law 407 = .ok (.invokevirtual 60, 3) := by decide +kernel
theorem dL_law_410 : decode cL_law 410 = .ok (.if_icmp .eq 255, 3) := by decide +kernel
theorem dL_law_413 : decode cL_law 413 = .ok (.iconst 0, 1) := by decide +kernel
theorem dL_law_414 : decode cL_law 414 = .ok (.ireturn, 1) := by decide +kernel
theorem dL_law_415 : decode cL_law 415 = .ok (.aload_n 1, 1) := by decide +kernel
theorem dL_law_416 : decode cL_law 416 = .ok (.aload_n 0, 1) := by decide +kernel
theorem dL_law_417 : decode cL_law 417 = .ok (.iload_n 3, 1) := by decide +kernel
theorem dL_law_418 : decode cL_law 418 = .ok (.iconst 1, 1) := by decide +kernel
theorem dL_law_419 : decode cL_law 419 = .ok (.iadd, 1) := by decide +kernel
theorem dL_law_420 : decode cL_law 420 = .ok (.iaload, 1) := by decide +kernel
theorem dL_law_421 : decode cL_law 421 = .ok (.invokevirtual 61, 3) := by decide +kernel
theorem dL_law_424 : decode cL_law 424 = .ok (.aload_n 2, 1) := by decide +kernel
theorem dL_law_425 : decode cL_law 425 = .ok (.aload_n 0, 1) := by decide +kernel
theorem dL_law_426 : decode cL_law 426 = .ok (.iload_n 3, 1) := by decide +kernel
theorem dL_law_427 : decode cL_law 427 = .ok (.iconst 1, 1) := by decide +kernel
theorem dL_law_428 : decode cL_law 428 = .ok (.iadd, 1) := by decide +kernel
theorem dL_law_429 : decode cL_law 429 = .ok (.iaload, 1) := by decide +kernel
theorem dL_law_430 : decode cL_law 430 = .ok (.invokevirtual 64, 3) := by decide +kernel
theorem dL_law_433 : decode cL_law 433 = .ok (.if_icmp .eq 232, 3) := by decide +kernel
theorem dL_law_436 : decode cL_law 436 = .ok (.iconst 0, 1) := by decide +kernel
theorem dL_law_437 : decode cL_law 437 = .ok (.ireturn, 1) := by decide +kernel
theorem dL_law_438 : decode cL_law 438 = .ok (.aload_n 1, 1) := by decide +kernel
theorem dL_law_439 : decode cL_law 439 = .ok (.aload_n 0, 1) := by decide +kernel
theorem dL_law_440 : decode cL_law 440 = .ok (.iload_n 3, 1) := by decide +kernel
theorem dL_law_441 : decode cL_law 441 = .ok (.iconst 1, 1) := by decide +kernel
theorem dL_law_442 : decode cL_law 442 = .ok (.iadd, 1) := by decide +kernel
theorem dL_law_443 : decode cL_law 443 = .ok (.iaload, 1) := by decide +kernel
theorem dL_law_444 : decode cL_law 444 = .ok (.invokevirtual 65, 3) := by decide +kernel
theorem dL_law_447 : decode cL_law 447 = .ok (.aload_n 2, 1) := by decide +kernel
theorem dL_law_448 : decode cL_law 448 = .ok (.aload_n 0, 1) := by decide +kernel
theorem dL_law_449 : decode cL_law 449 = .ok (.iload_n 3, 1) := by decide +kernel
theorem dL_law_450 : decode cL_law 450 = .ok (.iconst 1, 1) := by decide +kernel
theorem dL_law_451 : decode cL_law 451 = .ok (.iadd, 1) := by decide +kernel
theorem dL_law_452 : decode cL_law 452 = .ok (.iaload, 1) := by decide +kernel
theorem dL_law_453 : decode cL_law 453 = .ok (.invokevirtual 68, 3) := by decide +kernel
theorem dL_law_456 : decode cL_law 456 = .ok (.if_icmp .eq 209, 3) := by decide +kernel
theorem dL_law_459 : decode cL_law 459 = .ok (.iconst 0, 1) := by decide +kernel
theorem dL_law_460 : decode cL_law 460 = .ok (.ireturn, 1) := by decide +kernel
theorem dL_law_461 : decode cL_law 461 = .ok (.aload_n 1, 1) := by decide +kernel
theorem dL_law_462 : decode cL_law 462 = .ok (.aload_n 0, 1) := by decide +kernel
theorem dL_law_463 : decode cL_law 463 = .ok (.iload_n 3, 1) := by decide +kernel
theorem dL_law_464 : decode cL_law 464 = .ok (.iconst 1, 1) := by decide +kernel
theorem dL_law_465 : decode cL_law 465 = .ok (.iadd, 1) := by decide +kernel
theorem dL_law_466 : decode cL_law 466 = .ok (.iaload, 1) := by decide +kernel
theorem dL_law_467 : decode cL_law 467 = .ok (.aload_n 0, 1) := by decide +kernel
theorem dL_law_468 : decode cL_law 468 = .ok (.iload_n 3, 1) := by decide +kernel
theorem dL_law_469 : decode cL_law 469 = .ok (.iconst 2, 1) := by decide +kernel
theorem dL_law_470 : decode cL_law 470 = .ok (.iadd, 1) := by decide +kernel
theorem dL_law_471 : decode cL_law 471 = .ok (.iaload, 1) := by decide +kernel
theorem dL_law_472 : decode cL_law 472 = .ok (.invokevirtual 69, 3) := by decide +kernel
theorem dL_law_475 : decode cL_law 475 = .ok (.aload_n 2, 1) := by decide +kernel
theorem dL_law_476 : decode cL_law 476 = .ok (.aload_n 0, 1) := by decide +kernel
theorem dL_law_477 : decode cL_law 477 = .ok (.iload_n 3, 1) := by decide +kernel
theorem dL_law_478 : decode cL_law 478 = .ok (.iconst 1, 1) := by decide +kernel
theorem dL_law_479 : decode cL_law 479 = .ok (.iadd, 1) := by decide +kernel
theorem dL_law_480 : decode cL_law 480 = .ok (.iaload, 1) := by decide +kernel
theorem dL_law_481 : decode cL_law 481 = .ok (.aload_n 0, 1) := by decide +kernel
theorem dL_law_482 : decode cL_law 482 = .ok (.iload_n 3, 1) := by decide +kernel
theorem dL_law_483 : decode cL_law 483 = .ok (.iconst 2, 1) := by decide +kernel
theorem dL_law_484 : decode cL_law 484 = .ok (.iadd, 1) := by decide +kernel
theorem dL_law_485 : decode cL_law 485 = .ok (.iaload, 1) := by decide +kernel
theorem dL_law_486 : decode cL_law 486 = .ok (.invokevirtual 72, 3) := by decide +kernel
theorem dL_law_489 : decode cL_law 489 = .ok (.if_icmp .eq 176, 3) := by decide +kernel
theorem dL_law_492 : decode cL_law 492 = .ok (.iconst 0, 1) := by decide +kernel
theorem dL_law_493 : decode cL_law 493 = .ok (.ireturn, 1) := by decide +kernel
theorem dL_law_494 : decode cL_law 494 = .ok (.aload_n 1, 1) := by decide +kernel
theorem dL_law_495 : decode cL_law 495 = .ok (.aload_n 0, 1) := by decide +kernel
theorem dL_law_496 : decode cL_law 496 = .ok (.iload_n 3, 1) := by decide +kernel
theorem dL_law_497 : decode cL_law 497 = .ok (.iconst 1, 1) := by decide +kernel
theorem dL_law_498 : decode cL_law 498 = .ok (.iadd, 1) := by decide +kernel
theorem dL_law_499 : decode cL_law 499 = .ok (.iaload, 1) := by decide +kernel
theorem dL_law_500 : decode cL_law 500 = .ok (.invokevirtual 73, 3) := by decide +kernel
theorem dL_law_503 : decode cL_law 503 = .ok (.aload_n 2, 1) := by decide +kernel
theorem dL_law_504 : decode cL_law 504 = .ok (.aload_n 0, 1) := by decide +kernel
theorem dL_law_505 : decode cL_law 505 = .ok (.iload_n 3, 1) := by decide +kernel
theorem dL_law_506 : decode cL_law 506 = .ok (.iconst 1, 1) := by decide +kernel
theorem dL_law_507 : decode cL_law 507 = .ok (.iadd, 1) := by decide +kernel
theorem dL_law_508 : decode cL_law 508 = .ok (.iaload, 1) := by decide +kernel
theorem dL_law_509 : decode cL_law 509 = .ok (.invokevirtual 77, 3) := by decide +kernel
theorem dL_law_512 : decode cL_law 512 = .ok (.if_icmp .eq 153, 3) := by decide +kernel
theorem dL_law_515 : decode cL_law 515 = .ok (.iconst 0, 1) := by decide +kernel
theorem dL_law_516 : decode cL_law 516 = .ok (.ireturn, 1) := by decide +kernel
theorem dL_law_517 : decode cL_law 517 = .ok (.aload_n 1, 1) := by decide +kernel
theorem dL_law_518 : decode cL_law 518 = .ok (.aload_n 0, 1) := by decide +kernel
theorem dL_law_519 : decode cL_law 519 = .ok (.iload_n 3, 1) := by decide +kernel
theorem dL_law_520 : decode cL_law 520 = .ok (.iconst 1, 1) := by decide +kernel
theorem dL_law_521 : decode cL_law 521 = .ok (.iadd, 1) := by decide +kernel
theorem dL_law_522 : decode cL_law 522 = .ok (.iaload, 1) := by decide +kernel
theorem dL_law_523 : decode cL_law 523 = .ok (.invokevirtual 78, 3) := by decide +kernel
theorem dL_law_526 : decode cL_law 526 = .ok (.aload_n 2, 1) := by decide +kernel
theorem dL_law_527 : decode cL_law 527 = .ok (.aload_n 0, 1) := by decide +kernel
theorem dL_law_528 : decode cL_law 528 = .ok (.iload_n 3, 1) := by decide +kernel
theorem dL_law_529 : decode cL_law 529 = .ok (.iconst 1, 1) := by decide +kernel
theorem dL_law_530 : decode cL_law 530 = .ok (.iadd, 1) := by decide +kernel
theorem dL_law_531 : decode cL_law 531 = .ok (.iaload, 1) := by decide +kernel
theorem dL_law_532 : decode cL_law 532 = .ok (.invokevirtual 81, 3) := by decide +kernel
theorem dL_law_535 : decode cL_law 535 = .ok (.if_icmp .eq 130, 3) := by decide +kernel
theorem dL_law_538 : decode cL_law 538 = .ok (.iconst 0, 1) := by decide +kernel
theorem dL_law_539 : decode cL_law 539 = .ok (.ireturn, 1) := by decide +kernel
theorem dL_law_540 : decode cL_law 540 = .ok (.aload_n 1, 1) := by decide +kernel
theorem dL_law_541 : decode cL_law 541 = .ok (.aload_n 0, 1) := by decide +kernel
theorem dL_law_542 : decode cL_law 542 = .ok (.iload_n 3, 1) := by decide +kernel
theorem dL_law_543 : decode cL_law 543 = .ok (.iconst 1, 1) := by decide +kernel
theorem dL_law_544 : decode cL_law 544 = .ok (.iadd, 1) := by decide +kernel
theorem dL_law_545 : decode cL_law 545 = .ok (.iaload, 1) := by decide +kernel
theorem dL_law_546 : decode cL_law 546 = .ok (.invokevirtual 82, 3) := by decide +kernel
theorem dL_law_549 : decode cL_law 549 = .ok (.aload_n 2, 1) := by decide +kernel
theorem dL_law_550 : decode cL_law 550 = .ok (.aload_n 0, 1) := by decide +kernel
theorem dL_law_551 : decode cL_law 551 = .ok (.iload_n 3, 1) := by decide +kernel
theorem dL_law_552 : decode cL_law 552 = .ok (.iconst 1, 1) := by decide +kernel
theorem dL_law_553 : decode cL_law 553 = .ok (.iadd, 1) := by decide +kernel
theorem dL_law_554 : decode cL_law 554 = .ok (.iaload, 1) := by decide +kernel
theorem dL_law_555 : decode cL_law 555 = .ok (.invokevirtual 85, 3) := by decide +kernel
theorem dL_law_558 : decode cL_law 558 = .ok (.if_icmp .eq 107, 3) := by decide +kernel
theorem dL_law_561 : decode cL_law 561 = .ok (.iconst 0, 1) := by decide +kernel
theorem dL_law_562 : decode cL_law 562 = .ok (.ireturn, 1) := by decide +kernel
theorem dL_law_563 : decode cL_law 563 = .ok (.aload_n 1, 1) := by decide +kernel
theorem dL_law_564 : decode cL_law 564 = .ok (.aload_n 0, 1) := by decide +kernel
theorem dL_law_565 : decode cL_law 565 = .ok (.iload_n 3, 1) := by decide +kernel
theorem dL_law_566 : decode cL_law 566 = .ok (.iconst 1, 1) := by decide +kernel
theorem dL_law_567 : decode cL_law 567 = .ok (.iadd, 1) := by decide +kernel
theorem dL_law_568 : decode cL_law 568 = .ok (.iaload, 1) := by decide +kernel
theorem dL_law_569 : decode cL_law 569 = .ok (.invokevirtual 86, 3) := by decide +kernel
theorem dL_law_572 : decode cL_law 572 = .ok (.aload_n 2, 1) := by decide +kernel
theorem dL_law_573 : decode cL_law 573 = .ok (.aload_n 0, 1) := by decide +kernel
theorem dL_law_574 : decode cL_law 574 = .ok (.iload_n 3, 1) := by decide +kernel
theorem dL_law_575 : decode cL_law 575 = .ok (.iconst 1, 1) := by decide +kernel
theorem dL_law_576 : decode cL_law 576 = .ok (.iadd, 1) := by decide +kernel
theorem dL_law_577 : decode cL_law 577 = .ok (.iaload, 1) := by decide +kernel
theorem dL_law_578 : decode cL_law 578 = .ok (.invokevirtual 89, 3) := by decide +kernel
theorem dL_law_581 : decode cL_law 581 = .ok (.if_icmp .eq 84, 3) := by decide +kernel
theorem dL_law_584 : decode cL_law 584 = .ok (.iconst 0, 1) := by decide +kernel
theorem dL_law_585 : decode cL_law 585 = .ok (.ireturn, 1) := by decide +kernel
theorem dL_law_586 : decode cL_law 586 = .ok (.aload_n 1, 1) := by decide +kernel
theorem dL_law_587 : decode cL_law 587 = .ok (.aload_n 0, 1) := by decide +kernel
theorem dL_law_588 : decode cL_law 588 = .ok (.iload_n 3, 1) := by decide +kernel
theorem dL_law_589 : decode cL_law 589 = .ok (.iconst 1, 1) := by decide +kernel
theorem dL_law_590 : decode cL_law 590 = .ok (.iadd, 1) := by decide +kernel
theorem dL_law_591 : decode cL_law 591 = .ok (.iaload, 1) := by decide +kernel
theorem dL_law_592 : decode cL_law 592 = .ok (.invokevirtual 90, 3) := by decide +kernel
theorem dL_law_595 : decode cL_law 595 = .ok (.aload_n 2, 1) := by decide +kernel
theorem dL_law_596 : decode cL_law 596 = .ok (.aload_n 0, 1) := by decide +kernel
theorem dL_law_597 : decode cL_law 597 = .ok (.iload_n 3, 1) := by decide +kernel
theorem dL_law_598 : decode cL_law 598 = .ok (.iconst 1, 1) := by decide +kernel
theorem dL_law_599 : decode cL_law 599 = .ok (.iadd, 1) := by decide +kernel
theorem dL_law_600 : decode cL_law 600 = .ok (.iaload, 1) := by decide +kernel
theorem dL_law_601 : decode cL_law 601 = .ok (.invokevirtual 93, 3) := by decide +kernel
theorem dL_law_604 : decode cL_law 604 = .ok (.if_icmp .eq 61, 3) := by decide +kernel
theorem dL_law_607 : decode cL_law 607 = .ok (.iconst 0, 1) := by decide +kernel
theorem dL_law_608 : decode cL_law 608 = .ok (.ireturn, 1) := by decide +kernel
theorem dL_law_609 : decode cL_law 609 = .ok (.aload_n 1, 1) := by decide +kernel
theorem dL_law_610 : decode cL_law 610 = .ok (.aload_n 0, 1) := by decide +kernel
theorem dL_law_611 : decode cL_law 611 = .ok (.iload_n 3, 1) := by decide +kernel
theorem dL_law_612 : decode cL_law 612 = .ok (.iconst 1, 1) := by decide +kernel
theorem dL_law_613 : decode cL_law 613 = .ok (.iadd, 1) := by decide +kernel
theorem dL_law_614 : decode cL_law 614 = .ok (.iaload, 1) := by decide +kernel
theorem dL_law_615 : decode cL_law 615 = .ok (.aload_n 0, 1) := by decide +kernel
theorem dL_law_616 : decode cL_law 616 = .ok (.iload_n 3, 1) := by decide +kernel
theorem dL_law_617 : decode cL_law 617 = .ok (.iconst 2, 1) := by decide +kernel
theorem dL_law_618 : decode cL_law 618 = .ok (.iadd, 1) := by decide +kernel
theorem dL_law_619 : decode cL_law 619 = .ok (.iaload, 1) := by decide +kernel
theorem dL_law_620 : decode cL_law 620 = .ok (.invokevirtual 94, 3) := by decide +kernel
theorem dL_law_623 : decode cL_law 623 = .ok (.aload_n 2, 1) := by decide +kernel
theorem dL_law_624 : decode cL_law 624 = .ok (.aload_n 0, 1) := by decide +kernel
theorem dL_law_625 : decode cL_law 625 = .ok (.iload_n 3, 1) := by decide +kernel
theorem dL_law_626 : decode cL_law 626 = .ok (.iconst 1, 1) := by decide +kernel
theorem dL_law_627 : decode cL_law 627 = .ok (.iadd, 1) := by decide +kernel
theorem dL_law_628 : decode cL_law 628 = .ok (.iaload, 1) := by decide +kernel
theorem dL_law_629 : decode cL_law 629 = .ok (.aload_n 0, 1) := by decide +kernel
theorem dL_law_630 : decode cL_law 630 = .ok (.iload_n 3, 1) := by decide +kernel
theorem dL_law_631 : decode cL_law 631 = .ok (.iconst 2, 1) := by decide +kernel
theorem dL_law_632 : decode cL_law 632 = .ok (.iadd, 1) := by decide +kernel
theorem dL_law_633 : decode cL_law 633 = .ok (.iaload, 1) := by decide +kernel
theorem dL_law_634 : decode cL_law 634 = .ok (.invokevirtual 97, 3) := by decide +kernel
theorem dL_law_637 : decode cL_law 637 = .ok (.if_icmp .eq 28, 3) := by decide +kernel
theorem dL_law_640 : decode cL_law 640 = .ok (.iconst 0, 1) := by decide +kernel
theorem dL_law_641 : decode cL_law 641 = .ok (.ireturn, 1) := by decide +kernel
theorem dL_law_642 : decode cL_law 642 = .ok (.aload_n 1, 1) := by decide +kernel
theorem dL_law_643 : decode cL_law 643 = .ok (.aload_n 0, 1) := by decide +kernel
theorem dL_law_644 : decode cL_law 644 = .ok (.iload_n 3, 1) := by decide +kernel
theorem dL_law_645 : decode cL_law 645 = .ok (.iconst 1, 1) := by decide +kernel
theorem dL_law_646 : decode cL_law 646 = .ok (.iadd, 1) := by decide +kernel
theorem dL_law_647 : decode cL_law 647 = .ok (.iaload, 1) := by decide +kernel
theorem dL_law_648 : decode cL_law 648 = .ok (.invokevirtual 98, 3) := by decide +kernel
theorem dL_law_651 : decode cL_law 651 = .ok (.aload_n 2, 1) := by decide +kernel
theorem dL_law_652 : decode cL_law 652 = .ok (.aload_n 0, 1) := by decide +kernel
theorem dL_law_653 : decode cL_law 653 = .ok (.iload_n 3, 1) := by decide +kernel
theorem dL_law_654 : decode cL_law 654 = .ok (.iconst 1, 1) := by decide +kernel
theorem dL_law_655 : decode cL_law 655 = .ok (.iadd, 1) := by decide +kernel
theorem dL_law_656 : decode cL_law 656 = .ok (.iaload, 1) := by decide +kernel
theorem dL_law_657 : decode cL_law 657 = .ok (.invokevirtual 101, 3) := by decide +kernel
theorem dL_law_660 : decode cL_law 660 = .ok (.if_icmp .eq 5, 3) := by decide +kernel
theorem dL_law_663 : decode cL_law 663 = .ok (.iconst 0, 1) := by decide +kernel
theorem dL_law_664 : decode cL_law 664 = .ok (.ireturn, 1) := by decide +kernel
theorem dL_law_665 : decode cL_law 665 = .ok (.iinc 3 3, 3) := by decide +kernel
theorem dL_law_668 : decode cL_law 668 = .ok (.goto (-650), 3) := by decide +kernel
theorem dL_law_671 : decode cL_law 671 = .ok (.iconst 1, 1) := by decide +kernel
theorem dL_law_672 : decode cL_law 672 = .ok (.ireturn, 1) := by decide +kernel
end
section
/-! THE LAYER: the cells that are made since a base stand in one list, by their places; a judgement z_R over it, a contract z_M over it -/
abbrev z_G : Type := va_G × (Nat → ClassId)
/-- the array classes that occur -/
def z_Ty (Z : Nat → ClassId) : List (ClassId × FieldType) := [(Z 0, .int), (Z 1, .long), (Z 2, .boolean), (Z 3, .object "PageSlabs$Slab"), (Z 4, .object "PageSlabs$Cache")]
/-- the words that every contract takes: all of the tables' that a caller may hand on -/
def z_W : List Cond := lw_tbl.filter goodWord
/-- the links between nest mates -/
def z_N : List Cond := [.methodLinkNest "PageSlabs" 11 yX2_init "PageSlabs", .methodLinkNest "PageSlabs" 18 yX0_init "PageSlabs", .methodLinkNest "PageSlabs" 216 yX3_init "PageSlabs", .methodLinkNest "PageSlabs$Blocks" 43 yX4_isPage "PageSlabs"]
def z_K (G : z_G) (U : State) : Prop := va_K G.1 vwCl (z_Ty G.2) U ∧ (∀ w ∈ z_N, va_Nw w U) ∧ va_AO "PageSlabs$Slab" U ∧ va_AO "PageSlabs$Cache" U
/-- the heap from base on -/
def z_H (G : z_G) (base : Nat) (hp : List va_E) (H : Heap) : Prop := H.size = base + hp.length ∧ ∀ (i : Nat) (e : va_E), hp[i]? = some e → va_at G.1 vwCl (base + i, e) H
def z_Qc (G : z_G) (base : Nat) (post : Option Value → List va_E → Prop) : Array Value → State → Outcome → State → Prop := fun _ st oc t => (∃ (v : Option Value) (hp' : List va_E), oc = .returned v ∧ post v hp' ∧ z_H G base hp' t.heap) ∧ va_F (fun q => base ≤ q) st t
def z_Pc (G : z_G) (base : Nat) (as : List Value) (hp : List va_E) : Array Value → State → Prop := va_Pc as (fun U => z_H G base hp U.heap ∧ z_K G U)
def z_rm (d mc ms : Nat) : Room := { frames := d, cells := mc, slots := ms, locals := 40 * d }
/-- a contract: at these arguments, over this heap, y returns, with post of its answer and the heap behind it -/
def z_M (l : Launch) (G : z_G) (base : Nat) (y : MethodName) (bc : ByteArray) (mL : Nat) (rt : Option FieldType) (d mc ms : Nat) (as : List Value) (hp : List va_E) (post : Option Value → List va_E → Prop) : Prop :=
  Met l y (Cond.code y bc mL rt :: z_W) (z_rm d mc ms) (z_Pc G base as hp) (z_Qc G base post) mc ms (fun q => base ≤ q)
theorem z_W_good : ∀ w ∈ z_W, (w.onTables && w.keeps) = true ∨ ∃ ty, w = .arrayClass ty := fun w h => good_of_word (List.mem_filter.mp h).2
theorem z_in {w : Cond} (h : w ∈ lw_tbl) (hg : goodWord w = true) : w ∈ z_W := List.mem_filter.mpr ⟨h, hg⟩
theorem z_H.set {G : z_G} {base : Nat} {hp : List va_E} {H H1 : Heap} {i : Nat} {e : va_E} (h : z_H G base hp H) (hz : H1.size = H.size) (ho : ∀ q, q ≠ base + i → H1[q]? = H[q]?) (he : va_at G.1 vwCl (base + i, e) H1) : z_H G base (hp.set i e) H1 := by
  refine ⟨by rw [hz, h.1, List.length_set], fun j e' hj => ?_⟩
  by_cases hij : j = i
  · subst hij
    by_cases hl : j < hp.length
    · rw [List.getElem?_set_self hl] at hj
      cases hj
      exact he
    · rw [List.getElem?_eq_none (by rw [List.length_set]; omega)] at hj
      cases hj
  · rw [List.getElem?_set_ne (fun q => hij q.symm)] at hj
    exact (h.2 j e' hj).kept (ho _ (by show base + j ≠ base + i; omega))
theorem z_H.push {G : z_G} {base : Nat} {hp : List va_E} {H H1 : Heap} {e : va_E} (h : z_H G base hp H) (hz : H1.size = H.size + 1) (ho : ∀ q, q < H.size → H1[q]? = H[q]?) (he : va_at G.1 vwCl (base + hp.length, e) H1) : z_H G base (hp ++ [e]) H1 := by
  refine ⟨by rw [hz, h.1, List.length_append, List.length_singleton]; omega, fun j e' hj => ?_⟩
  by_cases hl : j < hp.length
  · rw [List.getElem?_append_left hl] at hj
    exact (h.2 j e' hj).kept (ho _ (by show base + j < H.size; rw [h.1]; omega))
  · rw [List.getElem?_append_right (by omega)] at hj
    have h2 : j - hp.length = 0 := by
      rcases Nat.eq_zero_or_pos (j - hp.length) with q | q
      · exact q
      · rw [List.getElem?_eq_none (by rw [List.length_singleton]; omega)] at hj
        cases hj
    rw [h2] at hj
    cases hj
    rw [show j = hp.length by omega]
    exact he
/-- what holds throughout a method -/
def z_C (p : Program) (s : State) (m : MethodId) (args : Array Value) (meth : Method) (c : Code) (cc : ByteArray) (nL : Nat) (own : String) (G : z_G) (base : Nat) : Prop :=
  p.tables.exec = Jvm.exec ∧ c.code = cc ∧ c.maxLocals = nL ∧ s.vm.findClass own = some m.cls ∧ (∀ w ∈ z_W, w.before args s = true) ∧ z_K G s ∧ meth.locks = false ∧ base ≤ s.heap.size
def z_R (p : Program) (l : Launch) (e : Env) (R : Room) (s : State) (m : MethodId) (args : Array Value) (below : List Frame) (meth : Method) (c : Code) (Q : State → Prop) (G : z_G) (base nL cells slots pc : Nat) (lv : List (Nat × Value)) (st : List Value) (hp : List va_E) : Prop :=
  ∀ (H : Heap) (locs : List Loc) (ls : Array Slot), z_H G base hp H → va_S (fun q => base ≤ q) s.heap H locs → lv_has ls nL lv → W p l e R s m args below meth c H locs cells slots Q (F0 m pc ls st)
section ZR
variable {p : Program} {l : Launch} {e : Env} {R : Room} {s : State} {m : MethodId} {args : Array Value} {below : List Frame} {meth : Method} {c : Code} {Q : State → Prop} {cc : ByteArray} {own : String} {G : z_G} {base nL cells slots pc : Nat} {lv : List (Nat × Value)} {st : List Value} {hp : List va_E}
theorem z_lv {lv' : List (Nat × Value)} (ks : List Nat) (h : lv_pick lv ks = lv') (k : z_R p l e R s m args below meth c Q G base nL cells slots pc lv' st hp) : z_R p l e R s m args below meth c Q G base nL cells slots pc lv st hp :=
  fun H locs ls h1 h2 h3 => k H locs ls h1 h2 (lv_sub h3 ks h)
theorem z_hp {hp' : List va_E} (h : hp = hp') (k : z_R p l e R s m args below meth c Q G base nL cells slots pc lv st hp') : z_R p l e R s m args below meth c Q G base nL cells slots pc lv st hp := h ▸ k
theorem z_st {st' : List Value} (h : st = st') (k : z_R p l e R s m args below meth c Q G base nL cells slots pc lv st' hp) : z_R p l e R s m args below meth c Q G base nL cells slots pc lv st hp := h ▸ k
theorem z_wid {k n : Nat} (h1 : cells ≤ k) (h2 : slots ≤ n) (kk : z_R p l e R s m args below meth c Q G base nL k n pc lv st hp) : z_R p l e R s m args below meth c Q G base nL cells slots pc lv st hp :=
  fun H locs ls a1 a2 a3 => W.widen h1 h2 (kk H locs ls a1 a2 a3)
theorem z_topi {x : Int32} (k : ∀ y : Int32, y = x → z_R p l e R s m args below meth c Q G base nL cells slots pc lv (.int y :: st) hp) : z_R p l e R s m args below meth c Q G base nL cells slots pc lv (.int x :: st) hp := k x rfl
theorem z_topl {x : Int64} (k : ∀ y : Int64, y = x → z_R p l e R s m args below meth c Q G base nL cells slots pc lv (.long y :: st) hp) : z_R p l e R s m args below meth c Q G base nL cells slots pc lv (.long x :: st) hp := k x rfl
theorem z_iconst (C : z_C p s m args meth c cc nL own G base) {n : Int} {v : Int32} (hd : decode cc pc = .ok (.iconst n, 1)) (hv : Int32.ofInt n = v) (k : z_R p l e R s m args below meth c Q G base nL cells slots (pc + 1) lv (.int v :: st) hp) : z_R p l e R s m args below meth c Q G base nL cells slots pc lv st hp :=
  fun H locs ls h1 h2 h3 => lv_iconst C.1 C.2.1 hd hv (k H locs ls h1 h2 h3)
theorem z_bipush (C : z_C p s m args meth c cc nL own G base) {n : Int} {v : Int32} (hd : decode cc pc = .ok (.bipush n, 2)) (hv : (Int8.ofInt n).toInt32 = v) (k : z_R p l e R s m args below meth c Q G base nL cells slots (pc + 2) lv (.int v :: st) hp) : z_R p l e R s m args below meth c Q G base nL cells slots pc lv st hp :=
  fun H locs ls h1 h2 h3 => lv_bipush C.1 C.2.1 hd hv (k H locs ls h1 h2 h3)
theorem z_sipush (C : z_C p s m args meth c cc nL own G base) {n : Int} {v : Int32} (hd : decode cc pc = .ok (.sipush n, 3)) (hv : (Int16.ofInt n).toInt32 = v) (k : z_R p l e R s m args below meth c Q G base nL cells slots (pc + 3) lv (.int v :: st) hp) : z_R p l e R s m args below meth c Q G base nL cells slots pc lv st hp :=
  fun H locs ls h1 h2 h3 => lv_sipush C.1 C.2.1 hd hv (k H locs ls h1 h2 h3)
theorem z_lconst (C : z_C p s m args meth c cc nL own G base) {n : Fin 2} {v : Int64} (hd : decode cc pc = .ok (.lconst n, 1)) (hv : Int64.ofNat (n : Nat) = v) (k : z_R p l e R s m args below meth c Q G base nL cells slots (pc + 1) lv (.long v :: st) hp) : z_R p l e R s m args below meth c Q G base nL cells slots pc lv st hp :=
  fun H locs ls h1 h2 h3 => lv_lconst C.1 C.2.1 hd hv (k H locs ls h1 h2 h3)
theorem z_ldc2 (C : z_C p s m args meth c cc nL own G base) {index : Nat} {v : Int64} (hw : Cond.constantLong own index v ∈ z_W) (hd : decode cc pc = .ok (.ldc2_w index, 3)) (k : z_R p l e R s m args below meth c Q G base nL cells slots (pc + 3) lv (.long v :: st) hp) : z_R p l e R s m args below meth c Q G base nL cells slots pc lv st hp :=
  fun H locs ls h1 h2 h3 => lv_ldc2 C.1 C.2.1 C.2.2.2.1 (C.2.2.2.2.1 _ hw) hd (k H locs ls h1 h2 h3)
theorem z_null (C : z_C p s m args meth c cc nL own G base) (hd : decode cc pc = .ok (.aconst_null, 1)) (k : z_R p l e R s m args below meth c Q G base nL cells slots (pc + 1) lv (.null :: st) hp) : z_R p l e R s m args below meth c Q G base nL cells slots pc lv st hp :=
  fun H locs ls h1 h2 h3 => lv_null C.1 C.2.1 hd (k H locs ls h1 h2 h3)
theorem z_iload_n (C : z_C p s m args meth c cc nL own G base) {k : Fin 4} {i : Nat} {x : Int32} (hd : decode cc pc = .ok (.iload_n k, 1)) (hi : (k : Nat) = i) (j : Nat) (hj : lv[j]? = some (i, .int x)) (kk : z_R p l e R s m args below meth c Q G base nL cells slots (pc + 1) lv (.int x :: st) hp) : z_R p l e R s m args below meth c Q G base nL cells slots pc lv st hp :=
  fun H locs ls h1 h2 h3 => lv_iload_n C.1 C.2.1 hd hi (lv_at h3 j hj) (kk H locs ls h1 h2 h3)
theorem z_iload (C : z_C p s m args meth c cc nL own G base) {i : Nat} {x : Int32} (hd : decode cc pc = .ok (.iload i, 2)) (j : Nat) (hj : lv[j]? = some (i, .int x)) (kk : z_R p l e R s m args below meth c Q G base nL cells slots (pc + 2) lv (.int x :: st) hp) : z_R p l e R s m args below meth c Q G base nL cells slots pc lv st hp :=
  fun H locs ls h1 h2 h3 => lv_iload C.1 C.2.1 hd (lv_at h3 j hj) (kk H locs ls h1 h2 h3)
theorem z_lload (C : z_C p s m args meth c cc nL own G base) {i : Nat} {x : Int64} (hd : decode cc pc = .ok (.lload i, 2)) (j : Nat) (hj : lv[j]? = some (i, .long x)) (kk : z_R p l e R s m args below meth c Q G base nL cells slots (pc + 2) lv (.long x :: st) hp) : z_R p l e R s m args below meth c Q G base nL cells slots pc lv st hp :=
  fun H locs ls h1 h2 h3 => lv_lload C.1 C.2.1 hd (lv_at h3 j hj) (kk H locs ls h1 h2 h3)
theorem z_aload_n (C : z_C p s m args meth c cc nL own G base) {k : Fin 4} {i x : Nat} (hd : decode cc pc = .ok (.aload_n k, 1)) (hi : (k : Nat) = i) (j : Nat) (hj : lv[j]? = some (i, .ref x)) (kk : z_R p l e R s m args below meth c Q G base nL cells slots (pc + 1) lv (.ref x :: st) hp) : z_R p l e R s m args below meth c Q G base nL cells slots pc lv st hp :=
  fun H locs ls h1 h2 h3 => lv_aload_n C.1 C.2.1 hd hi (lv_at h3 j hj) (kk H locs ls h1 h2 h3)
theorem z_aload (C : z_C p s m args meth c cc nL own G base) {i x : Nat} (hd : decode cc pc = .ok (.aload i, 2)) (j : Nat) (hj : lv[j]? = some (i, .ref x)) (kk : z_R p l e R s m args below meth c Q G base nL cells slots (pc + 2) lv (.ref x :: st) hp) : z_R p l e R s m args below meth c Q G base nL cells slots pc lv st hp :=
  fun H locs ls h1 h2 h3 => lv_aload C.1 C.2.1 hd (lv_at h3 j hj) (kk H locs ls h1 h2 h3)
theorem z_aload_nq (C : z_C p s m args meth c cc nL own G base) {k : Fin 4} {i : Nat} {x : Option Nat} (hd : decode cc pc = .ok (.aload_n k, 1)) (hi : (k : Nat) = i) (j : Nat) (hj : lv[j]? = some (i, va_rf x)) (kk : z_R p l e R s m args below meth c Q G base nL cells slots (pc + 1) lv (va_rf x :: st) hp) : z_R p l e R s m args below meth c Q G base nL cells slots pc lv st hp :=
  fun H locs ls h1 h2 h3 => by
    cases x with
    | none => exact lv_aload_nN C.1 C.2.1 hd hi (lv_at h3 j hj) (kk H locs ls h1 h2 h3)
    | some x => exact lv_aload_n C.1 C.2.1 hd hi (lv_at h3 j hj) (kk H locs ls h1 h2 h3)
theorem z_aloadq (C : z_C p s m args meth c cc nL own G base) {i : Nat} {x : Option Nat} (hd : decode cc pc = .ok (.aload i, 2)) (j : Nat) (hj : lv[j]? = some (i, va_rf x)) (kk : z_R p l e R s m args below meth c Q G base nL cells slots (pc + 2) lv (va_rf x :: st) hp) : z_R p l e R s m args below meth c Q G base nL cells slots pc lv st hp :=
  fun H locs ls h1 h2 h3 => by
    cases x with
    | none => exact lv_aloadN C.1 C.2.1 hd (lv_at h3 j hj) (kk H locs ls h1 h2 h3)
    | some x => exact lv_aload C.1 C.2.1 hd (lv_at h3 j hj) (kk H locs ls h1 h2 h3)
theorem z_istore_n (C : z_C p s m args meth c cc nL own G base) {k : Fin 4} {i : Nat} {x : Int32} {lv' : List (Nat × Value)} (hd : decode cc pc = .ok (.istore_n k, 1)) (hi : (k : Nat) = i) (hn : i < nL) (hl : (i, Value.int x) :: lv.filter (fun q => !(q.1 == i) && !(q.1 + 1 == i && q.2.category == 2)) = lv') (kk : z_R p l e R s m args below meth c Q G base nL cells slots (pc + 1) lv' st hp) : z_R p l e R s m args below meth c Q G base nL cells slots pc lv (.int x :: st) hp :=
  fun H locs _ h1 h2 h3 => lv_istore_n C.1 C.2.1 hd hi h3 hn hl (fun ls' h => kk H locs ls' h1 h2 h)
theorem z_istore (C : z_C p s m args meth c cc nL own G base) {i : Nat} {x : Int32} {lv' : List (Nat × Value)} (hd : decode cc pc = .ok (.istore i, 2)) (hn : i < nL) (hl : (i, Value.int x) :: lv.filter (fun q => !(q.1 == i) && !(q.1 + 1 == i && q.2.category == 2)) = lv') (kk : z_R p l e R s m args below meth c Q G base nL cells slots (pc + 2) lv' st hp) : z_R p l e R s m args below meth c Q G base nL cells slots pc lv (.int x :: st) hp :=
  fun H locs _ h1 h2 h3 => lv_istore C.1 C.2.1 hd h3 hn hl (fun ls' h => kk H locs ls' h1 h2 h)
theorem z_lstore (C : z_C p s m args meth c cc nL own G base) {i : Nat} {x : Int64} {lv' : List (Nat × Value)} (hd : decode cc pc = .ok (.lstore i, 2)) (hn : i + 1 < nL) (hl : (i, Value.long x) :: lv.filter (fun q => !(q.1 == i) && (!(q.1 == i + 1) && !(q.1 + 1 == i && q.2.category == 2))) = lv') (kk : z_R p l e R s m args below meth c Q G base nL cells slots (pc + 2) lv' st hp) : z_R p l e R s m args below meth c Q G base nL cells slots pc lv (.long x :: st) hp :=
  fun H locs _ h1 h2 h3 => lv_lstore C.1 C.2.1 hd h3 hn hl (fun ls' h => kk H locs ls' h1 h2 h)
theorem z_lstore_n (C : z_C p s m args meth c cc nL own G base) {k : Fin 4} {i : Nat} {x : Int64} {lv' : List (Nat × Value)} (hd : decode cc pc = .ok (.lstore_n k, 1)) (hi : (k : Nat) = i) (hn : i + 1 < nL) (hl : (i, Value.long x) :: lv.filter (fun q => !(q.1 == i) && (!(q.1 == i + 1) && !(q.1 + 1 == i && q.2.category == 2))) = lv') (kk : z_R p l e R s m args below meth c Q G base nL cells slots (pc + 1) lv' st hp) : z_R p l e R s m args below meth c Q G base nL cells slots pc lv (.long x :: st) hp :=
  fun H locs _ h1 h2 h3 => lv_lstore_n C.1 C.2.1 hd hi h3 hn hl (fun ls' h => kk H locs ls' h1 h2 h)
theorem z_astore_n (C : z_C p s m args meth c cc nL own G base) {k : Fin 4} {i x : Nat} {lv' : List (Nat × Value)} (hd : decode cc pc = .ok (.astore_n k, 1)) (hi : (k : Nat) = i) (hn : i < nL) (hl : (i, Value.ref x) :: lv.filter (fun q => !(q.1 == i) && !(q.1 + 1 == i && q.2.category == 2)) = lv') (kk : z_R p l e R s m args below meth c Q G base nL cells slots (pc + 1) lv' st hp) : z_R p l e R s m args below meth c Q G base nL cells slots pc lv (.ref x :: st) hp :=
  fun H locs _ h1 h2 h3 => lv_astore_n C.1 C.2.1 hd hi h3 hn hl (fun ls' h => kk H locs ls' h1 h2 h)
theorem z_astore (C : z_C p s m args meth c cc nL own G base) {i x : Nat} {lv' : List (Nat × Value)} (hd : decode cc pc = .ok (.astore i, 2)) (hn : i < nL) (hl : (i, Value.ref x) :: lv.filter (fun q => !(q.1 == i) && !(q.1 + 1 == i && q.2.category == 2)) = lv') (kk : z_R p l e R s m args below meth c Q G base nL cells slots (pc + 2) lv' st hp) : z_R p l e R s m args below meth c Q G base nL cells slots pc lv (.ref x :: st) hp :=
  fun H locs _ h1 h2 h3 => lv_astore C.1 C.2.1 hd h3 hn hl (fun ls' h => kk H locs ls' h1 h2 h)
theorem z_astore_nq (C : z_C p s m args meth c cc nL own G base) {k : Fin 4} {i : Nat} {x : Option Nat} {lv' : List (Nat × Value)} (hd : decode cc pc = .ok (.astore_n k, 1)) (hi : (k : Nat) = i) (hn : i < nL) (hl : (i, va_rf x) :: lv.filter (fun q => !(q.1 == i) && !(q.1 + 1 == i && q.2.category == 2)) = lv') (kk : z_R p l e R s m args below meth c Q G base nL cells slots (pc + 1) lv' st hp) : z_R p l e R s m args below meth c Q G base nL cells slots pc lv (va_rf x :: st) hp :=
  fun H locs _ h1 h2 h3 => by
    cases x with
    | none => exact lv_astore_nN C.1 C.2.1 hd hi h3 hn hl (fun ls' h => kk H locs ls' h1 h2 h)
    | some x => exact lv_astore_n C.1 C.2.1 hd hi h3 hn hl (fun ls' h => kk H locs ls' h1 h2 h)
theorem z_astoreq (C : z_C p s m args meth c cc nL own G base) {i : Nat} {x : Option Nat} {lv' : List (Nat × Value)} (hd : decode cc pc = .ok (.astore i, 2)) (hn : i < nL) (hl : (i, va_rf x) :: lv.filter (fun q => !(q.1 == i) && !(q.1 + 1 == i && q.2.category == 2)) = lv') (kk : z_R p l e R s m args below meth c Q G base nL cells slots (pc + 2) lv' st hp) : z_R p l e R s m args below meth c Q G base nL cells slots pc lv (va_rf x :: st) hp :=
  fun H locs _ h1 h2 h3 => by
    cases x with
    | none => exact lv_astoreN C.1 C.2.1 hd h3 hn hl (fun ls' h => kk H locs ls' h1 h2 h)
    | some x => exact lv_astore C.1 C.2.1 hd h3 hn hl (fun ls' h => kk H locs ls' h1 h2 h)
theorem z_iinc (C : z_C p s m args meth c cc nL own G base) {i k : Nat} {n : Int} {x v : Int32} {lv' : List (Nat × Value)} (hd : decode cc pc = .ok (.iinc i n, 3)) (hk : lv[k]? = some (i, .int x)) (hv : x + Int32.ofInt n = v) (hn : i < nL) (hl : (i, Value.int v) :: lv.filter (fun q => !(q.1 == i) && !(q.1 + 1 == i && q.2.category == 2)) = lv') (kk : z_R p l e R s m args below meth c Q G base nL cells slots (pc + 3) lv' st hp) : z_R p l e R s m args below meth c Q G base nL cells slots pc lv st hp :=
  fun H locs _ h1 h2 h3 => lv_iinc C.1 C.2.1 hd h3 hk hv hn hl (fun ls' h => kk H locs ls' h1 h2 h)
theorem z_iadd (C : z_C p s m args meth c cc nL own G base) {x y : Int32} (hd : decode cc pc = .ok (.iadd, 1)) (k : z_R p l e R s m args below meth c Q G base nL cells slots (pc + 1) lv (.int (x + y) :: st) hp) : z_R p l e R s m args below meth c Q G base nL cells slots pc lv (.int y :: .int x :: st) hp :=
  fun H locs ls h1 h2 h3 => lv_iadd C.1 C.2.1 hd (k H locs ls h1 h2 h3)
theorem z_isub (C : z_C p s m args meth c cc nL own G base) {x y : Int32} (hd : decode cc pc = .ok (.isub, 1)) (k : z_R p l e R s m args below meth c Q G base nL cells slots (pc + 1) lv (.int (x - y) :: st) hp) : z_R p l e R s m args below meth c Q G base nL cells slots pc lv (.int y :: .int x :: st) hp :=
  fun H locs ls h1 h2 h3 => lv_isub C.1 C.2.1 hd (k H locs ls h1 h2 h3)
theorem z_imul (C : z_C p s m args meth c cc nL own G base) {x y : Int32} (hd : decode cc pc = .ok (.imul, 1)) (k : z_R p l e R s m args below meth c Q G base nL cells slots (pc + 1) lv (.int (x * y) :: st) hp) : z_R p l e R s m args below meth c Q G base nL cells slots pc lv (.int y :: .int x :: st) hp :=
  fun H locs ls h1 h2 h3 => lv_imul C.1 C.2.1 hd (k H locs ls h1 h2 h3)
theorem z_iand (C : z_C p s m args meth c cc nL own G base) {x y : Int32} (hd : decode cc pc = .ok (.iand, 1)) (k : z_R p l e R s m args below meth c Q G base nL cells slots (pc + 1) lv (.int (x &&& y) :: st) hp) : z_R p l e R s m args below meth c Q G base nL cells slots pc lv (.int y :: .int x :: st) hp :=
  fun H locs ls h1 h2 h3 => lv_iand C.1 C.2.1 hd (k H locs ls h1 h2 h3)
theorem z_ixor (C : z_C p s m args meth c cc nL own G base) {x y : Int32} (hd : decode cc pc = .ok (.ixor, 1)) (k : z_R p l e R s m args below meth c Q G base nL cells slots (pc + 1) lv (.int (x ^^^ y) :: st) hp) : z_R p l e R s m args below meth c Q G base nL cells slots pc lv (.int y :: .int x :: st) hp :=
  fun H locs ls h1 h2 h3 => lv_ixor C.1 C.2.1 hd (k H locs ls h1 h2 h3)
theorem z_idiv (C : z_C p s m args meth c cc nL own G base) {x y : Int32} (hd : decode cc pc = .ok (.idiv, 1)) (hne : ¬ y = 0) (k : z_R p l e R s m args below meth c Q G base nL cells slots (pc + 1) lv (.int (x / y) :: st) hp) : z_R p l e R s m args below meth c Q G base nL cells slots pc lv (.int y :: .int x :: st) hp :=
  fun H locs ls h1 h2 h3 => lv_idiv C.1 C.2.1 hd hne (k H locs ls h1 h2 h3)
theorem z_irem (C : z_C p s m args meth c cc nL own G base) {x y : Int32} (hd : decode cc pc = .ok (.irem, 1)) (hne : ¬ y = 0) (k : z_R p l e R s m args below meth c Q G base nL cells slots (pc + 1) lv (.int (x - x / y * y) :: st) hp) : z_R p l e R s m args below meth c Q G base nL cells slots pc lv (.int y :: .int x :: st) hp :=
  fun H locs ls h1 h2 h3 => lv_irem C.1 C.2.1 hd hne (k H locs ls h1 h2 h3)
theorem z_ineg (C : z_C p s m args meth c cc nL own G base) {x : Int32} (hd : decode cc pc = .ok (.ineg, 1)) (k : z_R p l e R s m args below meth c Q G base nL cells slots (pc + 1) lv (.int (-x) :: st) hp) : z_R p l e R s m args below meth c Q G base nL cells slots pc lv (.int x :: st) hp :=
  fun H locs ls h1 h2 h3 => lv_ineg C.1 C.2.1 hd (k H locs ls h1 h2 h3)
theorem z_ishl (C : z_C p s m args meth c cc nL own G base) {x y : Int32} (hd : decode cc pc = .ok (.ishl, 1)) (k : z_R p l e R s m args below meth c Q G base nL cells slots (pc + 1) lv (.int (x <<< (y &&& 31)) :: st) hp) : z_R p l e R s m args below meth c Q G base nL cells slots pc lv (.int y :: .int x :: st) hp :=
  fun H locs ls h1 h2 h3 => lv_ishl C.1 C.2.1 hd (k H locs ls h1 h2 h3)
theorem z_iushr (C : z_C p s m args meth c cc nL own G base) {x y v : Int32} (hd : decode cc pc = .ok (.iushr, 1)) (hv : (x.toUInt32 >>> (y.toUInt32 &&& Int32.toUInt32 31)).toInt32 = v) (k : z_R p l e R s m args below meth c Q G base nL cells slots (pc + 1) lv (.int v :: st) hp) : z_R p l e R s m args below meth c Q G base nL cells slots pc lv (.int y :: .int x :: st) hp :=
  fun H locs ls h1 h2 h3 => lv_iushr C.1 C.2.1 hd hv (k H locs ls h1 h2 h3)
theorem z_land (C : z_C p s m args meth c cc nL own G base) {x y : Int64} (hd : decode cc pc = .ok (.land, 1)) (k : z_R p l e R s m args below meth c Q G base nL cells slots (pc + 1) lv (.long (x &&& y) :: st) hp) : z_R p l e R s m args below meth c Q G base nL cells slots pc lv (.long y :: .long x :: st) hp :=
  fun H locs ls h1 h2 h3 => lv_land C.1 C.2.1 hd (k H locs ls h1 h2 h3)
theorem z_lor (C : z_C p s m args meth c cc nL own G base) {x y : Int64} (hd : decode cc pc = .ok (.lor, 1)) (k : z_R p l e R s m args below meth c Q G base nL cells slots (pc + 1) lv (.long (x ||| y) :: st) hp) : z_R p l e R s m args below meth c Q G base nL cells slots pc lv (.long y :: .long x :: st) hp :=
  fun H locs ls h1 h2 h3 => lv_lor C.1 C.2.1 hd (k H locs ls h1 h2 h3)
theorem z_lxor (C : z_C p s m args meth c cc nL own G base) {x y : Int64} (hd : decode cc pc = .ok (.lxor, 1)) (k : z_R p l e R s m args below meth c Q G base nL cells slots (pc + 1) lv (.long (x ^^^ y) :: st) hp) : z_R p l e R s m args below meth c Q G base nL cells slots pc lv (.long y :: .long x :: st) hp :=
  fun H locs ls h1 h2 h3 => lv_lxor C.1 C.2.1 hd (k H locs ls h1 h2 h3)
theorem z_lshl (C : z_C p s m args meth c cc nL own G base) {x v : Int64} {y : Int32} (hd : decode cc pc = .ok (.lshl, 1)) (hv : x <<< (y.toInt64 &&& 63) = v) (k : z_R p l e R s m args below meth c Q G base nL cells slots (pc + 1) lv (.long v :: st) hp) : z_R p l e R s m args below meth c Q G base nL cells slots pc lv (.int y :: .long x :: st) hp :=
  fun H locs ls h1 h2 h3 => lv_lshl C.1 C.2.1 hd hv (k H locs ls h1 h2 h3)
theorem z_lushr (C : z_C p s m args meth c cc nL own G base) {x v : Int64} {y : Int32} (hd : decode cc pc = .ok (.lushr, 1)) (hv : (x.toUInt64 >>> (y.toInt64.toUInt64 &&& Int64.toUInt64 63)).toInt64 = v) (k : z_R p l e R s m args below meth c Q G base nL cells slots (pc + 1) lv (.long v :: st) hp) : z_R p l e R s m args below meth c Q G base nL cells slots pc lv (.int y :: .long x :: st) hp :=
  fun H locs ls h1 h2 h3 => lv_lushr C.1 C.2.1 hd hv (k H locs ls h1 h2 h3)
theorem z_lcmp (C : z_C p s m args meth c cc nL own G base) {x y : Int64} (hd : decode cc pc = .ok (.lcmp, 1)) (k : z_R p l e R s m args below meth c Q G base nL cells slots (pc + 1) lv (.int (lg_cmp x y) :: st) hp) : z_R p l e R s m args below meth c Q G base nL cells slots pc lv (.long y :: .long x :: st) hp :=
  fun H locs ls h1 h2 h3 => W.lcmp C.1 C.2.1 hd (k H locs ls h1 h2 h3)
theorem z_i2l (C : z_C p s m args meth c cc nL own G base) {x : Int32} {v : Int64} (hd : decode cc pc = .ok (.i2l, 1)) (hv : x.toInt64 = v) (k : z_R p l e R s m args below meth c Q G base nL cells slots (pc + 1) lv (.long v :: st) hp) : z_R p l e R s m args below meth c Q G base nL cells slots pc lv (.int x :: st) hp :=
  fun H locs ls h1 h2 h3 => lv_i2l C.1 C.2.1 hd hv (k H locs ls h1 h2 h3)
theorem z_l2i (C : z_C p s m args meth c cc nL own G base) {x : Int64} {v : Int32} (hd : decode cc pc = .ok (.l2i, 1)) (hv : x.toInt32 = v) (k : z_R p l e R s m args below meth c Q G base nL cells slots (pc + 1) lv (.int v :: st) hp) : z_R p l e R s m args below meth c Q G base nL cells slots pc lv (.long x :: st) hp :=
  fun H locs ls h1 h2 h3 => lv_l2i C.1 C.2.1 hd hv (k H locs ls h1 h2 h3)
theorem z_dup (C : z_C p s m args meth c cc nL own G base) {va : Value} (hd : decode cc pc = .ok (.dup, 1)) (hva : va.category = 1) (k : z_R p l e R s m args below meth c Q G base nL cells slots (pc + 1) lv (va :: va :: st) hp) : z_R p l e R s m args below meth c Q G base nL cells slots pc lv (va :: st) hp :=
  fun H locs ls h1 h2 h3 => lv_dup C.1 C.2.1 hd hva (k H locs ls h1 h2 h3)
theorem z_dup2 (C : z_C p s m args meth c cc nL own G base) {va vb : Value} (hd : decode cc pc = .ok (.dup2, 1)) (hva : va.category = 1) (hvb : vb.category = 1) (k : z_R p l e R s m args below meth c Q G base nL cells slots (pc + 1) lv (va :: vb :: va :: vb :: st) hp) : z_R p l e R s m args below meth c Q G base nL cells slots pc lv (va :: vb :: st) hp :=
  fun H locs ls h1 h2 h3 => lv_dup2_11 C.1 C.2.1 hd hva hvb (k H locs ls h1 h2 h3)
theorem z_pop (C : z_C p s m args meth c cc nL own G base) {va : Value} (hd : decode cc pc = .ok (.pop, 1)) (hva : va.category = 1) (k : z_R p l e R s m args below meth c Q G base nL cells slots (pc + 1) lv st hp) : z_R p l e R s m args below meth c Q G base nL cells slots pc lv (va :: st) hp :=
  fun H locs ls h1 h2 h3 => lv_pop C.1 C.2.1 hd hva (k H locs ls h1 h2 h3)
theorem z_goto (C : z_C p s m args meth c cc nL own G base) {off : Int} {tgt : Nat} (hd : decode cc pc = .ok (.goto off, 3)) (ht : (pc : Int) + off = (tgt : Int)) (k : z_R p l e R s m args below meth c Q G base nL cells slots tgt lv st hp) : z_R p l e R s m args below meth c Q G base nL cells slots pc lv st hp :=
  fun H locs ls h1 h2 h3 => lv_goto C.1 C.2.1 hd ht (k H locs ls h1 h2 h3)
theorem z_ifnull_s (C : z_C p s m args meth c cc nL own G base) {x : Nat} {off : Int} (hd : decode cc pc = .ok (.ifnull off, 3)) (k : z_R p l e R s m args below meth c Q G base nL cells slots (pc + 3) lv st hp) : z_R p l e R s m args below meth c Q G base nL cells slots pc lv (.ref x :: st) hp :=
  fun H locs ls h1 h2 h3 => lv_ifnull C.1 C.2.1 hd (k H locs ls h1 h2 h3)
theorem z_ifnull_n (C : z_C p s m args meth c cc nL own G base) {off : Int} {tgt : Nat} (hd : decode cc pc = .ok (.ifnull off, 3)) (ht : (pc : Int) + off = (tgt : Int)) (k : z_R p l e R s m args below meth c Q G base nL cells slots tgt lv st hp) : z_R p l e R s m args below meth c Q G base nL cells slots pc lv (.null :: st) hp :=
  fun H locs ls h1 h2 h3 => lv_ifnullN C.1 C.2.1 hd ht (k H locs ls h1 h2 h3)
theorem z_ifnonnull_s (C : z_C p s m args meth c cc nL own G base) {x : Nat} {off : Int} {tgt : Nat} (hd : decode cc pc = .ok (.ifnonnull off, 3)) (ht : (pc : Int) + off = (tgt : Int)) (k : z_R p l e R s m args below meth c Q G base nL cells slots tgt lv st hp) : z_R p l e R s m args below meth c Q G base nL cells slots pc lv (.ref x :: st) hp :=
  fun H locs ls h1 h2 h3 => lv_ifnonnull C.1 C.2.1 hd ht (k H locs ls h1 h2 h3)
theorem z_ifnonnull_n (C : z_C p s m args meth c cc nL own G base) {off : Int} (hd : decode cc pc = .ok (.ifnonnull off, 3)) (k : z_R p l e R s m args below meth c Q G base nL cells slots (pc + 3) lv st hp) : z_R p l e R s m args below meth c Q G base nL cells slots pc lv (.null :: st) hp :=
  fun H locs ls h1 h2 h3 => lv_ifnonnullN C.1 C.2.1 hd (k H locs ls h1 h2 h3)
theorem z_if_eq (C : z_C p s m args meth c cc nL own G base) {x : Int32} {off : Int} {tgt : Nat} (hd : decode cc pc = .ok (.ifCond .eq off, 3)) (ht : (pc : Int) + off = (tgt : Int)) (kt : x = 0 → z_R p l e R s m args below meth c Q G base nL cells slots tgt lv st hp) (kf : ¬ x = 0 → z_R p l e R s m args below meth c Q G base nL cells slots (pc + 3) lv st hp) : z_R p l e R s m args below meth c Q G base nL cells slots pc lv (.int x :: st) hp :=
  fun H locs ls h1 h2 h3 => lv_if_eq C.1 C.2.1 hd ht (fun h => kt h H locs ls h1 h2 h3) (fun h => kf h H locs ls h1 h2 h3)
theorem z_icmp_eq (C : z_C p s m args meth c cc nL own G base) {x y : Int32} {off : Int} {tgt : Nat} (hd : decode cc pc = .ok (.if_icmp .eq off, 3)) (ht : (pc : Int) + off = (tgt : Int)) (kt : x = y → z_R p l e R s m args below meth c Q G base nL cells slots tgt lv st hp) (kf : ¬ x = y → z_R p l e R s m args below meth c Q G base nL cells slots (pc + 3) lv st hp) : z_R p l e R s m args below meth c Q G base nL cells slots pc lv (.int y :: .int x :: st) hp :=
  fun H locs ls h1 h2 h3 => lv_icmp_eq C.1 C.2.1 hd ht (fun h => kt h H locs ls h1 h2 h3) (fun h => kf h H locs ls h1 h2 h3)
theorem z_if_ne (C : z_C p s m args meth c cc nL own G base) {x : Int32} {off : Int} {tgt : Nat} (hd : decode cc pc = .ok (.ifCond .ne off, 3)) (ht : (pc : Int) + off = (tgt : Int)) (kt : ¬ x = 0 → z_R p l e R s m args below meth c Q G base nL cells slots tgt lv st hp) (kf : x = 0 → z_R p l e R s m args below meth c Q G base nL cells slots (pc + 3) lv st hp) : z_R p l e R s m args below meth c Q G base nL cells slots pc lv (.int x :: st) hp :=
  fun H locs ls h1 h2 h3 => lv_if_ne C.1 C.2.1 hd ht (fun h => kt h H locs ls h1 h2 h3) (fun h => kf h H locs ls h1 h2 h3)
theorem z_icmp_ne (C : z_C p s m args meth c cc nL own G base) {x y : Int32} {off : Int} {tgt : Nat} (hd : decode cc pc = .ok (.if_icmp .ne off, 3)) (ht : (pc : Int) + off = (tgt : Int)) (kt : ¬ x = y → z_R p l e R s m args below meth c Q G base nL cells slots tgt lv st hp) (kf : x = y → z_R p l e R s m args below meth c Q G base nL cells slots (pc + 3) lv st hp) : z_R p l e R s m args below meth c Q G base nL cells slots pc lv (.int y :: .int x :: st) hp :=
  fun H locs ls h1 h2 h3 => lv_icmp_ne C.1 C.2.1 hd ht (fun h => kt h H locs ls h1 h2 h3) (fun h => kf h H locs ls h1 h2 h3)
theorem z_if_lt (C : z_C p s m args meth c cc nL own G base) {x : Int32} {off : Int} {tgt : Nat} (hd : decode cc pc = .ok (.ifCond .lt off, 3)) (ht : (pc : Int) + off = (tgt : Int)) (kt : x < 0 → z_R p l e R s m args below meth c Q G base nL cells slots tgt lv st hp) (kf : ¬ x < 0 → z_R p l e R s m args below meth c Q G base nL cells slots (pc + 3) lv st hp) : z_R p l e R s m args below meth c Q G base nL cells slots pc lv (.int x :: st) hp :=
  fun H locs ls h1 h2 h3 => lv_if_lt C.1 C.2.1 hd ht (fun h => kt h H locs ls h1 h2 h3) (fun h => kf h H locs ls h1 h2 h3)
theorem z_icmp_lt (C : z_C p s m args meth c cc nL own G base) {x y : Int32} {off : Int} {tgt : Nat} (hd : decode cc pc = .ok (.if_icmp .lt off, 3)) (ht : (pc : Int) + off = (tgt : Int)) (kt : x < y → z_R p l e R s m args below meth c Q G base nL cells slots tgt lv st hp) (kf : ¬ x < y → z_R p l e R s m args below meth c Q G base nL cells slots (pc + 3) lv st hp) : z_R p l e R s m args below meth c Q G base nL cells slots pc lv (.int y :: .int x :: st) hp :=
  fun H locs ls h1 h2 h3 => lv_icmp_lt C.1 C.2.1 hd ht (fun h => kt h H locs ls h1 h2 h3) (fun h => kf h H locs ls h1 h2 h3)
theorem z_if_ge (C : z_C p s m args meth c cc nL own G base) {x : Int32} {off : Int} {tgt : Nat} (hd : decode cc pc = .ok (.ifCond .ge off, 3)) (ht : (pc : Int) + off = (tgt : Int)) (kt : 0 ≤ x → z_R p l e R s m args below meth c Q G base nL cells slots tgt lv st hp) (kf : ¬ 0 ≤ x → z_R p l e R s m args below meth c Q G base nL cells slots (pc + 3) lv st hp) : z_R p l e R s m args below meth c Q G base nL cells slots pc lv (.int x :: st) hp :=
  fun H locs ls h1 h2 h3 => lv_if_ge C.1 C.2.1 hd ht (fun h => kt h H locs ls h1 h2 h3) (fun h => kf h H locs ls h1 h2 h3)
theorem z_icmp_ge (C : z_C p s m args meth c cc nL own G base) {x y : Int32} {off : Int} {tgt : Nat} (hd : decode cc pc = .ok (.if_icmp .ge off, 3)) (ht : (pc : Int) + off = (tgt : Int)) (kt : y ≤ x → z_R p l e R s m args below meth c Q G base nL cells slots tgt lv st hp) (kf : ¬ y ≤ x → z_R p l e R s m args below meth c Q G base nL cells slots (pc + 3) lv st hp) : z_R p l e R s m args below meth c Q G base nL cells slots pc lv (.int y :: .int x :: st) hp :=
  fun H locs ls h1 h2 h3 => lv_icmp_ge C.1 C.2.1 hd ht (fun h => kt h H locs ls h1 h2 h3) (fun h => kf h H locs ls h1 h2 h3)
theorem z_if_gt (C : z_C p s m args meth c cc nL own G base) {x : Int32} {off : Int} {tgt : Nat} (hd : decode cc pc = .ok (.ifCond .gt off, 3)) (ht : (pc : Int) + off = (tgt : Int)) (kt : 0 < x → z_R p l e R s m args below meth c Q G base nL cells slots tgt lv st hp) (kf : ¬ 0 < x → z_R p l e R s m args below meth c Q G base nL cells slots (pc + 3) lv st hp) : z_R p l e R s m args below meth c Q G base nL cells slots pc lv (.int x :: st) hp :=
  fun H locs ls h1 h2 h3 => lv_if_gt C.1 C.2.1 hd ht (fun h => kt h H locs ls h1 h2 h3) (fun h => kf h H locs ls h1 h2 h3)
theorem z_icmp_gt (C : z_C p s m args meth c cc nL own G base) {x y : Int32} {off : Int} {tgt : Nat} (hd : decode cc pc = .ok (.if_icmp .gt off, 3)) (ht : (pc : Int) + off = (tgt : Int)) (kt : y < x → z_R p l e R s m args below meth c Q G base nL cells slots tgt lv st hp) (kf : ¬ y < x → z_R p l e R s m args below meth c Q G base nL cells slots (pc + 3) lv st hp) : z_R p l e R s m args below meth c Q G base nL cells slots pc lv (.int y :: .int x :: st) hp :=
  fun H locs ls h1 h2 h3 => lv_icmp_gt C.1 C.2.1 hd ht (fun h => kt h H locs ls h1 h2 h3) (fun h => kf h H locs ls h1 h2 h3)
theorem z_if_le (C : z_C p s m args meth c cc nL own G base) {x : Int32} {off : Int} {tgt : Nat} (hd : decode cc pc = .ok (.ifCond .le off, 3)) (ht : (pc : Int) + off = (tgt : Int)) (kt : x ≤ 0 → z_R p l e R s m args below meth c Q G base nL cells slots tgt lv st hp) (kf : ¬ x ≤ 0 → z_R p l e R s m args below meth c Q G base nL cells slots (pc + 3) lv st hp) : z_R p l e R s m args below meth c Q G base nL cells slots pc lv (.int x :: st) hp :=
  fun H locs ls h1 h2 h3 => lv_if_le C.1 C.2.1 hd ht (fun h => kt h H locs ls h1 h2 h3) (fun h => kf h H locs ls h1 h2 h3)
theorem z_icmp_le (C : z_C p s m args meth c cc nL own G base) {x y : Int32} {off : Int} {tgt : Nat} (hd : decode cc pc = .ok (.if_icmp .le off, 3)) (ht : (pc : Int) + off = (tgt : Int)) (kt : x ≤ y → z_R p l e R s m args below meth c Q G base nL cells slots tgt lv st hp) (kf : ¬ x ≤ y → z_R p l e R s m args below meth c Q G base nL cells slots (pc + 3) lv st hp) : z_R p l e R s m args below meth c Q G base nL cells slots pc lv (.int y :: .int x :: st) hp :=
  fun H locs ls h1 h2 h3 => lv_icmp_le C.1 C.2.1 hd ht (fun h => kt h H locs ls h1 h2 h3) (fun h => kf h H locs ls h1 h2 h3)
theorem z_tabOut (C : z_C p s m args meth c cc nL own G base) {dflt lo hi : Int} {offs : Array Int} {len : Nat} {x : Int32} {tgt : Nat} (hd : decode cc pc = .ok (.tableswitch dflt lo hi offs, len)) (h : x.toInt < lo ∨ hi < x.toInt) (ht : (pc : Int) + dflt = (tgt : Int)) (k : z_R p l e R s m args below meth c Q G base nL cells slots tgt lv st hp) : z_R p l e R s m args below meth c Q G base nL cells slots pc lv (.int x :: st) hp :=
  fun H locs ls h1 h2 h3 => lv_tableOut C.1 C.2.1 hd h ht (k H locs ls h1 h2 h3)
theorem z_tabIn (C : z_C p s m args meth c cc nL own G base) {dflt lo hi : Int} {offs : Array Int} {len : Nat} {x : Int32} {off : Int} {tgt : Nat} (hd : decode cc pc = .ok (.tableswitch dflt lo hi offs, len)) (ha : ¬ x.toInt < lo) (hb : ¬ hi < x.toInt) (ho : offs[(x.toInt - lo).toNat]? = some off) (ht : (pc : Int) + off = (tgt : Int)) (k : z_R p l e R s m args below meth c Q G base nL cells slots tgt lv st hp) : z_R p l e R s m args below meth c Q G base nL cells slots pc lv (.int x :: st) hp :=
  fun H locs ls h1 h2 h3 => lv_tableIn C.1 C.2.1 hd ha hb ho ht (k H locs ls h1 h2 h3)
/-- a field's link: who, by which place of its pool; of which class, which slot -/
def z_FL (own : String) (idx ci k : Nat) : Prop := ∃ q : vw_C, vwCl[ci]? = some q ∧ k < q.2.2 ∧ (∀ w ∈ u_ws q.1 q.2.1 q.2.2, w ∈ z_W) ∧ Cond.fieldLink own idx (q.2.1 k).1 (q.2.1 k).2.1 (q.2.1 k).2.2.1 ∈ z_W
theorem z_get (C : z_C p s m args meth c cc nL own G base) {idx ci k i : Nat} {fs : List Value} {v : Value} (hf : z_FL own idx ci k) (hd : decode cc pc = .ok (.getfield idx, 3)) (he : hp[i]? = some (.inr (ci, fs))) (hv : fs[k]? = some v) (kk : z_R p l e R s m args below meth c Q G base nL cells slots (pc + 3) lv (v :: st) hp) : z_R p l e R s m args below meth c Q G base nL cells slots pc lv (.ref (base + i) :: st) hp := by
  intro H locs ls h1 h2 h3
  obtain ⟨⟨Cn, T, N⟩, hc, hk, hin, hw⟩ := hf
  exact va_get (D := G.1) (cl := vwCl) (tys := z_Ty G.2) (ws := [(base + i, .inr (ci, fs))]) (C := Cn) (T := T) (N := N) C.1 C.2.1 C.2.2.2.2.1 hin C.2.2.2.1 C.2.2.2.2.2.1.1 (fun a q hq => by
    cases a with
    | zero => cases hq; exact h1.2 i _ he
    | succ a => cases hq) 0 rfl hc k hk (C.2.2.2.2.1 _ hw) (fun _ h => h) hv hd (kk H locs ls h1 h2 h3)
/-- the types of a class' fields -/
def z_FP (ci : Nat) (ty : Nat → FieldType) : Prop := ∃ q : vw_C, vwCl[ci]? = some q ∧ (∀ k, k < q.2.2 → parseFieldDescriptor (q.2.1 k).2.2.1 = some (ty k)) ∧ (∀ a, a < q.2.2 → ∀ b, b < q.2.2 → a ≠ b → (q.2.1 a).2.1 ≠ (q.2.1 b).2.1)
def z_fin (ci k : Nat) : Option Bool := (vwCl[ci]?).map (fun q => (q.2.1 k).2.2.2)
def z_dcl (ci k : Nat) : Option String := (vwCl[ci]?).map (fun q => (q.2.1 k).1)
theorem z_put (C : z_C p s m args meth c cc nL own G base) {idx ci k i : Nat} {fs : List Value} {v : Value} {ty : Nat → FieldType} (hf : z_FL own idx ci k) (ht : z_FP ci ty) (hfi : z_fin ci k = some false) (hd : decode cc pc = .ok (.putfield idx, 3)) (he : hp[i]? = some (.inr (ci, fs))) (hl : k < fs.length) (hn : narrow (ty k) v = v) (hfit : fits (ty k) v = true) (kk : z_R p l e R s m args below meth c Q G base nL cells slots (pc + 3) lv st (hp.set i (.inr (ci, fs.set k v)))) : z_R p l e R s m args below meth c Q G base nL cells slots pc lv (v :: .ref (base + i) :: st) hp := by
  intro H locs ls h1 h2 h3
  obtain ⟨⟨Cn, T, N⟩, hc, hk, hin, hw⟩ := hf
  obtain ⟨q, hc2, hty, hnm⟩ := ht
  have e : q = (Cn, T, N) := Option.some.inj (hc2.symm.trans hc)
  subst e
  have hfin : (T k).2.2.2 = false := by
    unfold z_fin at hfi
    rw [hc] at hfi
    exact Option.some.inj hfi
  have hts := C.2.2.2.2.1
  have hK := C.2.2.2.2.2.1.1
  have hown := C.2.2.2.1
  have hap := va_apart (own := own) hts hin ty hty hnm hK hc
  obtain ⟨r, g1, cell, q1, q2, q3, q4⟩ := h1.2 i _ he
  have hr : r = (Cn, T, N) := Option.some.inj (g1.symm.trans hc)
  subst hr
  obtain ⟨hS, hfc, kC, hkC, hkind⟩ := hK.1 ci _ hc
  obtain ⟨cf, kf, fi, f, hi, hsl⟩ := hS k hk
  have hlay := hts _ (hin _ (u_in_lay hk))
  unfold u_lay at hlay
  rw [if_neg (by rw [hfin]; decide)] at hlay
  have hst := (u_facts hfc hkC (u_lays hts hin hk) hi).1
  have h6 := u_store hfc hkC hkind hlay hi (hty k hk) hn hfit
  refine W.putK C.1 C.2.1 (f := f) ⟨hown, hts _ hw, ⟨_, _, _, hi⟩, hst⟩ (by rw [q2]; exact h6) q1 q3 (by rw [hsl]; exact k2_hasslot (q4 k hk)) rfl rfl hd fun H' e1 e2 e3 => ?_
  rw [hsl] at e1 ⊢
  exact kk H' _ ls (h1.set e2 e3 ⟨_, hc, t_OB.to (V := updV (vp_V fs) k v) ⟨_, e1, q2, q3, t_set q4 hap hk v⟩ (fun j _ => vp_updV_set hl v j)⟩) (h2.put e2 e3 (Nat.le_add_right _ _)) h3
theorem z_putF (C : z_C p s m args meth c cc nL own G base) {idx ci k i : Nat} {fs : List Value} {v : Value} {ty : Nat → FieldType} (hmn : meth.name = "<init>") (hf : z_FL own idx ci k) (ht : z_FP ci ty) (hfi : z_fin ci k = some true) (hdc : z_dcl ci k = some own) (hd : decode cc pc = .ok (.putfield idx, 3)) (he : hp[i]? = some (.inr (ci, fs))) (hl : k < fs.length) (hn : narrow (ty k) v = v) (hfit : fits (ty k) v = true) (kk : z_R p l e R s m args below meth c Q G base nL cells slots (pc + 3) lv st (hp.set i (.inr (ci, fs.set k v)))) : z_R p l e R s m args below meth c Q G base nL cells slots pc lv (v :: .ref (base + i) :: st) hp := by
  intro H locs ls h1 h2 h3
  obtain ⟨⟨Cn, T, N⟩, hc, hk, hin, hw⟩ := hf
  obtain ⟨q, hc2, hty, hnm⟩ := ht
  have e : q = (Cn, T, N) := Option.some.inj (hc2.symm.trans hc)
  subst e
  have hfin : (T k).2.2.2 = true := by
    unfold z_fin at hfi
    rw [hc] at hfi
    exact Option.some.inj hfi
  have hdecl : (T k).1 = own := by
    unfold z_dcl at hdc
    rw [hc] at hdc
    exact Option.some.inj hdc
  have hts := C.2.2.2.2.1
  have hK := C.2.2.2.2.2.1.1
  have hown := C.2.2.2.1
  have hap := va_apart (own := own) hts hin ty hty hnm hK hc
  obtain ⟨r, g1, cell, q1, q2, q3, q4⟩ := h1.2 i _ he
  have hr : r = (Cn, T, N) := Option.some.inj (g1.symm.trans hc)
  subst hr
  obtain ⟨hS, hfc, kC, hkC, hkind⟩ := hK.1 ci _ hc
  obtain ⟨cf, kf, fi, f, hi, hsl⟩ := hS k hk
  have hlay := hts _ (hin _ (u_in_lay hk))
  unfold u_lay at hlay
  rw [if_pos hfin] at hlay
  have hst := (u_facts hfc hkC (u_lays hts hin hk) hi).1
  have hcf : m.cls = cf := by
    obtain ⟨_, _, c', _, _, _, -, -, hf', -, -, -, hown2, -⟩ := Cond.laysFinal_spec hlay
    have e1 : c' = cf := by have := hi.symm.trans hf'; simp at this; exact this.1.symm
    rw [hdecl] at hown2
    rw [← e1]; exact Option.some.inj (hown.symm.trans hown2)
  have h6 := u_fits hfc hkC hkind (Or.inr hlay) hi (hty k hk) hn hfit
  refine W.putFinK C.1 C.2.1 hown (hts _ hw) hi hst hcf hmn (by rw [q2]; exact h6) q1 q3 (by rw [hsl]; exact k2_hasslot (q4 k hk)) rfl rfl hd fun H' e1 e2 e3 => ?_
  rw [hsl] at e1 ⊢
  exact kk H' _ ls (h1.set e2 e3 ⟨_, hc, t_OB.to (V := updV (vp_V fs) k v) ⟨_, e1, q2, q3, t_set q4 hap hk v⟩ (fun j _ => vp_updV_set hl v j)⟩) (h2.put e2 e3 (Nat.le_add_right _ _)) h3
end ZR
end
section
section ZR2
variable {p : Program} {l : Launch} {e : Env} {R : Room} {s : State} {m : MethodId} {args : Array Value} {below : List Frame} {meth : Method} {c : Code} {Q : State → Prop} {cc : ByteArray} {own : String} {G : z_G} {base nL cells slots pc : Nat} {lv : List (Nat × Value)} {st : List Value} {hp : List va_E}
theorem z_one {G : z_G} {base i : Nat} {e : va_E} {hp : List va_E} {H : Heap} (h1 : z_H G base hp H) (he : hp[i]? = some e) : va_P G.1 vwCl [(base + i, e)] H := fun a q hq => by
  cases a with
  | zero => cases hq; exact h1.2 i _ he
  | succ a => cases hq
theorem z_own {G : z_G} {base i : Nat} {e : va_E} : va_D (fun q => base ≤ q) [(base + i, e)] := by
  refine ⟨fun a b p q ha hb _ => ?_, fun a q hq => ?_⟩
  · cases a with
    | zero => cases b with
      | zero => rfl
      | succ b => cases hb
    | succ a => cases ha
  · cases a with
    | zero => cases hq; exact Nat.le_add_right _ _
    | succ a => cases hq
theorem z_iald (C : z_C p s m args meth c cc nL own G base) {i n : Nat} {f : Nat → Int32} {j : Int32} (hd : decode cc pc = .ok (.iaload, 1)) (he : hp[i]? = some (.inl (G.2 0, n, .inl f))) (hin : vp_in j n) (kk : z_R p l e R s m args below meth c Q G base nL cells slots (pc + 1) lv (.int (f j.toNatClampNeg) :: st) hp) : z_R p l e R s m args below meth c Q G base nL cells slots pc lv (.int j :: .ref (base + i) :: st) hp :=
  fun H locs ls h1 h2 h3 => va_iald C.1 C.2.1 C.2.2.2.2.2.1.1 (z_one h1 he) 0 0 rfl rfl hin hd (kk H locs ls h1 h2 h3)
theorem z_zald (C : z_C p s m args meth c cc nL own G base) {i n : Nat} {f : Nat → Int32} {j : Int32} (hd : decode cc pc = .ok (.baload, 1)) (he : hp[i]? = some (.inl (G.2 2, n, .inl f))) (hin : vp_in j n) (kk : z_R p l e R s m args below meth c Q G base nL cells slots (pc + 1) lv (.int (f j.toNatClampNeg) :: st) hp) : z_R p l e R s m args below meth c Q G base nL cells slots pc lv (.int j :: .ref (base + i) :: st) hp :=
  fun H locs ls h1 h2 h3 => va_zald C.1 C.2.1 C.2.2.2.2.2.1.1 (z_one h1 he) 0 2 rfl rfl hin hd (kk H locs ls h1 h2 h3)
theorem z_lald (C : z_C p s m args meth c cc nL own G base) {i n : Nat} {f : Nat → Int64} {j : Int32} (hd : decode cc pc = .ok (.laload, 1)) (he : hp[i]? = some (.inl (G.2 1, n, .inr (.inl f)))) (hin : vp_in j n) (kk : z_R p l e R s m args below meth c Q G base nL cells slots (pc + 1) lv (.long (f j.toNatClampNeg) :: st) hp) : z_R p l e R s m args below meth c Q G base nL cells slots pc lv (.int j :: .ref (base + i) :: st) hp :=
  fun H locs ls h1 h2 h3 => va_lald C.1 C.2.1 C.2.2.2.2.2.1.1 (z_one h1 he) 0 1 rfl rfl hin hd (kk H locs ls h1 h2 h3)
theorem z_aald (C : z_C p s m args meth c cc nL own G base) {i n t : Nat} {Cn : String} {f : Nat → Option Nat} {j : Int32} (ht : (z_Ty G.2)[t]? = some (G.2 t, .object Cn)) (hd : decode cc pc = .ok (.aaload, 1)) (he : hp[i]? = some (.inl (G.2 t, n, .inr (.inr (.inr (.inr f)))))) (hin : vp_in j n) (kk : z_R p l e R s m args below meth c Q G base nL cells slots (pc + 1) lv (va_rf (f j.toNatClampNeg) :: st) hp) : z_R p l e R s m args below meth c Q G base nL cells slots pc lv (.int j :: .ref (base + i) :: st) hp :=
  fun H locs ls h1 h2 h3 => va_aldq C.1 C.2.1 C.2.2.2.2.2.1.1 (z_one h1 he) 0 t rfl ht hin hd (kk H locs ls h1 h2 h3)
theorem z_iast (C : z_C p s m args meth c cc nL own G base) {i n : Nat} {f : Nat → Int32} {j x : Int32} (hd : decode cc pc = .ok (.iastore, 1)) (he : hp[i]? = some (.inl (G.2 0, n, .inl f))) (hin : vp_in j n) (kk : z_R p l e R s m args below meth c Q G base nL cells slots (pc + 1) lv st (hp.set i (.inl (G.2 0, n, .inl (upd f j.toNatClampNeg x))))) : z_R p l e R s m args below meth c Q G base nL cells slots pc lv (.int x :: .int j :: .ref (base + i) :: st) hp := by
  intro H locs ls h1 h2 h3
  refine W.iast C.1 C.2.1 (h1.2 i _ he) ((C.2.2.2.2.2.1.1.2 0 _ rfl).1 n (fun j => .int (f j))) (fun q => by cases q) (by show ¬ (j < 0 ∨ (arrV _ _ _).slots.size ≤ _); rw [arrV_size]; exact hin) rfl rfl hd fun H1 e z oq => ?_
  refine kk H1 _ ls (h1.set z oq ?_) (h2.put z oq (Nat.le_add_right _ _)) h3
  show H1[base + i]? = some (vp_cell _ _)
  rw [e]
  rw [vp_cell_i, vp_cell_i, arrV_store]
  congr 2
  funext q
  by_cases hq : q = j.toNatClampNeg
  · subst hq
    simp [updV, upd]
  · simp [updV, upd, hq]
theorem z_zast (C : z_C p s m args meth c cc nL own G base) {i n : Nat} {f : Nat → Int32} {j x : Int32} (hd : decode cc pc = .ok (.bastore, 1)) (he : hp[i]? = some (.inl (G.2 2, n, .inl f))) (hin : vp_in j n) (kk : z_R p l e R s m args below meth c Q G base nL cells slots (pc + 1) lv st (hp.set i (.inl (G.2 2, n, .inl (upd f j.toNatClampNeg (vp_nar .boolean x)))))) : z_R p l e R s m args below meth c Q G base nL cells slots pc lv (.int x :: .int j :: .ref (base + i) :: st) hp := by
  intro H locs ls h1 h2 h3
  refine W.zast C.1 C.2.1 (h1.2 i _ he) ((C.2.2.2.2.2.1.1.2 2 _ rfl).1 n (fun j => .int (f j))) (fun q => by cases q) (by show ¬ (j < 0 ∨ (arrV _ _ _).slots.size ≤ _); rw [arrV_size]; exact hin) rfl rfl hd fun H1 e z oq => ?_
  refine kk H1 _ ls (h1.set z oq ?_) (h2.put z oq (Nat.le_add_right _ _)) h3
  show H1[base + i]? = some (vp_cell _ _)
  rw [e]
  rw [vp_cell_i, vp_cell_i, arrV_store]
  congr 2
  funext q
  by_cases hq : q = j.toNatClampNeg
  · subst hq
    simp [updV, upd, vp_nar, narrow]
  · simp [updV, upd, hq]
theorem z_last (C : z_C p s m args meth c cc nL own G base) {i n : Nat} {f : Nat → Int64} {j : Int32} {x : Int64} (hd : decode cc pc = .ok (.lastore, 1)) (he : hp[i]? = some (.inl (G.2 1, n, .inr (.inl f)))) (hin : vp_in j n) (kk : z_R p l e R s m args below meth c Q G base nL cells slots (pc + 1) lv st (hp.set i (.inl (G.2 1, n, .inr (.inl (vp_updL f j.toNatClampNeg x)))))) : z_R p l e R s m args below meth c Q G base nL cells slots pc lv (.long x :: .int j :: .ref (base + i) :: st) hp := by
  intro H locs ls h1 h2 h3
  refine W.last C.1 C.2.1 (h1.2 i _ he) ((C.2.2.2.2.2.1.1.2 1 _ rfl).1 n (fun j => .long (f j))) (fun q => by cases q) (by show ¬ (j < 0 ∨ (arrV _ _ _).slots.size ≤ _); rw [arrV_size]; exact hin) rfl rfl hd fun H1 e z oq => ?_
  refine kk H1 _ ls (h1.set z oq ?_) (h2.put z oq (Nat.le_add_right _ _)) h3
  show H1[base + i]? = some (vp_cell _ _)
  rw [e]
  rw [vp_cell_l, vp_cell_l, arrV_store]
  congr 2
  funext q
  by_cases hq : q = j.toNatClampNeg
  · subst hq
    simp [updV, vp_updL]
  · simp [updV, vp_updL, hq]
theorem z_aast (C : z_C p s m args meth c cc nL own G base) {i n t ci v : Nat} {r : vw_C} {vs : List Value} {f : Nat → Option Nat} {j : Int32} (hc : vwCl[ci]? = some r) (ht : (z_Ty G.2)[t]? = some (G.2 t, .object r.1)) (hd : decode cc pc = .ok (.aastore, 1)) (he : hp[i]? = some (.inl (G.2 t, n, .inr (.inr (.inr (.inr f)))))) (hv : hp[v]? = some (.inr (ci, vs))) (hin : vp_in j n) (kk : z_R p l e R s m args below meth c Q G base nL cells slots (pc + 1) lv st (hp.set i (.inl (G.2 t, n, .inr (.inr (.inr (.inr (va_up f j.toNatClampNeg (some (base + v)))))))))) : z_R p l e R s m args below meth c Q G base nL cells slots pc lv (.ref (base + v) :: .int j :: .ref (base + i) :: st) hp := by
  intro H locs ls h1 h2 h3
  have hK := C.2.2.2.2.2.1.1
  have hlt : j.toNatClampNeg < n := Nat.not_le.mp fun q => hin (Or.inr q)
  have h0 : ¬ j < 0 := fun q => hin (Or.inl q)
  obtain ⟨r', hr', cellV, g1, g2, g3, -⟩ := h1.2 v _ hv
  have hcls := (hK.1 ci r hc).2
  obtain ⟨kA, comp, k1, k2, k3, -⟩ := (hK.2 t _ ht).2
  have hcomp : comp = G.1.1 ci := Option.some.inj (k3.symm.trans hcls.1)
  subst hcomp
  have hcls' := hcls
  obtain ⟨kC, hkC, -⟩ := hcls.2
  refine W.aast C.1 C.2.1 (h1.2 i _ he) (fun q h => by cases h) (fun h => by cases h) k1 k2 rfl hkC ⟨h0, by show _ < (arrV _ _ _).slots.size; rw [arrV_size]; exact hlt⟩ g1 (fun q h => by rw [g3] at h; cases h) (by rw [g2]; exact hkC) (by rw [g2]; exact va_assign hcls') rfl rfl hd fun H1 e z oq => ?_
  refine kk H1 _ ls (h1.set z oq ?_) (h2.put z oq (Nat.le_add_right _ _)) h3
  show H1[base + i]? = some (vp_cell _ _)
  rw [e]
  rw [vp_cell_q, vp_cell_q, arrV_store]
  congr 2
  funext q
  by_cases hq : q = j.toNatClampNeg
  · subst hq
    simp [updV, va_up, va_rf]
  · simp [updV, va_up, hq]
theorem z_newa (C : z_C p s m args meth c cc nL own G base) {atype : ArrayType} {t : Nat} {n : Int32} {N : Nat} {ty : FieldType} {a0 : vp_A} (hty : newarray.typeOf atype = ty) (hpr : refKind ty = false) (hw : Cond.arrayClass ty ∈ z_W) (ht : (z_Ty G.2)[t]? = some (G.2 t, ty)) (ha : ∀ cA : ClassId, vp_cell cA a0 = arrV cA N (fun _ => defaultValue ty)) (hd : decode cc pc = .ok (.newarray atype, 2)) (hn : ¬ n < 0) (hN : n.toNatClampNeg = N) (hby : N * componentBytes ty ≤ 536870912) (hcells : cells + 1 ≤ R.cells) (hslots : slots + N ≤ R.slots)
    (kk : z_R p l e R s m args below meth c Q G base nL (cells + 1) (slots + N) (pc + 2) lv (.ref (base + hp.length) :: st) (hp ++ [.inl (G.2 t, a0)])) : z_R p l e R s m args below meth c Q G base nL cells slots pc lv (.int n :: st) hp := by
  intro H locs ls h1 h2 h3
  subst hty
  refine va_newaK C.1 C.2.1 (C.2.2.2.2.1 _ hw) (g := F0 m pc ls (.int n :: st)) rfl hd rfl hn hN hby hcells hslots (h := base + hp.length) h1.1 fun H' cA e1 e2 e3 e4 e5 => ?_
  have hcA : cA = G.2 t := by
    have h9 := (C.2.2.2.2.2.1.1.2 t _ ht).2
    have h8 : s.vm.findClass ("[" ++ (newarray.typeOf atype).toString) = some (G.2 t) := by
      cases hq : newarray.typeOf atype <;> rw [hq] at h9 hpr <;> first | exact h9 | cases hpr
    exact Option.some.inj (e5.symm.trans h8)
  subst hcA
  refine kk H' locs ls (h1.push (by rw [e2, h1.1]) (fun q hq => e3 q (by rw [← h1.1]; exact hq)) ?_) ⟨by rw [e2, ← h1.1]; exact Nat.le_trans h2.1 (Nat.le_succ _), fun q hq hA => by rw [e3 q (by rw [← h1.1]; exact Nat.lt_of_lt_of_le hq h2.1)]; exact h2.2.1 q hq hA, h2.2.2⟩ h3
  show H'[base + hp.length]? = some (vp_cell _ _)
  rw [ha, e1]
theorem z_anew (C : z_C p s m args meth c cc nL own G base) {idx t : Nat} {Cn : String} {n : Int32} {N : Nat} (hw : Cond.classLink own idx Cn ∈ z_W) (hov : va_AO Cn s) (ht : (z_Ty G.2)[t]? = some (G.2 t, .object Cn)) (hd : decode cc pc = .ok (.anewarray idx, 3)) (hn : ¬ n < 0) (hN : n.toNatClampNeg = N) (hby : N * 4 ≤ 536870912) (hcells : cells + 1 ≤ R.cells) (hslots : slots + N ≤ R.slots)
    (kk : z_R p l e R s m args below meth c Q G base nL (cells + 1) (slots + N) (pc + 3) lv (.ref (base + hp.length) :: st) (hp ++ [.inl (G.2 t, N, .inr (.inr (.inr (.inr (fun _ => none)))))])) : z_R p l e R s m args below meth c Q G base nL cells slots pc lv (.int n :: st) hp := by
  intro H locs ls h1 h2 h3
  subst hN
  refine W.anew C.1 C.2.1 C.2.2.2.1 (C.2.2.2.2.1 _ hw) hov.use (g := F0 m pc ls (.int n :: st)) rfl hd rfl hn hby hcells hslots fun cA kA comp e1 e2 e3 e4 => ?_
  have hcA : cA = G.2 t := by
    obtain ⟨kA', comp', -, -, -, h9⟩ := (C.2.2.2.2.2.1.1.2 t _ ht).2
    exact Option.some.inj (e1.symm.trans h9)
  subst hcA
  have hsz : H.size = base + hp.length := h1.1
  rw [hsz]
  refine kk _ locs ls (h1.push (by simp) (fun q hq => by rw [Array.getElem?_push, if_neg (Nat.ne_of_lt hq)]) ?_) ⟨by rw [Array.size_push]; exact Nat.le_trans h2.1 (Nat.le_succ _), fun q hq hA => by rw [Array.getElem?_push, if_neg (Nat.ne_of_lt (Nat.lt_of_lt_of_le hq h2.1))]; exact h2.2.1 q hq hA, h2.2.2⟩ h3
  show (H.push _)[base + hp.length]? = some (vp_cell _ _)
  rw [vp_cell_q, ← hsz, Array.getElem?_push_size]
  congr 1
  unfold arrV
  congr 1
  apply Array.ext
  · simp
  · intro i a b
    simp [va_rf]
theorem z_new (C : z_C p s m args meth c cc nL own G base) {idx ci N : Nat} {Cn : String} {T : u_T} {ty : Nat → FieldType} {fs : List Value} (hc : vwCl[ci]? = some (Cn, T, N)) (hin : ∀ w ∈ u_ws Cn T N, w ∈ z_W) (hty : ∀ k, k < N → parseFieldDescriptor (T k).2.2.1 = some (ty k)) (hw : Cond.classLink own idx Cn ∈ z_W) (hw2 : Cond.instantiable Cn N ∈ z_W) (hw3 : Cond.initialized Cn ∈ z_W) (hfs : ∀ j, j < N → defaultValue (ty j) = vp_V fs j) (hd : decode cc pc = .ok (.new idx, 3)) (hcells : cells + 1 ≤ R.cells) (hslots : slots + N ≤ R.slots)
    (kk : z_R p l e R s m args below meth c Q G base nL (cells + 1) (slots + N) (pc + 3) lv (.ref (base + hp.length) :: st) (hp ++ [.inr (ci, fs)])) : z_R p l e R s m args below meth c Q G base nL cells slots pc lv st hp := by
  intro H locs ls h1 h2 h3
  have hts := C.2.2.2.2.1
  have hKn := C.2.2.2.2.2.1.1.1 ci _ hc
  refine W.newcK C.1 C.2.1 C.2.2.2.1 (hts _ hw) (hts _ hw2) (hts _ hw3) (g := F0 m pc ls st) rfl hd hcells hslots hKn.2.1 h1.1 fun H1 kC hkC e1 z1 o1 => ?_
  exact kk H1 locs ls (h1.push (by rw [z1, h1.1]) (fun q hq => o1 q (by rw [← h1.1]; exact hq)) ⟨_, hc, (u_born ty hts hin hKn hkC e1 hty).to hfs⟩) ⟨by rw [z1, ← h1.1]; exact Nat.le_trans h2.1 (Nat.le_succ _), fun q hq hA => (o1 q (by rw [← h1.1]; exact Nat.lt_of_lt_of_le hq h2.1)).trans (h2.2.1 q hq hA), h2.2.2⟩ h3
end ZR2
end
section
section ZR3
variable {p : Program} {l : Launch} {e : Env} {R : Room} {s : State} {m : MethodId} {args : Array Value} {below : List Frame} {meth : Method} {c : Code} {Q : State → Prop} {cc : ByteArray} {own : String} {G : z_G} {base nL cells slots pc : Nat} {lv : List (Nat × Value)} {st : List Value} {hp : List va_E}
theorem z_N_warm {s U : State} (hW : s.WarmedH U.vm) (h : ∀ w ∈ z_N, va_Nw w s) : ∀ w ∈ z_N, va_Nw w U := by
  intro w hw
  have h1 := h w hw
  simp only [z_N, List.mem_cons, List.not_mem_nil, or_false] at hw
  rcases hw with rfl | rfl | rfl | rfl <;> exact va_Nw.warmM hW h1
theorem z_K.warm {s U : State} (hW : s.WarmedH U.vm) (h : z_K G s) : z_K G U := ⟨va_K.moved hW.alike h.1, z_N_warm hW h.2.1, h.2.2.1.moved hW.alike, h.2.2.2.moved hW.alike⟩
theorem z_Pc.blind {as : List Value} : FrameBlind (z_Pc G base as hp) := by
  intro a U g mk h
  obtain ⟨h1, h2, h3⟩ := h
  exact ⟨h1, h2, va_K.moved (u := U) (U := U.calling g mk a) (Vm.Alike.refl U.vm) h3.1, fun w hw => by
    have h4 := h3.2.1 w hw
    simp only [z_N, List.mem_cons, List.not_mem_nil, or_false] at hw
    rcases hw with rfl | rfl | rfl | rfl <;> exact va_Nw.same rfl rfl h4, h3.2.2.1.moved (U := U.calling g mk a) (Vm.Alike.refl U.vm), h3.2.2.2.moved (U := U.calling g mk a) (Vm.Alike.refl U.vm)⟩
/-- behind a call -/
theorem z_call {mc ms : Nat} {st0 rest : List Value} {a : Array Value} {post : Option Value → List va_E → Prop}
    (hr : ∀ (H : Heap) (locs : List Loc) (ls : Array Slot), z_H G base hp H → lv_has ls nL lv → va_Run p l e R s m args below meth c H locs cells slots mc ms (F0 m pc ls st0) rest (z_Qc G base post a) (fun q => base ≤ q))
    (kk : ∀ (v : Option Value) (hp' : List va_E), post v hp' → z_R p l e R s m args below meth c Q G base nL (cells + mc) (slots + ms) (pc + 3) lv (v.toList ++ rest) hp') : z_R p l e R s m args below meth c Q G base nL cells slots pc lv st0 hp := by
  intro H locs ls h1 h2 h3 T hT X
  obtain ⟨v, st₀, t, T', L, h0, X', hL, e1, e2, ⟨⟨v', hp', hv, hp1, hH⟩, hz, hk⟩, stp⟩ := hr H locs ls h1 h3 T hT X
  cases hv
  rw [h0] at hz hk
  obtain ⟨t2, a1, b1⟩ := kk v hp' hp1 T'.heap (locs ++ L) ls (by rw [e1]; exact hH)
    ⟨Nat.le_trans h2.1 (by rw [e1]; exact hz), fun q g1 g2 => by rw [e1, hk q (Nat.lt_of_lt_of_le g1 h2.1) g2]; exact h2.2.1 q g1 g2, fun q hq => by
      rcases List.mem_append.mp hq with h | h
      · exact h2.2.2 q h
      · exact hL q h⟩ h3 T' rfl X'
  exact ⟨t2, stp t2 a1, b1⟩
theorem z_goodIn {y : MethodName} {bc : ByteArray} {mL : Nat} {rt : Option FieldType} (h : Cond.code y bc mL rt ∈ z_W) : GoodIn z_W (Cond.code y bc mL rt :: z_W) := fun w hw => by
  rcases List.mem_cons.mp hw with rfl | hw
  · exact ⟨h, z_W_good _ h⟩
  · exact ⟨hw, z_W_good _ hw⟩
/-- a method's link, by its kind -/
def z_LB (y : MethodName) (n : Nat) : Prop := Cond.initialized y.cls ∈ z_W ∧ y.cls ≠ "java/lang/invoke/MethodHandle" ∧ y.cls ≠ "java/lang/invoke/VarHandle" ∧ (parseMethodDescriptor y.desc).map (fun d => d.parameters.length) = some n
def z_LV (own : String) (idx : Nat) (y : MethodName) (n : Nat) : Prop := Cond.methodLink own idx y ∈ z_W ∧ Cond.instanceMethod y ∈ z_W ∧ Cond.selects y.cls y y ∈ z_W ∧ z_LB y n
def z_LS (own : String) (idx : Nat) (y : MethodName) (n : Nat) : Prop := Cond.methodLink own idx y ∈ z_W ∧ Cond.static y ∈ z_W ∧ z_LB y n
def z_LI (own : String) (idx : Nat) (y : MethodName) (n : Nat) : Prop := Cond.methodLink own idx y ∈ z_W ∧ Cond.instanceMethod y ∈ z_W ∧ y.name = "<init>" ∧ z_LB y n
def z_LIN (own : String) (idx : Nat) (y : MethodName) (host : String) (n : Nat) : Prop := Cond.methodLinkNest own idx y host ∈ z_N ∧ Cond.instanceMethod y ∈ z_W ∧ y.name = "<init>" ∧ z_LB y n
def z_LSN (own : String) (idx : Nat) (y : MethodName) (host : String) (n : Nat) : Prop := Cond.methodLinkNest own idx y host ∈ z_N ∧ Cond.static y ∈ z_W ∧ z_LB y n
theorem z_callB (C : z_C p s m args meth c cc nL own G base) {y : MethodName} {bc : ByteArray} {mL : Nat} {rt : Option FieldType} {d mc ms n idx : Nat} (hcode : Cond.code y bc mL rt ∈ z_W) (hl : Cond.methodLink own idx y ∈ z_W) (hb : z_LB y n) (hR1 : d + 1 ≤ R.frames) (hR2 : 8 + (mL + 11) + 40 * d ≤ R.locals) : CallB R s args own idx y bc mL rt (Cond.code y bc mL rt :: z_W) (z_rm d mc ms) mc ms n :=
  callB_of n C.2.2.2.2.1 (z_goodIn hcode) rfl rfl rfl (C.2.2.2.2.1 _ hb.1) (C.2.2.2.2.1 _ hl) hb.2 ⟨hR1, hR2⟩
theorem z_callV (C : z_C p s m args meth c cc nL own G base) {y : MethodName} {bc : ByteArray} {mL : Nat} {rt : Option FieldType} {d mc ms n idx i ci : Nat} {As rest st0 : List Value} {fs : List Value} {post : Option Value → List va_E → Prop} (hM : z_M l G base y bc mL rt d mc ms (.ref (base + i) :: As) hp post) (hL : z_LV own idx y n) (hcode : Cond.code y bc mL rt ∈ z_W) (he : hp[i]? = some (.inr (ci, fs))) (hci : (vwCl[ci]?).map (fun q => q.1) = some y.cls) (hn : As.length = n) (hst : st0 = As.reverse ++ .ref (base + i) :: rest) (hrm : (rest.map fun v => v.category).sum ≤ 8) (hd : decode cc pc = .ok (.invokevirtual idx, 3)) (hR1 : d + 1 ≤ R.frames) (hR2 : 8 + (mL + 11) + 40 * d ≤ R.locals) (hcm : cells + mc ≤ R.cells) (hsm : slots + ms ≤ R.slots)
    (kk : ∀ (v : Option Value) (hp' : List va_E), post v hp' → z_R p l e R s m args below meth c Q G base nL (cells + mc) (slots + ms) (pc + 3) lv (v.toList ++ rest) hp') : z_R p l e R s m args below meth c Q G base nL cells slots pc lv st0 hp := by
  refine z_call (a := (Value.ref (base + i) :: As).toArray) (fun H locs ls h1 h3 => ?_) kk
  have hts := C.2.2.2.2.1
  refine va_runV (nL := nL) (n := n) (C := y.cls) (Ts := z_W) (own := own) (index := idx) ⟨C.1, C.2.1, C.2.2.1, C.2.2.2.1, hts⟩ hM ⟨z_callB C hcode hL.1 hL.2.2.2 hR1 hR2, hts _ hL.2.1, hts _ hL.2.2.1⟩ ⟨z_Pc.blind, ?_, fun U hU hW => ⟨rfl, by rw [hU]; exact h1, C.2.2.2.2.2.1.warm hW⟩⟩ rfl hn h3.1 hst (lv_room hrm) hd ⟨hcm, hsm⟩
  cases hq : vwCl[ci]? with
  | none => rw [hq] at hci; cases hci
  | some q =>
    rw [hq] at hci
    obtain ⟨cell, g1, g2, g3⟩ := va_recv (ws := [(base + i, .inr (ci, fs))]) (q0 := 0) C.2.2.2.2.2.1.1 (z_one h1 he) hq rfl
    exact ⟨cell, g1, g2, by rw [← Option.some.inj hci]; exact g3⟩
theorem z_callS (C : z_C p s m args meth c cc nL own G base) {y : MethodName} {bc : ByteArray} {mL : Nat} {rt : Option FieldType} {d mc ms n idx : Nat} {As rest st0 : List Value} {post : Option Value → List va_E → Prop} (hM : z_M l G base y bc mL rt d mc ms As hp post) (hL : z_LS own idx y n) (hcode : Cond.code y bc mL rt ∈ z_W) (hn : As.length = n) (hst : st0 = As.reverse ++ rest) (hrm : (rest.map fun v => v.category).sum ≤ 8) (hd : decode cc pc = .ok (.invokestatic idx, 3)) (hR1 : d + 1 ≤ R.frames) (hR2 : 8 + (mL + 11) + 40 * d ≤ R.locals) (hcm : cells + mc ≤ R.cells) (hsm : slots + ms ≤ R.slots)
    (kk : ∀ (v : Option Value) (hp' : List va_E), post v hp' → z_R p l e R s m args below meth c Q G base nL (cells + mc) (slots + ms) (pc + 3) lv (v.toList ++ rest) hp') : z_R p l e R s m args below meth c Q G base nL cells slots pc lv st0 hp := by
  refine z_call (a := As.toArray) (fun H locs ls h1 h3 => ?_) kk
  have hts := C.2.2.2.2.1
  exact va_runS (nL := nL) (n := n) (Ts := z_W) (own := own) (index := idx) ⟨C.1, C.2.1, C.2.2.1, C.2.2.2.1, hts⟩ hM ⟨z_callB C hcode hL.1 hL.2.2 hR1 hR2, hts _ hL.2.1⟩ ⟨z_Pc.blind, fun U hU hW => ⟨rfl, by rw [hU]; exact h1, C.2.2.2.2.2.1.warm hW⟩⟩ rfl hn h3.1 hst (lv_room hrm) hd ⟨hcm, hsm⟩
theorem z_callI (C : z_C p s m args meth c cc nL own G base) {y : MethodName} {bc : ByteArray} {mL : Nat} {d mc ms n idx i : Nat} {As rest st0 : List Value} {post : Option Value → List va_E → Prop} (hM : z_M l G base y bc mL none d mc ms (.ref (base + i) :: As) hp post) (hL : z_LI own idx y n) (hcode : Cond.code y bc mL none ∈ z_W) (hn : As.length = n) (hst : st0 = As.reverse ++ .ref (base + i) :: rest) (hrm : (rest.map fun v => v.category).sum ≤ 8) (hd : decode cc pc = .ok (.invokespecial idx, 3)) (hR1 : d + 1 ≤ R.frames) (hR2 : 8 + (mL + 11) + 40 * d ≤ R.locals) (hcm : cells + mc ≤ R.cells) (hsm : slots + ms ≤ R.slots)
    (kk : ∀ (v : Option Value) (hp' : List va_E), post v hp' → z_R p l e R s m args below meth c Q G base nL (cells + mc) (slots + ms) (pc + 3) lv (v.toList ++ rest) hp') : z_R p l e R s m args below meth c Q G base nL cells slots pc lv st0 hp := by
  refine z_call (a := (Value.ref (base + i) :: As).toArray) (fun H locs ls h1 h3 => ?_) kk
  have hts := C.2.2.2.2.1
  exact va_runI (nL := nL) (n := n) (Ts := z_W) (own := own) (index := idx) ⟨C.1, C.2.1, C.2.2.1, C.2.2.2.1, hts⟩ hM ⟨z_callB C hcode hL.1 hL.2.2.2 hR1 hR2, hL.2.2.1, hts _ hL.2.1⟩ ⟨z_Pc.blind, fun U hU hW => ⟨rfl, by rw [hU]; exact h1, C.2.2.2.2.2.1.warm hW⟩⟩ rfl hn h3.1 hst (lv_room hrm) hd ⟨hcm, hsm⟩
theorem z_callIN (C : z_C p s m args meth c cc nL own G base) {y : MethodName} {bc : ByteArray} {mL : Nat} {d mc ms n idx i : Nat} {host : String} {As rest st0 : List Value} {post : Option Value → List va_E → Prop} (hM : z_M l G base y bc mL none d mc ms (.ref (base + i) :: As) hp post) (hL : z_LIN own idx y host n) (hcode : Cond.code y bc mL none ∈ z_W) (hn : As.length = n) (hst : st0 = As.reverse ++ .ref (base + i) :: rest) (hrm : (rest.map fun v => v.category).sum ≤ 8) (hd : decode cc pc = .ok (.invokespecial idx, 3)) (hR1 : d + 1 ≤ R.frames) (hR2 : 8 + (mL + 11) + 40 * d ≤ R.locals) (hcm : cells + mc ≤ R.cells) (hsm : slots + ms ≤ R.slots)
    (kk : ∀ (v : Option Value) (hp' : List va_E), post v hp' → z_R p l e R s m args below meth c Q G base nL (cells + mc) (slots + ms) (pc + 3) lv (v.toList ++ rest) hp') : z_R p l e R s m args below meth c Q G base nL cells slots pc lv st0 hp := by
  refine z_call (a := (Value.ref (base + i) :: As).toArray) (fun H locs ls h1 h3 => ?_) kk
  have hts := C.2.2.2.2.1
  have hb := hL.2.2.2
  exact va_runIN (nL := nL) (n := n) (Ts := z_W) (own := own) (index := idx) ⟨C.1, C.2.1, C.2.2.1, C.2.2.2.1, hts⟩ hM ⟨va_cnB n hts (z_goodIn hcode) rfl rfl rfl (C.2.2.2.2.2.1.2.1 _ hL.1) (hts _ hb.1) hb.2 ⟨hR1, hR2⟩, hL.2.2.1, hts _ hL.2.1⟩ ⟨z_Pc.blind, fun U hU hW => ⟨rfl, by rw [hU]; exact h1, C.2.2.2.2.2.1.warm hW⟩⟩ rfl hn h3.1 hst (lv_room hrm) hd ⟨hcm, hsm⟩
theorem z_callSN (C : z_C p s m args meth c cc nL own G base) {y : MethodName} {bc : ByteArray} {mL : Nat} {rt : Option FieldType} {d mc ms n idx : Nat} {host : String} {As rest st0 : List Value} {post : Option Value → List va_E → Prop} (hM : z_M l G base y bc mL rt d mc ms As hp post) (hL : z_LSN own idx y host n) (hcode : Cond.code y bc mL rt ∈ z_W) (hn : As.length = n) (hst : st0 = As.reverse ++ rest) (hrm : (rest.map fun v => v.category).sum ≤ 8) (hd : decode cc pc = .ok (.invokestatic idx, 3)) (hR1 : d + 1 ≤ R.frames) (hR2 : 8 + (mL + 11) + 40 * d ≤ R.locals) (hcm : cells + mc ≤ R.cells) (hsm : slots + ms ≤ R.slots)
    (kk : ∀ (v : Option Value) (hp' : List va_E), post v hp' → z_R p l e R s m args below meth c Q G base nL (cells + mc) (slots + ms) (pc + 3) lv (v.toList ++ rest) hp') : z_R p l e R s m args below meth c Q G base nL cells slots pc lv st0 hp := by
  refine z_call (a := As.toArray) (fun H locs ls h1 h3 => ?_) kk
  have hts := C.2.2.2.2.1
  have hb := hL.2.2
  exact va_runSN (nL := nL) (n := n) (Ts := z_W) (own := own) (index := idx) ⟨C.1, C.2.1, C.2.2.1, C.2.2.2.1, hts⟩ hM ⟨va_cnB n hts (z_goodIn hcode) rfl rfl rfl (C.2.2.2.2.2.1.2.1 _ hL.1) (hts _ hb.1) hb.2 ⟨hR1, hR2⟩, hts _ hL.2.1, trivial⟩ ⟨z_Pc.blind, fun U hU hW => ⟨rfl, by rw [hU]; exact h1, C.2.2.2.2.2.1.warm hW⟩⟩ rfl hn h3.1 hst (lv_room hrm) hd ⟨hcm, hsm⟩
theorem z_objInit (C : z_C p s m args meth c cc nL own G base) {idx x : Nat} (hw : Cond.methodLink own idx Lib.objectInit ∈ z_W) (hw2 : Cond.instanceMethod Lib.objectInit ∈ z_W) (hw3 : Cond.code Lib.objectInit ⟨#[0xb1]⟩ 1 none ∈ z_W) (hd : decode cc pc = .ok (.invokespecial idx, 3)) (hR1 : 1 ≤ R.frames) (hR2 : (st.map fun v => v.category).sum + 12 ≤ R.locals) (kk : z_R p l e R s m args below meth c Q G base nL cells slots (pc + 3) lv st hp) : z_R p l e R s m args below meth c Q G base nL cells slots pc lv (.ref x :: st) hp := by
  intro H locs ls h1 h2 h3
  have hts := C.2.2.2.2.1
  exact W.objInit C.1 C.2.1 C.2.2.2.1 (hts _ hw) (hts _ hw2) (hts _ hw3) (g := F0 m pc ls (.ref x :: st)) rfl (by rw [C.2.2.1]; exact h3.1) rfl hd hR1 (by simpa [JFrame.monitorRoom] using hR2) (kk H locs ls h1 h2 h3)
theorem z_mmin (C : z_C p s m args meth c cc nL own G base) {idx : Nat} {x y : Int32} (hw : Cond.methodLink own idx Lib.Math.min.name ∈ z_W) (hw1 : Cond.static Lib.Math.min.name ∈ z_W) (hw2 : Cond.initialized "java/lang/Math" ∈ z_W) (hw3 : Cond.code Lib.Math.min.name Lib.Math.min.code 2 (some .int) ∈ z_W) (hd : decode cc pc = .ok (.invokestatic idx, 3)) (hR1 : 1 ≤ R.frames) (hR2 : (st.map fun v => v.category).sum + 13 ≤ R.locals) (hcm : cells ≤ R.cells) (hsm : slots ≤ R.slots) (kk : z_R p l e R s m args below meth c Q G base nL cells slots (pc + 3) lv (.int (if y < x then y else x) :: st) hp) : z_R p l e R s m args below meth c Q G base nL cells slots pc lv (.int y :: .int x :: st) hp := by
  intro H locs ls h1 h2 h3
  have hts := C.2.2.2.2.1
  exact va_mmin C.1 C.2.1 (by rw [C.2.2.1]; exact h3.1.symm) C.2.2.2.1 (hts _ hw) (hts _ hw1) (hts _ hw2) (hts _ hw3) hR1 hR2 hcm hsm hd (kk H locs ls h1 h2 h3)
theorem z_mmax (C : z_C p s m args meth c cc nL own G base) {idx : Nat} {x y : Int32} (hw : Cond.methodLink own idx Lib.Math.max.name ∈ z_W) (hw1 : Cond.static Lib.Math.max.name ∈ z_W) (hw2 : Cond.initialized "java/lang/Math" ∈ z_W) (hw3 : Cond.code Lib.Math.max.name Lib.Math.max.code 2 (some .int) ∈ z_W) (hd : decode cc pc = .ok (.invokestatic idx, 3)) (hR1 : 1 ≤ R.frames) (hR2 : (st.map fun v => v.category).sum + 13 ≤ R.locals) (hcm : cells ≤ R.cells) (hsm : slots ≤ R.slots) (kk : z_R p l e R s m args below meth c Q G base nL cells slots (pc + 3) lv (.int (if x < y then y else x) :: st) hp) : z_R p l e R s m args below meth c Q G base nL cells slots pc lv (.int y :: .int x :: st) hp := by
  intro H locs ls h1 h2 h3
  have hts := C.2.2.2.2.1
  exact va_mmax C.1 C.2.1 (by rw [C.2.2.1]; exact h3.1.symm) C.2.2.2.1 (hts _ hw) (hts _ hw1) (hts _ hw2) (hts _ hw3) hR1 hR2 hcm hsm hd (kk H locs ls h1 h2 h3)
end ZR3
section ZR4
variable {p : Program} {l : Launch} {e : Env} {R : Room} {s : State} {m : MethodId} {args : Array Value} {below : List Frame} {meth : Method} {c : Code} {cc : ByteArray} {own : String} {G : z_G} {base nL cells slots pc mc ms : Nat} {lv : List (Nat × Value)} {hp : List va_E} {post : Option Value → List va_E → Prop}
theorem z_iret (C : z_C p s m args meth c cc nL own G base) {ty : FieldType} {v : Int32} (hr : meth.sig.returnType = some ty) (hn : narrow ty (.int v) = .int v) (hd : decode cc pc = .ok (.ireturn, 1)) (h1 : cells ≤ mc) (h2 : slots ≤ ms) (hq : post (some (.int v)) hp) : z_R p l e R s m args below meth c (MQ below (z_Qc G base post) args s mc ms (fun q => base ≤ q)) G base nL cells slots pc lv [.int v] hp :=
  fun _ _ _ a1 a2 _ => W.widen h1 h2 (W.zret C.1 C.2.1 hr hn (fun t ht _ => ⟨⟨_, _, rfl, hq, by rw [ht]; exact a1⟩, a2.F ht⟩) a2.2.2 hd C.2.2.2.2.2.2.1)
theorem z_vret (C : z_C p s m args meth c cc nL own G base) (hr : meth.sig.returnType = none) (hd : decode cc pc = .ok (.return_, 1)) (h1 : cells ≤ mc) (h2 : slots ≤ ms) (hq : post none hp) : z_R p l e R s m args below meth c (MQ below (z_Qc G base post) args s mc ms (fun q => base ≤ q)) G base nL cells slots pc lv [] hp :=
  fun _ _ _ a1 a2 _ => W.widen h1 h2 (W.vret C.1 C.2.1 hr (fun t ht _ => ⟨⟨_, _, rfl, hq, by rw [ht]; exact a1⟩, a2.F ht⟩) a2.2.2 hd C.2.2.2.2.2.2.1)
theorem z_aret (C : z_C p s m args meth c cc nL own G base) {n : String} {x : Option Nat} (hr : meth.sig.returnType = some (.object n)) (hd : decode cc pc = .ok (.areturn, 1)) (h1 : cells ≤ mc) (h2 : slots ≤ ms) (hq : post (some (va_rf x)) hp) : z_R p l e R s m args below meth c (MQ below (z_Qc G base post) args s mc ms (fun q => base ≤ q)) G base nL cells slots pc lv [va_rf x] hp :=
  fun _ _ _ a1 a2 _ => W.widen h1 h2 (W.aret C.1 C.2.1 hr (Or.inl ⟨n, rfl⟩) (va_rf_or x) (fun t ht _ => ⟨⟨_, _, rfl, hq, by rw [ht]; exact a1⟩, a2.F ht⟩) a2.2.2 hd C.2.2.2.2.2.2.1)
/-- a contract out of a walk -/
theorem z_M.of {y : MethodName} {bc : ByteArray} {mL d mc ms : Nat} {rt : Option FieldType} {as : List Value} {lv0 : List (Nat × Value)} (hy : plainName y.cls = true) (hlen : (lg_sl as).length ≤ mL) (hlv : lv_args 0 as = lv0)
    (body : ∀ (p : Program) (e : Env) (s : State) (m : MethodId) (below : List Frame) (meth : Method) (c : Code), meth.name = y.name → meth.sig.returnType = rt → z_C p s m as.toArray meth c bc mL y.cls G base →
      z_R p l e (z_rm d mc ms) s m as.toArray below meth c (MQ below (z_Qc G base post) as.toArray s mc ms (fun q => base ≤ q)) G base mL 0 0 0 lv0 [] hp) : z_M l G base y bc mL rt d mc ms as hp post := by
  subst hlv
  refine Met.ofW (cc := bc) (maxL := mL) (ret := rt) hy rfl ?_
  intro p e s m args below meth c s₁ B hml hv
  obtain ⟨rfl, hH, hK⟩ := hv
  have hts := atoms_spec (ws := Cond.code y bc mL rt :: z_W) B.pre
  have hC : z_C p s m as.toArray meth c bc mL y.cls G base := ⟨B.exec, B.bytes, hml, findClass_of_methodNamed B.named, fun w hw => hts w (List.mem_cons_of_mem _ hw), hK, B.notSynchronized, by rw [hH.1]; exact Nat.le_add_right _ _⟩
  have hl := lv_entry as (n := mL) hlen
  rw [lg_entry_eq]
  exact body p e s m below meth c (name_of_methodNamed B.named B.method).1 B.returns hC s.heap [] _ hH va_S.rf hl
end ZR4
end
section
theorem iw_X0 : ∀ w ∈ wsX00, w ∈ z_W := fun w h => z_in ((by decide +kernel : ∀ w ∈ wsX00, w ∈ lw_tbl) w h) (List.all_eq_true.mp (by decide +kernel : wsX00.all goodWord = true) w h)
theorem fp_X0 : z_FP 0 tyX0 := ⟨_, rfl, tyX0_ok, nmX0⟩
theorem iw_X1 : ∀ w ∈ wsX10, w ∈ z_W := fun w h => z_in ((by decide +kernel : ∀ w ∈ wsX10, w ∈ lw_tbl) w h) (List.all_eq_true.mp (by decide +kernel : wsX10.all goodWord = true) w h)
theorem fp_X1 : z_FP 1 tyX1 := ⟨_, rfl, tyX1_ok, nmX1⟩
theorem iw_X2 : ∀ w ∈ wsX20, w ∈ z_W := fun w h => z_in ((by decide +kernel : ∀ w ∈ wsX20, w ∈ lw_tbl) w h) (List.all_eq_true.mp (by decide +kernel : wsX20.all goodWord = true) w h)
theorem fp_X2 : z_FP 2 tyX2 := ⟨_, rfl, tyX2_ok, nmX2⟩
theorem iw_X3 : ∀ w ∈ wsX30, w ∈ z_W := fun w h => z_in ((by decide +kernel : ∀ w ∈ wsX30, w ∈ lw_tbl) w h) (List.all_eq_true.mp (by decide +kernel : wsX30.all goodWord = true) w h)
theorem fp_X3 : z_FP 3 tyX3 := ⟨_, rfl, tyX3_ok, nmX3⟩
theorem iw_X4 : ∀ w ∈ wsX40, w ∈ z_W := fun w h => z_in ((by decide +kernel : ∀ w ∈ wsX40, w ∈ lw_tbl) w h) (List.all_eq_true.mp (by decide +kernel : wsX40.all goodWord = true) w h)
theorem fp_X4 : z_FP 4 tyX4 := ⟨_, rfl, tyX4_ok, nmX4⟩
theorem iw_X5 : ∀ w ∈ wsX50, w ∈ z_W := fun w h => z_in ((by decide +kernel : ∀ w ∈ wsX50, w ∈ lw_tbl) w h) (List.all_eq_true.mp (by decide +kernel : wsX50.all goodWord = true) w h)
theorem fp_X5 : z_FP 5 tyX5 := ⟨_, rfl, tyX5_ok, nmX5⟩
theorem fl_X2_11 : z_FL RX2 11 2 0 := ⟨_, rfl, by decide, iw_X2, z_in (List.mem_of_getElem? (i := 65) (by decide +kernel)) rfl⟩
theorem fl_X0_9 : z_FL RX0 9 0 0 := ⟨_, rfl, by decide, iw_X0, z_in (List.mem_of_getElem? (i := 76) (by decide +kernel)) rfl⟩
theorem fl_X0_15 : z_FL RX0 15 0 1 := ⟨_, rfl, by decide, iw_X0, z_in (List.mem_of_getElem? (i := 77) (by decide +kernel)) rfl⟩
theorem fl_X0_19 : z_FL RX0 19 0 2 := ⟨_, rfl, by decide, iw_X0, z_in (List.mem_of_getElem? (i := 78) (by decide +kernel)) rfl⟩
theorem fl_X0_22 : z_FL RX0 22 0 3 := ⟨_, rfl, by decide, iw_X0, z_in (List.mem_of_getElem? (i := 79) (by decide +kernel)) rfl⟩
theorem fl_X4_153 : z_FL RX4 153 0 3 := ⟨_, rfl, by decide, iw_X0, z_in (List.mem_of_getElem? (i := 80) (by decide +kernel)) rfl⟩
theorem fl_X4_48 : z_FL RX4 48 0 4 := ⟨_, rfl, by decide, iw_X0, z_in (List.mem_of_getElem? (i := 81) (by decide +kernel)) rfl⟩
theorem fl_X0_32 : z_FL RX0 32 0 4 := ⟨_, rfl, by decide, iw_X0, z_in (List.mem_of_getElem? (i := 82) (by decide +kernel)) rfl⟩
theorem fl_X0_29 : z_FL RX0 29 0 5 := ⟨_, rfl, by decide, iw_X0, z_in (List.mem_of_getElem? (i := 83) (by decide +kernel)) rfl⟩
theorem fl_X4_59 : z_FL RX4 59 0 5 := ⟨_, rfl, by decide, iw_X0, z_in (List.mem_of_getElem? (i := 84) (by decide +kernel)) rfl⟩
theorem fl_X0_40 : z_FL RX0 40 0 6 := ⟨_, rfl, by decide, iw_X0, z_in (List.mem_of_getElem? (i := 85) (by decide +kernel)) rfl⟩
theorem fl_X4_160 : z_FL RX4 160 0 6 := ⟨_, rfl, by decide, iw_X0, z_in (List.mem_of_getElem? (i := 86) (by decide +kernel)) rfl⟩
theorem fl_X0_60 : z_FL RX0 60 0 7 := ⟨_, rfl, by decide, iw_X0, z_in (List.mem_of_getElem? (i := 87) (by decide +kernel)) rfl⟩
theorem fl_X4_176 : z_FL RX4 176 0 7 := ⟨_, rfl, by decide, iw_X0, z_in (List.mem_of_getElem? (i := 88) (by decide +kernel)) rfl⟩
theorem fl_X0_51 : z_FL RX0 51 0 8 := ⟨_, rfl, by decide, iw_X0, z_in (List.mem_of_getElem? (i := 89) (by decide +kernel)) rfl⟩
theorem fl_X4_163 : z_FL RX4 163 0 8 := ⟨_, rfl, by decide, iw_X0, z_in (List.mem_of_getElem? (i := 90) (by decide +kernel)) rfl⟩
theorem fl_X0_57 : z_FL RX0 57 0 9 := ⟨_, rfl, by decide, iw_X0, z_in (List.mem_of_getElem? (i := 91) (by decide +kernel)) rfl⟩
theorem fl_X4_166 : z_FL RX4 166 0 9 := ⟨_, rfl, by decide, iw_X0, z_in (List.mem_of_getElem? (i := 92) (by decide +kernel)) rfl⟩
theorem fl_X0_72 : z_FL RX0 72 0 10 := ⟨_, rfl, by decide, iw_X0, z_in (List.mem_of_getElem? (i := 93) (by decide +kernel)) rfl⟩
theorem fl_X4_169 : z_FL RX4 169 0 10 := ⟨_, rfl, by decide, iw_X0, z_in (List.mem_of_getElem? (i := 94) (by decide +kernel)) rfl⟩
theorem fl_X0_25 : z_FL RX0 25 0 11 := ⟨_, rfl, by decide, iw_X0, z_in (List.mem_of_getElem? (i := 95) (by decide +kernel)) rfl⟩
theorem fl_X4_141 : z_FL RX4 141 0 11 := ⟨_, rfl, by decide, iw_X0, z_in (List.mem_of_getElem? (i := 96) (by decide +kernel)) rfl⟩
theorem fl_X1_15 : z_FL RX1 15 1 0 := ⟨_, rfl, by decide, iw_X1, z_in (List.mem_of_getElem? (i := 142) (by decide +kernel)) rfl⟩
theorem fl_X4_191 : z_FL RX4 191 1 0 := ⟨_, rfl, by decide, iw_X1, z_in (List.mem_of_getElem? (i := 143) (by decide +kernel)) rfl⟩
theorem fl_X1_18 : z_FL RX1 18 1 1 := ⟨_, rfl, by decide, iw_X1, z_in (List.mem_of_getElem? (i := 144) (by decide +kernel)) rfl⟩
theorem fl_X1_21 : z_FL RX1 21 1 2 := ⟨_, rfl, by decide, iw_X1, z_in (List.mem_of_getElem? (i := 145) (by decide +kernel)) rfl⟩
theorem fl_X1_24 : z_FL RX1 24 1 3 := ⟨_, rfl, by decide, iw_X1, z_in (List.mem_of_getElem? (i := 146) (by decide +kernel)) rfl⟩
theorem fl_X4_209 : z_FL RX4 209 1 3 := ⟨_, rfl, by decide, iw_X1, z_in (List.mem_of_getElem? (i := 147) (by decide +kernel)) rfl⟩
theorem fl_X1_31 : z_FL RX1 31 1 4 := ⟨_, rfl, by decide, iw_X1, z_in (List.mem_of_getElem? (i := 148) (by decide +kernel)) rfl⟩
theorem fl_X4_105 : z_FL RX4 105 1 4 := ⟨_, rfl, by decide, iw_X1, z_in (List.mem_of_getElem? (i := 149) (by decide +kernel)) rfl⟩
theorem fl_X1_38 : z_FL RX1 38 1 5 := ⟨_, rfl, by decide, iw_X1, z_in (List.mem_of_getElem? (i := 150) (by decide +kernel)) rfl⟩
theorem fl_X4_217 : z_FL RX4 217 1 5 := ⟨_, rfl, by decide, iw_X1, z_in (List.mem_of_getElem? (i := 151) (by decide +kernel)) rfl⟩
theorem fl_X1_41 : z_FL RX1 41 1 6 := ⟨_, rfl, by decide, iw_X1, z_in (List.mem_of_getElem? (i := 152) (by decide +kernel)) rfl⟩
theorem fl_X4_223 : z_FL RX4 223 1 6 := ⟨_, rfl, by decide, iw_X1, z_in (List.mem_of_getElem? (i := 153) (by decide +kernel)) rfl⟩
theorem fl_X1_44 : z_FL RX1 44 1 7 := ⟨_, rfl, by decide, iw_X1, z_in (List.mem_of_getElem? (i := 154) (by decide +kernel)) rfl⟩
theorem fl_X4_184 : z_FL RX4 184 1 7 := ⟨_, rfl, by decide, iw_X1, z_in (List.mem_of_getElem? (i := 155) (by decide +kernel)) rfl⟩
theorem fl_X1_9 : z_FL RX1 9 1 8 := ⟨_, rfl, by decide, iw_X1, z_in (List.mem_of_getElem? (i := 156) (by decide +kernel)) rfl⟩
theorem fl_X4_98 : z_FL RX4 98 1 8 := ⟨_, rfl, by decide, iw_X1, z_in (List.mem_of_getElem? (i := 157) (by decide +kernel)) rfl⟩
theorem fl_X4_12 : z_FL RX4 12 4 0 := ⟨_, rfl, by decide, iw_X4, z_in (List.mem_of_getElem? (i := 177) (by decide +kernel)) rfl⟩
theorem fl_X4_19 : z_FL RX4 19 4 1 := ⟨_, rfl, by decide, iw_X4, z_in (List.mem_of_getElem? (i := 178) (by decide +kernel)) rfl⟩
theorem fl_X4_25 : z_FL RX4 25 4 2 := ⟨_, rfl, by decide, iw_X4, z_in (List.mem_of_getElem? (i := 179) (by decide +kernel)) rfl⟩
theorem fl_X4_31 : z_FL RX4 31 4 3 := ⟨_, rfl, by decide, iw_X4, z_in (List.mem_of_getElem? (i := 180) (by decide +kernel)) rfl⟩
theorem fl_X4_44 : z_FL RX4 44 4 4 := ⟨_, rfl, by decide, iw_X4, z_in (List.mem_of_getElem? (i := 181) (by decide +kernel)) rfl⟩
theorem fl_X3_9 : z_FL RX3 9 3 0 := ⟨_, rfl, by decide, iw_X3, z_in (List.mem_of_getElem? (i := 314) (by decide +kernel)) rfl⟩
theorem fl_X3_25 : z_FL RX3 25 3 1 := ⟨_, rfl, by decide, iw_X3, z_in (List.mem_of_getElem? (i := 315) (by decide +kernel)) rfl⟩
theorem fl_X3_21 : z_FL RX3 21 3 2 := ⟨_, rfl, by decide, iw_X3, z_in (List.mem_of_getElem? (i := 316) (by decide +kernel)) rfl⟩
theorem fl_X3_28 : z_FL RX3 28 3 3 := ⟨_, rfl, by decide, iw_X3, z_in (List.mem_of_getElem? (i := 317) (by decide +kernel)) rfl⟩
theorem fl_X5_7 : z_FL RX5 7 5 0 := ⟨_, rfl, by decide, iw_X5, z_in (List.mem_of_getElem? (i := 501) (by decide +kernel)) rfl⟩
theorem fl_X5_58 : z_FL RX5 58 5 1 := ⟨_, rfl, by decide, iw_X5, z_in (List.mem_of_getElem? (i := 502) (by decide +kernel)) rfl⟩
theorem fl_X5_13 : z_FL RX5 13 5 2 := ⟨_, rfl, by decide, iw_X5, z_in (List.mem_of_getElem? (i := 503) (by decide +kernel)) rfl⟩
theorem fl_X5_17 : z_FL RX5 17 5 3 := ⟨_, rfl, by decide, iw_X5, z_in (List.mem_of_getElem? (i := 504) (by decide +kernel)) rfl⟩
theorem fl_X5_20 : z_FL RX5 20 5 4 := ⟨_, rfl, by decide, iw_X5, z_in (List.mem_of_getElem? (i := 505) (by decide +kernel)) rfl⟩
theorem fl_X5_23 : z_FL RX5 23 5 5 := ⟨_, rfl, by decide, iw_X5, z_in (List.mem_of_getElem? (i := 506) (by decide +kernel)) rfl⟩
theorem fl_X5_26 : z_FL RX5 26 5 6 := ⟨_, rfl, by decide, iw_X5, z_in (List.mem_of_getElem? (i := 507) (by decide +kernel)) rfl⟩
theorem fl_X5_29 : z_FL RX5 29 5 7 := ⟨_, rfl, by decide, iw_X5, z_in (List.mem_of_getElem? (i := 508) (by decide +kernel)) rfl⟩
theorem fl_X5_32 : z_FL RX5 32 5 8 := ⟨_, rfl, by decide, iw_X5, z_in (List.mem_of_getElem? (i := 509) (by decide +kernel)) rfl⟩
theorem fl_X5_110 : z_FL RX5 110 5 9 := ⟨_, rfl, by decide, iw_X5, z_in (List.mem_of_getElem? (i := 510) (by decide +kernel)) rfl⟩
theorem fl_X5_35 : z_FL RX5 35 5 10 := ⟨_, rfl, by decide, iw_X5, z_in (List.mem_of_getElem? (i := 511) (by decide +kernel)) rfl⟩
theorem fl_X5_38 : z_FL RX5 38 5 11 := ⟨_, rfl, by decide, iw_X5, z_in (List.mem_of_getElem? (i := 512) (by decide +kernel)) rfl⟩
theorem fl_X5_41 : z_FL RX5 41 5 12 := ⟨_, rfl, by decide, iw_X5, z_in (List.mem_of_getElem? (i := 513) (by decide +kernel)) rfl⟩
theorem fl_X5_44 : z_FL RX5 44 5 13 := ⟨_, rfl, by decide, iw_X5, z_in (List.mem_of_getElem? (i := 514) (by decide +kernel)) rfl⟩
theorem fl_X5_47 : z_FL RX5 47 5 14 := ⟨_, rfl, by decide, iw_X5, z_in (List.mem_of_getElem? (i := 515) (by decide +kernel)) rfl⟩
theorem fl_X5_50 : z_FL RX5 50 5 15 := ⟨_, rfl, by decide, iw_X5, z_in (List.mem_of_getElem? (i := 516) (by decide +kernel)) rfl⟩
theorem fl_X5_85 : z_FL RX5 85 5 16 := ⟨_, rfl, by decide, iw_X5, z_in (List.mem_of_getElem? (i := 517) (by decide +kernel)) rfl⟩
theorem fl_X5_88 : z_FL RX5 88 5 17 := ⟨_, rfl, by decide, iw_X5, z_in (List.mem_of_getElem? (i := 518) (by decide +kernel)) rfl⟩
theorem fl_X5_97 : z_FL RX5 97 5 18 := ⟨_, rfl, by decide, iw_X5, z_in (List.mem_of_getElem? (i := 519) (by decide +kernel)) rfl⟩
theorem fl_X5_94 : z_FL RX5 94 5 19 := ⟨_, rfl, by decide, iw_X5, z_in (List.mem_of_getElem? (i := 520) (by decide +kernel)) rfl⟩
set_option maxRecDepth 100000 in
theorem kw_X4_init : Cond.code yX4_init cX4_init 3 none ∈ z_W := z_in (List.mem_of_getElem? (i := 55) rfl) rfl
set_option maxRecDepth 100000 in
theorem kw_X2_init : Cond.code yX2_init cX2_init 1 none ∈ z_W := z_in (List.mem_of_getElem? (i := 63) rfl) rfl
set_option maxRecDepth 100000 in
theorem kw_X0_init : Cond.code yX0_init cX0_init 1 none ∈ z_W := z_in (List.mem_of_getElem? (i := 74) rfl) rfl
set_option maxRecDepth 100000 in
theorem kw_J9_min_7cf53 : Cond.code yJ9_min_7cf53 cJ9_min_7cf53 2 (some .int) ∈ z_W := z_in (List.mem_of_getElem? (i := 131) rfl) rfl
set_option maxRecDepth 100000 in
theorem kw_X1_init : Cond.code yX1_init cX1_init 4 none ∈ z_W := z_in (List.mem_of_getElem? (i := 134) rfl) rfl
set_option maxRecDepth 100000 in
theorem kw_X1_orderFor : Cond.code yX1_orderFor cX1_orderFor 2 (some .int) ∈ z_W := z_in (List.mem_of_getElem? (i := 138) rfl) rfl
set_option maxRecDepth 100000 in
theorem kw_X1_objectsIn : Cond.code yX1_objectsIn cX1_objectsIn 2 (some .int) ∈ z_W := z_in (List.mem_of_getElem? (i := 141) rfl) rfl
set_option maxRecDepth 100000 in
theorem kw_X4_usable : Cond.code yX4_usable cX4_usable 3 (some .boolean) ∈ z_W := z_in (List.mem_of_getElem? (i := 196) rfl) rfl
set_option maxRecDepth 100000 in
theorem kw_X0_tell : Cond.code yX0_tell cX0_tell 4 none ∈ z_W := z_in (List.mem_of_getElem? (i := 200) rfl) rfl
set_option maxRecDepth 100000 in
theorem kw_X4_start : Cond.code yX4_start cX4_start 1 (some .int) ∈ z_W := z_in (List.mem_of_getElem? (i := 204) rfl) rfl
set_option maxRecDepth 100000 in
theorem kw_X0_open : Cond.code yX0_open cX0_open 2 none ∈ z_W := z_in (List.mem_of_getElem? (i := 208) rfl) rfl
set_option maxRecDepth 100000 in
theorem kw_X0_join : Cond.code yX0_join cX0_join 6 none ∈ z_W := z_in (List.mem_of_getElem? (i := 212) rfl) rfl
set_option maxRecDepth 100000 in
theorem kw_X0_buddyOf : Cond.code yX0_buddyOf cX0_buddyOf 2 (some .int) ∈ z_W := z_in (List.mem_of_getElem? (i := 215) rfl) rfl
set_option maxRecDepth 100000 in
theorem kw_X0_isFree : Cond.code yX0_isFree cX0_isFree 3 (some .boolean) ∈ z_W := z_in (List.mem_of_getElem? (i := 219) rfl) rfl
set_option maxRecDepth 100000 in
theorem kw_X0_layFree : Cond.code yX0_layFree cX0_layFree 3 none ∈ z_W := z_in (List.mem_of_getElem? (i := 224) rfl) rfl
set_option maxRecDepth 100000 in
theorem kw_X4_pages : Cond.code yX4_pages cX4_pages 2 (some .int) ∈ z_W := z_in (List.mem_of_getElem? (i := 228) rfl) rfl
set_option maxRecDepth 100000 in
theorem kw_X4_isOrder : Cond.code yX4_isOrder cX4_isOrder 1 (some .boolean) ∈ z_W := z_in (List.mem_of_getElem? (i := 231) rfl) rfl
set_option maxRecDepth 100000 in
theorem kw_X0_claim : Cond.code yX0_claim cX0_claim 5 (some .int) ∈ z_W := z_in (List.mem_of_getElem? (i := 235) rfl) rfl
set_option maxRecDepth 100000 in
theorem kw_X0_leastFree : Cond.code yX0_leastFree cX0_leastFree 4 (some .int) ∈ z_W := z_in (List.mem_of_getElem? (i := 239) rfl) rfl
set_option maxRecDepth 100000 in
theorem kw_X0_halve : Cond.code yX0_halve cX0_halve 5 none ∈ z_W := z_in (List.mem_of_getElem? (i := 243) rfl) rfl
set_option maxRecDepth 100000 in
theorem kw_J9_max_7cf53 : Cond.code yJ9_max_7cf53 cJ9_max_7cf53 2 (some .int) ∈ z_W := z_in (List.mem_of_getElem? (i := 246) rfl) rfl
set_option maxRecDepth 100000 in
theorem kw_X4_freePages : Cond.code yX4_freePages cX4_freePages 4 (some .int) ∈ z_W := z_in (List.mem_of_getElem? (i := 250) rfl) rfl
set_option maxRecDepth 100000 in
theorem kw_X4_wrongWithPage : Cond.code yX4_wrongWithPage cX4_wrongWithPage 3 (some .int) ∈ z_W := z_in (List.mem_of_getElem? (i := 254) rfl) rfl
set_option maxRecDepth 100000 in
theorem kw_X0_useFrom : Cond.code yX0_useFrom cX0_useFrom 2 (some .int) ∈ z_W := z_in (List.mem_of_getElem? (i := 258) rfl) rfl
set_option maxRecDepth 100000 in
theorem kw_X4_isPage : Cond.code yX4_isPage cX4_isPage 1 (some .boolean) ∈ z_W := z_in (List.mem_of_getElem? (i := 261) rfl) rfl
set_option maxRecDepth 100000 in
theorem kw_X0_orderFrom : Cond.code yX0_orderFrom cX0_orderFrom 2 (some .int) ∈ z_W := z_in (List.mem_of_getElem? (i := 265) rfl) rfl
set_option maxRecDepth 100000 in
theorem kw_X0_release : Cond.code yX0_release cX0_release 3 none ∈ z_W := z_in (List.mem_of_getElem? (i := 269) rfl) rfl
set_option maxRecDepth 100000 in
theorem kw_X4_cache : Cond.code yX4_cache cX4_cache 4 (some .int) ∈ z_W := z_in (List.mem_of_getElem? (i := 274) rfl) rfl
set_option maxRecDepth 100000 in
theorem kw_X4_isAlignment : Cond.code yX4_isAlignment cX4_isAlignment 1 (some .boolean) ∈ z_W := z_in (List.mem_of_getElem? (i := 277) rfl) rfl
set_option maxRecDepth 100000 in
theorem kw_J6_bitCount_0f7a4 : Cond.code yJ6_bitCount_0f7a4 cJ6_bitCount_0f7a4 1 (some .int) ∈ z_W := z_in (List.mem_of_getElem? (i := 280) rfl) rfl
set_option maxRecDepth 100000 in
theorem kw_X4_take : Cond.code yX4_take cX4_take 3 (some .int) ∈ z_W := z_in (List.mem_of_getElem? (i := 287) rfl) rfl
set_option maxRecDepth 100000 in
theorem kw_X4_cacheOf : Cond.code yX4_cacheOf cX4_cacheOf 2 (some (.object "PageSlabs$Cache")) ∈ z_W := z_in (List.mem_of_getElem? (i := 291) rfl) rfl
set_option maxRecDepth 100000 in
theorem kw_X4_takeObject : Cond.code yX4_takeObject cX4_takeObject 5 (some .int) ∈ z_W := z_in (List.mem_of_getElem? (i := 295) rfl) rfl
set_option maxRecDepth 100000 in
theorem kw_X4_partlyLiveSlab : Cond.code yX4_partlyLiveSlab cX4_partlyLiveSlab 4 (some .int) ∈ z_W := z_in (List.mem_of_getElem? (i := 299) rfl) rfl
set_option maxRecDepth 100000 in
theorem kw_X3_isPartlyLive : Cond.code yX3_isPartlyLive cX3_isPartlyLive 1 (some .boolean) ∈ z_W := z_in (List.mem_of_getElem? (i := 303) rfl) rfl
set_option maxRecDepth 100000 in
theorem kw_X4_newSlab : Cond.code yX4_newSlab cX4_newSlab 4 (some .int) ∈ z_W := z_in (List.mem_of_getElem? (i := 307) rfl) rfl
set_option maxRecDepth 100000 in
theorem kw_X3_init : Cond.code yX3_init cX3_init 1 none ∈ z_W := z_in (List.mem_of_getElem? (i := 312) rfl) rfl
set_option maxRecDepth 100000 in
theorem kw_X3_layOut : Cond.code yX3_layOut cX3_layOut 3 none ∈ z_W := z_in (List.mem_of_getElem? (i := 330) rfl) rfl
set_option maxRecDepth 100000 in
theorem kw_X4_slabAt : Cond.code yX4_slabAt cX4_slabAt 2 (some (.object "PageSlabs$Slab")) ∈ z_W := z_in (List.mem_of_getElem? (i := 335) rfl) rfl
set_option maxRecDepth 100000 in
theorem kw_X3_takeFront : Cond.code yX3_takeFront cX3_takeFront 2 (some .int) ∈ z_W := z_in (List.mem_of_getElem? (i := 339) rfl) rfl
set_option maxRecDepth 100000 in
theorem kw_X4_give : Cond.code yX4_give cX4_give 5 (some .int) ∈ z_W := z_in (List.mem_of_getElem? (i := 343) rfl) rfl
set_option maxRecDepth 100000 in
theorem kw_X4_wrongWithObject : Cond.code yX4_wrongWithObject cX4_wrongWithObject 6 (some .int) ∈ z_W := z_in (List.mem_of_getElem? (i := 347) rfl) rfl
set_option maxRecDepth 100000 in
theorem kw_X4_isAddress : Cond.code yX4_isAddress cX4_isAddress 1 (some .boolean) ∈ z_W := z_in (List.mem_of_getElem? (i := 350) rfl) rfl
set_option maxRecDepth 100000 in
theorem kw_X0_firstOf : Cond.code yX0_firstOf cX0_firstOf 4 (some .int) ∈ z_W := z_in (List.mem_of_getElem? (i := 354) rfl) rfl
set_option maxRecDepth 100000 in
theorem kw_X1_indexAt : Cond.code yX1_indexAt cX1_indexAt 3 (some .int) ∈ z_W := z_in (List.mem_of_getElem? (i := 358) rfl) rfl
set_option maxRecDepth 100000 in
theorem kw_X3_isLive : Cond.code yX3_isLive cX3_isLive 2 (some .boolean) ∈ z_W := z_in (List.mem_of_getElem? (i := 362) rfl) rfl
set_option maxRecDepth 100000 in
theorem kw_X4_giveObject : Cond.code yX4_giveObject cX4_giveObject 6 (some .int) ∈ z_W := z_in (List.mem_of_getElem? (i := 366) rfl) rfl
set_option maxRecDepth 100000 in
theorem kw_X3_putFront : Cond.code yX3_putFront cX3_putFront 2 none ∈ z_W := z_in (List.mem_of_getElem? (i := 370) rfl) rfl
set_option maxRecDepth 100000 in
theorem kw_X3_liveCount : Cond.code yX3_liveCount cX3_liveCount 1 (some .int) ∈ z_W := z_in (List.mem_of_getElem? (i := 375) rfl) rfl
set_option maxRecDepth 100000 in
theorem kw_X4_dropSlab : Cond.code yX4_dropSlab cX4_dropSlab 3 none ∈ z_W := z_in (List.mem_of_getElem? (i := 379) rfl) rfl
set_option maxRecDepth 100000 in
theorem kw_X4_shrink : Cond.code yX4_shrink cX4_shrink 4 (some .int) ∈ z_W := z_in (List.mem_of_getElem? (i := 383) rfl) rfl
set_option maxRecDepth 100000 in
theorem kw_X4_alloc : Cond.code yX4_alloc cX4_alloc 2 (some .int) ∈ z_W := z_in (List.mem_of_getElem? (i := 387) rfl) rfl
set_option maxRecDepth 100000 in
theorem kw_X4_isBySize : Cond.code yX4_isBySize cX4_isBySize 1 (some .boolean) ∈ z_W := z_in (List.mem_of_getElem? (i := 390) rfl) rfl
set_option maxRecDepth 100000 in
theorem kw_X4_kindFor : Cond.code yX4_kindFor cX4_kindFor 2 (some .int) ∈ z_W := z_in (List.mem_of_getElem? (i := 393) rfl) rfl
set_option maxRecDepth 100000 in
theorem kw_X4_bytesOfKind : Cond.code yX4_bytesOfKind cX4_bytesOfKind 1 (some .int) ∈ z_W := z_in (List.mem_of_getElem? (i := 396) rfl) rfl
set_option maxRecDepth 100000 in
theorem kw_X4_takeKind : Cond.code yX4_takeKind cX4_takeKind 3 (some .int) ∈ z_W := z_in (List.mem_of_getElem? (i := 400) rfl) rfl
set_option maxRecDepth 100000 in
theorem kw_X4_free : Cond.code yX4_free cX4_free 4 (some .int) ∈ z_W := z_in (List.mem_of_getElem? (i := 404) rfl) rfl
set_option maxRecDepth 100000 in
theorem kw_X4_wrongBySize : Cond.code yX4_wrongBySize cX4_wrongBySize 5 (some .int) ∈ z_W := z_in (List.mem_of_getElem? (i := 408) rfl) rfl
set_option maxRecDepth 100000 in
theorem kw_X4_kindAt : Cond.code yX4_kindAt cX4_kindAt 4 (some .int) ∈ z_W := z_in (List.mem_of_getElem? (i := 412) rfl) rfl
set_option maxRecDepth 100000 in
theorem kw_X4_giveBySize : Cond.code yX4_giveBySize cX4_giveBySize 4 none ∈ z_W := z_in (List.mem_of_getElem? (i := 416) rfl) rfl
set_option maxRecDepth 100000 in
theorem kw_X4_resize : Cond.code yX4_resize cX4_resize 7 (some .int) ∈ z_W := z_in (List.mem_of_getElem? (i := 420) rfl) rfl
set_option maxRecDepth 100000 in
theorem kw_X2_copy : Cond.code yX2_copy cX2_copy 6 none ∈ z_W := z_in (List.mem_of_getElem? (i := 424) rfl) rfl
set_option maxRecDepth 100000 in
theorem kw_X2_get : Cond.code yX2_get cX2_get 2 (some .int) ∈ z_W := z_in (List.mem_of_getElem? (i := 431) rfl) rfl
set_option maxRecDepth 100000 in
theorem kw_X2_shiftOf : Cond.code yX2_shiftOf cX2_shiftOf 1 (some .int) ∈ z_W := z_in (List.mem_of_getElem? (i := 434) rfl) rfl
set_option maxRecDepth 100000 in
theorem kw_X2_put : Cond.code yX2_put cX2_put 6 none ∈ z_W := z_in (List.mem_of_getElem? (i := 438) rfl) rfl
set_option maxRecDepth 100000 in
theorem kw_X4_size : Cond.code yX4_size cX4_size 3 (some .int) ∈ z_W := z_in (List.mem_of_getElem? (i := 444) rfl) rfl
set_option maxRecDepth 100000 in
theorem kw_X4_read : Cond.code yX4_read cX4_read 2 (some .int) ∈ z_W := z_in (List.mem_of_getElem? (i := 448) rfl) rfl
set_option maxRecDepth 100000 in
theorem kw_X4_write : Cond.code yX4_write cX4_write 4 (some .int) ∈ z_W := z_in (List.mem_of_getElem? (i := 453) rfl) rfl
set_option maxRecDepth 100000 in
theorem kw_X4_arm : Cond.code yX4_arm cX4_arm 2 (some .boolean) ∈ z_W := z_in (List.mem_of_getElem? (i := 458) rfl) rfl
set_option maxRecDepth 100000 in
theorem kw_X4_ofPage : Cond.code yX4_ofPage cX4_ofPage 3 (some .int) ∈ z_W := z_in (List.mem_of_getElem? (i := 462) rfl) rfl
set_option maxRecDepth 100000 in
theorem kw_X4_block : Cond.code yX4_block cX4_block 2 (some .int) ∈ z_W := z_in (List.mem_of_getElem? (i := 466) rfl) rfl
set_option maxRecDepth 100000 in
theorem kw_X4_order : Cond.code yX4_order cX4_order 2 (some .int) ∈ z_W := z_in (List.mem_of_getElem? (i := 470) rfl) rfl
set_option maxRecDepth 100000 in
theorem kw_X4_freeBlocks : Cond.code yX4_freeBlocks cX4_freeBlocks 2 (some .int) ∈ z_W := z_in (List.mem_of_getElem? (i := 474) rfl) rfl
set_option maxRecDepth 100000 in
theorem kw_X4_ofCache : Cond.code yX4_ofCache cX4_ofCache 4 (some .int) ∈ z_W := z_in (List.mem_of_getElem? (i := 478) rfl) rfl
set_option maxRecDepth 100000 in
theorem kw_X1_figure : Cond.code yX1_figure cX1_figure 2 (some .int) ∈ z_W := z_in (List.mem_of_getElem? (i := 482) rfl) rfl
set_option maxRecDepth 100000 in
theorem kw_X4_count : Cond.code yX4_count cX4_count 2 (some .int) ∈ z_W := z_in (List.mem_of_getElem? (i := 486) rfl) rfl
set_option maxRecDepth 100000 in
theorem kw_X4_liveObjects : Cond.code yX4_liveObjects cX4_liveObjects 4 (some .int) ∈ z_W := z_in (List.mem_of_getElem? (i := 490) rfl) rfl
set_option maxRecDepth 100000 in
theorem kw_X5_init : Cond.code yX5_init cX5_init 4 none ∈ z_W := z_in (List.mem_of_getElem? (i := 495) rfl) rfl
set_option maxRecDepth 100000 in
theorem kw_X5_addCache : Cond.code yX5_addCache cX5_addCache 4 (some .int) ∈ z_W := z_in (List.mem_of_getElem? (i := 500) rfl) rfl
set_option maxRecDepth 100000 in
theorem kw_X5_usable : Cond.code yX5_usable cX5_usable 4 (some .boolean) ∈ z_W := z_in (List.mem_of_getElem? (i := 565) rfl) rfl
set_option maxRecDepth 100000 in
theorem kw_X5_in : Cond.code yX5_in cX5_in 3 (some .boolean) ∈ z_W := z_in (List.mem_of_getElem? (i := 568) rfl) rfl
set_option maxRecDepth 100000 in
theorem kw_X5_start : Cond.code yX5_start cX5_start 3 (some .int) ∈ z_W := z_in (List.mem_of_getElem? (i := 572) rfl) rfl
set_option maxRecDepth 100000 in
theorem kw_X5_areUsable : Cond.code yX5_areUsable cX5_areUsable 5 (some .boolean) ∈ z_W := z_in (List.mem_of_getElem? (i := 576) rfl) rfl
set_option maxRecDepth 100000 in
theorem kw_X5_makeBlock : Cond.code yX5_makeBlock cX5_makeBlock 5 none ∈ z_W := z_in (List.mem_of_getElem? (i := 580) rfl) rfl
set_option maxRecDepth 100000 in
theorem kw_X5_usablePages : Cond.code yX5_usablePages cX5_usablePages 3 (some .int) ∈ z_W := z_in (List.mem_of_getElem? (i := 584) rfl) rfl
set_option maxRecDepth 100000 in
theorem kw_X5_pages : Cond.code yX5_pages cX5_pages 2 (some .int) ∈ z_W := z_in (List.mem_of_getElem? (i := 588) rfl) rfl
set_option maxRecDepth 100000 in
theorem kw_X5_takeBlock : Cond.code yX5_takeBlock cX5_takeBlock 6 (some .int) ∈ z_W := z_in (List.mem_of_getElem? (i := 592) rfl) rfl
set_option maxRecDepth 100000 in
theorem kw_X5_isFree : Cond.code yX5_isFree cX5_isFree 2 (some .boolean) ∈ z_W := z_in (List.mem_of_getElem? (i := 596) rfl) rfl
set_option maxRecDepth 100000 in
theorem kw_X5_isFirst : Cond.code yX5_isFirst cX5_isFirst 2 (some .boolean) ∈ z_W := z_in (List.mem_of_getElem? (i := 600) rfl) rfl
set_option maxRecDepth 100000 in
theorem kw_X5_freePageCount : Cond.code yX5_freePageCount cX5_freePageCount 3 (some .int) ∈ z_W := z_in (List.mem_of_getElem? (i := 604) rfl) rfl
set_option maxRecDepth 100000 in
theorem kw_X5_freePages : Cond.code yX5_freePages cX5_freePages 3 (some .int) ∈ z_W := z_in (List.mem_of_getElem? (i := 608) rfl) rfl
set_option maxRecDepth 100000 in
theorem kw_X5_faultOfPage : Cond.code yX5_faultOfPage cX5_faultOfPage 2 (some .int) ∈ z_W := z_in (List.mem_of_getElem? (i := 612) rfl) rfl
set_option maxRecDepth 100000 in
theorem kw_X5_giveBlock : Cond.code yX5_giveBlock cX5_giveBlock 7 (some .int) ∈ z_W := z_in (List.mem_of_getElem? (i := 616) rfl) rfl
set_option maxRecDepth 100000 in
theorem kw_X5_cache : Cond.code yX5_cache cX5_cache 4 (some .int) ∈ z_W := z_in (List.mem_of_getElem? (i := 620) rfl) rfl
set_option maxRecDepth 100000 in
theorem kw_X5_take : Cond.code yX5_take cX5_take 4 (some .int) ∈ z_W := z_in (List.mem_of_getElem? (i := 624) rfl) rfl
set_option maxRecDepth 100000 in
theorem kw_X5_isCache : Cond.code yX5_isCache cX5_isCache 2 (some .boolean) ∈ z_W := z_in (List.mem_of_getElem? (i := 628) rfl) rfl
set_option maxRecDepth 100000 in
theorem kw_X5_isSlab : Cond.code yX5_isSlab cX5_isSlab 3 (some .boolean) ∈ z_W := z_in (List.mem_of_getElem? (i := 632) rfl) rfl
set_option maxRecDepth 100000 in
theorem kw_X5_liveOf : Cond.code yX5_liveOf cX5_liveOf 2 (some .int) ∈ z_W := z_in (List.mem_of_getElem? (i := 636) rfl) rfl
set_option maxRecDepth 100000 in
theorem kw_X5_objectsOf : Cond.code yX5_objectsOf cX5_objectsOf 2 (some .int) ∈ z_W := z_in (List.mem_of_getElem? (i := 640) rfl) rfl
set_option maxRecDepth 100000 in
theorem kw_X5_newSlab : Cond.code yX5_newSlab cX5_newSlab 5 (some .int) ∈ z_W := z_in (List.mem_of_getElem? (i := 644) rfl) rfl
set_option maxRecDepth 100000 in
theorem kw_X5_give : Cond.code yX5_give cX5_give 5 (some .int) ∈ z_W := z_in (List.mem_of_getElem? (i := 648) rfl) rfl
set_option maxRecDepth 100000 in
theorem kw_X5_slabAt : Cond.code yX5_slabAt cX5_slabAt 4 (some .int) ∈ z_W := z_in (List.mem_of_getElem? (i := 652) rfl) rfl
set_option maxRecDepth 100000 in
theorem kw_X5_faultOfObject : Cond.code yX5_faultOfObject cX5_faultOfObject 7 (some .int) ∈ z_W := z_in (List.mem_of_getElem? (i := 656) rfl) rfl
set_option maxRecDepth 100000 in
theorem kw_X5_giveObject : Cond.code yX5_giveObject cX5_giveObject 6 (some .int) ∈ z_W := z_in (List.mem_of_getElem? (i := 660) rfl) rfl
set_option maxRecDepth 100000 in
theorem kw_X5_shrink : Cond.code yX5_shrink cX5_shrink 3 (some .int) ∈ z_W := z_in (List.mem_of_getElem? (i := 664) rfl) rfl
set_option maxRecDepth 100000 in
theorem kw_X5_alloc : Cond.code yX5_alloc cX5_alloc 4 (some .int) ∈ z_W := z_in (List.mem_of_getElem? (i := 668) rfl) rfl
set_option maxRecDepth 100000 in
theorem kw_X5_classOf : Cond.code yX5_classOf cX5_classOf 3 (some .int) ∈ z_W := z_in (List.mem_of_getElem? (i := 671) rfl) rfl
set_option maxRecDepth 100000 in
theorem kw_X5_free : Cond.code yX5_free cX5_free 4 (some .int) ∈ z_W := z_in (List.mem_of_getElem? (i := 676) rfl) rfl
set_option maxRecDepth 100000 in
theorem kw_X5_classAt : Cond.code yX5_classAt cX5_classAt 4 (some .int) ∈ z_W := z_in (List.mem_of_getElem? (i := 680) rfl) rfl
set_option maxRecDepth 100000 in
theorem kw_X5_release : Cond.code yX5_release cX5_release 3 (some .int) ∈ z_W := z_in (List.mem_of_getElem? (i := 684) rfl) rfl
set_option maxRecDepth 100000 in
theorem kw_X5_bytesOf : Cond.code yX5_bytesOf cX5_bytesOf 1 (some .int) ∈ z_W := z_in (List.mem_of_getElem? (i := 687) rfl) rfl
set_option maxRecDepth 100000 in
theorem kw_X5_size : Cond.code yX5_size cX5_size 3 (some .int) ∈ z_W := z_in (List.mem_of_getElem? (i := 691) rfl) rfl
set_option maxRecDepth 100000 in
theorem kw_X5_resize : Cond.code yX5_resize cX5_resize 8 (some .int) ∈ z_W := z_in (List.mem_of_getElem? (i := 695) rfl) rfl
set_option maxRecDepth 100000 in
theorem kw_X5_read : Cond.code yX5_read cX5_read 2 (some .int) ∈ z_W := z_in (List.mem_of_getElem? (i := 700) rfl) rfl
set_option maxRecDepth 100000 in
theorem kw_X5_isAddress : Cond.code yX5_isAddress cX5_isAddress 1 (some .boolean) ∈ z_W := z_in (List.mem_of_getElem? (i := 703) rfl) rfl
set_option maxRecDepth 100000 in
theorem kw_X5_write : Cond.code yX5_write cX5_write 4 (some .int) ∈ z_W := z_in (List.mem_of_getElem? (i := 707) rfl) rfl
set_option maxRecDepth 100000 in
theorem kw_X5_arm : Cond.code yX5_arm cX5_arm 2 (some .boolean) ∈ z_W := z_in (List.mem_of_getElem? (i := 711) rfl) rfl
set_option maxRecDepth 100000 in
theorem kw_X5_ofPage : Cond.code yX5_ofPage cX5_ofPage 3 (some .int) ∈ z_W := z_in (List.mem_of_getElem? (i := 715) rfl) rfl
set_option maxRecDepth 100000 in
theorem kw_X5_block : Cond.code yX5_block cX5_block 2 (some .int) ∈ z_W := z_in (List.mem_of_getElem? (i := 719) rfl) rfl
set_option maxRecDepth 100000 in
theorem kw_X5_order : Cond.code yX5_order cX5_order 3 (some .int) ∈ z_W := z_in (List.mem_of_getElem? (i := 723) rfl) rfl
set_option maxRecDepth 100000 in
theorem kw_X5_freeBlocks : Cond.code yX5_freeBlocks cX5_freeBlocks 4 (some .int) ∈ z_W := z_in (List.mem_of_getElem? (i := 728) rfl) rfl
set_option maxRecDepth 100000 in
theorem kw_X5_ofCache : Cond.code yX5_ofCache cX5_ofCache 3 (some .int) ∈ z_W := z_in (List.mem_of_getElem? (i := 732) rfl) rfl
set_option maxRecDepth 100000 in
theorem kw_X5_slabsOf : Cond.code yX5_slabsOf cX5_slabsOf 4 (some .int) ∈ z_W := z_in (List.mem_of_getElem? (i := 736) rfl) rfl
set_option maxRecDepth 100000 in
theorem kw_X5_liveIn : Cond.code yX5_liveIn cX5_liveIn 4 (some .int) ∈ z_W := z_in (List.mem_of_getElem? (i := 740) rfl) rfl
set_option maxRecDepth 100000 in
theorem kw_X5_count : Cond.code yX5_count cX5_count 4 (some .int) ∈ z_W := z_in (List.mem_of_getElem? (i := 744) rfl) rfl
theorem lb_X4_init : z_LB yX4_init 0 := ⟨z_in (List.mem_of_getElem? (i := 42) (by decide +kernel)) rfl, by decide +kernel, by decide +kernel, by decide +kernel⟩
theorem lb_X2_init : z_LB yX2_init 0 := ⟨z_in (List.mem_of_getElem? (i := 43) (by decide +kernel)) rfl, by decide +kernel, by decide +kernel, by decide +kernel⟩
theorem lb_X0_init : z_LB yX0_init 0 := ⟨z_in (List.mem_of_getElem? (i := 44) (by decide +kernel)) rfl, by decide +kernel, by decide +kernel, by decide +kernel⟩
theorem lb_J9_min_7cf53 : z_LB yJ9_min_7cf53 2 := ⟨z_in (List.mem_of_getElem? (i := 46) (by decide +kernel)) rfl, by decide +kernel, by decide +kernel, by decide +kernel⟩
theorem lb_X1_init : z_LB yX1_init 3 := ⟨z_in (List.mem_of_getElem? (i := 45) (by decide +kernel)) rfl, by decide +kernel, by decide +kernel, by decide +kernel⟩
theorem lb_X1_orderFor : z_LB yX1_orderFor 1 := ⟨z_in (List.mem_of_getElem? (i := 45) (by decide +kernel)) rfl, by decide +kernel, by decide +kernel, by decide +kernel⟩
theorem lb_X1_objectsIn : z_LB yX1_objectsIn 2 := ⟨z_in (List.mem_of_getElem? (i := 45) (by decide +kernel)) rfl, by decide +kernel, by decide +kernel, by decide +kernel⟩
theorem lb_X4_usable : z_LB yX4_usable 2 := ⟨z_in (List.mem_of_getElem? (i := 42) (by decide +kernel)) rfl, by decide +kernel, by decide +kernel, by decide +kernel⟩
theorem lb_X0_tell : z_LB yX0_tell 2 := ⟨z_in (List.mem_of_getElem? (i := 44) (by decide +kernel)) rfl, by decide +kernel, by decide +kernel, by decide +kernel⟩
theorem lb_X4_start : z_LB yX4_start 0 := ⟨z_in (List.mem_of_getElem? (i := 42) (by decide +kernel)) rfl, by decide +kernel, by decide +kernel, by decide +kernel⟩
theorem lb_X0_open : z_LB yX0_open 0 := ⟨z_in (List.mem_of_getElem? (i := 44) (by decide +kernel)) rfl, by decide +kernel, by decide +kernel, by decide +kernel⟩
theorem lb_X0_join : z_LB yX0_join 2 := ⟨z_in (List.mem_of_getElem? (i := 44) (by decide +kernel)) rfl, by decide +kernel, by decide +kernel, by decide +kernel⟩
theorem lb_X0_buddyOf : z_LB yX0_buddyOf 2 := ⟨z_in (List.mem_of_getElem? (i := 44) (by decide +kernel)) rfl, by decide +kernel, by decide +kernel, by decide +kernel⟩
theorem lb_X0_isFree : z_LB yX0_isFree 2 := ⟨z_in (List.mem_of_getElem? (i := 44) (by decide +kernel)) rfl, by decide +kernel, by decide +kernel, by decide +kernel⟩
theorem lb_X0_layFree : z_LB yX0_layFree 2 := ⟨z_in (List.mem_of_getElem? (i := 44) (by decide +kernel)) rfl, by decide +kernel, by decide +kernel, by decide +kernel⟩
theorem lb_X4_pages : z_LB yX4_pages 1 := ⟨z_in (List.mem_of_getElem? (i := 42) (by decide +kernel)) rfl, by decide +kernel, by decide +kernel, by decide +kernel⟩
theorem lb_X4_isOrder : z_LB yX4_isOrder 1 := ⟨z_in (List.mem_of_getElem? (i := 42) (by decide +kernel)) rfl, by decide +kernel, by decide +kernel, by decide +kernel⟩
theorem lb_X0_claim : z_LB yX0_claim 2 := ⟨z_in (List.mem_of_getElem? (i := 44) (by decide +kernel)) rfl, by decide +kernel, by decide +kernel, by decide +kernel⟩
theorem lb_X0_leastFree : z_LB yX0_leastFree 1 := ⟨z_in (List.mem_of_getElem? (i := 44) (by decide +kernel)) rfl, by decide +kernel, by decide +kernel, by decide +kernel⟩
theorem lb_X0_halve : z_LB yX0_halve 2 := ⟨z_in (List.mem_of_getElem? (i := 44) (by decide +kernel)) rfl, by decide +kernel, by decide +kernel, by decide +kernel⟩
theorem lb_J9_max_7cf53 : z_LB yJ9_max_7cf53 2 := ⟨z_in (List.mem_of_getElem? (i := 46) (by decide +kernel)) rfl, by decide +kernel, by decide +kernel, by decide +kernel⟩
theorem lb_X4_freePages : z_LB yX4_freePages 1 := ⟨z_in (List.mem_of_getElem? (i := 42) (by decide +kernel)) rfl, by decide +kernel, by decide +kernel, by decide +kernel⟩
theorem lb_X4_wrongWithPage : z_LB yX4_wrongWithPage 1 := ⟨z_in (List.mem_of_getElem? (i := 42) (by decide +kernel)) rfl, by decide +kernel, by decide +kernel, by decide +kernel⟩
theorem lb_X0_useFrom : z_LB yX0_useFrom 1 := ⟨z_in (List.mem_of_getElem? (i := 44) (by decide +kernel)) rfl, by decide +kernel, by decide +kernel, by decide +kernel⟩
theorem lb_X4_isPage : z_LB yX4_isPage 1 := ⟨z_in (List.mem_of_getElem? (i := 42) (by decide +kernel)) rfl, by decide +kernel, by decide +kernel, by decide +kernel⟩
theorem lb_X0_orderFrom : z_LB yX0_orderFrom 1 := ⟨z_in (List.mem_of_getElem? (i := 44) (by decide +kernel)) rfl, by decide +kernel, by decide +kernel, by decide +kernel⟩
theorem lb_X0_release : z_LB yX0_release 1 := ⟨z_in (List.mem_of_getElem? (i := 44) (by decide +kernel)) rfl, by decide +kernel, by decide +kernel, by decide +kernel⟩
theorem lb_X4_cache : z_LB yX4_cache 2 := ⟨z_in (List.mem_of_getElem? (i := 42) (by decide +kernel)) rfl, by decide +kernel, by decide +kernel, by decide +kernel⟩
theorem lb_X4_isAlignment : z_LB yX4_isAlignment 1 := ⟨z_in (List.mem_of_getElem? (i := 42) (by decide +kernel)) rfl, by decide +kernel, by decide +kernel, by decide +kernel⟩
theorem lb_J6_bitCount_0f7a4 : z_LB yJ6_bitCount_0f7a4 1 := ⟨z_in (List.mem_of_getElem? (i := 48) (by decide +kernel)) rfl, by decide +kernel, by decide +kernel, by decide +kernel⟩
theorem lb_X4_take : z_LB yX4_take 1 := ⟨z_in (List.mem_of_getElem? (i := 42) (by decide +kernel)) rfl, by decide +kernel, by decide +kernel, by decide +kernel⟩
theorem lb_X4_cacheOf : z_LB yX4_cacheOf 1 := ⟨z_in (List.mem_of_getElem? (i := 42) (by decide +kernel)) rfl, by decide +kernel, by decide +kernel, by decide +kernel⟩
theorem lb_X4_takeObject : z_LB yX4_takeObject 1 := ⟨z_in (List.mem_of_getElem? (i := 42) (by decide +kernel)) rfl, by decide +kernel, by decide +kernel, by decide +kernel⟩
theorem lb_X4_partlyLiveSlab : z_LB yX4_partlyLiveSlab 1 := ⟨z_in (List.mem_of_getElem? (i := 42) (by decide +kernel)) rfl, by decide +kernel, by decide +kernel, by decide +kernel⟩
theorem lb_X3_isPartlyLive : z_LB yX3_isPartlyLive 0 := ⟨z_in (List.mem_of_getElem? (i := 49) (by decide +kernel)) rfl, by decide +kernel, by decide +kernel, by decide +kernel⟩
theorem lb_X4_newSlab : z_LB yX4_newSlab 1 := ⟨z_in (List.mem_of_getElem? (i := 42) (by decide +kernel)) rfl, by decide +kernel, by decide +kernel, by decide +kernel⟩
theorem lb_X3_init : z_LB yX3_init 0 := ⟨z_in (List.mem_of_getElem? (i := 49) (by decide +kernel)) rfl, by decide +kernel, by decide +kernel, by decide +kernel⟩
theorem lb_X3_layOut : z_LB yX3_layOut 1 := ⟨z_in (List.mem_of_getElem? (i := 49) (by decide +kernel)) rfl, by decide +kernel, by decide +kernel, by decide +kernel⟩
theorem lb_X4_slabAt : z_LB yX4_slabAt 1 := ⟨z_in (List.mem_of_getElem? (i := 42) (by decide +kernel)) rfl, by decide +kernel, by decide +kernel, by decide +kernel⟩
theorem lb_X3_takeFront : z_LB yX3_takeFront 0 := ⟨z_in (List.mem_of_getElem? (i := 49) (by decide +kernel)) rfl, by decide +kernel, by decide +kernel, by decide +kernel⟩
theorem lb_X4_give : z_LB yX4_give 2 := ⟨z_in (List.mem_of_getElem? (i := 42) (by decide +kernel)) rfl, by decide +kernel, by decide +kernel, by decide +kernel⟩
theorem lb_X4_wrongWithObject : z_LB yX4_wrongWithObject 2 := ⟨z_in (List.mem_of_getElem? (i := 42) (by decide +kernel)) rfl, by decide +kernel, by decide +kernel, by decide +kernel⟩
theorem lb_X4_isAddress : z_LB yX4_isAddress 1 := ⟨z_in (List.mem_of_getElem? (i := 42) (by decide +kernel)) rfl, by decide +kernel, by decide +kernel, by decide +kernel⟩
theorem lb_X0_firstOf : z_LB yX0_firstOf 1 := ⟨z_in (List.mem_of_getElem? (i := 44) (by decide +kernel)) rfl, by decide +kernel, by decide +kernel, by decide +kernel⟩
theorem lb_X1_indexAt : z_LB yX1_indexAt 1 := ⟨z_in (List.mem_of_getElem? (i := 45) (by decide +kernel)) rfl, by decide +kernel, by decide +kernel, by decide +kernel⟩
theorem lb_X3_isLive : z_LB yX3_isLive 1 := ⟨z_in (List.mem_of_getElem? (i := 49) (by decide +kernel)) rfl, by decide +kernel, by decide +kernel, by decide +kernel⟩
theorem lb_X4_giveObject : z_LB yX4_giveObject 2 := ⟨z_in (List.mem_of_getElem? (i := 42) (by decide +kernel)) rfl, by decide +kernel, by decide +kernel, by decide +kernel⟩
theorem lb_X3_putFront : z_LB yX3_putFront 1 := ⟨z_in (List.mem_of_getElem? (i := 49) (by decide +kernel)) rfl, by decide +kernel, by decide +kernel, by decide +kernel⟩
theorem lb_X3_liveCount : z_LB yX3_liveCount 0 := ⟨z_in (List.mem_of_getElem? (i := 49) (by decide +kernel)) rfl, by decide +kernel, by decide +kernel, by decide +kernel⟩
theorem lb_X4_dropSlab : z_LB yX4_dropSlab 2 := ⟨z_in (List.mem_of_getElem? (i := 42) (by decide +kernel)) rfl, by decide +kernel, by decide +kernel, by decide +kernel⟩
theorem lb_X4_shrink : z_LB yX4_shrink 1 := ⟨z_in (List.mem_of_getElem? (i := 42) (by decide +kernel)) rfl, by decide +kernel, by decide +kernel, by decide +kernel⟩
theorem lb_X4_alloc : z_LB yX4_alloc 1 := ⟨z_in (List.mem_of_getElem? (i := 42) (by decide +kernel)) rfl, by decide +kernel, by decide +kernel, by decide +kernel⟩
theorem lb_X4_isBySize : z_LB yX4_isBySize 1 := ⟨z_in (List.mem_of_getElem? (i := 42) (by decide +kernel)) rfl, by decide +kernel, by decide +kernel, by decide +kernel⟩
theorem lb_X4_kindFor : z_LB yX4_kindFor 1 := ⟨z_in (List.mem_of_getElem? (i := 42) (by decide +kernel)) rfl, by decide +kernel, by decide +kernel, by decide +kernel⟩
theorem lb_X4_bytesOfKind : z_LB yX4_bytesOfKind 1 := ⟨z_in (List.mem_of_getElem? (i := 42) (by decide +kernel)) rfl, by decide +kernel, by decide +kernel, by decide +kernel⟩
theorem lb_X4_takeKind : z_LB yX4_takeKind 1 := ⟨z_in (List.mem_of_getElem? (i := 42) (by decide +kernel)) rfl, by decide +kernel, by decide +kernel, by decide +kernel⟩
theorem lb_X4_free : z_LB yX4_free 1 := ⟨z_in (List.mem_of_getElem? (i := 42) (by decide +kernel)) rfl, by decide +kernel, by decide +kernel, by decide +kernel⟩
theorem lb_X4_wrongBySize : z_LB yX4_wrongBySize 1 := ⟨z_in (List.mem_of_getElem? (i := 42) (by decide +kernel)) rfl, by decide +kernel, by decide +kernel, by decide +kernel⟩
theorem lb_X4_kindAt : z_LB yX4_kindAt 1 := ⟨z_in (List.mem_of_getElem? (i := 42) (by decide +kernel)) rfl, by decide +kernel, by decide +kernel, by decide +kernel⟩
theorem lb_X4_giveBySize : z_LB yX4_giveBySize 1 := ⟨z_in (List.mem_of_getElem? (i := 42) (by decide +kernel)) rfl, by decide +kernel, by decide +kernel, by decide +kernel⟩
theorem lb_X4_resize : z_LB yX4_resize 2 := ⟨z_in (List.mem_of_getElem? (i := 42) (by decide +kernel)) rfl, by decide +kernel, by decide +kernel, by decide +kernel⟩
theorem lb_X2_copy : z_LB yX2_copy 3 := ⟨z_in (List.mem_of_getElem? (i := 43) (by decide +kernel)) rfl, by decide +kernel, by decide +kernel, by decide +kernel⟩
theorem lb_X2_get : z_LB yX2_get 1 := ⟨z_in (List.mem_of_getElem? (i := 43) (by decide +kernel)) rfl, by decide +kernel, by decide +kernel, by decide +kernel⟩
theorem lb_X2_shiftOf : z_LB yX2_shiftOf 1 := ⟨z_in (List.mem_of_getElem? (i := 43) (by decide +kernel)) rfl, by decide +kernel, by decide +kernel, by decide +kernel⟩
theorem lb_X2_put : z_LB yX2_put 2 := ⟨z_in (List.mem_of_getElem? (i := 43) (by decide +kernel)) rfl, by decide +kernel, by decide +kernel, by decide +kernel⟩
theorem lb_X4_size : z_LB yX4_size 1 := ⟨z_in (List.mem_of_getElem? (i := 42) (by decide +kernel)) rfl, by decide +kernel, by decide +kernel, by decide +kernel⟩
theorem lb_X4_read : z_LB yX4_read 1 := ⟨z_in (List.mem_of_getElem? (i := 42) (by decide +kernel)) rfl, by decide +kernel, by decide +kernel, by decide +kernel⟩
theorem lb_X4_write : z_LB yX4_write 2 := ⟨z_in (List.mem_of_getElem? (i := 42) (by decide +kernel)) rfl, by decide +kernel, by decide +kernel, by decide +kernel⟩
theorem lb_X4_arm : z_LB yX4_arm 1 := ⟨z_in (List.mem_of_getElem? (i := 42) (by decide +kernel)) rfl, by decide +kernel, by decide +kernel, by decide +kernel⟩
theorem lb_X4_ofPage : z_LB yX4_ofPage 1 := ⟨z_in (List.mem_of_getElem? (i := 42) (by decide +kernel)) rfl, by decide +kernel, by decide +kernel, by decide +kernel⟩
theorem lb_X4_block : z_LB yX4_block 1 := ⟨z_in (List.mem_of_getElem? (i := 42) (by decide +kernel)) rfl, by decide +kernel, by decide +kernel, by decide +kernel⟩
theorem lb_X4_order : z_LB yX4_order 1 := ⟨z_in (List.mem_of_getElem? (i := 42) (by decide +kernel)) rfl, by decide +kernel, by decide +kernel, by decide +kernel⟩
theorem lb_X4_freeBlocks : z_LB yX4_freeBlocks 1 := ⟨z_in (List.mem_of_getElem? (i := 42) (by decide +kernel)) rfl, by decide +kernel, by decide +kernel, by decide +kernel⟩
theorem lb_X4_ofCache : z_LB yX4_ofCache 2 := ⟨z_in (List.mem_of_getElem? (i := 42) (by decide +kernel)) rfl, by decide +kernel, by decide +kernel, by decide +kernel⟩
theorem lb_X1_figure : z_LB yX1_figure 1 := ⟨z_in (List.mem_of_getElem? (i := 45) (by decide +kernel)) rfl, by decide +kernel, by decide +kernel, by decide +kernel⟩
theorem lb_X4_count : z_LB yX4_count 1 := ⟨z_in (List.mem_of_getElem? (i := 42) (by decide +kernel)) rfl, by decide +kernel, by decide +kernel, by decide +kernel⟩
theorem lb_X4_liveObjects : z_LB yX4_liveObjects 0 := ⟨z_in (List.mem_of_getElem? (i := 42) (by decide +kernel)) rfl, by decide +kernel, by decide +kernel, by decide +kernel⟩
theorem lb_X5_init : z_LB yX5_init 0 := ⟨z_in (List.mem_of_getElem? (i := 47) (by decide +kernel)) rfl, by decide +kernel, by decide +kernel, by decide +kernel⟩
theorem lb_X5_addCache : z_LB yX5_addCache 2 := ⟨z_in (List.mem_of_getElem? (i := 47) (by decide +kernel)) rfl, by decide +kernel, by decide +kernel, by decide +kernel⟩
theorem lb_X5_usable : z_LB yX5_usable 2 := ⟨z_in (List.mem_of_getElem? (i := 47) (by decide +kernel)) rfl, by decide +kernel, by decide +kernel, by decide +kernel⟩
theorem lb_X5_in : z_LB yX5_in 3 := ⟨z_in (List.mem_of_getElem? (i := 47) (by decide +kernel)) rfl, by decide +kernel, by decide +kernel, by decide +kernel⟩
theorem lb_X5_start : z_LB yX5_start 0 := ⟨z_in (List.mem_of_getElem? (i := 47) (by decide +kernel)) rfl, by decide +kernel, by decide +kernel, by decide +kernel⟩
theorem lb_X5_areUsable : z_LB yX5_areUsable 2 := ⟨z_in (List.mem_of_getElem? (i := 47) (by decide +kernel)) rfl, by decide +kernel, by decide +kernel, by decide +kernel⟩
theorem lb_X5_makeBlock : z_LB yX5_makeBlock 3 := ⟨z_in (List.mem_of_getElem? (i := 47) (by decide +kernel)) rfl, by decide +kernel, by decide +kernel, by decide +kernel⟩
theorem lb_X5_usablePages : z_LB yX5_usablePages 0 := ⟨z_in (List.mem_of_getElem? (i := 47) (by decide +kernel)) rfl, by decide +kernel, by decide +kernel, by decide +kernel⟩
theorem lb_X5_pages : z_LB yX5_pages 1 := ⟨z_in (List.mem_of_getElem? (i := 47) (by decide +kernel)) rfl, by decide +kernel, by decide +kernel, by decide +kernel⟩
theorem lb_X5_takeBlock : z_LB yX5_takeBlock 1 := ⟨z_in (List.mem_of_getElem? (i := 47) (by decide +kernel)) rfl, by decide +kernel, by decide +kernel, by decide +kernel⟩
theorem lb_X5_isFree : z_LB yX5_isFree 1 := ⟨z_in (List.mem_of_getElem? (i := 47) (by decide +kernel)) rfl, by decide +kernel, by decide +kernel, by decide +kernel⟩
theorem lb_X5_isFirst : z_LB yX5_isFirst 1 := ⟨z_in (List.mem_of_getElem? (i := 47) (by decide +kernel)) rfl, by decide +kernel, by decide +kernel, by decide +kernel⟩
theorem lb_X5_freePageCount : z_LB yX5_freePageCount 0 := ⟨z_in (List.mem_of_getElem? (i := 47) (by decide +kernel)) rfl, by decide +kernel, by decide +kernel, by decide +kernel⟩
theorem lb_X5_freePages : z_LB yX5_freePages 1 := ⟨z_in (List.mem_of_getElem? (i := 47) (by decide +kernel)) rfl, by decide +kernel, by decide +kernel, by decide +kernel⟩
theorem lb_X5_faultOfPage : z_LB yX5_faultOfPage 1 := ⟨z_in (List.mem_of_getElem? (i := 47) (by decide +kernel)) rfl, by decide +kernel, by decide +kernel, by decide +kernel⟩
theorem lb_X5_giveBlock : z_LB yX5_giveBlock 1 := ⟨z_in (List.mem_of_getElem? (i := 47) (by decide +kernel)) rfl, by decide +kernel, by decide +kernel, by decide +kernel⟩
theorem lb_X5_cache : z_LB yX5_cache 2 := ⟨z_in (List.mem_of_getElem? (i := 47) (by decide +kernel)) rfl, by decide +kernel, by decide +kernel, by decide +kernel⟩
theorem lb_X5_take : z_LB yX5_take 1 := ⟨z_in (List.mem_of_getElem? (i := 47) (by decide +kernel)) rfl, by decide +kernel, by decide +kernel, by decide +kernel⟩
theorem lb_X5_isCache : z_LB yX5_isCache 1 := ⟨z_in (List.mem_of_getElem? (i := 47) (by decide +kernel)) rfl, by decide +kernel, by decide +kernel, by decide +kernel⟩
theorem lb_X5_isSlab : z_LB yX5_isSlab 2 := ⟨z_in (List.mem_of_getElem? (i := 47) (by decide +kernel)) rfl, by decide +kernel, by decide +kernel, by decide +kernel⟩
theorem lb_X5_liveOf : z_LB yX5_liveOf 1 := ⟨z_in (List.mem_of_getElem? (i := 47) (by decide +kernel)) rfl, by decide +kernel, by decide +kernel, by decide +kernel⟩
theorem lb_X5_objectsOf : z_LB yX5_objectsOf 1 := ⟨z_in (List.mem_of_getElem? (i := 47) (by decide +kernel)) rfl, by decide +kernel, by decide +kernel, by decide +kernel⟩
theorem lb_X5_newSlab : z_LB yX5_newSlab 1 := ⟨z_in (List.mem_of_getElem? (i := 47) (by decide +kernel)) rfl, by decide +kernel, by decide +kernel, by decide +kernel⟩
theorem lb_X5_give : z_LB yX5_give 2 := ⟨z_in (List.mem_of_getElem? (i := 47) (by decide +kernel)) rfl, by decide +kernel, by decide +kernel, by decide +kernel⟩
theorem lb_X5_slabAt : z_LB yX5_slabAt 1 := ⟨z_in (List.mem_of_getElem? (i := 47) (by decide +kernel)) rfl, by decide +kernel, by decide +kernel, by decide +kernel⟩
theorem lb_X5_faultOfObject : z_LB yX5_faultOfObject 2 := ⟨z_in (List.mem_of_getElem? (i := 47) (by decide +kernel)) rfl, by decide +kernel, by decide +kernel, by decide +kernel⟩
theorem lb_X5_giveObject : z_LB yX5_giveObject 2 := ⟨z_in (List.mem_of_getElem? (i := 47) (by decide +kernel)) rfl, by decide +kernel, by decide +kernel, by decide +kernel⟩
theorem lb_X5_shrink : z_LB yX5_shrink 1 := ⟨z_in (List.mem_of_getElem? (i := 47) (by decide +kernel)) rfl, by decide +kernel, by decide +kernel, by decide +kernel⟩
theorem lb_X5_alloc : z_LB yX5_alloc 1 := ⟨z_in (List.mem_of_getElem? (i := 47) (by decide +kernel)) rfl, by decide +kernel, by decide +kernel, by decide +kernel⟩
theorem lb_X5_classOf : z_LB yX5_classOf 1 := ⟨z_in (List.mem_of_getElem? (i := 47) (by decide +kernel)) rfl, by decide +kernel, by decide +kernel, by decide +kernel⟩
theorem lb_X5_free : z_LB yX5_free 1 := ⟨z_in (List.mem_of_getElem? (i := 47) (by decide +kernel)) rfl, by decide +kernel, by decide +kernel, by decide +kernel⟩
theorem lb_X5_classAt : z_LB yX5_classAt 1 := ⟨z_in (List.mem_of_getElem? (i := 47) (by decide +kernel)) rfl, by decide +kernel, by decide +kernel, by decide +kernel⟩
theorem lb_X5_release : z_LB yX5_release 2 := ⟨z_in (List.mem_of_getElem? (i := 47) (by decide +kernel)) rfl, by decide +kernel, by decide +kernel, by decide +kernel⟩
theorem lb_X5_bytesOf : z_LB yX5_bytesOf 1 := ⟨z_in (List.mem_of_getElem? (i := 47) (by decide +kernel)) rfl, by decide +kernel, by decide +kernel, by decide +kernel⟩
theorem lb_X5_size : z_LB yX5_size 1 := ⟨z_in (List.mem_of_getElem? (i := 47) (by decide +kernel)) rfl, by decide +kernel, by decide +kernel, by decide +kernel⟩
theorem lb_X5_resize : z_LB yX5_resize 2 := ⟨z_in (List.mem_of_getElem? (i := 47) (by decide +kernel)) rfl, by decide +kernel, by decide +kernel, by decide +kernel⟩
theorem lb_X5_read : z_LB yX5_read 1 := ⟨z_in (List.mem_of_getElem? (i := 47) (by decide +kernel)) rfl, by decide +kernel, by decide +kernel, by decide +kernel⟩
theorem lb_X5_isAddress : z_LB yX5_isAddress 1 := ⟨z_in (List.mem_of_getElem? (i := 47) (by decide +kernel)) rfl, by decide +kernel, by decide +kernel, by decide +kernel⟩
theorem lb_X5_write : z_LB yX5_write 2 := ⟨z_in (List.mem_of_getElem? (i := 47) (by decide +kernel)) rfl, by decide +kernel, by decide +kernel, by decide +kernel⟩
theorem lb_X5_arm : z_LB yX5_arm 1 := ⟨z_in (List.mem_of_getElem? (i := 47) (by decide +kernel)) rfl, by decide +kernel, by decide +kernel, by decide +kernel⟩
theorem lb_X5_ofPage : z_LB yX5_ofPage 1 := ⟨z_in (List.mem_of_getElem? (i := 47) (by decide +kernel)) rfl, by decide +kernel, by decide +kernel, by decide +kernel⟩
theorem lb_X5_block : z_LB yX5_block 1 := ⟨z_in (List.mem_of_getElem? (i := 47) (by decide +kernel)) rfl, by decide +kernel, by decide +kernel, by decide +kernel⟩
theorem lb_X5_order : z_LB yX5_order 1 := ⟨z_in (List.mem_of_getElem? (i := 47) (by decide +kernel)) rfl, by decide +kernel, by decide +kernel, by decide +kernel⟩
theorem lb_X5_freeBlocks : z_LB yX5_freeBlocks 1 := ⟨z_in (List.mem_of_getElem? (i := 47) (by decide +kernel)) rfl, by decide +kernel, by decide +kernel, by decide +kernel⟩
theorem lb_X5_ofCache : z_LB yX5_ofCache 2 := ⟨z_in (List.mem_of_getElem? (i := 47) (by decide +kernel)) rfl, by decide +kernel, by decide +kernel, by decide +kernel⟩
theorem lb_X5_slabsOf : z_LB yX5_slabsOf 1 := ⟨z_in (List.mem_of_getElem? (i := 47) (by decide +kernel)) rfl, by decide +kernel, by decide +kernel, by decide +kernel⟩
theorem lb_X5_liveIn : z_LB yX5_liveIn 1 := ⟨z_in (List.mem_of_getElem? (i := 47) (by decide +kernel)) rfl, by decide +kernel, by decide +kernel, by decide +kernel⟩
theorem lb_X5_count : z_LB yX5_count 1 := ⟨z_in (List.mem_of_getElem? (i := 47) (by decide +kernel)) rfl, by decide +kernel, by decide +kernel, by decide +kernel⟩
theorem ml_L_9 : z_LI RL 9 yX4_init 0 := ⟨z_in (List.mem_of_getElem? (i := 53) (by decide +kernel)) rfl, z_in (List.mem_of_getElem? (i := 54) (by decide +kernel)) rfl, rfl, lb_X4_init⟩
theorem ml_X4_3 : Cond.methodLink RX4 3 Lib.objectInit ∈ z_W := z_in (List.mem_of_getElem? (i := 56) (by decide +kernel)) rfl
theorem ml_X2_3 : Cond.methodLink RX2 3 Lib.objectInit ∈ z_W := z_in (List.mem_of_getElem? (i := 64) (by decide +kernel)) rfl
theorem ml_X0_3 : Cond.methodLink RX0 3 Lib.objectInit ∈ z_W := z_in (List.mem_of_getElem? (i := 75) (by decide +kernel)) rfl
theorem ml_X4_35 : Cond.methodLink RX4 35 Lib.Math.min.name ∈ z_W := z_in (List.mem_of_getElem? (i := 129) (by decide +kernel)) rfl
theorem ml_X4_41 : z_LI RX4 41 yX1_init 3 := ⟨z_in (List.mem_of_getElem? (i := 132) (by decide +kernel)) rfl, z_in (List.mem_of_getElem? (i := 133) (by decide +kernel)) rfl, rfl, lb_X1_init⟩
theorem ml_X1_3 : Cond.methodLink RX1 3 Lib.objectInit ∈ z_W := z_in (List.mem_of_getElem? (i := 135) (by decide +kernel)) rfl
theorem ml_X1_27 : z_LS RX1 27 yX1_orderFor 1 := ⟨z_in (List.mem_of_getElem? (i := 136) (by decide +kernel)) rfl, z_in (List.mem_of_getElem? (i := 137) (by decide +kernel)) rfl, lb_X1_orderFor⟩
theorem ml_X1_34 : z_LS RX1 34 yX1_objectsIn 2 := ⟨z_in (List.mem_of_getElem? (i := 139) (by decide +kernel)) rfl, z_in (List.mem_of_getElem? (i := 140) (by decide +kernel)) rfl, lb_X1_objectsIn⟩
theorem ml_L_13 : z_LV RL 13 yX4_usable 2 := ⟨z_in (List.mem_of_getElem? (i := 193) (by decide +kernel)) rfl, z_in (List.mem_of_getElem? (i := 194) (by decide +kernel)) rfl, z_in (List.mem_of_getElem? (i := 195) (by decide +kernel)) rfl, lb_X4_usable⟩
theorem ml_X4_52 : z_LV RX4 52 yX0_tell 2 := ⟨z_in (List.mem_of_getElem? (i := 197) (by decide +kernel)) rfl, z_in (List.mem_of_getElem? (i := 198) (by decide +kernel)) rfl, z_in (List.mem_of_getElem? (i := 199) (by decide +kernel)) rfl, lb_X0_tell⟩
theorem ml_L_18 : z_LV RL 18 yX4_start 0 := ⟨z_in (List.mem_of_getElem? (i := 201) (by decide +kernel)) rfl, z_in (List.mem_of_getElem? (i := 202) (by decide +kernel)) rfl, z_in (List.mem_of_getElem? (i := 203) (by decide +kernel)) rfl, lb_X4_start⟩
theorem ml_X4_56 : z_LV RX4 56 yX0_open 0 := ⟨z_in (List.mem_of_getElem? (i := 205) (by decide +kernel)) rfl, z_in (List.mem_of_getElem? (i := 206) (by decide +kernel)) rfl, z_in (List.mem_of_getElem? (i := 207) (by decide +kernel)) rfl, lb_X0_open⟩
theorem ml_X0_36 : z_LV RX0 36 yX0_join 2 := ⟨z_in (List.mem_of_getElem? (i := 209) (by decide +kernel)) rfl, z_in (List.mem_of_getElem? (i := 211) (by decide +kernel)) rfl, z_in (List.mem_of_getElem? (i := 0) (by decide +kernel)) rfl, lb_X0_join⟩
theorem ml_X0_82 : z_LS RX0 82 yX0_buddyOf 2 := ⟨z_in (List.mem_of_getElem? (i := 213) (by decide +kernel)) rfl, z_in (List.mem_of_getElem? (i := 214) (by decide +kernel)) rfl, lb_X0_buddyOf⟩
theorem ml_X0_75 : z_LV RX0 75 yX0_isFree 2 := ⟨z_in (List.mem_of_getElem? (i := 216) (by decide +kernel)) rfl, z_in (List.mem_of_getElem? (i := 218) (by decide +kernel)) rfl, z_in (List.mem_of_getElem? (i := 1) (by decide +kernel)) rfl, lb_X0_isFree⟩
theorem ml_X0_85 : Cond.methodLink RX0 85 Lib.Math.min.name ∈ z_W := z_in (List.mem_of_getElem? (i := 220) (by decide +kernel)) rfl
theorem ml_X0_79 : z_LV RX0 79 yX0_layFree 2 := ⟨z_in (List.mem_of_getElem? (i := 221) (by decide +kernel)) rfl, z_in (List.mem_of_getElem? (i := 223) (by decide +kernel)) rfl, z_in (List.mem_of_getElem? (i := 2) (by decide +kernel)) rfl, lb_X0_layFree⟩
theorem ml_L_23 : z_LV RL 23 yX4_pages 1 := ⟨z_in (List.mem_of_getElem? (i := 225) (by decide +kernel)) rfl, z_in (List.mem_of_getElem? (i := 226) (by decide +kernel)) rfl, z_in (List.mem_of_getElem? (i := 227) (by decide +kernel)) rfl, lb_X4_pages⟩
theorem ml_X4_62 : z_LS RX4 62 yX4_isOrder 1 := ⟨z_in (List.mem_of_getElem? (i := 229) (by decide +kernel)) rfl, z_in (List.mem_of_getElem? (i := 230) (by decide +kernel)) rfl, lb_X4_isOrder⟩
theorem ml_X4_66 : z_LV RX4 66 yX0_claim 2 := ⟨z_in (List.mem_of_getElem? (i := 232) (by decide +kernel)) rfl, z_in (List.mem_of_getElem? (i := 233) (by decide +kernel)) rfl, z_in (List.mem_of_getElem? (i := 234) (by decide +kernel)) rfl, lb_X0_claim⟩
theorem ml_X0_47 : z_LV RX0 47 yX0_leastFree 1 := ⟨z_in (List.mem_of_getElem? (i := 236) (by decide +kernel)) rfl, z_in (List.mem_of_getElem? (i := 238) (by decide +kernel)) rfl, z_in (List.mem_of_getElem? (i := 3) (by decide +kernel)) rfl, lb_X0_leastFree⟩
theorem ml_X0_54 : z_LV RX0 54 yX0_halve 2 := ⟨z_in (List.mem_of_getElem? (i := 240) (by decide +kernel)) rfl, z_in (List.mem_of_getElem? (i := 242) (by decide +kernel)) rfl, z_in (List.mem_of_getElem? (i := 4) (by decide +kernel)) rfl, lb_X0_halve⟩
theorem ml_X0_63 : Cond.methodLink RX0 63 Lib.Math.max.name ∈ z_W := z_in (List.mem_of_getElem? (i := 244) (by decide +kernel)) rfl
theorem ml_L_28 : z_LV RL 28 yX4_freePages 1 := ⟨z_in (List.mem_of_getElem? (i := 247) (by decide +kernel)) rfl, z_in (List.mem_of_getElem? (i := 248) (by decide +kernel)) rfl, z_in (List.mem_of_getElem? (i := 249) (by decide +kernel)) rfl, lb_X4_freePages⟩
theorem ml_X4_69 : z_LV RX4 69 yX4_wrongWithPage 1 := ⟨z_in (List.mem_of_getElem? (i := 251) (by decide +kernel)) rfl, z_in (List.mem_of_getElem? (i := 253) (by decide +kernel)) rfl, z_in (List.mem_of_getElem? (i := 5) (by decide +kernel)) rfl, lb_X4_wrongWithPage⟩
theorem ml_X4_150 : z_LV RX4 150 yX0_useFrom 1 := ⟨z_in (List.mem_of_getElem? (i := 255) (by decide +kernel)) rfl, z_in (List.mem_of_getElem? (i := 256) (by decide +kernel)) rfl, z_in (List.mem_of_getElem? (i := 257) (by decide +kernel)) rfl, lb_X0_useFrom⟩
theorem ml_X4_73 : z_LV RX4 73 yX0_orderFrom 1 := ⟨z_in (List.mem_of_getElem? (i := 262) (by decide +kernel)) rfl, z_in (List.mem_of_getElem? (i := 263) (by decide +kernel)) rfl, z_in (List.mem_of_getElem? (i := 264) (by decide +kernel)) rfl, lb_X0_orderFrom⟩
theorem ml_X4_76 : z_LV RX4 76 yX0_release 1 := ⟨z_in (List.mem_of_getElem? (i := 266) (by decide +kernel)) rfl, z_in (List.mem_of_getElem? (i := 267) (by decide +kernel)) rfl, z_in (List.mem_of_getElem? (i := 268) (by decide +kernel)) rfl, lb_X0_release⟩
theorem ml_X0_69 : z_LV RX0 69 yX0_orderFrom 1 := ⟨z_in (List.mem_of_getElem? (i := 270) (by decide +kernel)) rfl, z_in (List.mem_of_getElem? (i := 263) (by decide +kernel)) rfl, z_in (List.mem_of_getElem? (i := 264) (by decide +kernel)) rfl, lb_X0_orderFrom⟩
theorem ml_L_32 : z_LV RL 32 yX4_cache 2 := ⟨z_in (List.mem_of_getElem? (i := 271) (by decide +kernel)) rfl, z_in (List.mem_of_getElem? (i := 272) (by decide +kernel)) rfl, z_in (List.mem_of_getElem? (i := 273) (by decide +kernel)) rfl, lb_X4_cache⟩
theorem ml_X4_80 : z_LS RX4 80 yX4_isAlignment 1 := ⟨z_in (List.mem_of_getElem? (i := 275) (by decide +kernel)) rfl, z_in (List.mem_of_getElem? (i := 276) (by decide +kernel)) rfl, lb_X4_isAlignment⟩
theorem ml_X4_179 : z_LS RX4 179 yJ6_bitCount_0f7a4 1 := ⟨z_in (List.mem_of_getElem? (i := 278) (by decide +kernel)) rfl, z_in (List.mem_of_getElem? (i := 279) (by decide +kernel)) rfl, lb_J6_bitCount_0f7a4⟩
theorem ml_L_37 : z_LV RL 37 yX4_take 1 := ⟨z_in (List.mem_of_getElem? (i := 284) (by decide +kernel)) rfl, z_in (List.mem_of_getElem? (i := 285) (by decide +kernel)) rfl, z_in (List.mem_of_getElem? (i := 286) (by decide +kernel)) rfl, lb_X4_take⟩
theorem ml_X4_83 : z_LV RX4 83 yX4_cacheOf 1 := ⟨z_in (List.mem_of_getElem? (i := 288) (by decide +kernel)) rfl, z_in (List.mem_of_getElem? (i := 290) (by decide +kernel)) rfl, z_in (List.mem_of_getElem? (i := 6) (by decide +kernel)) rfl, lb_X4_cacheOf⟩
theorem ml_X4_87 : z_LV RX4 87 yX4_takeObject 1 := ⟨z_in (List.mem_of_getElem? (i := 292) (by decide +kernel)) rfl, z_in (List.mem_of_getElem? (i := 294) (by decide +kernel)) rfl, z_in (List.mem_of_getElem? (i := 7) (by decide +kernel)) rfl, lb_X4_takeObject⟩
theorem ml_X4_200 : z_LV RX4 200 yX4_partlyLiveSlab 1 := ⟨z_in (List.mem_of_getElem? (i := 296) (by decide +kernel)) rfl, z_in (List.mem_of_getElem? (i := 298) (by decide +kernel)) rfl, z_in (List.mem_of_getElem? (i := 8) (by decide +kernel)) rfl, lb_X4_partlyLiveSlab⟩
theorem ml_X4_212 : z_LV RX4 212 yX3_isPartlyLive 0 := ⟨z_in (List.mem_of_getElem? (i := 300) (by decide +kernel)) rfl, z_in (List.mem_of_getElem? (i := 301) (by decide +kernel)) rfl, z_in (List.mem_of_getElem? (i := 302) (by decide +kernel)) rfl, lb_X3_isPartlyLive⟩
theorem ml_X4_203 : z_LV RX4 203 yX4_newSlab 1 := ⟨z_in (List.mem_of_getElem? (i := 304) (by decide +kernel)) rfl, z_in (List.mem_of_getElem? (i := 306) (by decide +kernel)) rfl, z_in (List.mem_of_getElem? (i := 9) (by decide +kernel)) rfl, lb_X4_newSlab⟩
theorem ml_X4_144 : z_LS RX4 144 yX4_isPage 1 := ⟨z_in (List.mem_of_getElem? (i := 308) (by decide +kernel)) rfl, z_in (List.mem_of_getElem? (i := 260) (by decide +kernel)) rfl, lb_X4_isPage⟩
theorem ml_X3_3 : Cond.methodLink RX3 3 Lib.objectInit ∈ z_W := z_in (List.mem_of_getElem? (i := 313) (by decide +kernel)) rfl
theorem ml_X4_220 : z_LV RX4 220 yX3_layOut 1 := ⟨z_in (List.mem_of_getElem? (i := 327) (by decide +kernel)) rfl, z_in (List.mem_of_getElem? (i := 328) (by decide +kernel)) rfl, z_in (List.mem_of_getElem? (i := 329) (by decide +kernel)) rfl, lb_X3_layOut⟩
theorem ml_X3_15 : Cond.methodLink RX3 15 Lib.Math.min.name ∈ z_W := z_in (List.mem_of_getElem? (i := 331) (by decide +kernel)) rfl
theorem ml_X4_187 : z_LV RX4 187 yX4_slabAt 1 := ⟨z_in (List.mem_of_getElem? (i := 332) (by decide +kernel)) rfl, z_in (List.mem_of_getElem? (i := 334) (by decide +kernel)) rfl, z_in (List.mem_of_getElem? (i := 10) (by decide +kernel)) rfl, lb_X4_slabAt⟩
theorem ml_X4_206 : z_LV RX4 206 yX3_takeFront 0 := ⟨z_in (List.mem_of_getElem? (i := 336) (by decide +kernel)) rfl, z_in (List.mem_of_getElem? (i := 337) (by decide +kernel)) rfl, z_in (List.mem_of_getElem? (i := 338) (by decide +kernel)) rfl, lb_X3_takeFront⟩
theorem ml_L_41 : z_LV RL 41 yX4_give 2 := ⟨z_in (List.mem_of_getElem? (i := 340) (by decide +kernel)) rfl, z_in (List.mem_of_getElem? (i := 341) (by decide +kernel)) rfl, z_in (List.mem_of_getElem? (i := 342) (by decide +kernel)) rfl, lb_X4_give⟩
theorem ml_X4_91 : z_LV RX4 91 yX4_wrongWithObject 2 := ⟨z_in (List.mem_of_getElem? (i := 344) (by decide +kernel)) rfl, z_in (List.mem_of_getElem? (i := 346) (by decide +kernel)) rfl, z_in (List.mem_of_getElem? (i := 11) (by decide +kernel)) rfl, lb_X4_wrongWithObject⟩
theorem ml_X4_132 : z_LS RX4 132 yX4_isAddress 1 := ⟨z_in (List.mem_of_getElem? (i := 348) (by decide +kernel)) rfl, z_in (List.mem_of_getElem? (i := 349) (by decide +kernel)) rfl, lb_X4_isAddress⟩
theorem ml_X4_147 : z_LV RX4 147 yX0_firstOf 1 := ⟨z_in (List.mem_of_getElem? (i := 351) (by decide +kernel)) rfl, z_in (List.mem_of_getElem? (i := 352) (by decide +kernel)) rfl, z_in (List.mem_of_getElem? (i := 353) (by decide +kernel)) rfl, lb_X0_firstOf⟩
theorem ml_X4_194 : z_LV RX4 194 yX1_indexAt 1 := ⟨z_in (List.mem_of_getElem? (i := 355) (by decide +kernel)) rfl, z_in (List.mem_of_getElem? (i := 356) (by decide +kernel)) rfl, z_in (List.mem_of_getElem? (i := 357) (by decide +kernel)) rfl, lb_X1_indexAt⟩
theorem ml_X4_197 : z_LV RX4 197 yX3_isLive 1 := ⟨z_in (List.mem_of_getElem? (i := 359) (by decide +kernel)) rfl, z_in (List.mem_of_getElem? (i := 360) (by decide +kernel)) rfl, z_in (List.mem_of_getElem? (i := 361) (by decide +kernel)) rfl, lb_X3_isLive⟩
theorem ml_X4_95 : z_LV RX4 95 yX4_giveObject 2 := ⟨z_in (List.mem_of_getElem? (i := 363) (by decide +kernel)) rfl, z_in (List.mem_of_getElem? (i := 365) (by decide +kernel)) rfl, z_in (List.mem_of_getElem? (i := 12) (by decide +kernel)) rfl, lb_X4_giveObject⟩
theorem ml_X4_226 : z_LV RX4 226 yX3_putFront 1 := ⟨z_in (List.mem_of_getElem? (i := 367) (by decide +kernel)) rfl, z_in (List.mem_of_getElem? (i := 368) (by decide +kernel)) rfl, z_in (List.mem_of_getElem? (i := 369) (by decide +kernel)) rfl, lb_X3_putFront⟩
theorem ml_X4_229 : z_LV RX4 229 yX3_liveCount 0 := ⟨z_in (List.mem_of_getElem? (i := 372) (by decide +kernel)) rfl, z_in (List.mem_of_getElem? (i := 373) (by decide +kernel)) rfl, z_in (List.mem_of_getElem? (i := 374) (by decide +kernel)) rfl, lb_X3_liveCount⟩
theorem ml_X4_101 : z_LV RX4 101 yX4_dropSlab 2 := ⟨z_in (List.mem_of_getElem? (i := 376) (by decide +kernel)) rfl, z_in (List.mem_of_getElem? (i := 378) (by decide +kernel)) rfl, z_in (List.mem_of_getElem? (i := 13) (by decide +kernel)) rfl, lb_X4_dropSlab⟩
theorem ml_L_45 : z_LV RL 45 yX4_shrink 1 := ⟨z_in (List.mem_of_getElem? (i := 380) (by decide +kernel)) rfl, z_in (List.mem_of_getElem? (i := 381) (by decide +kernel)) rfl, z_in (List.mem_of_getElem? (i := 382) (by decide +kernel)) rfl, lb_X4_shrink⟩
theorem ml_L_49 : z_LV RL 49 yX4_alloc 1 := ⟨z_in (List.mem_of_getElem? (i := 384) (by decide +kernel)) rfl, z_in (List.mem_of_getElem? (i := 385) (by decide +kernel)) rfl, z_in (List.mem_of_getElem? (i := 386) (by decide +kernel)) rfl, lb_X4_alloc⟩
theorem ml_X4_108 : z_LS RX4 108 yX4_isBySize 1 := ⟨z_in (List.mem_of_getElem? (i := 388) (by decide +kernel)) rfl, z_in (List.mem_of_getElem? (i := 389) (by decide +kernel)) rfl, lb_X4_isBySize⟩
theorem ml_X4_111 : z_LS RX4 111 yX4_kindFor 1 := ⟨z_in (List.mem_of_getElem? (i := 391) (by decide +kernel)) rfl, z_in (List.mem_of_getElem? (i := 392) (by decide +kernel)) rfl, lb_X4_kindFor⟩
theorem ml_X4_123 : z_LS RX4 123 yX4_bytesOfKind 1 := ⟨z_in (List.mem_of_getElem? (i := 394) (by decide +kernel)) rfl, z_in (List.mem_of_getElem? (i := 395) (by decide +kernel)) rfl, lb_X4_bytesOfKind⟩
theorem ml_X4_114 : z_LV RX4 114 yX4_takeKind 1 := ⟨z_in (List.mem_of_getElem? (i := 397) (by decide +kernel)) rfl, z_in (List.mem_of_getElem? (i := 399) (by decide +kernel)) rfl, z_in (List.mem_of_getElem? (i := 14) (by decide +kernel)) rfl, lb_X4_takeKind⟩
theorem ml_L_53 : z_LV RL 53 yX4_free 1 := ⟨z_in (List.mem_of_getElem? (i := 401) (by decide +kernel)) rfl, z_in (List.mem_of_getElem? (i := 402) (by decide +kernel)) rfl, z_in (List.mem_of_getElem? (i := 403) (by decide +kernel)) rfl, lb_X4_free⟩
theorem ml_X4_117 : z_LV RX4 117 yX4_wrongBySize 1 := ⟨z_in (List.mem_of_getElem? (i := 405) (by decide +kernel)) rfl, z_in (List.mem_of_getElem? (i := 407) (by decide +kernel)) rfl, z_in (List.mem_of_getElem? (i := 15) (by decide +kernel)) rfl, lb_X4_wrongBySize⟩
theorem ml_X4_120 : z_LV RX4 120 yX4_kindAt 1 := ⟨z_in (List.mem_of_getElem? (i := 409) (by decide +kernel)) rfl, z_in (List.mem_of_getElem? (i := 411) (by decide +kernel)) rfl, z_in (List.mem_of_getElem? (i := 16) (by decide +kernel)) rfl, lb_X4_kindAt⟩
theorem ml_X4_126 : z_LV RX4 126 yX4_giveBySize 1 := ⟨z_in (List.mem_of_getElem? (i := 413) (by decide +kernel)) rfl, z_in (List.mem_of_getElem? (i := 415) (by decide +kernel)) rfl, z_in (List.mem_of_getElem? (i := 17) (by decide +kernel)) rfl, lb_X4_giveBySize⟩
theorem ml_L_57 : z_LV RL 57 yX4_resize 2 := ⟨z_in (List.mem_of_getElem? (i := 417) (by decide +kernel)) rfl, z_in (List.mem_of_getElem? (i := 418) (by decide +kernel)) rfl, z_in (List.mem_of_getElem? (i := 419) (by decide +kernel)) rfl, lb_X4_resize⟩
theorem ml_X4_129 : z_LV RX4 129 yX2_copy 3 := ⟨z_in (List.mem_of_getElem? (i := 421) (by decide +kernel)) rfl, z_in (List.mem_of_getElem? (i := 422) (by decide +kernel)) rfl, z_in (List.mem_of_getElem? (i := 423) (by decide +kernel)) rfl, lb_X2_copy⟩
theorem ml_X2_23 : Cond.methodLink RX2 23 arraycopyName ∈ z_W := z_in (List.mem_of_getElem? (i := 425) (by decide +kernel)) rfl
theorem ml_X2_29 : z_LV RX2 29 yX2_get 1 := ⟨z_in (List.mem_of_getElem? (i := 428) (by decide +kernel)) rfl, z_in (List.mem_of_getElem? (i := 429) (by decide +kernel)) rfl, z_in (List.mem_of_getElem? (i := 430) (by decide +kernel)) rfl, lb_X2_get⟩
theorem ml_X2_15 : z_LS RX2 15 yX2_shiftOf 1 := ⟨z_in (List.mem_of_getElem? (i := 432) (by decide +kernel)) rfl, z_in (List.mem_of_getElem? (i := 433) (by decide +kernel)) rfl, lb_X2_shiftOf⟩
theorem ml_X2_32 : z_LV RX2 32 yX2_put 2 := ⟨z_in (List.mem_of_getElem? (i := 435) (by decide +kernel)) rfl, z_in (List.mem_of_getElem? (i := 436) (by decide +kernel)) rfl, z_in (List.mem_of_getElem? (i := 437) (by decide +kernel)) rfl, lb_X2_put⟩
theorem ml_L_61 : z_LV RL 61 yX4_size 1 := ⟨z_in (List.mem_of_getElem? (i := 441) (by decide +kernel)) rfl, z_in (List.mem_of_getElem? (i := 442) (by decide +kernel)) rfl, z_in (List.mem_of_getElem? (i := 443) (by decide +kernel)) rfl, lb_X4_size⟩
theorem ml_L_65 : z_LV RL 65 yX4_read 1 := ⟨z_in (List.mem_of_getElem? (i := 445) (by decide +kernel)) rfl, z_in (List.mem_of_getElem? (i := 446) (by decide +kernel)) rfl, z_in (List.mem_of_getElem? (i := 447) (by decide +kernel)) rfl, lb_X4_read⟩
theorem ml_X4_135 : z_LV RX4 135 yX2_get 1 := ⟨z_in (List.mem_of_getElem? (i := 449) (by decide +kernel)) rfl, z_in (List.mem_of_getElem? (i := 429) (by decide +kernel)) rfl, z_in (List.mem_of_getElem? (i := 430) (by decide +kernel)) rfl, lb_X2_get⟩
theorem ml_L_69 : z_LV RL 69 yX4_write 2 := ⟨z_in (List.mem_of_getElem? (i := 450) (by decide +kernel)) rfl, z_in (List.mem_of_getElem? (i := 451) (by decide +kernel)) rfl, z_in (List.mem_of_getElem? (i := 452) (by decide +kernel)) rfl, lb_X4_write⟩
theorem ml_X4_138 : z_LV RX4 138 yX2_put 2 := ⟨z_in (List.mem_of_getElem? (i := 454) (by decide +kernel)) rfl, z_in (List.mem_of_getElem? (i := 436) (by decide +kernel)) rfl, z_in (List.mem_of_getElem? (i := 437) (by decide +kernel)) rfl, lb_X2_put⟩
theorem ml_L_73 : z_LV RL 73 yX4_arm 1 := ⟨z_in (List.mem_of_getElem? (i := 455) (by decide +kernel)) rfl, z_in (List.mem_of_getElem? (i := 456) (by decide +kernel)) rfl, z_in (List.mem_of_getElem? (i := 457) (by decide +kernel)) rfl, lb_X4_arm⟩
theorem ml_L_78 : z_LV RL 78 yX4_ofPage 1 := ⟨z_in (List.mem_of_getElem? (i := 459) (by decide +kernel)) rfl, z_in (List.mem_of_getElem? (i := 460) (by decide +kernel)) rfl, z_in (List.mem_of_getElem? (i := 461) (by decide +kernel)) rfl, lb_X4_ofPage⟩
theorem ml_L_82 : z_LV RL 82 yX4_block 1 := ⟨z_in (List.mem_of_getElem? (i := 463) (by decide +kernel)) rfl, z_in (List.mem_of_getElem? (i := 464) (by decide +kernel)) rfl, z_in (List.mem_of_getElem? (i := 465) (by decide +kernel)) rfl, lb_X4_block⟩
theorem ml_L_86 : z_LV RL 86 yX4_order 1 := ⟨z_in (List.mem_of_getElem? (i := 467) (by decide +kernel)) rfl, z_in (List.mem_of_getElem? (i := 468) (by decide +kernel)) rfl, z_in (List.mem_of_getElem? (i := 469) (by decide +kernel)) rfl, lb_X4_order⟩
theorem ml_L_90 : z_LV RL 90 yX4_freeBlocks 1 := ⟨z_in (List.mem_of_getElem? (i := 471) (by decide +kernel)) rfl, z_in (List.mem_of_getElem? (i := 472) (by decide +kernel)) rfl, z_in (List.mem_of_getElem? (i := 473) (by decide +kernel)) rfl, lb_X4_freeBlocks⟩
theorem ml_L_94 : z_LV RL 94 yX4_ofCache 2 := ⟨z_in (List.mem_of_getElem? (i := 475) (by decide +kernel)) rfl, z_in (List.mem_of_getElem? (i := 476) (by decide +kernel)) rfl, z_in (List.mem_of_getElem? (i := 477) (by decide +kernel)) rfl, lb_X4_ofCache⟩
theorem ml_X4_157 : z_LV RX4 157 yX1_figure 1 := ⟨z_in (List.mem_of_getElem? (i := 479) (by decide +kernel)) rfl, z_in (List.mem_of_getElem? (i := 480) (by decide +kernel)) rfl, z_in (List.mem_of_getElem? (i := 481) (by decide +kernel)) rfl, lb_X1_figure⟩
theorem ml_L_98 : z_LV RL 98 yX4_count 1 := ⟨z_in (List.mem_of_getElem? (i := 483) (by decide +kernel)) rfl, z_in (List.mem_of_getElem? (i := 484) (by decide +kernel)) rfl, z_in (List.mem_of_getElem? (i := 485) (by decide +kernel)) rfl, lb_X4_count⟩
theorem ml_X4_172 : z_LV RX4 172 yX4_liveObjects 0 := ⟨z_in (List.mem_of_getElem? (i := 487) (by decide +kernel)) rfl, z_in (List.mem_of_getElem? (i := 489) (by decide +kernel)) rfl, z_in (List.mem_of_getElem? (i := 18) (by decide +kernel)) rfl, lb_X4_liveObjects⟩
theorem ml_L_12 : z_LI RL 12 yX5_init 0 := ⟨z_in (List.mem_of_getElem? (i := 493) (by decide +kernel)) rfl, z_in (List.mem_of_getElem? (i := 494) (by decide +kernel)) rfl, rfl, lb_X5_init⟩
theorem ml_X5_1 : Cond.methodLink RX5 1 Lib.objectInit ∈ z_W := z_in (List.mem_of_getElem? (i := 496) (by decide +kernel)) rfl
theorem ml_X5_54 : z_LV RX5 54 yX5_addCache 2 := ⟨z_in (List.mem_of_getElem? (i := 497) (by decide +kernel)) rfl, z_in (List.mem_of_getElem? (i := 499) (by decide +kernel)) rfl, z_in (List.mem_of_getElem? (i := 19) (by decide +kernel)) rfl, lb_X5_addCache⟩
theorem ml_L_17 : z_LV RL 17 yX5_usable 2 := ⟨z_in (List.mem_of_getElem? (i := 562) (by decide +kernel)) rfl, z_in (List.mem_of_getElem? (i := 563) (by decide +kernel)) rfl, z_in (List.mem_of_getElem? (i := 564) (by decide +kernel)) rfl, lb_X5_usable⟩
theorem ml_X5_62 : z_LS RX5 62 yX5_in 3 := ⟨z_in (List.mem_of_getElem? (i := 566) (by decide +kernel)) rfl, z_in (List.mem_of_getElem? (i := 567) (by decide +kernel)) rfl, lb_X5_in⟩
theorem ml_L_22 : z_LV RL 22 yX5_start 0 := ⟨z_in (List.mem_of_getElem? (i := 569) (by decide +kernel)) rfl, z_in (List.mem_of_getElem? (i := 570) (by decide +kernel)) rfl, z_in (List.mem_of_getElem? (i := 571) (by decide +kernel)) rfl, lb_X5_start⟩
theorem ml_X5_66 : z_LV RX5 66 yX5_areUsable 2 := ⟨z_in (List.mem_of_getElem? (i := 573) (by decide +kernel)) rfl, z_in (List.mem_of_getElem? (i := 575) (by decide +kernel)) rfl, z_in (List.mem_of_getElem? (i := 20) (by decide +kernel)) rfl, lb_X5_areUsable⟩
theorem ml_X5_70 : z_LV RX5 70 yX5_makeBlock 3 := ⟨z_in (List.mem_of_getElem? (i := 577) (by decide +kernel)) rfl, z_in (List.mem_of_getElem? (i := 579) (by decide +kernel)) rfl, z_in (List.mem_of_getElem? (i := 21) (by decide +kernel)) rfl, lb_X5_makeBlock⟩
theorem ml_X5_74 : z_LV RX5 74 yX5_usablePages 0 := ⟨z_in (List.mem_of_getElem? (i := 581) (by decide +kernel)) rfl, z_in (List.mem_of_getElem? (i := 583) (by decide +kernel)) rfl, z_in (List.mem_of_getElem? (i := 22) (by decide +kernel)) rfl, lb_X5_usablePages⟩
theorem ml_L_27 : z_LV RL 27 yX5_pages 1 := ⟨z_in (List.mem_of_getElem? (i := 585) (by decide +kernel)) rfl, z_in (List.mem_of_getElem? (i := 586) (by decide +kernel)) rfl, z_in (List.mem_of_getElem? (i := 587) (by decide +kernel)) rfl, lb_X5_pages⟩
theorem ml_X5_100 : z_LV RX5 100 yX5_takeBlock 1 := ⟨z_in (List.mem_of_getElem? (i := 589) (by decide +kernel)) rfl, z_in (List.mem_of_getElem? (i := 591) (by decide +kernel)) rfl, z_in (List.mem_of_getElem? (i := 23) (by decide +kernel)) rfl, lb_X5_takeBlock⟩
theorem ml_X5_82 : z_LV RX5 82 yX5_isFree 1 := ⟨z_in (List.mem_of_getElem? (i := 593) (by decide +kernel)) rfl, z_in (List.mem_of_getElem? (i := 595) (by decide +kernel)) rfl, z_in (List.mem_of_getElem? (i := 24) (by decide +kernel)) rfl, lb_X5_isFree⟩
theorem ml_X5_78 : z_LV RX5 78 yX5_isFirst 1 := ⟨z_in (List.mem_of_getElem? (i := 597) (by decide +kernel)) rfl, z_in (List.mem_of_getElem? (i := 599) (by decide +kernel)) rfl, z_in (List.mem_of_getElem? (i := 25) (by decide +kernel)) rfl, lb_X5_isFirst⟩
theorem ml_X5_91 : z_LV RX5 91 yX5_freePageCount 0 := ⟨z_in (List.mem_of_getElem? (i := 601) (by decide +kernel)) rfl, z_in (List.mem_of_getElem? (i := 603) (by decide +kernel)) rfl, z_in (List.mem_of_getElem? (i := 26) (by decide +kernel)) rfl, lb_X5_freePageCount⟩
theorem ml_L_31 : z_LV RL 31 yX5_freePages 1 := ⟨z_in (List.mem_of_getElem? (i := 605) (by decide +kernel)) rfl, z_in (List.mem_of_getElem? (i := 606) (by decide +kernel)) rfl, z_in (List.mem_of_getElem? (i := 607) (by decide +kernel)) rfl, lb_X5_freePages⟩
theorem ml_X5_104 : z_LV RX5 104 yX5_faultOfPage 1 := ⟨z_in (List.mem_of_getElem? (i := 609) (by decide +kernel)) rfl, z_in (List.mem_of_getElem? (i := 611) (by decide +kernel)) rfl, z_in (List.mem_of_getElem? (i := 27) (by decide +kernel)) rfl, lb_X5_faultOfPage⟩
theorem ml_X5_107 : z_LV RX5 107 yX5_giveBlock 1 := ⟨z_in (List.mem_of_getElem? (i := 613) (by decide +kernel)) rfl, z_in (List.mem_of_getElem? (i := 615) (by decide +kernel)) rfl, z_in (List.mem_of_getElem? (i := 28) (by decide +kernel)) rfl, lb_X5_giveBlock⟩
theorem ml_L_36 : z_LV RL 36 yX5_cache 2 := ⟨z_in (List.mem_of_getElem? (i := 617) (by decide +kernel)) rfl, z_in (List.mem_of_getElem? (i := 618) (by decide +kernel)) rfl, z_in (List.mem_of_getElem? (i := 619) (by decide +kernel)) rfl, lb_X5_cache⟩
theorem ml_L_40 : z_LV RL 40 yX5_take 1 := ⟨z_in (List.mem_of_getElem? (i := 621) (by decide +kernel)) rfl, z_in (List.mem_of_getElem? (i := 622) (by decide +kernel)) rfl, z_in (List.mem_of_getElem? (i := 623) (by decide +kernel)) rfl, lb_X5_take⟩
theorem ml_X5_116 : z_LV RX5 116 yX5_isCache 1 := ⟨z_in (List.mem_of_getElem? (i := 625) (by decide +kernel)) rfl, z_in (List.mem_of_getElem? (i := 627) (by decide +kernel)) rfl, z_in (List.mem_of_getElem? (i := 29) (by decide +kernel)) rfl, lb_X5_isCache⟩
theorem ml_X5_119 : z_LV RX5 119 yX5_isSlab 2 := ⟨z_in (List.mem_of_getElem? (i := 629) (by decide +kernel)) rfl, z_in (List.mem_of_getElem? (i := 631) (by decide +kernel)) rfl, z_in (List.mem_of_getElem? (i := 30) (by decide +kernel)) rfl, lb_X5_isSlab⟩
theorem ml_X5_122 : z_LV RX5 122 yX5_liveOf 1 := ⟨z_in (List.mem_of_getElem? (i := 633) (by decide +kernel)) rfl, z_in (List.mem_of_getElem? (i := 635) (by decide +kernel)) rfl, z_in (List.mem_of_getElem? (i := 31) (by decide +kernel)) rfl, lb_X5_liveOf⟩
theorem ml_X5_113 : z_LV RX5 113 yX5_objectsOf 1 := ⟨z_in (List.mem_of_getElem? (i := 637) (by decide +kernel)) rfl, z_in (List.mem_of_getElem? (i := 639) (by decide +kernel)) rfl, z_in (List.mem_of_getElem? (i := 32) (by decide +kernel)) rfl, lb_X5_objectsOf⟩
theorem ml_X5_125 : z_LV RX5 125 yX5_newSlab 1 := ⟨z_in (List.mem_of_getElem? (i := 641) (by decide +kernel)) rfl, z_in (List.mem_of_getElem? (i := 643) (by decide +kernel)) rfl, z_in (List.mem_of_getElem? (i := 33) (by decide +kernel)) rfl, lb_X5_newSlab⟩
theorem ml_L_44 : z_LV RL 44 yX5_give 2 := ⟨z_in (List.mem_of_getElem? (i := 645) (by decide +kernel)) rfl, z_in (List.mem_of_getElem? (i := 646) (by decide +kernel)) rfl, z_in (List.mem_of_getElem? (i := 647) (by decide +kernel)) rfl, lb_X5_give⟩
theorem ml_X5_128 : z_LV RX5 128 yX5_slabAt 1 := ⟨z_in (List.mem_of_getElem? (i := 649) (by decide +kernel)) rfl, z_in (List.mem_of_getElem? (i := 651) (by decide +kernel)) rfl, z_in (List.mem_of_getElem? (i := 34) (by decide +kernel)) rfl, lb_X5_slabAt⟩
theorem ml_X5_131 : z_LV RX5 131 yX5_faultOfObject 2 := ⟨z_in (List.mem_of_getElem? (i := 653) (by decide +kernel)) rfl, z_in (List.mem_of_getElem? (i := 655) (by decide +kernel)) rfl, z_in (List.mem_of_getElem? (i := 35) (by decide +kernel)) rfl, lb_X5_faultOfObject⟩
theorem ml_X5_134 : z_LV RX5 134 yX5_giveObject 2 := ⟨z_in (List.mem_of_getElem? (i := 657) (by decide +kernel)) rfl, z_in (List.mem_of_getElem? (i := 659) (by decide +kernel)) rfl, z_in (List.mem_of_getElem? (i := 36) (by decide +kernel)) rfl, lb_X5_giveObject⟩
theorem ml_L_48 : z_LV RL 48 yX5_shrink 1 := ⟨z_in (List.mem_of_getElem? (i := 661) (by decide +kernel)) rfl, z_in (List.mem_of_getElem? (i := 662) (by decide +kernel)) rfl, z_in (List.mem_of_getElem? (i := 663) (by decide +kernel)) rfl, lb_X5_shrink⟩
theorem ml_L_52 : z_LV RL 52 yX5_alloc 1 := ⟨z_in (List.mem_of_getElem? (i := 665) (by decide +kernel)) rfl, z_in (List.mem_of_getElem? (i := 666) (by decide +kernel)) rfl, z_in (List.mem_of_getElem? (i := 667) (by decide +kernel)) rfl, lb_X5_alloc⟩
theorem ml_X5_137 : z_LS RX5 137 yX5_classOf 1 := ⟨z_in (List.mem_of_getElem? (i := 669) (by decide +kernel)) rfl, z_in (List.mem_of_getElem? (i := 670) (by decide +kernel)) rfl, lb_X5_classOf⟩
theorem ml_X5_140 : z_LV RX5 140 yX5_take 1 := ⟨z_in (List.mem_of_getElem? (i := 672) (by decide +kernel)) rfl, z_in (List.mem_of_getElem? (i := 622) (by decide +kernel)) rfl, z_in (List.mem_of_getElem? (i := 623) (by decide +kernel)) rfl, lb_X5_take⟩
theorem ml_L_56 : z_LV RL 56 yX5_free 1 := ⟨z_in (List.mem_of_getElem? (i := 673) (by decide +kernel)) rfl, z_in (List.mem_of_getElem? (i := 674) (by decide +kernel)) rfl, z_in (List.mem_of_getElem? (i := 675) (by decide +kernel)) rfl, lb_X5_free⟩
theorem ml_X5_143 : z_LV RX5 143 yX5_classAt 1 := ⟨z_in (List.mem_of_getElem? (i := 677) (by decide +kernel)) rfl, z_in (List.mem_of_getElem? (i := 679) (by decide +kernel)) rfl, z_in (List.mem_of_getElem? (i := 37) (by decide +kernel)) rfl, lb_X5_classAt⟩
theorem ml_X5_146 : z_LV RX5 146 yX5_release 2 := ⟨z_in (List.mem_of_getElem? (i := 681) (by decide +kernel)) rfl, z_in (List.mem_of_getElem? (i := 683) (by decide +kernel)) rfl, z_in (List.mem_of_getElem? (i := 38) (by decide +kernel)) rfl, lb_X5_release⟩
theorem ml_X5_149 : z_LS RX5 149 yX5_bytesOf 1 := ⟨z_in (List.mem_of_getElem? (i := 685) (by decide +kernel)) rfl, z_in (List.mem_of_getElem? (i := 686) (by decide +kernel)) rfl, lb_X5_bytesOf⟩
theorem ml_L_64 : z_LV RL 64 yX5_size 1 := ⟨z_in (List.mem_of_getElem? (i := 688) (by decide +kernel)) rfl, z_in (List.mem_of_getElem? (i := 689) (by decide +kernel)) rfl, z_in (List.mem_of_getElem? (i := 690) (by decide +kernel)) rfl, lb_X5_size⟩
theorem ml_L_60 : z_LV RL 60 yX5_resize 2 := ⟨z_in (List.mem_of_getElem? (i := 692) (by decide +kernel)) rfl, z_in (List.mem_of_getElem? (i := 693) (by decide +kernel)) rfl, z_in (List.mem_of_getElem? (i := 694) (by decide +kernel)) rfl, lb_X5_resize⟩
theorem ml_X5_152 : z_LV RX5 152 yX5_alloc 1 := ⟨z_in (List.mem_of_getElem? (i := 696) (by decide +kernel)) rfl, z_in (List.mem_of_getElem? (i := 666) (by decide +kernel)) rfl, z_in (List.mem_of_getElem? (i := 667) (by decide +kernel)) rfl, lb_X5_alloc⟩
theorem ml_L_68 : z_LV RL 68 yX5_read 1 := ⟨z_in (List.mem_of_getElem? (i := 697) (by decide +kernel)) rfl, z_in (List.mem_of_getElem? (i := 698) (by decide +kernel)) rfl, z_in (List.mem_of_getElem? (i := 699) (by decide +kernel)) rfl, lb_X5_read⟩
theorem ml_X5_155 : z_LS RX5 155 yX5_isAddress 1 := ⟨z_in (List.mem_of_getElem? (i := 701) (by decide +kernel)) rfl, z_in (List.mem_of_getElem? (i := 702) (by decide +kernel)) rfl, lb_X5_isAddress⟩
theorem ml_L_72 : z_LV RL 72 yX5_write 2 := ⟨z_in (List.mem_of_getElem? (i := 704) (by decide +kernel)) rfl, z_in (List.mem_of_getElem? (i := 705) (by decide +kernel)) rfl, z_in (List.mem_of_getElem? (i := 706) (by decide +kernel)) rfl, lb_X5_write⟩
theorem ml_L_77 : z_LV RL 77 yX5_arm 1 := ⟨z_in (List.mem_of_getElem? (i := 708) (by decide +kernel)) rfl, z_in (List.mem_of_getElem? (i := 709) (by decide +kernel)) rfl, z_in (List.mem_of_getElem? (i := 710) (by decide +kernel)) rfl, lb_X5_arm⟩
theorem ml_L_81 : z_LV RL 81 yX5_ofPage 1 := ⟨z_in (List.mem_of_getElem? (i := 712) (by decide +kernel)) rfl, z_in (List.mem_of_getElem? (i := 713) (by decide +kernel)) rfl, z_in (List.mem_of_getElem? (i := 714) (by decide +kernel)) rfl, lb_X5_ofPage⟩
theorem ml_L_85 : z_LV RL 85 yX5_block 1 := ⟨z_in (List.mem_of_getElem? (i := 716) (by decide +kernel)) rfl, z_in (List.mem_of_getElem? (i := 717) (by decide +kernel)) rfl, z_in (List.mem_of_getElem? (i := 718) (by decide +kernel)) rfl, lb_X5_block⟩
theorem ml_L_89 : z_LV RL 89 yX5_order 1 := ⟨z_in (List.mem_of_getElem? (i := 720) (by decide +kernel)) rfl, z_in (List.mem_of_getElem? (i := 721) (by decide +kernel)) rfl, z_in (List.mem_of_getElem? (i := 722) (by decide +kernel)) rfl, lb_X5_order⟩
theorem ml_X5_158 : z_LV RX5 158 yX5_block 1 := ⟨z_in (List.mem_of_getElem? (i := 724) (by decide +kernel)) rfl, z_in (List.mem_of_getElem? (i := 717) (by decide +kernel)) rfl, z_in (List.mem_of_getElem? (i := 718) (by decide +kernel)) rfl, lb_X5_block⟩
theorem ml_L_93 : z_LV RL 93 yX5_freeBlocks 1 := ⟨z_in (List.mem_of_getElem? (i := 725) (by decide +kernel)) rfl, z_in (List.mem_of_getElem? (i := 726) (by decide +kernel)) rfl, z_in (List.mem_of_getElem? (i := 727) (by decide +kernel)) rfl, lb_X5_freeBlocks⟩
theorem ml_L_97 : z_LV RL 97 yX5_ofCache 2 := ⟨z_in (List.mem_of_getElem? (i := 729) (by decide +kernel)) rfl, z_in (List.mem_of_getElem? (i := 730) (by decide +kernel)) rfl, z_in (List.mem_of_getElem? (i := 731) (by decide +kernel)) rfl, lb_X5_ofCache⟩
theorem ml_X5_161 : z_LV RX5 161 yX5_slabsOf 1 := ⟨z_in (List.mem_of_getElem? (i := 733) (by decide +kernel)) rfl, z_in (List.mem_of_getElem? (i := 735) (by decide +kernel)) rfl, z_in (List.mem_of_getElem? (i := 39) (by decide +kernel)) rfl, lb_X5_slabsOf⟩
theorem ml_X5_164 : z_LV RX5 164 yX5_liveIn 1 := ⟨z_in (List.mem_of_getElem? (i := 737) (by decide +kernel)) rfl, z_in (List.mem_of_getElem? (i := 739) (by decide +kernel)) rfl, z_in (List.mem_of_getElem? (i := 40) (by decide +kernel)) rfl, lb_X5_liveIn⟩
theorem ml_L_101 : z_LV RL 101 yX5_count 1 := ⟨z_in (List.mem_of_getElem? (i := 741) (by decide +kernel)) rfl, z_in (List.mem_of_getElem? (i := 742) (by decide +kernel)) rfl, z_in (List.mem_of_getElem? (i := 743) (by decide +kernel)) rfl, lb_X5_count⟩
theorem ml_X4_11 : z_LIN RX4 11 yX2_init "PageSlabs" 0 := ⟨by simp [z_N, RX4], z_in (List.mem_of_getElem? (i := 62) (by decide +kernel)) rfl, rfl, lb_X2_init⟩
theorem ml_X4_18 : z_LIN RX4 18 yX0_init "PageSlabs" 0 := ⟨by simp [z_N, RX4], z_in (List.mem_of_getElem? (i := 73) (by decide +kernel)) rfl, rfl, lb_X0_init⟩
theorem ml_X0_43 : z_LSN RX0 43 yX4_isPage "PageSlabs" 1 := ⟨by simp [z_N, RX0], z_in (List.mem_of_getElem? (i := 260) (by decide +kernel)) rfl, lb_X4_isPage⟩
theorem ml_X4_216 : z_LIN RX4 216 yX3_init "PageSlabs" 0 := ⟨by simp [z_N, RX4], z_in (List.mem_of_getElem? (i := 311) (by decide +kernel)) rfl, rfl, lb_X3_init⟩
theorem cl_X3_32 : Cond.constantLong RX3 32 (-1) ∈ z_W := z_in (List.mem_of_getElem? (i := 371) (by decide +kernel)) rfl
theorem cl_X2_19 : Cond.constantLong RX2 19 (255) ∈ z_W := z_in (List.mem_of_getElem? (i := 439) (by decide +kernel)) rfl
theorem cl_X2_21 : Cond.constantLong RX2 21 (-1) ∈ z_W := z_in (List.mem_of_getElem? (i := 440) (by decide +kernel)) rfl
theorem cl_J6_265 : Cond.constant RJ6 265 (1431655765) ∈ z_W := z_in (List.mem_of_getElem? (i := 281) (by decide +kernel)) rfl
theorem cl_J6_266 : Cond.constant RJ6 266 (858993459) ∈ z_W := z_in (List.mem_of_getElem? (i := 282) (by decide +kernel)) rfl
theorem cl_J6_267 : Cond.constant RJ6 267 (252645135) ∈ z_W := z_in (List.mem_of_getElem? (i := 283) (by decide +kernel)) rfl
theorem ck_L_7 : Cond.classLink RL 7 RX4 ∈ z_W := z_in (List.mem_of_getElem? (i := 51) (by decide +kernel)) rfl
theorem ck_X4_9 : Cond.classLink RX4 9 RX2 ∈ z_W := z_in (List.mem_of_getElem? (i := 59) (by decide +kernel)) rfl
theorem ck_X4_16 : Cond.classLink RX4 16 RX0 ∈ z_W := z_in (List.mem_of_getElem? (i := 70) (by decide +kernel)) rfl
theorem ck_X4_23 : Cond.classLink RX4 23 RX3 ∈ z_W := z_in (List.mem_of_getElem? (i := 124) (by decide +kernel)) rfl
theorem ck_X4_29 : Cond.classLink RX4 29 RX1 ∈ z_W := z_in (List.mem_of_getElem? (i := 126) (by decide +kernel)) rfl
theorem ck_L_10 : Cond.classLink RL 10 RX5 ∈ z_W := z_in (List.mem_of_getElem? (i := 491) (by decide +kernel)) rfl
theorem iq_X4 : Cond.instantiable RX4 5 ∈ z_W := z_in (List.mem_of_getElem? (i := 52) (by decide +kernel)) rfl
theorem iq_X2 : Cond.instantiable RX2 1 ∈ z_W := z_in (List.mem_of_getElem? (i := 60) (by decide +kernel)) rfl
theorem iq_X0 : Cond.instantiable RX0 12 ∈ z_W := z_in (List.mem_of_getElem? (i := 71) (by decide +kernel)) rfl
theorem iq_X1 : Cond.instantiable RX1 9 ∈ z_W := z_in (List.mem_of_getElem? (i := 128) (by decide +kernel)) rfl
theorem iq_X3 : Cond.instantiable RX3 4 ∈ z_W := z_in (List.mem_of_getElem? (i := 309) (by decide +kernel)) rfl
theorem iq_X5 : Cond.instantiable RX5 20 ∈ z_W := z_in (List.mem_of_getElem? (i := 492) (by decide +kernel)) rfl
theorem in_L : Cond.initialized RL ∈ z_W := z_in (List.mem_of_getElem? (i := 41) (by decide +kernel)) rfl
theorem in_X4 : Cond.initialized RX4 ∈ z_W := z_in (List.mem_of_getElem? (i := 42) (by decide +kernel)) rfl
theorem in_X2 : Cond.initialized RX2 ∈ z_W := z_in (List.mem_of_getElem? (i := 43) (by decide +kernel)) rfl
theorem in_X0 : Cond.initialized RX0 ∈ z_W := z_in (List.mem_of_getElem? (i := 44) (by decide +kernel)) rfl
theorem in_X1 : Cond.initialized RX1 ∈ z_W := z_in (List.mem_of_getElem? (i := 45) (by decide +kernel)) rfl
theorem in_J9 : Cond.initialized RJ9 ∈ z_W := z_in (List.mem_of_getElem? (i := 46) (by decide +kernel)) rfl
theorem in_X5 : Cond.initialized RX5 ∈ z_W := z_in (List.mem_of_getElem? (i := 47) (by decide +kernel)) rfl
theorem in_J6 : Cond.initialized RJ6 ∈ z_W := z_in (List.mem_of_getElem? (i := 48) (by decide +kernel)) rfl
theorem in_X3 : Cond.initialized RX3 ∈ z_W := z_in (List.mem_of_getElem? (i := 49) (by decide +kernel)) rfl
theorem in_J10 : Cond.initialized RJ10 ∈ z_W := z_in (List.mem_of_getElem? (i := 50) (by decide +kernel)) rfl
theorem ac_long : Cond.arrayClass .long ∈ z_W := z_in (List.mem_of_getElem? (i := 69) (by decide +kernel)) rfl
theorem ac_boolean : Cond.arrayClass .boolean ∈ z_W := z_in (List.mem_of_getElem? (i := 122) (by decide +kernel)) rfl
theorem ac_int : Cond.arrayClass .int ∈ z_W := z_in (List.mem_of_getElem? (i := 123) (by decide +kernel)) rfl
theorem na_copy : Cond.native arraycopyName ∈ z_W := z_in (List.mem_of_getElem? (i := 427) (by decide +kernel)) rfl
theorem st_min : Cond.static Lib.Math.min.name ∈ z_W := z_in (List.mem_of_getElem? (i := 130) (by decide +kernel)) rfl
theorem st_max : Cond.static Lib.Math.max.name ∈ z_W := z_in (List.mem_of_getElem? (i := 245) (by decide +kernel)) rfl
theorem st_copy : Cond.static arraycopyName ∈ z_W := z_in (List.mem_of_getElem? (i := 426) (by decide +kernel)) rfl
theorem im_obj : Cond.instanceMethod Lib.objectInit ∈ z_W := z_in (List.mem_of_getElem? (i := 57) (by decide +kernel)) rfl
set_option maxRecDepth 100000 in
theorem kc_obj : Cond.code Lib.objectInit ⟨#[0xb1]⟩ 1 none ∈ z_W := z_in (List.mem_of_getElem? (i := 58) rfl) rfl
set_option maxRecDepth 100000 in
theorem kc_min : Cond.code Lib.Math.min.name Lib.Math.min.code 2 (some .int) ∈ z_W := z_in (List.mem_of_getElem? (i := 131) rfl) rfl
set_option maxRecDepth 100000 in
theorem kc_max : Cond.code Lib.Math.max.name Lib.Math.max.code 2 (some .int) ∈ z_W := z_in (List.mem_of_getElem? (i := 246) rfl) rfl
end
section
section ZR5
variable {p : Program} {l : Launch} {e : Env} {R : Room} {s : State} {m : MethodId} {args : Array Value} {below : List Frame} {meth : Method} {c : Code} {Q : State → Prop} {cc : ByteArray} {own : String} {G : z_G} {base nL cells slots pc : Nat} {lv : List (Nat × Value)} {st : List Value} {hp : List va_E}
theorem z_casti {x y : Int32} (h : x = y) (k : z_R p l e R s m args below meth c Q G base nL cells slots pc lv (.int y :: st) hp) : z_R p l e R s m args below meth c Q G base nL cells slots pc lv (.int x :: st) hp := h ▸ k
theorem z_castl {x y : Int64} (h : x = y) (k : z_R p l e R s m args below meth c Q G base nL cells slots pc lv (.long y :: st) hp) : z_R p l e R s m args below meth c Q G base nL cells slots pc lv (.long x :: st) hp := h ▸ k
theorem z_lvq {lv' : List (Nat × Value)} (h : lv = lv') (k : z_R p l e R s m args below meth c Q G base nL cells slots pc lv' st hp) : z_R p l e R s m args below meth c Q G base nL cells slots pc lv st hp := h ▸ k
theorem z_ldcw (C : z_C p s m args meth c cc nL own G base) {index : Nat} {v : Int32} (hw : Cond.constant own index v ∈ z_W) (hd : decode cc pc = .ok (.ldc_w index, 3)) (k : z_R p l e R s m args below meth c Q G base nL cells slots (pc + 3) lv (.int v :: st) hp) : z_R p l e R s m args below meth c Q G base nL cells slots pc lv st hp :=
  fun H locs ls h1 h2 h3 => lv_ldcw C.1 C.2.1 C.2.2.2.1 (C.2.2.2.2.1 _ hw) hd (k H locs ls h1 h2 h3)
theorem z_ialdN (C : z_C p s m args meth c cc nL own G base) {i n k : Nat} {f : Nat → Int32} (hd : decode cc pc = .ok (.iaload, 1)) (he : hp[i]? = some (.inl (G.2 0, n, .inl f))) (hk : k < n) (hn : n < 2 ^ 31) (kk : z_R p l e R s m args below meth c Q G base nL cells slots (pc + 1) lv (.int (f k) :: st) hp) : z_R p l e R s m args below meth c Q G base nL cells slots pc lv (.int (nI k) :: .ref (base + i) :: st) hp :=
  z_iald C hd he (vp_in_nI hk hn) (by rw [nI_clamp (Nat.lt_trans hk hn)]; exact kk)
theorem z_zaldN (C : z_C p s m args meth c cc nL own G base) {i n k : Nat} {f : Nat → Int32} (hd : decode cc pc = .ok (.baload, 1)) (he : hp[i]? = some (.inl (G.2 2, n, .inl f))) (hk : k < n) (hn : n < 2 ^ 31) (kk : z_R p l e R s m args below meth c Q G base nL cells slots (pc + 1) lv (.int (f k) :: st) hp) : z_R p l e R s m args below meth c Q G base nL cells slots pc lv (.int (nI k) :: .ref (base + i) :: st) hp :=
  z_zald C hd he (vp_in_nI hk hn) (by rw [nI_clamp (Nat.lt_trans hk hn)]; exact kk)
theorem z_laldN (C : z_C p s m args meth c cc nL own G base) {i n k : Nat} {f : Nat → Int64} (hd : decode cc pc = .ok (.laload, 1)) (he : hp[i]? = some (.inl (G.2 1, n, .inr (.inl f)))) (hk : k < n) (hn : n < 2 ^ 31) (kk : z_R p l e R s m args below meth c Q G base nL cells slots (pc + 1) lv (.long (f k) :: st) hp) : z_R p l e R s m args below meth c Q G base nL cells slots pc lv (.int (nI k) :: .ref (base + i) :: st) hp :=
  z_lald C hd he (vp_in_nI hk hn) (by rw [nI_clamp (Nat.lt_trans hk hn)]; exact kk)
theorem z_aaldN (C : z_C p s m args meth c cc nL own G base) {i n k t : Nat} {Cn : String} {f : Nat → Option Nat} (ht : (z_Ty G.2)[t]? = some (G.2 t, .object Cn)) (hd : decode cc pc = .ok (.aaload, 1)) (he : hp[i]? = some (.inl (G.2 t, n, .inr (.inr (.inr (.inr f)))))) (hk : k < n) (hn : n < 2 ^ 31) (kk : z_R p l e R s m args below meth c Q G base nL cells slots (pc + 1) lv (va_rf (f k) :: st) hp) : z_R p l e R s m args below meth c Q G base nL cells slots pc lv (.int (nI k) :: .ref (base + i) :: st) hp :=
  z_aald C ht hd he (vp_in_nI hk hn) (by rw [nI_clamp (Nat.lt_trans hk hn)]; exact kk)
theorem z_iastN (C : z_C p s m args meth c cc nL own G base) {i n k : Nat} {f : Nat → Int32} {x : Int32} (hd : decode cc pc = .ok (.iastore, 1)) (he : hp[i]? = some (.inl (G.2 0, n, .inl f))) (hk : k < n) (hn : n < 2 ^ 31) (kk : z_R p l e R s m args below meth c Q G base nL cells slots (pc + 1) lv st (hp.set i (.inl (G.2 0, n, .inl (upd f k x))))) : z_R p l e R s m args below meth c Q G base nL cells slots pc lv (.int x :: .int (nI k) :: .ref (base + i) :: st) hp :=
  z_iast C hd he (vp_in_nI hk hn) (by rw [nI_clamp (Nat.lt_trans hk hn)]; exact kk)
theorem z_zastN (C : z_C p s m args meth c cc nL own G base) {i n k : Nat} {f : Nat → Int32} {x : Int32} (hd : decode cc pc = .ok (.bastore, 1)) (he : hp[i]? = some (.inl (G.2 2, n, .inl f))) (hk : k < n) (hn : n < 2 ^ 31) (kk : z_R p l e R s m args below meth c Q G base nL cells slots (pc + 1) lv st (hp.set i (.inl (G.2 2, n, .inl (upd f k (vp_nar .boolean x)))))) : z_R p l e R s m args below meth c Q G base nL cells slots pc lv (.int x :: .int (nI k) :: .ref (base + i) :: st) hp :=
  z_zast C hd he (vp_in_nI hk hn) (by rw [nI_clamp (Nat.lt_trans hk hn)]; exact kk)
theorem z_lastN (C : z_C p s m args meth c cc nL own G base) {i n k : Nat} {f : Nat → Int64} {x : Int64} (hd : decode cc pc = .ok (.lastore, 1)) (he : hp[i]? = some (.inl (G.2 1, n, .inr (.inl f)))) (hk : k < n) (hn : n < 2 ^ 31) (kk : z_R p l e R s m args below meth c Q G base nL cells slots (pc + 1) lv st (hp.set i (.inl (G.2 1, n, .inr (.inl (vp_updL f k x)))))) : z_R p l e R s m args below meth c Q G base nL cells slots pc lv (.long x :: .int (nI k) :: .ref (base + i) :: st) hp :=
  z_last C hd he (vp_in_nI hk hn) (by rw [nI_clamp (Nat.lt_trans hk hn)]; exact kk)
theorem z_aastN (C : z_C p s m args meth c cc nL own G base) {i n k t ci v : Nat} {r : vw_C} {vs : List Value} {f : Nat → Option Nat} (hc : vwCl[ci]? = some r) (ht : (z_Ty G.2)[t]? = some (G.2 t, .object r.1)) (hd : decode cc pc = .ok (.aastore, 1)) (he : hp[i]? = some (.inl (G.2 t, n, .inr (.inr (.inr (.inr f)))))) (hv : hp[v]? = some (.inr (ci, vs))) (hk : k < n) (hn : n < 2 ^ 31) (kk : z_R p l e R s m args below meth c Q G base nL cells slots (pc + 1) lv st (hp.set i (.inl (G.2 t, n, .inr (.inr (.inr (.inr (va_up f k (some (base + v)))))))))) : z_R p l e R s m args below meth c Q G base nL cells slots pc lv (.ref (base + v) :: .int (nI k) :: .ref (base + i) :: st) hp :=
  z_aast C hc ht hd he hv (vp_in_nI hk hn) (by rw [nI_clamp (Nat.lt_trans hk hn)]; exact kk)
theorem upd_nI (f : Nat → Nat) (k v : Nat) : upd (fun p => nI (f p)) k (nI v) = fun p => nI (va_up f k v p) := by
  funext j
  unfold upd va_up
  by_cases h : j = k <;> simp [h]
theorem z_ialdK (C : z_C p s m args meth c cc nL own G base) {i n k : Nat} {f : Nat → Nat} (hd : decode cc pc = .ok (.iaload, 1)) (he : hp[i]? = some (.inl (G.2 0, n, .inl (fun p => nI (f p))))) (hk : k < n) (hn : n < 2 ^ 31) (kk : z_R p l e R s m args below meth c Q G base nL cells slots (pc + 1) lv (.int (nI (f k)) :: st) hp) : z_R p l e R s m args below meth c Q G base nL cells slots pc lv (.int (nI k) :: .ref (base + i) :: st) hp := z_ialdN C hd he hk hn kk
theorem z_iastK (C : z_C p s m args meth c cc nL own G base) {i n k v : Nat} {f : Nat → Nat} (hd : decode cc pc = .ok (.iastore, 1)) (he : hp[i]? = some (.inl (G.2 0, n, .inl (fun p => nI (f p))))) (hk : k < n) (hn : n < 2 ^ 31) (kk : z_R p l e R s m args below meth c Q G base nL cells slots (pc + 1) lv st (hp.set i (.inl (G.2 0, n, .inl (fun p => nI (va_up f k v p)))))) : z_R p l e R s m args below meth c Q G base nL cells slots pc lv (.int (nI v) :: .int (nI k) :: .ref (base + i) :: st) hp :=
  z_iastN C hd he hk hn (by rw [upd_nI]; exact kk)
end ZR5
end
section
/-! words for the blocks, and numbers -/
def bI (b : Bool) : Int32 := if b then 1 else 0
def oI (o : Option Nat) : Int32 := match o with
  | some n => nI n
  | none => -1
theorem bI_ne {c : Prop} {_ : Decidable c} (h : ¬ bI (decide c) = 0) : c := by
  by_cases hc : c
  · exact hc
  · exact absurd (by simp [bI, hc]) h
theorem bI_eq {c : Prop} {_ : Decidable c} (h : bI (decide c) = 0) : ¬ c := by
  intro hc
  have h1 : bI (decide c) = 1 := by simp [bI, hc]
  rw [h1] at h
  exact absurd h (by decide)
theorem bI_t {c : Prop} {_ : Decidable c} (h : c) : (1 : Int32) = bI (decide c) := by simp [bI, h]
theorem bI_f {c : Prop} {_ : Decidable c} (h : ¬ c) : (0 : Int32) = bI (decide c) := by simp [bI, h]
theorem pg_of {x : Int32} (h : 0 ≤ x ∧ x < 256) : ∃ P : Nat, P < 256 ∧ x = nI P := by
  obtain ⟨j, hj, rfl⟩ := nI_of (x := x) (Int32.not_lt.mpr h.1)
  refine ⟨j, ?_, rfl⟩
  have h2 : nI j < nI 256 := h.2
  exact (nI_ltI hj (by decide)).mp h2
theorem pg_in {P : Nat} (h : P < 256) : 0 ≤ nI P ∧ nI P < 256 := ⟨nI_pos' (by omega), (nI_lt (b := 256) h (by decide))⟩
theorem cl_nI {P : Nat} (h : P < 256) : (nI P).toNatClampNeg = P := nI_clamp (by omega)
theorem nI_1lt : ∀ k, k < 16 → (1 : Int32) <<< (nI k &&& 31) = nI (2 ^ k) := by decide +kernel
theorem nI_mask : ∀ k, k < 7 → ∀ P, P < 256 → nI P &&& -((1 : Int32) <<< (nI k &&& 31)) = nI (P / 2 ^ k * 2 ^ k) := by decide +kernel
theorem nI_xor (a b : Nat) : nI a ^^^ nI b = nI (a ^^^ b) := by
  apply Int32.toBitVec_inj.1
  show BitVec.ofNat 32 a ^^^ BitVec.ofNat 32 b = BitVec.ofNat 32 (a ^^^ b)
  apply BitVec.eq_of_getLsbD_eq
  intro i hi
  simp [hi]
theorem two_le : ∀ k, k < 7 → 2 ^ k ≤ 64 := by decide
theorem xor_lt : ∀ k, k < 7 → ∀ f, f < 256 → f ^^^ 2 ^ k < 256 ∧ f ^^^ 2 ^ k ≠ f := by decide +kernel
abbrev q_T : Type := (Nat → Nat) × (Nat → Nat) × (Nat → Int32)
def q_fst (od : Nat → Nat) (P : Nat) : Nat → Nat → Option Nat
  | 0, _ => none
  | n + 1, k => if od (P / 2 ^ k * 2 ^ k) = k + 1 then some (P / 2 ^ k * 2 ^ k) else q_fst od P n (k + 1)
def j_fo (od : Nat → Nat) (x : Int32) : Option Nat := if 0 ≤ x ∧ x < 256 then q_fst od x.toNatClampNeg 7 0 else none
def j_of (od : Nat → Nat) (x : Int32) : Int32 := if 0 ≤ x ∧ x < 256 then nI (od x.toNatClampNeg) - 1 else -1
def j_uf (od us : Nat → Nat) (x : Int32) : Int32 := if (0 ≤ x ∧ x < 256) ∧ od x.toNatClampNeg ≠ 0 then nI (us x.toNatClampNeg) else -1
def q_lay (q : q_T) (f k : Nat) : q_T := (va_up q.1 f (k + 1), va_up q.2.1 f 0, upd q.2.2 k (q.2.2 k + 1))
def q_join : Nat → q_T → Nat → Nat → q_T
  | 0, q, f, k => q_lay q f k
  | n + 1, q, f, k => if k < 6 ∧ q.1 (f ^^^ 2 ^ k) = k + 1 ∧ q.2.1 (f ^^^ 2 ^ k) = 0 then q_join n (va_up (va_up q.1 f 0) (f ^^^ 2 ^ k) 0, q.2.1, upd q.2.2 k (q.2.2 k - 1)) (min f (f ^^^ 2 ^ k)) (k + 1) else q_lay q f k
def q_lo (fc : Nat → Int32) : Nat → Nat → Nat
  | 0, k => k
  | n + 1, k => if fc k = 0 then q_lo fc n (k + 1) else k
def q_lp (od us : Nat → Nat) (o : Nat) : Nat → Nat → Option Nat
  | 0, _ => none
  | n + 1, p => if od p = o + 1 ∧ us p = 0 then some p else q_lp od us o n (p + 1)
def q_hv (P k : Nat) : Nat → q_T → q_T
  | 0, q => q
  | n + 1, q => q_hv P k n (q_lay q (P + 2 ^ (k + n)) (k + n))
def q_oB (base : Nat) (sc : Nat → Int32) : va_E := .inr (0, [.ref (base + 4), .ref (base + 5), .ref (base + 6), .ref (base + 7), .int (sc 0), .int (sc 1), .int (sc 2), .int (sc 3), .int (sc 4), .int (sc 5), .int (sc 6), .int (sc 7)])
def hpB (G : z_G) (base : Nat) (xs : Nat → va_E) (sc td : Nat → Int32) (q : q_T) (tl : List va_E) : List va_E :=
  xs 0 :: xs 1 :: xs 2 :: q_oB base sc :: .inl (G.2 2, 256, .inl td) :: .inl (G.2 0, 256, .inl (fun p => nI (q.1 p))) :: .inl (G.2 0, 256, .inl (fun p => nI (q.2.1 p))) :: .inl (G.2 0, 7, .inl q.2.2) :: tl
theorem q_fst_hit {od : Nat → Nat} {P k : Nat} (hk : k < 7) (h : od (P / 2 ^ k * 2 ^ k) = k + 1) : q_fst od P (7 - k) k = some (P / 2 ^ k * 2 ^ k) := by
  rw [show 7 - k = (6 - k) + 1 by omega]
  exact if_pos h
theorem q_fst_miss {od : Nat → Nat} {P k : Nat} (hk : k < 7) (h : ¬ od (P / 2 ^ k * 2 ^ k) = k + 1) : q_fst od P (7 - k) k = q_fst od P (7 - (k + 1)) (k + 1) := by
  rw [show 7 - k = (7 - (k + 1)) + 1 by omega]
  exact if_neg h
theorem q_lp_hit {od us : Nat → Nat} {o p : Nat} (hk : p < 256) (h : od p = o + 1 ∧ us p = 0) : q_lp od us o (256 - p) p = some p := by
  rw [show 256 - p = (255 - p) + 1 by omega]
  exact if_pos h
theorem q_lp_miss {od us : Nat → Nat} {o p : Nat} (hk : p < 256) (h : ¬ (od p = o + 1 ∧ us p = 0)) : q_lp od us o (256 - p) p = q_lp od us o (256 - (p + 1)) (p + 1) := by
  rw [show 256 - p = (256 - (p + 1)) + 1 by omega]
  exact if_neg h
theorem q_lo_miss {fc : Nat → Int32} {k : Nat} (hk : k < 6) (h : fc k = 0) : q_lo fc (6 - k) k = q_lo fc (6 - (k + 1)) (k + 1) := by
  rw [show 6 - k = (6 - (k + 1)) + 1 by omega]
  exact if_pos h
theorem q_lo_hit {fc : Nat → Int32} {k : Nat} (hk : k ≤ 6) (h : k < 6 → ¬ fc k = 0) : q_lo fc (6 - k) k = k := by
  by_cases hk6 : k < 6
  · rw [show 6 - k = (5 - k) + 1 by omega]
    exact if_neg (h hk6)
  · rw [show 6 - k = 0 by omega]
    rfl
theorem q_lo_le {fc : Nat → Int32} : ∀ (n k : Nat), q_lo fc n k ≤ n + k := by
  intro n
  induction n with
  | zero => intro k; exact Nat.le_of_eq (Nat.zero_add k).symm
  | succ n ih =>
    intro k
    unfold q_lo
    split
    · have := ih (k + 1)
      omega
    · omega
theorem q_lo_ge {fc : Nat → Int32} : ∀ (n k : Nat), k ≤ q_lo fc n k := by
  intro n
  induction n with
  | zero => intro k; exact Nat.le_refl k
  | succ n ih =>
    intro k
    unfold q_lo
    split
    · have := ih (k + 1)
      omega
    · exact Nat.le_refl k
theorem q_lp_lt {od us : Nat → Nat} {o : Nat} : ∀ (n p r : Nat), q_lp od us o n p = some r → p ≤ r ∧ r < p + n ∧ od r = o + 1 ∧ us r = 0 := by
  intro n
  induction n with
  | zero => intro p r h; cases h
  | succ n ih =>
    intro p r h
    unfold q_lp at h
    split at h
    · rename_i hc
      cases h
      exact ⟨Nat.le_refl _, by omega, hc.1, hc.2⟩
    · have := ih (p + 1) r h
      exact ⟨by omega, by omega, this.2.2⟩
theorem nI_ne {a b : Nat} (ha : a < 2 ^ 31) (hb : b < 2 ^ 31) (h : ¬ nI a = nI b) : a ≠ b := fun q => h (by rw [q])
theorem hv_cond : ∀ k, k < 7 → ∀ r, r < 7 → (nI (k + r) - 1 < nI k ↔ r = 0) := by decide +kernel
theorem add_m1 (x : Int32) : x + Int32.ofInt (-1) = x - 1 := by rw [Int32.sub_eq_add_neg]; rfl
theorem nI_m1 {n : Nat} (h : n < 2 ^ 31) : ¬ nI n = -1 := fun q => by
  have h1 : (nI n).toInt = (-1 : Int32).toInt := by rw [q]
  rw [nI_toInt h] at h1
  have h2 : (-1 : Int32).toInt = -1 := by decide
  omega
theorem min_nI {a b : Nat} (ha : a < 2 ^ 31) (hb : b < 2 ^ 31) : (if nI b < nI a then nI b else nI a) = nI (min a b) := by
  by_cases h : b < a
  · rw [if_pos ((nI_ltI hb ha).mpr h), Nat.min_eq_right (by omega)]
  · rw [if_neg (fun q => h ((nI_ltI hb ha).mp q)), Nat.min_eq_left (by omega)]
theorem q_join_end {q : q_T} {f j : Nat} (h : ¬ (j < 6 ∧ q.1 (f ^^^ 2 ^ j) = j + 1 ∧ q.2.1 (f ^^^ 2 ^ j) = 0)) : q_join (6 - j) q f j = q_lay q f j := by
  by_cases hj : j < 6
  · rw [show 6 - j = (5 - j) + 1 by omega]
    exact if_neg h
  · rw [show 6 - j = 0 by omega]
    rfl
theorem q_join_go {q : q_T} {f j : Nat} (hj : j < 6) (h : q.1 (f ^^^ 2 ^ j) = j + 1 ∧ q.2.1 (f ^^^ 2 ^ j) = 0) : q_join (6 - j) q f j = q_join (6 - (j + 1)) (va_up (va_up q.1 f 0) (f ^^^ 2 ^ j) 0, q.2.1, upd q.2.2 j (q.2.2 j - 1)) (min f (f ^^^ 2 ^ j)) (j + 1) := by
  rw [show 6 - j = (6 - (j + 1)) + 1 by omega]
  exact if_pos ⟨hj, h⟩
def q_halve (q : q_T) (P k : Nat) : q_T := match q_hv P k (q.1 P - 1 - k) (q.1, q.2.1, upd q.2.2 (q.1 P - 1) (q.2.2 (q.1 P - 1) - 1)) with
  | r => (va_up r.1 P (k + 1), r.2)
def q_take (q : q_T) (k : Nat) : Option Nat := q_lp q.1 q.2.1 (q_lo q.2.2 (6 - k) k) 256 0
def q_got (q : q_T) (P k u : Nat) : q_T := ((q_halve q P k).1, va_up (q_halve q P k).2.1 P u, (q_halve q P k).2.2)
def s_arm (sc : Nat → Int32) : Nat → Int32 := if sc 7 = -1 then sc else upd sc 7 (sc 7 - 1)
def s_got (sc : Nat → Int32) (k : Nat) : Nat → Int32 := upd (upd (upd sc 5 (sc 5 + 1)) 2 (sc 2 - nI (2 ^ k))) 3 (if sc 3 < sc 1 - (sc 2 - nI (2 ^ k)) then sc 1 - (sc 2 - nI (2 ^ k)) else sc 3)
def s_miss (sc : Nat → Int32) : Nat → Int32 := upd sc 4 (sc 4 + 1)
def j_take (sc : Nat → Int32) (q : q_T) (k : Nat) : Option Nat := if sc 7 = 0 then none else q_take q k
def j_scl (sc : Nat → Int32) (q : q_T) (k : Nat) : Nat → Int32 := match j_take sc q k with
  | none => s_miss (s_arm sc)
  | some _ => s_got (s_arm sc) k
def j_qcl (sc : Nat → Int32) (q : q_T) (k u : Nat) : q_T := match j_take sc q k with
  | none => q
  | some P => q_got q P k u
def q_tell : Nat → Nat → (Nat → Int32) × Int32 → (Nat → Int32) × Int32
  | 0, _, t => t
  | n + 1, p, t => q_tell n (p + 1) (if t.1 p = 0 then (upd t.1 p 1, t.2 + 1) else t)
def q_open (td : Nat → Int32) : Nat → Nat → q_T → q_T
  | 0, _, q => q
  | n + 1, p, q => q_open td n (p + 1) (if td p = 0 then q else q_join 6 q p 0)
theorem q_join_ok : ∀ (n : Nat) (q : q_T) (f k : Nat), n + k ≤ 6 → (∀ p, q.1 p ≤ 7) → (∀ p, q.2.1 p ≤ 13) → (∀ p, (q_join n q f k).1 p ≤ 7) ∧ (∀ p, (q_join n q f k).2.1 p ≤ 13) := by
  have lay : ∀ (q : q_T) (f k : Nat), k ≤ 6 → (∀ p, q.1 p ≤ 7) → (∀ p, q.2.1 p ≤ 13) → (∀ p, (q_lay q f k).1 p ≤ 7) ∧ (∀ p, (q_lay q f k).2.1 p ≤ 13) := by
    intro q f k hk h1 h2
    refine ⟨fun p => ?_, fun p => ?_⟩
    · show va_up q.1 f (k + 1) p ≤ 7
      unfold va_up
      split
      · omega
      · exact h1 p
    · show va_up q.2.1 f 0 p ≤ 13
      unfold va_up
      split
      · omega
      · exact h2 p
  intro n
  induction n with
  | zero => intro q f k hk h1 h2; exact lay q f k (by omega) h1 h2
  | succ n ih =>
    intro q f k hk h1 h2
    unfold q_join
    split
    · refine ih _ _ _ (by omega) (fun p => ?_) h2
      show va_up (va_up q.1 f 0) (f ^^^ 2 ^ k) 0 p ≤ 7
      unfold va_up
      split
      · omega
      · split
        · omega
        · exact h1 p
    · exact lay q f k (by omega) h1 h2
end
section
theorem z_self {hp : List va_E} {i : Nat} {e e' : va_E} (h : hp[i]? = some e) : (hp.set i e')[i]? = some e' := by
  rw [List.getElem?_set_self (List.getElem?_eq_some_iff.mp h).1]
theorem z_oth {hp : List va_E} {i k : Nat} {e x : va_E} (h : i ≠ k) (he : hp[k]? = some e) : (hp.set i x)[k]? = some e := by
  rw [List.getElem?_set_ne h]; exact he
def q_oC (cf : Nat → Int32) : va_E := .inr (1, [.int (cf 0), .int (cf 1), .int (cf 2), .int (cf 3), .int (cf 4), .int (cf 5), .int (cf 6), .int (cf 7), .int (cf 8)])
def q_so (t : Nat) : Nat → Nat → Nat
  | 0, k => k
  | n + 1, k => if 64 * 2 ^ k / t < 4 then q_so t n (k + 1) else k
def j_ix (off t ob : Nat) : Option Nat := if off % t = 0 ∧ off / t < ob then some (off / t) else none
def j_fig (cf : Nat → Int32) (x : Int32) : Int32 := if x.toInt < 0 ∨ 7 < x.toInt then -1 else cf (x.toNatClampNeg + 1)
theorem nI_64 : ∀ k, k < 7 → (64 : Int32) <<< (nI k &&& 31) = nI (64 * 2 ^ k) := by decide +kernel
theorem q_so_go {t k : Nat} (hk : k < 4) (h : 64 * 2 ^ k / t < 4) : q_so t (4 - k) k = q_so t (4 - (k + 1)) (k + 1) := by
  rw [show 4 - k = (4 - (k + 1)) + 1 by omega]
  exact if_pos h
theorem q_so_end {t k : Nat} (h : ¬ (k < 4 ∧ 64 * 2 ^ k / t < 4)) : q_so t (4 - k) k = k := by
  by_cases hk : k < 4
  · rw [show 4 - k = (3 - k) + 1 by omega]
    exact if_neg (fun z => h ⟨hk, z⟩)
  · rw [show 4 - k = 0 by omega]
    rfl
theorem q_so_le {t : Nat} : ∀ (n k : Nat), q_so t n k ≤ n + k := by
  intro n
  induction n with
  | zero => intro k; exact Nat.le_of_eq (Nat.zero_add k).symm
  | succ n ih =>
    intro k
    unfold q_so
    split
    · have := ih (k + 1)
      omega
    · omega
theorem tab8 (x : Int32) : (x.toInt < 0 ∨ 7 < x.toInt) ∨ ∃ j : Nat, j < 8 ∧ x = nI j := by
  by_cases h : x.toInt < 0 ∨ 7 < x.toInt
  · exact Or.inl h
  · refine Or.inr ⟨x.toInt.toNat, by omega, Int32.toInt_inj.mp ?_⟩
    rw [nI_toInt (by omega)]
    omega
def lb (w : Int64) (i : Nat) : Bool := w.toBitVec.getLsbD i
theorem sh_amt : ∀ k, k < 64 → ((nI k).toInt64.toUInt64 &&& Int64.toUInt64 63).toBitVec = BitVec.ofNat 64 k := by decide +kernel
theorem sh_amt2 : ∀ k, k < 64 → ((nI k).toInt64 &&& 63).toBitVec.smod 64 = BitVec.ofNat 64 k := by decide +kernel
theorem lb_shr {w : Int64} {k i : Nat} (hk : k < 64) : lb (w.toUInt64 >>> ((nI k).toInt64.toUInt64 &&& Int64.toUInt64 63)).toInt64 i = lb w (k + i) := by
  unfold lb
  have h : (w.toUInt64 >>> ((nI k).toInt64.toUInt64 &&& Int64.toUInt64 63)).toInt64.toBitVec = w.toBitVec >>> k := by
    show (w.toUInt64 >>> _).toBitVec = _
    rw [UInt64.toBitVec_shiftRight, sh_amt k hk]
    apply BitVec.eq_of_toNat_eq
    simp [BitVec.toNat_ushiftRight, Nat.mod_eq_of_lt (show k < 18446744073709551616 by omega), Nat.mod_eq_of_lt hk]
  rw [h, BitVec.getLsbD_ushiftRight]
theorem lb_shl {w : Int64} {k i : Nat} (hk : k < 64) (hi : i < 64) : lb (w <<< ((nI k).toInt64 &&& 63)) i = (decide (k ≤ i) && lb w (i - k)) := by
  unfold lb
  rw [Int64.toBitVec_shiftLeft, sh_amt2 k hk]
  have h : w.toBitVec <<< BitVec.ofNat 64 k = w.toBitVec <<< k := by
    apply BitVec.eq_of_toNat_eq
    simp [BitVec.toNat_shiftLeft, Nat.mod_eq_of_lt (show k < 18446744073709551616 by omega)]
  rw [h, BitVec.getLsbD_shiftLeft]
  by_cases hc : k ≤ i
  · simp [hi, hc, Nat.not_lt.mpr hc]
  · simp [hi, hc, Nat.lt_of_not_le hc]
theorem lb_or (a b : Int64) (i : Nat) : lb (a ||| b) i = (lb a i || lb b i) := by
  unfold lb
  rw [Int64.toBitVec_or, BitVec.getLsbD_or]
theorem lb_and (a b : Int64) (i : Nat) : lb (a &&& b) i = (lb a i && lb b i) := by
  unfold lb
  rw [Int64.toBitVec_and, BitVec.getLsbD_and]
theorem lb_xor (a b : Int64) (i : Nat) : lb (a ^^^ b) i = (lb a i ^^ lb b i) := by
  unfold lb
  rw [Int64.toBitVec_xor, BitVec.getLsbD_xor]
theorem lb_m1 : ∀ i, i < 64 → lb (-1) i = true := by decide +kernel
theorem lb_0 (i : Nat) : lb 0 i = false := by
  show (0 : BitVec 64).getLsbD i = false
  simp
theorem lb_1 : ∀ i, i < 64 → lb 1 i = decide (i = 0) := by decide +kernel
theorem lb_255 : ∀ i, i < 64 → lb 255 i = decide (i < 8) := by decide +kernel
theorem lb_big {w : Int64} {i : Nat} (h : 64 ≤ i) : lb w i = false := by
  unfold lb
  exact BitVec.getLsbD_of_ge _ _ h
theorem lb_ext {a b : Int64} (h : ∀ i, i < 64 → lb a i = lb b i) : a = b := Int64.toBitVec_inj.mp (BitVec.eq_of_getLsbD_eq h)
/-- is the bit set, as the class asks -/
theorem lb_test {w : Int64} {k : Nat} (hk : k < 64) : lg_cmp ((w.toUInt64 >>> ((nI k).toInt64.toUInt64 &&& Int64.toUInt64 63)).toInt64 &&& 1) 0 = 0 ↔ lb w k = false := by
  have h1 : lg_cmp ((w.toUInt64 >>> ((nI k).toInt64.toUInt64 &&& Int64.toUInt64 63)).toInt64 &&& 1) 0 = 0 ↔ ((w.toUInt64 >>> ((nI k).toInt64.toUInt64 &&& Int64.toUInt64 63)).toInt64 &&& 1) = 0 := lg_cmp_eq _ _
  rw [h1]
  constructor
  · intro h
    have h2 := congrArg (fun z => lb z 0) h
    simp only [lb_and, lb_shr hk, lb_1 0 (by decide), lb_0] at h2
    simpa using h2
  · intro h
    refine lb_ext (fun i hi => ?_)
    rw [lb_and, lb_shr hk, lb_1 i hi, lb_0]
    by_cases h0 : i = 0
    · subst h0
      simp [h]
    · simp [h0]
theorem lb_set {w : Int64} {k i : Nat} (hk : k < 64) (hi : i < 64) : lb (w ||| ((1 : Int64) <<< ((nI k).toInt64 &&& 63))) i = (lb w i || decide (i = k)) := by
  rw [lb_or, lb_shl hk hi]
  by_cases h : k ≤ i
  · rw [lb_1 _ (by omega)]
    congr 1
    by_cases h2 : i = k
    · subst h2; simp
    · simp [h, h2]; omega
  · have h2 : ¬ i = k := by omega
    simp [h, h2]
theorem lb_clr {w : Int64} {k i : Nat} (hk : k < 64) (hi : i < 64) : lb (w &&& (((1 : Int64) <<< ((nI k).toInt64 &&& 63)) ^^^ (-1))) i = (lb w i && !decide (i = k)) := by
  rw [lb_and, lb_xor, lb_shl hk hi, lb_m1 i hi]
  by_cases h : k ≤ i
  · rw [lb_1 _ (by omega)]
    congr 1
    by_cases h2 : i = k
    · subst h2; simp
    · simp [h, h2]; omega
  · have h2 : ¬ i = k := by omega
    simp [h, h2]
end
section
section ZCP
variable {p : Program} {l : Launch} {e : Env} {R : Room} {s : State} {m : MethodId} {args : Array Value} {below : List Frame} {meth : Method} {c : Code} {Q : State → Prop} {cc : ByteArray} {own : String} {G : z_G} {base nL cells slots pc : Nat} {lv : List (Nat × Value)} {st : List Value} {hp : List va_E}
/-- System.arraycopy within one array of longs -/
theorem z_copyl (C : z_C p s m args meth c cc nL own G base) {idx i n sp dp k : Nat} {f : Nat → Int64} (hw : Cond.methodLink own idx arraycopyName ∈ z_W) (hw1 : Cond.native arraycopyName ∈ z_W) (hw2 : Cond.static arraycopyName ∈ z_W) (hw3 : Cond.initialized "java/lang/System" ∈ z_W) (hd : decode cc pc = .ok (.invokestatic idx, 3)) (he : hp[i]? = some (.inl (G.2 1, n, .inr (.inl f)))) (h4 : sp + k ≤ n) (h5 : dp + k ≤ n) (hn : n < 65536) (hR1 : 1 ≤ R.frames) (hR2 : (st.map fun v => v.category).sum + (nativeFrameWords "java/lang/System" "arraycopy" 5 + 11) ≤ R.locals)
    (kk : z_R p l e R s m args below meth c Q G base nL cells slots (pc + 3) lv st (hp.set i (.inl (G.2 1, n, .inr (.inl (va_cpy f f sp dp k)))))) : z_R p l e R s m args below meth c Q G base nL cells slots pc lv (.int (nI k) :: .int (nI dp) :: .ref (base + i) :: .int (nI sp) :: .ref (base + i) :: st) hp := by
  intro H locs ls h1 h2 h3 T hT X
  have hts := C.2.2.2.2.1
  have hc0 : H[base + i]? = some (vp_cell (G.2 1) (n, .inr (.inl f))) := h1.2 i _ he
  obtain ⟨-, k0, hk0, cm0, hkk0⟩ := (C.2.2.2.2.2.1.1.2 1 _ rfl).1 n (fun j => .long (f j))
  have qk : (nI k).toNatClampNeg = k := nI_clamp (by omega)
  have qs : (nI sp).toNatClampNeg = sp := nI_clamp (by omega)
  have qd : (nI dp).toNatClampNeg = dp := nI_clamp (by omega)
  have hsz : ((vp_cell (G.2 1) (n, .inr (.inl f))).slots.size : Int) = n := by
    show ((arrV (G.2 1) n (fun j => .long (f j))).slots.size : Int) = n
    rw [arrV_size]
  obtain ⟨vm', X', step⟩ := X.arraycopy C.1 C.2.2.2.1 (hts _ hw) (hts _ hw1) (hts _ hw2) (hts _ hw3) (cs := vp_cell (G.2 1) (n, .inr (.inl f))) (cd := vp_cell (G.2 1) (n, .inr (.inl f))) (src := base + i) (dst := base + i) (srcPos := nI sp) (destPos := nI dp) (n := nI k) (by rw [hT]; exact hc0) (by rw [hT]; exact hc0)
    (fun _ h => by cases h) (fun _ h => by cases h) (fun h => by cases h) (fun h => by cases h) hk0 hk0 hkk0 hkk0 (by simp [refKind]) (nI_pos (by omega)) (nI_pos (by omega)) (nI_pos (by omega))
    (by rw [nI_toInt (by omega), nI_toInt (by omega), hsz]; omega) (by rw [nI_toInt (by omega), nI_toInt (by omega), hsz]; omega)
    (fun vm₁ _ j hj => by
      rw [qk] at hj
      have e : (vp_cell (G.2 1) (n, .inr (.inl f))).slots.getD ((nI sp).toNatClampNeg + j) .null = .long (f (sp + j)) := by
        rw [qs]
        show (arrV (G.2 1) n (fun j => .long (f j))).slots.getD _ _ = _
        rw [Array.getD_eq_getD_getElem?, arrV_read _ _ (by omega)]
        rfl
      rw [e]
      exact ⟨rfl, trivial⟩)
    (g := F0 m pc ls (.int (nI k) :: .int (nI dp) :: .ref (base + i) :: .int (nI sp) :: .ref (base + i) :: st)) rfl (by rw [C.2.2.1]; exact h3.1) (rest := st) rfl (by rw [C.2.1]; exact hd) hR1 (by show 2 * 0 + _ + _ ≤ _; omega)
  have e1 : copied (vp_cell (G.2 1) (n, .inr (.inl f))) (vp_cell (G.2 1) (n, .inr (.inl f))) (nI sp) (nI dp) (nI k) = vp_cell (G.2 1) (n, .inr (.inl (va_cpy f f sp dp k))) := by
    have h9 := va_copied (fun z => Value.long z) (G.2 1) (G.2 1) (n0 := n) (n1 := n) (sp := (nI sp).toNatClampNeg) (dp := (nI dp).toNatClampNeg) (n := (nI k).toNatClampNeg) f f (by rw [qs, qk]; exact h4)
    refine (show copied _ _ _ _ _ = _ from h9).trans ?_
    rw [qs, qd, qk]
    rfl
  rw [e1] at X' step
  have hl : base + i < H.size := (Array.getElem?_eq_some_iff.mp hc0).1
  have oq : ∀ q : Nat, q ≠ base + i → (H.setIfInBounds (base + i) (vp_cell (G.2 1) (n, .inr (.inl (va_cpy f f sp dp k)))))[q]? = H[q]? := fun q hq => by simp [Array.getElem?_setIfInBounds, Ne.symm hq]
  obtain ⟨t, a1, b1⟩ := kk (H.setIfInBounds (base + i) (vp_cell (G.2 1) (n, .inr (.inl (va_cpy f f sp dp k))))) _ ls (h1.set (by simp) oq (show (H.setIfInBounds (base + i) _)[base + i]? = some _ by simp [Array.getElem?_setIfInBounds, hl])) ⟨by simp; exact h2.1, fun q g1 g2 => by
      rw [oq q (fun z => g2 (by rw [z]; exact Nat.le_add_right _ _))]
      exact h2.2.1 q g1 g2, fun q hq => by
      rcases List.mem_append.mp hq with h | h
      · exact h2.2.2 q h
      · obtain ⟨z, -, hz⟩ := List.mem_map.mp h
        rw [← hz]
        exact Nat.le_add_right _ _⟩ h3 _ (by rw [← hT]; rfl) X'
  exact ⟨t, step t a1, b1⟩
end ZCP
/-! the memory: words of eight bytes -/
def q_Mb (f : Nat → Int64) (mem : Nat → Nat) : Prop := ∀ a, a < 16384 → mem a < 256 ∧ ∀ i, i < 8 → lb (f (a / 8)) (a % 8 * 8 + i) = (mem a).testBit i
theorem b32_255 : ∀ i, i < 32 → (255 : Int32).toBitVec.getLsbD i = decide (i < 8) := by decide +kernel
theorem mb_get {w : Int64} {k v : Nat} (hk : k + 8 ≤ 64) (hv : v < 256) (h : ∀ i, i < 8 → lb w (k + i) = v.testBit i) : ((w.toUInt64 >>> ((nI k).toInt64.toUInt64 &&& Int64.toUInt64 63)).toInt64).toInt32 &&& 255 = nI v := by
  apply Int32.toBitVec_inj.mp
  apply BitVec.eq_of_getLsbD_eq
  intro i hi
  rw [Int32.toBitVec_and, BitVec.getLsbD_and, b32_255 i hi]
  have h2 : (((w.toUInt64 >>> ((nI k).toInt64.toUInt64 &&& Int64.toUInt64 63)).toInt64).toInt32).toBitVec.getLsbD i = lb (w.toUInt64 >>> ((nI k).toInt64.toUInt64 &&& Int64.toUInt64 63)).toInt64 i := by
    rw [Int64.toBitVec_toInt32, BitVec.getLsbD_signExtend]
    simp [hi, lb, show i < 64 by omega]
  rw [h2, lb_shr (by omega)]
  have h3 : (nI v).toBitVec.getLsbD i = v.testBit i := by
    show (BitVec.ofNat 32 v).getLsbD i = _
    rw [BitVec.getLsbD_ofNat]
    simp [hi]
  rw [h3]
  by_cases h8 : i < 8
  · rw [h i h8]
    simp [h8]
  · rw [Nat.testBit_lt_two_pow (Nat.lt_of_lt_of_le hv (by rw [show 256 = 2 ^ 8 by rfl]; exact Nat.pow_le_pow_right (by omega) (by omega)))]
    simp [h8]
def mb_new (w : Int64) (k : Nat) (v : Int32) : Int64 := (w &&& (((255 : Int64) <<< ((nI k).toInt64 &&& 63)) ^^^ (-1))) ||| ((v.toInt64 &&& 255) <<< ((nI k).toInt64 &&& 63))
theorem mb_put {w : Int64} {k : Nat} {v : Int32} {i : Nat} (hk : k + 8 ≤ 64) (hi : i < 64) : lb (mb_new w k v) i = if k ≤ i ∧ i < k + 8 then (v.toBitVec.toNat % 256).testBit (i - k) else lb w i := by
  unfold mb_new
  rw [lb_or, lb_and, lb_xor, lb_shl (by omega) hi, lb_shl (by omega) hi, lb_m1 i hi, lb_and]
  have hv : ∀ j, j < 8 → lb v.toInt64 j = (v.toBitVec.toNat % 256).testBit j := by
    intro j hj
    unfold lb
    rw [Int32.toBitVec_toInt64, BitVec.getLsbD_signExtend]
    rw [show (256 : Nat) = 2 ^ 8 by rfl, Nat.testBit_mod_two_pow]
    simp [show j < 64 by omega, show j < 32 by omega, hj, BitVec.getLsbD]
  by_cases h : k ≤ i
  · rw [lb_255 _ (by omega)]
    by_cases h2 : i < k + 8
    · rw [if_pos ⟨h, h2⟩, hv _ (by omega)]
      simp [h, show i - k < 8 by omega]
    · rw [if_neg (fun z => h2 z.2)]
      simp [h, show ¬ i - k < 8 by omega]
  · rw [if_neg (fun z => h z.1)]
    simp [h]
theorem q_Mb_put {f : Nat → Int64} {mem : Nat → Nat} {a : Nat} {v : Int32} (ha : a < 16384) (h : q_Mb f mem) : q_Mb (vp_updL f (a / 8) (mb_new (f (a / 8)) (a % 8 * 8) v)) (va_up mem a (v.toBitVec.toNat % 256)) := by
  intro b hb
  unfold vp_updL va_up
  by_cases hba : b = a
  · subst hba
    simp only [if_true]
    refine ⟨Nat.mod_lt _ (by decide), fun i hi => ?_⟩
    rw [mb_put (by omega) (by omega), if_pos ⟨by omega, by omega⟩, Nat.add_sub_cancel_left]
  · simp only [hba, if_false]
    refine ⟨(h b hb).1, fun i hi => ?_⟩
    by_cases hw : b / 8 = a / 8
    · rw [if_pos hw, mb_put (by omega) (by omega), if_neg (fun z => hba (by omega)), ← hw]
      exact (h b hb).2 i hi
    · rw [if_neg hw]
      exact (h b hb).2 i hi
theorem q_Mb_cpy {f : Nat → Int64} {mem : Nat → Nat} {a b k : Nat} (ha : (a + k) * 8 ≤ 16384) (hb : (b + k) * 8 ≤ 16384) (h : q_Mb f mem) : q_Mb (va_cpy f f a b k) (fun z => if b * 8 ≤ z ∧ z < (b + k) * 8 then mem (a * 8 + (z - b * 8)) else mem z) := by
  intro z hz
  dsimp only
  unfold va_cpy
  by_cases hc : b ≤ z / 8 ∧ z / 8 < b + k
  · rw [if_pos (show b * 8 ≤ z ∧ z < (b + k) * 8 by omega)]
    have h2 := h (a * 8 + (z - b * 8)) (by omega)
    refine ⟨h2.1, fun i hi => ?_⟩
    rw [if_pos hc]
    have h3 := h2.2 i hi
    rw [show (a * 8 + (z - b * 8)) / 8 = a + (z / 8 - b) by omega, show (a * 8 + (z - b * 8)) % 8 = z % 8 by omega] at h3
    exact h3
  · rw [if_neg (show ¬ (b * 8 ≤ z ∧ z < (b + k) * 8) by omega)]
    refine ⟨(h z hz).1, fun i hi => ?_⟩
    rw [if_neg hc]
    exact (h z hz).2 i hi
def q_oS (r n ob : Nat) (w : Int64) (base : Nat) : va_E := .inr (3, [.ref (base + r), .int (nI n), .int (nI ob), .long w])
def q_aI (G : z_G) (n : Nat) (f : Nat → Nat) : va_E := .inl (G.2 0, n, .inl (fun p => nI (f p)))
def q_aL (G : z_G) (n : Nat) (f : Nat → Int64) : va_E := .inl (G.2 1, n, .inr (.inl f))
def q_oM (base : Nat) : va_E := .inr (2, [.ref (base + 2)])
/-- the row of a new slab: from the last on -/
def q_row (ob : Nat) : Nat → Nat → (Nat → Nat) → (Nat → Nat)
  | 0, _, f => f
  | n + 1, i, f => q_row ob n (i + 1) (va_up f i (ob - 1 - i))
def q_cpm (mem : Nat → Nat) (a b n : Nat) : Nat → Nat := fun z => if b ≤ z ∧ z < b + n then mem (a + (z - b)) else mem z
theorem q_cpm_step {mem : Nat → Nat} {a b i : Nat} : va_up (q_cpm mem a b i) (b + i) (mem (a + i)) = q_cpm mem a b (i + 1) := by
  funext z
  unfold va_up q_cpm
  by_cases h : z = b + i
  · subst h
    rw [if_pos rfl, if_pos ⟨by omega, by omega⟩, Nat.add_sub_cancel_left]
  · rw [if_neg h]
    by_cases h2 : b ≤ z ∧ z < b + i
    · rw [if_pos h2, if_pos ⟨h2.1, by omega⟩]
    · rw [if_neg h2, if_neg (fun q => h2 ⟨q.1, by omega⟩)]
theorem q_cpm_src {mem : Nat → Nat} {a b i : Nat} (h : a + i < b ∨ b + i ≤ a + i) (h2 : a + i < b ∨ b + i ≤ a) : q_cpm mem a b i (a + i) = mem (a + i) := by
  unfold q_cpm
  rw [if_neg]
  omega
theorem nI_byte {v : Nat} (h : v < 256) : (nI v).toBitVec.toNat % 256 = v := by
  rw [pk_tn (by omega)]
  omega
theorem q_Mb_cpw {f : Nat → Int64} {mem : Nat → Nat} {a b n : Nat} (ha8 : a % 8 = 0) (hb8 : b % 8 = 0) (ha : a + n ≤ 16384) (hb : b + n ≤ 16384) (h : q_Mb f mem) : q_Mb (va_cpy f f (a / 8) (b / 8) (n / 8)) (q_cpm mem a b (n / 8 * 8)) := by
  have h1 := q_Mb_cpy (f := f) (mem := mem) (a := a / 8) (b := b / 8) (k := n / 8) (by omega) (by omega) h
  have e : (fun z => if b / 8 * 8 ≤ z ∧ z < (b / 8 + n / 8) * 8 then mem (a / 8 * 8 + (z - b / 8 * 8)) else mem z) = q_cpm mem a b (n / 8 * 8) := by
    funext z
    unfold q_cpm
    rw [show b / 8 * 8 = b by omega, show a / 8 * 8 = a by omega, show (b / 8 + n / 8) * 8 = b + n / 8 * 8 by omega]
  rw [e] at h1
  exact h1
end
section
/-! the reference's state: numbers, arrays of numbers, arrays of ints -/
abbrev r_T : Type := (Nat → Int32) × (Nat → Nat → Nat) × (Nat → Nat → Int32)
def q_aZ (G : z_G) (n : Nat) (f : Nat → Int32) : va_E := .inl (G.2 2, n, .inl f)
def q_aJ (G : z_G) (n : Nat) (f : Nat → Int32) : va_E := .inl (G.2 0, n, .inl f)
def r_obj (base : Nat) (a : Nat → Int32) : va_E := .inr (5, [.ref (base + 17), .int (a 0), .ref (base + 18), .ref (base + 19), .ref (base + 20), .ref (base + 21), .ref (base + 22), .ref (base + 23), .ref (base + 24), .int (a 1), .ref (base + 25), .ref (base + 26), .ref (base + 27), .ref (base + 28), .ref (base + 29), .int (a 2), .int (a 3), .int (a 4), .int (a 5), .int (a 6)])
def r_cells (G : z_G) (base : Nat) (r : r_T) : List va_E := [r_obj base r.1, q_aI G 16384 (r.2.1 0), q_aZ G 256 (r.2.2 0), q_aI G 256 (r.2.1 1), q_aI G 256 (r.2.1 2), q_aZ G 256 (r.2.2 1), q_aJ G 256 (r.2.2 2), q_aI G 16384 (r.2.1 3), q_aI G 256 (r.2.1 4), q_aI G 12 (r.2.1 5), q_aI G 12 (r.2.1 6), q_aI G 12 (r.2.1 7), q_aI G 12 (r.2.1 8), q_aJ G 12 (r.2.2 3)]
def hpM (G : z_G) (base : Nat) (xs : Nat → va_E) (r : r_T) (tl : List va_E) : List va_E :=
  xs 0 :: xs 1 :: xs 2 :: xs 3 :: xs 4 :: xs 5 :: xs 6 :: xs 7 :: xs 8 :: xs 9 :: xs 10 :: xs 11 :: xs 12 :: xs 13 :: xs 14 :: xs 15 :: (r_cells G base r ++ tl)
def r_sum (g : Nat → Nat) : Nat → Nat
  | 0 => 0
  | n + 1 => r_sum g n + g n
def r_first (r : r_T) (p : Nat) : Bool := decide (¬ r.1 0 = 0 ∧ ¬ r.2.2 0 p = 0 ∧ r.2.1 1 p = p)
def r_free (r : r_T) (p : Nat) : Bool := decide (r_first r p = true ∧ r.2.2 1 p = 0)
def r_slab (r : r_T) (p : Nat) (c : Nat) : Bool := decide (r_first r p = true ∧ ¬ r.2.2 1 p = 0 ∧ r.2.2 2 p = nI c)
def r_ob (r : r_T) (c : Nat) : Nat := 64 * 2 ^ r.2.1 8 c / r.2.1 7 c
def r_low (g : Nat → Bool) : Nat → Option Nat → Option Nat
  | 0, b => b
  | n + 1, b => r_low g n (if g n then some n else b)
/-- a run of pages gets one first page -/
def r_run (f : Nat → Nat) (P : Nat) : Nat → Nat → Nat → Nat
  | 0, _ => f
  | n + 1, z => r_run (va_up f z P) P n (z + 1)
def r_mk (r : r_T) (P k : Nat) (b : Int32) : r_T := (r.1, va_up (va_up r.2.1 1 (r_run (r.2.1 1) P (2 ^ k) P)) 2 (va_up (r.2.1 2) P k), va_up (va_up r.2.2 1 (upd (r.2.2 1) P b)) 2 (upd (r.2.2 2) P (-1)))
theorem r_run_at (P : Nat) : ∀ (n z : Nat) (f : Nat → Nat) (p : Nat), r_run f P n z p = if z ≤ p ∧ p < z + n then P else f p := by
  intro n
  induction n with
  | zero => intro z f p; unfold r_run; rw [if_neg (by omega)]
  | succ n ih =>
    intro z f p
    unfold r_run
    rw [ih]
    by_cases h : z + 1 ≤ p ∧ p < z + 1 + n
    · rw [if_pos h, if_pos (by omega)]
    · rw [if_neg h]
      unfold va_up
      by_cases hz : p = z
      · rw [if_pos hz, if_pos (by omega)]
      · rw [if_neg hz, if_neg (by omega)]
theorem bI_b (b : Bool) : bI b = 0 ↔ b = false := by cases b <;> decide
theorem bI_nt {b : Bool} (h : ¬ bI b = 0) : b = true := by
  cases b
  · exact absurd rfl h
  · rfl
theorem bI_ff {b : Bool} (h : bI b = 0) : b = false := (bI_b b).mp h
theorem nar_b (b : Bool) : narrow .boolean (.int (bI b)) = .int (bI b) := by cases b <;> rfl
theorem vnar_b (b : Bool) : vp_nar .boolean (bI b) = bI b := by cases b <;> rfl
def r_arm (a : Int32) : Int32 := if a < 0 then -1 else a - 1
def r_or (b d : Option Nat) : Option Nat := match b with
  | some p => some p
  | none => d
def r_best (r : r_T) : Nat → Nat → Option Nat
  | 0, _ => none
  | n + 1, o => r_or (r_low (fun p => decide (r_free r p = true ∧ r.2.1 2 p = o)) 256 none) (r_best r n (o + 1))
def r_split (P k : Nat) : Nat → r_T → r_T
  | 0, r => r
  | n + 1, r => r_split P k n (r_mk r (P + 2 ^ (k + n)) (k + n) 0)
def r_got (r : r_T) (P k : Nat) : r_T := r_mk (r_split P k (r.2.1 2 P - k) r) P k 1
def r_used (r : r_T) : Int32 := nI (r_sum (fun p => if r.2.2 0 p = 0 then 0 else 1) 256) - nI (r_sum (fun p => if r_free r p = true then 2 ^ r.2.1 2 p else 0) 256)
/-- a block is taken: which, and the state behind it -/
def r_tk (r : r_T) (k : Nat) : Option Nat := if r.1 2 = 0 then none else r_best r (7 - k) k
def r_tks (r : r_T) (k : Nat) : r_T := match r_tk r k with
  | none => (upd (upd r.1 2 (r_arm (r.1 2))) 3 (r.1 3 + 1), r.2)
  | some P => match r_got (upd r.1 2 (r_arm (r.1 2)), r.2) P k with
    | g => (upd (upd g.1 4 (r.1 4 + 1)) 6 (if r.1 6 < r_used g then r_used g else r.1 6), g.2)
def r_join : Nat → r_T → Nat → Nat → r_T
  | 0, r, _, _ => r
  | n + 1, r, f, k => if k < 6 ∧ r_free r (f ^^^ 2 ^ k) = true ∧ r.2.1 2 (f ^^^ 2 ^ k) = k then r_join n (r_mk r (min f (f ^^^ 2 ^ k)) (k + 1) 0) (min f (f ^^^ 2 ^ k)) (k + 1) else r
def r_gvs (r : r_T) (P : Nat) : r_T := match r_join (6 - r.2.1 2 P) (r_mk r P (r.2.1 2 P) 0) P (r.2.1 2 P) with
  | g => (upd g.1 5 (r.1 5 + 1), g.2)
def r_au (us : Nat → Int32) : Nat → Nat → Bool
  | 0, _ => true
  | n + 1, p => decide (p < 256 ∧ ¬ us p = 0) && r_au us n (p + 1)
def r_so (us : Nat → Int32) (P : Nat) : Nat → Nat
  | 0 => 0
  | k + 1 => if P % 2 ^ (k + 1) = 0 ∧ r_au us (2 ^ (k + 1)) P = true then k + 1 else r_so us P k
def r_st (us : Nat → Int32) : Nat → Nat → r_T → r_T
  | 0, _, r => r
  | n + 1, p, r => if p < 256 then (if us p = 0 then r_st us n (p + 1) r else r_st us n (p + 2 ^ r_so us p 6) (r_mk r p (r_so us p 6) 0)) else r
theorem al_min : ∀ k, k < 6 → ∀ f, f < 256 → f % 2 ^ k = 0 → (min f (f ^^^ 2 ^ k)) % 2 ^ (k + 1) = 0 ∧ min f (f ^^^ 2 ^ k) + 2 ^ (k + 1) ≤ 256 := by decide +kernel
theorem al_end : ∀ k, k < 7 → ∀ f, f < 256 → f % 2 ^ k = 0 → f + 2 ^ k ≤ 256 := by decide +kernel
theorem r_mk_fo {r : r_T} {P k : Nat} {b : Int32} (h : ∀ p, r.2.1 1 p < 256) (hP : P < 256) : ∀ p, (r_mk r P k b).2.1 1 p < 256 := by
  intro p
  show r_run (r.2.1 1) P (2 ^ k) P p < 256
  rw [r_run_at]
  split
  · exact hP
  · exact h p
theorem r_mk_oo {r : r_T} {P k : Nat} {b : Int32} (h : ∀ p, r.2.1 2 p ≤ 6) (hk : k ≤ 6) : ∀ p, (r_mk r P k b).2.1 2 p ≤ 6 := by
  intro p
  show va_up (r.2.1 2) P k p ≤ 6
  unfold va_up
  split
  · exact hk
  · exact h p
theorem r_low_some {g : Nat → Bool} : ∀ (n : Nat) (b : Option Nat) (p : Nat), r_low g n b = some p → (p < n ∧ g p = true) ∨ b = some p := by
  intro n
  induction n with
  | zero => intro b p h; exact Or.inr h
  | succ n ih =>
    intro b p h
    unfold r_low at h
    rcases ih _ _ h with h1 | h1
    · exact Or.inl ⟨by omega, h1.2⟩
    · by_cases hg : g n = true
      · rw [if_pos hg] at h1
        cases h1
        exact Or.inl ⟨by omega, hg⟩
      · rw [if_neg hg] at h1
        exact Or.inr h1
theorem r_best_some {r : r_T} : ∀ (n o p : Nat), r_best r n o = some p → p < 256 ∧ r_free r p = true ∧ o ≤ r.2.1 2 p ∧ r.2.1 2 p < o + n := by
  intro n
  induction n with
  | zero => intro o p h; cases h
  | succ n ih =>
    intro o p h
    unfold r_best r_or at h
    split at h
    · rename_i q hq
      cases h
      rcases r_low_some 256 none _ hq with h1 | h1
      · have h2 := of_decide_eq_true h1.2
        exact ⟨h1.1, h2.1, by omega, by omega⟩
      · cases h1
    · have := ih (o + 1) p h
      exact ⟨this.1, this.2.1, by omega, by omega⟩
theorem r_au_lt {us : Nat → Int32} : ∀ (n p : Nat), r_au us n p = true → 0 < n → p + n ≤ 256 := by
  intro n
  induction n with
  | zero => intro p h h0; omega
  | succ n ih =>
    intro p h h0
    unfold r_au at h
    rw [Bool.and_eq_true] at h
    have h1 := of_decide_eq_true h.1
    rcases Nat.eq_zero_or_pos n with hn | hn
    · omega
    · have := ih (p + 1) h.2 hn
      omega
theorem r_so_le {us : Nat → Int32} {P : Nat} : ∀ k, r_so us P k ≤ k := by
  intro k
  induction k with
  | zero => exact Nat.le_refl 0
  | succ k ih =>
    unfold r_so
    split
    · exact Nat.le_refl _
    · omega
theorem r_so_in {us : Nat → Int32} {P : Nat} (hP : P < 256) : ∀ k, P + 2 ^ r_so us P k ≤ 256 := by
  intro k
  induction k with
  | zero => show P + 1 ≤ 256; omega
  | succ k ih =>
    unfold r_so
    split
    · rename_i h
      exact r_au_lt _ _ h.2 (Nat.two_pow_pos _)
    · exact ih
theorem r_split_sc (P k : Nat) : ∀ (n : Nat) (r : r_T), (r_split P k n r).1 = r.1 := by
  intro n
  induction n with
  | zero => intro r; rfl
  | succ n ih => intro r; unfold r_split; rw [ih]; rfl
theorem r_got_sc (r : r_T) (P k : Nat) : (r_got r P k).1 = r.1 := r_split_sc P k _ r
theorem r_join_end {r : r_T} {f j : Nat} (h : ¬ (j < 6 ∧ r_free r (f ^^^ 2 ^ j) = true ∧ r.2.1 2 (f ^^^ 2 ^ j) = j)) : r_join (6 - j) r f j = r := by
  by_cases hj : j < 6
  · rw [show 6 - j = (5 - j) + 1 by omega]
    exact if_neg h
  · rw [show 6 - j = 0 by omega]
    rfl
theorem r_join_go {r : r_T} {f j : Nat} (hj : j < 6) (h : r_free r (f ^^^ 2 ^ j) = true ∧ r.2.1 2 (f ^^^ 2 ^ j) = j) : r_join (6 - j) r f j = r_join (6 - (j + 1)) (r_mk r (min f (f ^^^ 2 ^ j)) (j + 1) 0) (min f (f ^^^ 2 ^ j)) (j + 1) := by
  rw [show 6 - j = (6 - (j + 1)) + 1 by omega]
  exact if_pos ⟨hj, h⟩
theorem r_join_sc : ∀ (n : Nat) (r : r_T) (f k : Nat), (r_join n r f k).1 = r.1 := by
  intro n
  induction n with
  | zero => intro r f k; rfl
  | succ n ih =>
    intro r f k
    unfold r_join
    split
    · rw [ih]; rfl
    · rfl
theorem nI_xor1 : ∀ k, k < 7 → ∀ f, f < 256 → nI f ^^^ nI (2 ^ k) = nI (f ^^^ 2 ^ k) := fun k _ f _ => nI_xor f (2 ^ k)
end
section
theorem in_of {x : Int32} {M : Nat} (hM : M < 65536) (h : 0 ≤ x ∧ x ≤ nI M) : ∃ k : Nat, k ≤ M ∧ x = nI k := by
  obtain ⟨j, hj, rfl⟩ := nI_of (x := x) (Int32.not_lt.mpr h.1)
  exact ⟨j, (nI_leI hj (by omega)).mp h.2, rfl⟩
theorem in_nI {k M : Nat} (hM : M < 65536) (h : k ≤ M) : 0 ≤ nI k ∧ nI k ≤ nI M := ⟨nI_pos' (by omega), nI_le h (by omega)⟩
def r_fi (r : r_T) (x : Int32) : Bool := decide (0 ≤ x ∧ x ≤ 255) && r_first r x.toNatClampNeg
theorem r_fi_nI {r : r_T} {z : Nat} (hz : z < 256) : r_fi r (nI z) = r_first r z := by
  unfold r_fi
  rw [decide_eq_true (show 0 ≤ nI z ∧ nI z ≤ 255 from in_nI (M := 255) (by decide) (by omega)), cl_nI hz, Bool.true_and]
theorem r_fi_out {r : r_T} {x : Int32} (hx : ¬ (0 ≤ x ∧ x ≤ 255)) : r_fi r x = false := by
  unfold r_fi
  rw [decide_eq_false hx, Bool.false_and]
theorem m_X5_isFirst_any (l : Launch) (G : z_G) (base : Nat) (xs : Nat → va_E) (r : r_T) (tl : List va_E) (hfo : ∀ p, r.2.1 1 p < 256) (x : Int32) (H1 : ∀ z, z < 256 → z_M l G base yX5_isFirst cX5_isFirst 2 (some .boolean) 1 0 0 [.ref (base + 16), .int (nI z)] (hpM G base xs r tl) (fun v hp' => v = some (.int (bI (r_first r z))) ∧ hp' = hpM G base xs r tl)) (H2 : ¬ (0 ≤ x ∧ x ≤ 255) → z_M l G base yX5_isFirst cX5_isFirst 2 (some .boolean) 1 0 0 [.ref (base + 16), .int x] (hpM G base xs r tl) (fun v hp' => v = some (.int 0) ∧ hp' = hpM G base xs r tl)) : z_M l G base yX5_isFirst cX5_isFirst 2 (some .boolean) 1 0 0 [.ref (base + 16), .int x] (hpM G base xs r tl) (fun v hp' => v = some (.int (bI (r_fi r x))) ∧ hp' = hpM G base xs r tl) := by
  by_cases hx : 0 ≤ x ∧ x ≤ 255
  · obtain ⟨z, hz, rfl⟩ := in_of (M := 255) (by decide) hx
    rw [r_fi_nI (by omega)]
    exact H1 z (by omega)
  · rw [r_fi_out hx]
    exact H2 hx
def r_fp (r : r_T) (x : Int32) : Int32 := if r_fi r x = true then (if r.2.2 1 x.toNatClampNeg = 0 then -3 else if 0 ≤ r.2.2 2 x.toNatClampNeg then -2 else 0) else -2
theorem r_fi_true {r : r_T} {x : Int32} (h : r_fi r x = true) : ∃ z, z < 256 ∧ x = nI z ∧ r_first r z = true := by
  unfold r_fi at h
  rw [Bool.and_eq_true] at h
  obtain ⟨z, hz, rfl⟩ := in_of (M := 255) (by decide) (of_decide_eq_true h.1)
  rw [cl_nI (by omega)] at h
  exact ⟨z, by omega, rfl, h.2⟩
theorem r_fp_cases (r : r_T) (x : Int32) : r_fp r x = -2 ∨ r_fp r x = -3 ∨ (r_fp r x = 0 ∧ ∃ z, z < 256 ∧ x = nI z ∧ r_first r z = true ∧ ¬ r.2.2 1 z = 0 ∧ ¬ 0 ≤ r.2.2 2 z) := by
  by_cases h : r_fi r x = true
  · obtain ⟨z, hz, rfl, hf⟩ := r_fi_true h
    unfold r_fp
    rw [if_pos h, cl_nI hz]
    by_cases h1 : r.2.2 1 z = 0
    · rw [if_pos h1]; exact Or.inr (Or.inl rfl)
    · rw [if_neg h1]
      by_cases h2 : 0 ≤ r.2.2 2 z
      · rw [if_pos h2]; exact Or.inl rfl
      · rw [if_neg h2]; exact Or.inr (Or.inr ⟨rfl, z, hz, rfl, hf, h1, h2⟩)
  · unfold r_fp
    rw [if_neg h]
    exact Or.inl rfl
/-- freePages: the answer and the state -/
def r_fpA (r : r_T) (x : Int32) : Int32 := if r_fp r x = 0 then nI (2 ^ r.2.1 2 x.toNatClampNeg) else r_fp r x
def r_fpS (r : r_T) (x : Int32) : r_T := if r_fp r x = 0 then r_gvs r x.toNatClampNeg else r
def r_pgA (r : r_T) (x : Int32) : Int32 := if ¬ r.1 0 = 0 ∧ 0 ≤ x ∧ x ≤ 6 then oI (r_tk r x.toNatClampNeg) else -1
def r_pgS (r : r_T) (x : Int32) : r_T := if ¬ r.1 0 = 0 ∧ 0 ≤ x ∧ x ≤ 6 then r_tks r x.toNatClampNeg else r
def r_tell : Nat → Nat → (Nat → Int32) → (Nat → Int32)
  | 0, _, f => f
  | n + 1, p, f => r_tell n (p + 1) (upd f p 1)
def r_usB (r : r_T) (x y : Int32) : Bool := decide (r.1 0 = 0 ∧ (0 ≤ x ∧ x ≤ 255) ∧ x ≤ y ∧ y ≤ 255)
def r_usS (r : r_T) (x y : Int32) : r_T := if r_usB r x y = true then (r.1, r.2.1, va_up r.2.2 0 (r_tell (y.toNatClampNeg + 1 - x.toNatClampNeg) x.toNatClampNeg (r.2.2 0))) else r
def r_isc (r : r_T) (x : Int32) : Bool := decide (0 ≤ x ∧ x ≤ r.1 1 - 1)
def r_live (r : r_T) (p : Nat) : Nat := r_ob r (r.2.2 2 p).toNatClampNeg - r.2.1 4 p
def r_rdA (r : r_T) (x : Int32) : Int32 := if 0 ≤ x ∧ x ≤ 16383 then nI (r.2.1 0 x.toNatClampNeg) else -1
def r_wrS (r : r_T) (x y : Int32) : r_T := if 0 ≤ x ∧ x ≤ 16383 then (r.1, va_up r.2.1 0 (va_up (r.2.1 0) x.toNatClampNeg (y.toBitVec.toNat % 256)), r.2.2) else r
def r_armS (r : r_T) (x : Int32) : r_T := if 0 ≤ x ∧ x ≤ 100 then (upd r.1 2 x, r.2) else r
def r_bk (r : r_T) (x : Int32) : Option Nat := if ¬ r.1 0 = 0 ∧ (0 ≤ x ∧ x ≤ 255) ∧ ¬ r.2.2 0 x.toNatClampNeg = 0 then some (r.2.1 1 x.toNatClampNeg) else none
def r_opA (r : r_T) (x : Int32) : Int32 := if 0 ≤ x ∧ x ≤ 255 then (match r_bk r x with
  | none => -1
  | some f => if r.2.2 1 f = 0 then 0 else if 0 ≤ r.2.2 2 f then 2 + r.2.2 2 f else 1) else -2
def r_orA (r : r_T) (x : Int32) : Int32 := match r_bk r x with
  | none => -1
  | some f => nI (r.2.1 2 f)
end
section
/-- the slab at an address -/
def r_sa (r : r_T) (x : Int32) : Option Nat := if ¬ r.1 0 = 0 ∧ (0 ≤ x ∧ x ≤ 16383) ∧ ¬ r.2.2 0 (x.toNatClampNeg / 64) = 0 then (if ¬ r.2.2 1 (r.2.1 1 (x.toNatClampNeg / 64)) = 0 ∧ 0 ≤ r.2.2 2 (r.2.1 1 (x.toNatClampNeg / 64)) then some (r.2.1 1 (x.toNatClampNeg / 64)) else none) else none
def r_has (f : Nat → Nat) (b k : Nat) : Nat → Nat → Bool
  | 0, _ => false
  | n + 1, j => decide (f (b + j) = k) || r_has f b k n (j + 1)
def r_fob (r : r_T) (P a c : Nat) : Int32 := if (a - 64 * P) % r.2.1 7 c = 0 ∧ (a - 64 * P) / r.2.1 7 c < r_ob r c then (if r_has (r.2.1 3) (64 * P) ((a - 64 * P) / r.2.1 7 c) (r.2.1 4 P) 0 = true then -3 else 0) else -2
/-- an object comes back to its slab's row -/
def r_go1 (r : r_T) (P k : Nat) : r_T := (r.1, va_up (va_up r.2.1 3 (va_up (r.2.1 3) (64 * P + r.2.1 4 P) k)) 4 (va_up (r.2.1 4) P (r.2.1 4 P + 1)), r.2.2)
def r_goS (r : r_T) (P k c : Nat) : r_T := if r_ob r c - (r.2.1 4 P + 1) = 0 then (if r.2.2 3 c < 0 then (r.1, (r_go1 r P k).2.1, va_up r.2.2 3 (upd (r.2.2 3) c (nI P))) else r_gvs (r_go1 r P k) P) else r_go1 r P k
def r_rowf (b m : Nat) : Nat → Nat → (Nat → Nat) → (Nat → Nat)
  | 0, _, f => f
  | n + 1, k, f => r_rowf b m n (k + 1) (va_up f (b + k) (m - 1 - k))
def r_ns1 (t : r_T) (P c n : Nat) : r_T := (t.1, va_up (va_up t.2.1 3 (r_rowf (64 * P) n n 0 (t.2.1 3))) 4 (va_up (t.2.1 4) P n), va_up t.2.2 2 (upd (t.2.2 2) P (nI c)))
def r_nsS (r : r_T) (c : Nat) : r_T := match r_tk r (r.2.1 8 c) with
  | none => r_tks r (r.2.1 8 c)
  | some P => r_ns1 (r_tks r (r.2.1 8 c)) P c (r_ob r c)
def r_part (r : r_T) (c : Nat) : Option Nat := r_low (fun p => decide (r_slab r p c = true ∧ 0 < r.2.1 4 p ∧ 0 < r_ob r c - r.2.1 4 p)) 256 none
def r_toP (r : r_T) (c : Nat) : Option Nat := match r_part r c with
  | some p => some p
  | none => if 0 ≤ r.2.2 3 c then some (r.2.2 3 c).toNatClampNeg else r_tk r (r.2.1 8 c)
def r_to1 (r : r_T) (c : Nat) : r_T := match r_part r c with
  | some _ => r
  | none => if 0 ≤ r.2.2 3 c then (r.1, r.2.1, va_up r.2.2 3 (upd (r.2.2 3) c (-1))) else r_nsS r c
def r_to2 (r : r_T) (P : Nat) : r_T := (r.1, va_up r.2.1 4 (va_up (r.2.1 4) P (r.2.1 4 P - 1)), r.2.2)
def r_toS (r : r_T) (c : Nat) : r_T := match r_toP r c with
  | none => r_to1 r c
  | some P => r_to2 (r_to1 r c) P
def r_toO (r : r_T) (c : Nat) : Option Nat := match r_toP r c with
  | none => none
  | some P => some (64 * P + r.2.1 7 c * (r_to1 r c).2.1 3 (64 * P + ((r_to1 r c).2.1 4 P - 1)))
theorem sa_out {r : r_T} {x : Int32} (h : ¬ (¬ r.1 0 = 0 ∧ (0 ≤ x ∧ x ≤ 16383) ∧ ¬ r.2.2 0 (x.toNatClampNeg / 64) = 0)) : r_sa r x = none := if_neg h
theorem r_sa_some {r : r_T} {x : Int32} {P : Nat} (h : r_sa r x = some P) : ∃ a, a < 16384 ∧ x = nI a ∧ ¬ r.1 0 = 0 ∧ ¬ r.2.2 0 (a / 64) = 0 ∧ P = r.2.1 1 (a / 64) ∧ ¬ r.2.2 1 P = 0 ∧ 0 ≤ r.2.2 2 P := by
  unfold r_sa at h
  split at h
  · rename_i h1
    split at h
    · rename_i h2
      obtain ⟨a, ha, rfl⟩ := in_of (M := 16383) (by decide) h1.2.1
      rw [nI_clamp (by omega)] at h h1 h2
      cases h
      exact ⟨a, by omega, rfl, h1.1, h1.2.2, rfl, h2.1, h2.2⟩
    · cases h
  · cases h
theorem r_isc_true {r : r_T} {x : Int32} {nc : Nat} (h : r.1 1 = nI nc) (h2 : nc ≤ 12) (hi : r_isc r x = true) : ∃ c, c < nc ∧ x = nI c := by
  have h3 := of_decide_eq_true hi
  rw [h] at h3
  rcases Nat.eq_zero_or_pos nc with z | z
  · rw [z] at h3
    exact absurd (Int32.le_trans h3.1 h3.2) (by decide)
  · rw [show nI nc - 1 = nI (nc - 1) from pk_sub (b := 1) z] at h3
    obtain ⟨c, hc, rfl⟩ := in_of (by omega) h3
    exact ⟨c, by omega, rfl⟩
def r_shA (r : r_T) (x : Int32) : Int32 := if r_isc r x = true then (if 0 ≤ r.2.2 3 x.toNatClampNeg then nI (2 ^ r.2.1 2 (r.2.2 3 x.toNatClampNeg).toNatClampNeg) else 0) else -1
def r_shS (r : r_T) (x : Int32) : r_T := if r_isc r x = true then (if 0 ≤ r.2.2 3 x.toNatClampNeg then r_gvs (r.1, r.2.1, va_up r.2.2 3 (upd (r.2.2 3) x.toNatClampNeg (-1))) (r.2.2 3 x.toNatClampNeg).toNatClampNeg else (r.1, r.2.1, va_up r.2.2 3 (upd (r.2.2 3) x.toNatClampNeg (-1)))) else r
/-! by size -/
def k_c1 (b : Nat) : Nat → Nat → Nat
  | 0, j => j
  | n + 1, j => if 8 * 2 ^ j < b then k_c1 b n (j + 1) else j
def k_c2 (b : Nat) : Nat → Nat → Nat
  | 0, j => j
  | n + 1, j => if 64 * 2 ^ j < b then k_c2 b n (j + 1) else j
def k_cls (b : Nat) : Nat := if k_c1 b 6 0 < 6 ∧ b ≤ 256 then k_c1 b 6 0 else 6 + k_c2 b 6 0
def k_bytes (k : Nat) : Nat := if k < 6 then 8 * 2 ^ k else 64 * 2 ^ (k - 6)
theorem nI_8 : ∀ k, k < 7 → (8 : Int32) <<< (nI k &&& 31) = nI (8 * 2 ^ k) := by decide +kernel
theorem k_8 : ∀ k, k < 7 → 8 * 2 ^ k ≤ 512 := by decide
theorem k_64 : ∀ k, k < 7 → 64 * 2 ^ k ≤ 4096 := by decide
theorem k_c1_go {b j : Nat} (hj : j < 6) (h : 8 * 2 ^ j < b) : k_c1 b (6 - j) j = k_c1 b (6 - (j + 1)) (j + 1) := by
  rw [show 6 - j = (6 - (j + 1)) + 1 by omega]
  exact if_pos h
theorem k_c1_end {b j : Nat} (h : ¬ (j < 6 ∧ 8 * 2 ^ j < b)) : k_c1 b (6 - j) j = j := by
  by_cases hj : j < 6
  · rw [show 6 - j = (5 - j) + 1 by omega]
    exact if_neg (fun q => h ⟨hj, q⟩)
  · rw [show 6 - j = 0 by omega]
    rfl
theorem k_c2_go {b j : Nat} (hj : 64 * 2 ^ j < b → j < 6) (h : 64 * 2 ^ j < b) : k_c2 b (6 - j) j = k_c2 b (6 - (j + 1)) (j + 1) := by
  have := hj h
  rw [show 6 - j = (6 - (j + 1)) + 1 by omega]
  exact if_pos h
theorem k_c2_end {b j : Nat} (h : ¬ 64 * 2 ^ j < b) : k_c2 b (6 - j) j = j := by
  by_cases hj : j < 6
  · rw [show 6 - j = (5 - j) + 1 by omega]
    exact if_neg h
  · rw [show 6 - j = 0 by omega]
    rfl
end
section
theorem opt_cases (o : Option Nat) : o = none ∨ ∃ P, o = some P := by
  cases o with
  | none => exact Or.inl rfl
  | some P => exact Or.inr ⟨P, rfl⟩
theorem r_mk_na {r : r_T} {P k : Nat} {b : Int32} {i : Nat} (h1 : i ≠ 1) (h2 : i ≠ 2) : (r_mk r P k b).2.1 i = r.2.1 i := by
  show va_up (va_up r.2.1 1 _) 2 _ i = _
  unfold va_up
  rw [if_neg h2, if_neg h1]
theorem r_mk_ia {r : r_T} {P k : Nat} {b : Int32} {i : Nat} (h1 : i ≠ 1) (h2 : i ≠ 2) : (r_mk r P k b).2.2 i = r.2.2 i := by
  show va_up (va_up r.2.2 1 _) 2 _ i = _
  unfold va_up
  rw [if_neg h2, if_neg h1]
theorem r_split_na {P k i : Nat} (h1 : i ≠ 1) (h2 : i ≠ 2) : ∀ (n : Nat) (r : r_T), (r_split P k n r).2.1 i = r.2.1 i ∧ (r_split P k n r).2.2 i = r.2.2 i := by
  intro n
  induction n with
  | zero => intro r; exact ⟨rfl, rfl⟩
  | succ n ih =>
    intro r
    unfold r_split
    exact ⟨(ih _).1.trans (r_mk_na h1 h2), (ih _).2.trans (r_mk_ia h1 h2)⟩
theorem r_got_na {r : r_T} {P k i : Nat} (h1 : i ≠ 1) (h2 : i ≠ 2) : (r_got r P k).2.1 i = r.2.1 i ∧ (r_got r P k).2.2 i = r.2.2 i :=
  ⟨(r_mk_na h1 h2).trans (r_split_na h1 h2 _ r).1, (r_mk_ia h1 h2).trans (r_split_na h1 h2 _ r).2⟩
theorem r_tks_na {r : r_T} {k i : Nat} (h1 : i ≠ 1) (h2 : i ≠ 2) : (r_tks r k).2.1 i = r.2.1 i ∧ (r_tks r k).2.2 i = r.2.2 i := by
  unfold r_tks
  split
  · exact ⟨rfl, rfl⟩
  · exact r_got_na (r := (upd r.1 2 (r_arm (r.1 2)), r.2)) h1 h2
theorem r_join_na {i : Nat} (h1 : i ≠ 1) (h2 : i ≠ 2) : ∀ (n : Nat) (r : r_T) (f k : Nat), (r_join n r f k).2.1 i = r.2.1 i ∧ (r_join n r f k).2.2 i = r.2.2 i := by
  intro n
  induction n with
  | zero => intro r f k; exact ⟨rfl, rfl⟩
  | succ n ih =>
    intro r f k
    unfold r_join
    split
    · exact ⟨(ih _ _ _).1.trans (r_mk_na h1 h2), (ih _ _ _).2.trans (r_mk_ia h1 h2)⟩
    · exact ⟨rfl, rfl⟩
theorem r_gvs_na {r : r_T} {P i : Nat} (h1 : i ≠ 1) (h2 : i ≠ 2) : (r_gvs r P).2.1 i = r.2.1 i ∧ (r_gvs r P).2.2 i = r.2.2 i :=
  ⟨(r_join_na h1 h2 _ _ _ _).1.trans (r_mk_na h1 h2), (r_join_na h1 h2 _ _ _ _).2.trans (r_mk_ia h1 h2)⟩
def k_str (b a : Nat) : Nat := (b + a - 1) / a * a
def r_ac (r : r_T) (nc b a : Nat) : r_T := (upd r.1 1 (nI (nc + 1)), va_up (va_up (va_up (va_up r.2.1 5 (va_up (r.2.1 5) nc b)) 6 (va_up (r.2.1 6) nc a)) 7 (va_up (r.2.1 7) nc (k_str b a))) 8 (va_up (r.2.1 8) nc (q_so (k_str b a) 4 0)), va_up r.2.2 3 (upd (r.2.2 3) nc (-1)))
theorem k_str_pos {b a : Nat} (hb : 1 ≤ b) (ha : 1 ≤ a) : 1 ≤ k_str b a := by
  unfold k_str
  have h : 1 ≤ (b + a - 1) / a := (Nat.one_le_div_iff (by omega)).mpr (by omega)
  exact Nat.mul_pos h ha
theorem k_str_le {b a : Nat} : k_str b a ≤ b + a - 1 := Nat.div_mul_le_self _ _
def r_chB (r : r_T) (x y : Int32) : Bool := decide (¬ r.1 0 = 0 ∧ (1 ≤ x ∧ x ≤ 1024) ∧ (1 ≤ y ∧ y ≤ 64) ∧ y &&& (y - 1) = 0 ∧ r.1 1 < 12)
def r_chS (r : r_T) (x y : Int32) : r_T := if r_chB r x y = true then r_ac r (r.1 1).toNatClampNeg x.toNatClampNeg y.toNatClampNeg else r
def r_chA (r : r_T) (x y : Int32) : Int32 := if r_chB r x y = true then r.1 1 else -1
theorem in1_of {x : Int32} {M : Nat} (hM : M < 65536) (h : 1 ≤ x ∧ x ≤ nI M) : ∃ k : Nat, 1 ≤ k ∧ k ≤ M ∧ x = nI k := by
  obtain ⟨k, hk, rfl⟩ := in_of hM ⟨Int32.le_trans (by decide) h.1, h.2⟩
  exact ⟨k, (nI_leI (a := 1) (by decide) (by omega)).mp h.1, hk, rfl⟩
theorem r_tk_some {r : r_T} {k P : Nat} (h : r_tk r k = some P) : P < 256 ∧ r_free r P = true ∧ k ≤ r.2.1 2 P := by
  unfold r_tk at h
  split at h
  · cases h
  · have := r_best_some _ _ _ h
    exact ⟨this.1, this.2.1, this.2.2.1⟩
theorem r_tk_lt {r : r_T} {k P : Nat} (h : r_tk r k = some P) : P < 256 := (r_tk_some h).1
theorem nI_gt0 {n : Nat} (h : n < 2 ^ 31) (h2 : ¬ nI n ≤ 0) : 0 < n := by
  rcases Nat.eq_zero_or_pos n with z | z
  · rw [z] at h2; exact absurd (by decide) h2
  · exact z
theorem r_part_some {r : r_T} {c P : Nat} (h : r_part r c = some P) : P < 256 ∧ r_slab r P c = true ∧ 0 < r.2.1 4 P ∧ 0 < r_ob r c - r.2.1 4 P := by
  rcases r_low_some 256 none _ h with h1 | h1
  · exact ⟨h1.1, of_decide_eq_true h1.2⟩
  · cases h1
theorem r_toP_n {r : r_T} {c : Nat} (h : r_part r c = none) (h2 : ¬ 0 ≤ r.2.2 3 c) : r_toP r c = r_tk r (r.2.1 8 c) := by
  unfold r_toP
  rw [h]
  exact if_neg h2
theorem r_nsS_4 {r : r_T} {c P : Nat} (h : r_tk r (r.2.1 8 c) = some P) : (r_nsS r c).2.1 4 P = r_ob r c := by
  unfold r_nsS
  rw [h]
  show va_up _ P (r_ob r c) P = _
  rw [va_up_self]
theorem r_nsS_7 (r : r_T) (c : Nat) : (r_nsS r c).2.1 7 = r.2.1 7 := by
  unfold r_nsS
  split
  · exact (r_tks_na (by decide) (by decide)).1
  · exact (r_tks_na (r := r) (k := r.2.1 8 c) (i := 7) (by decide) (by decide)).1
end
section
/-- what the reference's methods ask of its state -/
def r_wf (r : r_T) (nc : Nat) : Prop :=
  ((∀ p, r.2.1 1 p < 256) ∧ (∀ p, r.2.1 2 p ≤ 6) ∧ (∀ i, r.2.1 3 i < 65536) ∧ (∀ p, r.2.1 4 p ≤ 64)) ∧
  (∀ c, c < nc → 1 ≤ r.2.1 7 c ∧ r.2.1 7 c < 65536 ∧ r.2.1 8 c ≤ 4 ∧ 1 ≤ r_ob r c ∧ r_ob r c ≤ 64) ∧
  (r.1 1 = nI nc ∧ 6 ≤ nc ∧ nc ≤ 12) ∧
  (∀ p, p < 256 → r_first r p = true → p % 2 ^ r.2.1 2 p = 0) ∧
  (∀ a P, a < 16384 → r_sa r (nI a) = some P → P < 256 ∧ r_first r P = true ∧ 64 * P ≤ a ∧ ∃ c, c < nc ∧ r.2.2 2 P = nI c ∧ (r_fob r P a c = 0 → r.2.1 4 P + 1 ≤ r_ob r c)) ∧
  (∀ p c, p < 256 → c < nc → r_slab r p c = true → r.2.1 4 p ≤ r_ob r c) ∧
  (∀ c, c < nc → 0 ≤ r.2.2 3 c → ∃ P, P < 256 ∧ r.2.2 3 c = nI P ∧ 1 ≤ r.2.1 4 P ∧ P % 2 ^ r.2.1 2 P = 0)
theorem r_wf.al {r : r_T} {nc : Nat} (h : r_wf r nc) : ∀ p, p < 256 → r_free r p = true → p + 2 ^ r.2.1 2 p ≤ 256 := fun p hp hf =>
  al_end _ (Nat.lt_succ_of_le (h.1.2.1 p)) p hp (h.2.2.2.1 p hp (of_decide_eq_true hf).1)
theorem r_fob_cases (r : r_T) (P a c : Nat) : r_fob r P a c = -2 ∨ r_fob r P a c = -3 ∨ r_fob r P a c = 0 := by
  unfold r_fob
  split
  · split
    · exact Or.inr (Or.inl rfl)
    · exact Or.inr (Or.inr rfl)
  · exact Or.inl rfl
/-- give: the answer, the state -/
def r_gvI (r : r_T) (x y : Int32) : Option (Nat × Nat × Nat) := match r_sa r y with
  | none => none
  | some P => if r_isc r x = true ∧ r.2.2 2 P = x then some (P, y.toNatClampNeg, x.toNatClampNeg) else none
def r_gvA (r : r_T) (x y : Int32) : Int32 := match r_gvI r x y with
  | none => -2
  | some (P, a, c) => if r_fob r P a c = 0 then nI (r_ob r c - (r.2.1 4 P + 1)) else r_fob r P a c
def r_gvT (r : r_T) (x y : Int32) : r_T := match r_gvI r x y with
  | none => r
  | some (P, a, c) => if r_fob r P a c = 0 then r_goS r P ((a - 64 * P) / r.2.1 7 c) c else r
def r_ca (r : r_T) (x : Int32) : Int32 := match r_sa r x with
  | some P => if 5 < r.2.2 2 P then -2 else (if r_fob r P x.toNatClampNeg (r.2.2 2 P).toNatClampNeg = 0 then r.2.2 2 P else r_fob r P x.toNatClampNeg (r.2.2 2 P).toNatClampNeg)
  | none => if x < 0 ∨ ¬ x.toNatClampNeg % 64 = 0 then -2 else (if r_fp r (nI (x.toNatClampNeg / 64)) = 0 then nI (6 + r.2.1 2 (x.toNatClampNeg / 64)) else r_fp r (nI (x.toNatClampNeg / 64)))
def r_rlS (r : r_T) (a k : Nat) : r_T := if k < 6 then (match r_sa r (nI a) with
  | some P => r_goS r P ((a - 64 * P) / r.2.1 7 k) k
  | none => r) else r_gvs r (a / 64)
theorem r_ca_cases {r : r_T} {nc : Nat} (hw : r_wf r nc) (x : Int32) : r_ca r x = -2 ∨ r_ca r x = -3 ∨
    (∃ a P c, a < 16384 ∧ x = nI a ∧ r_sa r x = some P ∧ c < 6 ∧ c < nc ∧ r.2.2 2 P = nI c ∧ r_fob r P a c = 0 ∧ r_ca r x = nI c ∧ P < 256 ∧ r_first r P = true ∧ 64 * P ≤ a ∧ r.2.1 4 P + 1 ≤ r_ob r c) ∨
    (∃ a, a < 16384 ∧ x = nI a ∧ a % 64 = 0 ∧ r_fp r (nI (a / 64)) = 0 ∧ r_ca r x = nI (6 + r.2.1 2 (a / 64)) ∧ r_first r (a / 64) = true) := by
  rcases opt_cases (r_sa r x) with hs | ⟨P, hs⟩
  · by_cases hx : x < 0 ∨ ¬ x.toNatClampNeg % 64 = 0
    · exact Or.inl (by unfold r_ca; rw [hs]; exact if_pos hx)
    · obtain ⟨a, ha, rfl⟩ := nI_of (x := x) (fun q => hx (Or.inl q))
      rw [nI_clamp ha] at hx
      have h64 : a % 64 = 0 := by
        rcases Nat.eq_zero_or_pos (a % 64) with z | z
        · exact z
        · exact absurd (Or.inr (by omega)) hx
      have e : r_ca r (nI a) = if r_fp r (nI (a / 64)) = 0 then nI (6 + r.2.1 2 (a / 64)) else r_fp r (nI (a / 64)) := by
        unfold r_ca
        rw [hs]
        show (if _ then _ else _) = _
        rw [nI_clamp ha, if_neg hx]
      rcases r_fp_cases r (nI (a / 64)) with h | h | ⟨h, z, hz, hze, hf, -, -⟩
      · exact Or.inl (by rw [e, if_neg (by rw [h]; decide), h])
      · exact Or.inr (Or.inl (by rw [e, if_neg (by rw [h]; decide), h]))
      · have hz2 : a / 64 = z := (nI_eq (by omega) (by omega)).mp hze
        exact Or.inr (Or.inr (Or.inr ⟨a, by omega, rfl, h64, h, by rw [e, if_pos h], by rw [hz2]; exact hf⟩))
  · obtain ⟨a, ha, rfl, -, -, -, -, hcc⟩ := r_sa_some hs
    obtain ⟨h1, h2, h3, c, hc, hcP, h4⟩ := hw.2.2.2.2.1 a P ha hs
    have hc12 := hw.2.2.1.2.2
    have e : r_ca r (nI a) = if 5 < nI c then -2 else (if r_fob r P a c = 0 then nI c else r_fob r P a c) := by
      unfold r_ca
      rw [hs]
      show (if _ then _ else _) = _
      rw [hcP, nI_clamp (n := a) (by omega), nI_clamp (n := c) (by omega)]
    by_cases h5 : (5 : Int32) < nI c
    · exact Or.inl (by rw [e, if_pos h5])
    · have hc6 : c < 6 := by
        rcases Nat.lt_or_ge c 6 with z | z
        · exact z
        · exact absurd (nI_lt (a := 5) (b := c) (by omega) (by omega)) h5
      rcases r_fob_cases r P a c with h | h | h
      · exact Or.inl (by rw [e, if_neg h5, if_neg (by rw [h]; decide), h])
      · exact Or.inr (Or.inl (by rw [e, if_neg h5, if_neg (by rw [h]; decide), h]))
      · exact Or.inr (Or.inr (Or.inl ⟨a, P, c, ha, rfl, hs, hc6, hc, hcP, h, by rw [e, if_neg h5, if_pos h], h1, h2, h3, h4 h⟩))
def r_szA (r : r_T) (x : Int32) : Int32 := if r_ca r x < 0 then r_ca r x else nI (k_bytes (r_ca r x).toNatClampNeg)
def r_frS (r : r_T) (x : Int32) : r_T := if r_ca r x < 0 then r else r_rlS r x.toNatClampNeg (r_ca r x).toNatClampNeg
def r_alO (r : r_T) (b : Nat) : Option Nat := if k_cls b < 6 then r_toO r (k_cls b) else (match r_tk r (k_cls b - 6) with
  | none => none
  | some P => some (64 * P))
def r_alS (r : r_T) (b : Nat) : r_T := if k_cls b < 6 then r_toS r (k_cls b) else r_tks r (k_cls b - 6)
def r_alB (r : r_T) (x : Int32) : Bool := decide (¬ r.1 0 = 0 ∧ 1 ≤ x ∧ x ≤ 4096)
theorem k_cls_le {b : Nat} : k_cls b ≤ 12 := by
  have h1 : ∀ (n j : Nat), k_c2 b n j ≤ n + j := by
    intro n
    induction n with
    | zero => intro j; exact Nat.le_of_eq (Nat.zero_add j).symm
    | succ n ih =>
      intro j
      unfold k_c2
      split
      · have := ih (j + 1)
        omega
      · omega
  unfold k_cls
  split
  · omega
  · have := h1 6 0
    omega
end
section
set_option maxHeartbeats 4000000 in
set_option maxRecDepth 100000 in
theorem m_X4_isPage (l : Launch) (G : z_G) (base : Nat) (hp : List va_E) (x : Int32) : z_M l G base yX4_isPage cX4_isPage 1 (some .boolean) 0 0 0 [.int (x)] hp (fun v hp' => v = some (.int (bI (decide (0 ≤ x ∧ x < 256)))) ∧ hp' = hp) := by
  refine z_M.of (lv0 := [(0, .int (x))]) (by decide) (Nat.le_of_ble_eq_true rfl) rfl ?_
  intro p e s m below meth c hmn hrt C
  refine z_iload_n C dX4_isPage_0 rfl 0 rfl ?_
  refine z_if_lt (tgt := 15) C dX4_isPage_1 (by decide) (fun h1 => ?_) (fun h1 => ?_)
  · skip
    refine z_iconst (v := 0) C dX4_isPage_15 (by decide) ?_
    exact z_iret C hrt rfl dX4_isPage_16 (by decide) (by decide) (⟨by rw [← bI_f (fun q => by first | exact absurd h1 (Int32.not_lt.mpr q.1) | exact absurd q.2 (Int32.not_lt.mpr h8))], rfl⟩)
  · skip
    refine z_iload_n C dX4_isPage_4 rfl 0 rfl ?_
    refine z_sipush (v := 256) C dX4_isPage_5 (by decide) ?_
    refine z_icmp_ge (tgt := 15) C dX4_isPage_8 (by decide) (fun h8 => ?_) (fun h8 => ?_)
    · skip
      refine z_iconst (v := 0) C dX4_isPage_15 (by decide) ?_
      exact z_iret C hrt rfl dX4_isPage_16 (by decide) (by decide) (⟨by rw [← bI_f (fun q => by first | exact absurd h1 (Int32.not_lt.mpr q.1) | exact absurd q.2 (Int32.not_lt.mpr h8))], rfl⟩)
    · skip
      refine z_iconst (v := 1) C dX4_isPage_11 (by decide) ?_
      refine z_goto (tgt := 16) C dX4_isPage_12 (by decide) ?_
      exact z_iret C hrt rfl dX4_isPage_16 (by decide) (by decide) (⟨by rw [← bI_t ⟨Int32.not_lt.mp h1, Int32.not_le.mp h8⟩], rfl⟩)

set_option maxHeartbeats 4000000 in
set_option maxRecDepth 100000 in
theorem m_X0_orderFrom (l : Launch) (G : z_G) (base : Nat) (xs : Nat → va_E) (sc td : Nat → Int32) (q : q_T) (tl : List va_E) (x : Int32) : z_M l G base yX0_orderFrom cX0_orderFrom 2 (some .int) 1 0 0 [.ref (base + 3), .int (x)] (hpB G base xs sc td q tl) (fun v hp' => v = some (.int (j_of q.1 x)) ∧ hp' = hpB G base xs sc td q tl) := by
  refine z_M.of (lv0 := [(0, .ref (base + 3)), (1, .int (x))]) (by decide) (Nat.le_of_ble_eq_true rfl) rfl ?_
  intro p e s m below meth c hmn hrt C
  refine z_iload_n C dX0_orderFrom_0 rfl 1 rfl ?_
  refine z_callSN (rest := []) C (m_X4_isPage l G base _ (x)) ml_X0_43 kw_X4_isPage rfl rfl (by simp [Value.category]) dX0_orderFrom_1 (by decide) (by decide) (by decide) (by decide) ?_
  rintro _ _ ⟨rfl, rfl⟩
  refine z_st (st' := [.int ((bI (decide (0 ≤ x ∧ x < 256))))]) rfl ?_
  refine z_if_eq (tgt := 18) C dX0_orderFrom_4 (by decide) (fun h4 => ?_) (fun h4 => ?_)
  · skip
    refine z_iconst (v := -1) C dX0_orderFrom_18 (by decide) ?_
    exact z_iret C hrt rfl dX0_orderFrom_19 (by decide) (by decide) (⟨by unfold j_of; rw [if_neg (bI_eq h4)], rfl⟩)
  · skip
    obtain ⟨P, hP, rfl⟩ := pg_of (bI_ne h4)
    refine z_aload_n C dX0_orderFrom_7 rfl 0 rfl ?_
    refine z_get C fl_X0_15 dX0_orderFrom_8 rfl rfl ?_
    refine z_iload_n C dX0_orderFrom_11 rfl 1 rfl ?_
    refine z_ialdK C dX0_orderFrom_12 rfl (by omega) (by decide) ?_
    refine z_iconst (v := 1) C dX0_orderFrom_13 (by decide) ?_
    refine z_isub C dX0_orderFrom_14 ?_
    refine z_goto (tgt := 19) C dX0_orderFrom_15 (by decide) ?_
    exact z_iret C hrt rfl dX0_orderFrom_19 (by decide) (by decide) (⟨by unfold j_of; rw [if_pos (pg_in hP), cl_nI hP], rfl⟩)

set_option maxHeartbeats 4000000 in
set_option maxRecDepth 100000 in
theorem m_X0_useFrom (l : Launch) (G : z_G) (base : Nat) (xs : Nat → va_E) (sc td : Nat → Int32) (q : q_T) (tl : List va_E) (hq : ∀ p, q.1 p ≤ 7) (x : Int32) : z_M l G base yX0_useFrom cX0_useFrom 2 (some .int) 1 0 0 [.ref (base + 3), .int (x)] (hpB G base xs sc td q tl) (fun v hp' => v = some (.int (j_uf q.1 q.2.1 x)) ∧ hp' = hpB G base xs sc td q tl) := by
  refine z_M.of (lv0 := [(0, .ref (base + 3)), (1, .int (x))]) (by decide) (Nat.le_of_ble_eq_true rfl) rfl ?_
  intro p e s m below meth c hmn hrt C
  refine z_iload_n C dX0_useFrom_0 rfl 1 rfl ?_
  refine z_callSN (rest := []) C (m_X4_isPage l G base _ (x)) ml_X0_43 kw_X4_isPage rfl rfl (by simp [Value.category]) dX0_useFrom_1 (by decide) (by decide) (by decide) (by decide) ?_
  rintro _ _ ⟨rfl, rfl⟩
  refine z_st (st' := [.int ((bI (decide (0 ≤ x ∧ x < 256))))]) rfl ?_
  refine z_if_eq (tgt := 25) C dX0_useFrom_4 (by decide) (fun h4 => ?_) (fun h4 => ?_)
  · skip
    refine z_iconst (v := -1) C dX0_useFrom_25 (by decide) ?_
    exact z_iret C hrt rfl dX0_useFrom_26 (by decide) (by decide) (⟨by unfold j_uf; rw [if_neg (by first | exact fun z => bI_eq h4 z.1 | exact fun z => z.2 (by rw [cl_nI hP]; exact (nI_eq (b := 0) (Nat.lt_of_le_of_lt (hq P) (by decide)) (by decide)).mp h13))], rfl⟩)
  · skip
    obtain ⟨P, hP, rfl⟩ := pg_of (bI_ne h4)
    refine z_aload_n C dX0_useFrom_7 rfl 0 rfl ?_
    refine z_get C fl_X0_15 dX0_useFrom_8 rfl rfl ?_
    refine z_iload_n C dX0_useFrom_11 rfl 1 rfl ?_
    refine z_ialdK C dX0_useFrom_12 rfl (by omega) (by decide) ?_
    refine z_if_eq (tgt := 25) C dX0_useFrom_13 (by decide) (fun h13 => ?_) (fun h13 => ?_)
    · skip
      refine z_iconst (v := -1) C dX0_useFrom_25 (by decide) ?_
      exact z_iret C hrt rfl dX0_useFrom_26 (by decide) (by decide) (⟨by unfold j_uf; rw [if_neg (by first | exact fun z => bI_eq h4 z.1 | exact fun z => z.2 (by rw [cl_nI hP]; exact (nI_eq (b := 0) (Nat.lt_of_le_of_lt (hq P) (by decide)) (by decide)).mp h13))], rfl⟩)
    · skip
      refine z_aload_n C dX0_useFrom_16 rfl 0 rfl ?_
      refine z_get C fl_X0_19 dX0_useFrom_17 rfl rfl ?_
      refine z_iload_n C dX0_useFrom_20 rfl 1 rfl ?_
      refine z_ialdK C dX0_useFrom_21 rfl (by omega) (by decide) ?_
      refine z_goto (tgt := 26) C dX0_useFrom_22 (by decide) ?_
      exact z_iret C hrt rfl dX0_useFrom_26 (by decide) (by decide) (⟨by unfold j_uf; rw [if_pos ⟨pg_in hP, fun z => h13 (by rw [cl_nI hP] at z; rw [z]; rfl)⟩, cl_nI hP], rfl⟩)

set_option maxHeartbeats 4000000 in
set_option maxRecDepth 100000 in
theorem m_X0_isFree (l : Launch) (G : z_G) (base : Nat) (xs : Nat → va_E) (sc td : Nat → Int32) (q : q_T) (tl : List va_E) (hq : ∀ p, q.1 p ≤ 7) (hu : ∀ p, q.2.1 p ≤ 13) (P k : Nat) (hP : P < 256) (hk : k < 7) : z_M l G base yX0_isFree cX0_isFree 3 (some .boolean) 0 0 0 [.ref (base + 3), .int (nI P), .int (nI k)] (hpB G base xs sc td q tl) (fun v hp' => v = some (.int (bI (decide (q.1 P = k + 1 ∧ q.2.1 P = 0)))) ∧ hp' = hpB G base xs sc td q tl) := by
  refine z_M.of (lv0 := [(0, .ref (base + 3)), (1, .int (nI P)), (2, .int (nI k))]) (by decide) (Nat.le_of_ble_eq_true rfl) rfl ?_
  intro p e s m below meth c hmn hrt C
  refine z_aload_n C dX0_isFree_0 rfl 0 rfl ?_
  refine z_get C fl_X0_15 dX0_isFree_1 rfl rfl ?_
  refine z_iload_n C dX0_isFree_4 rfl 1 rfl ?_
  refine z_ialdK C dX0_isFree_5 rfl (by omega) (by decide) ?_
  refine z_iload_n C dX0_isFree_6 rfl 2 rfl ?_
  refine z_iconst (v := 1) C dX0_isFree_7 (by decide) ?_
  refine z_iadd C dX0_isFree_8 ?_
  refine z_casti (y := nI (k + 1)) (nI_1 k) ?_
  refine z_icmp_ne (tgt := 25) C dX0_isFree_9 (by decide) (fun h9 => ?_) (fun h9 => ?_)
  · skip
    refine z_iconst (v := 0) C dX0_isFree_25 (by decide) ?_
    exact z_iret C hrt rfl dX0_isFree_26 (by decide) (by decide) (⟨by rw [← bI_f (by first | exact fun z => h9 (by rw [z.1]) | exact fun z => h18 (by rw [z.2]; rfl))], rfl⟩)
  · skip
    refine z_aload_n C dX0_isFree_12 rfl 0 rfl ?_
    refine z_get C fl_X0_19 dX0_isFree_13 rfl rfl ?_
    refine z_iload_n C dX0_isFree_16 rfl 1 rfl ?_
    refine z_ialdK C dX0_isFree_17 rfl (by omega) (by decide) ?_
    refine z_if_ne (tgt := 25) C dX0_isFree_18 (by decide) (fun h18 => ?_) (fun h18 => ?_)
    · skip
      refine z_iconst (v := 0) C dX0_isFree_25 (by decide) ?_
      exact z_iret C hrt rfl dX0_isFree_26 (by decide) (by decide) (⟨by rw [← bI_f (by first | exact fun z => h9 (by rw [z.1]) | exact fun z => h18 (by rw [z.2]; rfl))], rfl⟩)
    · skip
      refine z_iconst (v := 1) C dX0_isFree_21 (by decide) ?_
      refine z_goto (tgt := 26) C dX0_isFree_22 (by decide) ?_
      exact z_iret C hrt rfl dX0_isFree_26 (by decide) (by decide) (⟨by rw [← bI_t ⟨(nI_eq (Nat.lt_of_le_of_lt (hq P) (by decide)) (by omega)).mp h9, (nI_eq (b := 0) (Nat.lt_of_le_of_lt (hu P) (by decide)) (by decide)).mp h18⟩], rfl⟩)

set_option maxHeartbeats 4000000 in
set_option maxRecDepth 100000 in
theorem m_X0_layFree (l : Launch) (G : z_G) (base : Nat) (xs : Nat → va_E) (sc td : Nat → Int32) (q : q_T) (tl : List va_E) (P k : Nat) (hP : P < 256) (hk : k < 7) : z_M l G base yX0_layFree cX0_layFree 3 none 0 0 0 [.ref (base + 3), .int (nI P), .int (nI k)] (hpB G base xs sc td q tl) (fun v hp' => v = none ∧ hp' = hpB G base xs sc td (q_lay q P k) tl) := by
  refine z_M.of (lv0 := [(0, .ref (base + 3)), (1, .int (nI P)), (2, .int (nI k))]) (by decide) (Nat.le_of_ble_eq_true rfl) rfl ?_
  intro p e s m below meth c hmn hrt C
  refine z_aload_n C dX0_layFree_0 rfl 0 rfl ?_
  refine z_get C fl_X0_15 dX0_layFree_1 rfl rfl ?_
  refine z_iload_n C dX0_layFree_4 rfl 1 rfl ?_
  refine z_iload_n C dX0_layFree_5 rfl 2 rfl ?_
  refine z_iconst (v := 1) C dX0_layFree_6 (by decide) ?_
  refine z_iadd C dX0_layFree_7 ?_
  refine z_casti (y := nI (k + 1)) (nI_1 k) ?_
  refine z_iastK C dX0_layFree_8 rfl (by omega) (by decide) ?_
  refine z_aload_n C dX0_layFree_9 rfl 0 rfl ?_
  refine z_get C fl_X0_19 dX0_layFree_10 rfl rfl ?_
  refine z_iload_n C dX0_layFree_13 rfl 1 rfl ?_
  refine z_iconst (v := 0) C dX0_layFree_14 (by decide) ?_
  refine z_casti (y := nI 0) (rfl) ?_
  refine z_iastK C dX0_layFree_15 rfl (by omega) (by decide) ?_
  refine z_aload_n C dX0_layFree_16 rfl 0 rfl ?_
  refine z_get C fl_X0_22 dX0_layFree_17 rfl rfl ?_
  refine z_iload_n C dX0_layFree_20 rfl 2 rfl ?_
  refine z_dup2 C dX0_layFree_21 rfl rfl ?_
  refine z_ialdN C dX0_layFree_22 rfl (by omega) (by decide) ?_
  refine z_iconst (v := 1) C dX0_layFree_23 (by decide) ?_
  refine z_iadd C dX0_layFree_24 ?_
  refine z_iastN C dX0_layFree_25 rfl (by omega) (by decide) ?_
  exact z_vret C hrt dX0_layFree_26 (by decide) (by decide) (⟨rfl, rfl⟩)

set_option maxHeartbeats 4000000 in
set_option maxRecDepth 100000 in
theorem m_X0_buddyOf (l : Launch) (G : z_G) (base : Nat) (hp : List va_E) (f k : Nat) (hk : k < 7) : z_M l G base yX0_buddyOf cX0_buddyOf 2 (some .int) 0 0 0 [.int (nI f), .int (nI k)] hp (fun v hp' => v = some (.int (nI (f ^^^ 2 ^ k))) ∧ hp' = hp) := by
  refine z_M.of (lv0 := [(0, .int (nI f)), (1, .int (nI k))]) (by decide) (Nat.le_of_ble_eq_true rfl) rfl ?_
  intro p e s m below meth c hmn hrt C
  refine z_iload_n C dX0_buddyOf_0 rfl 0 rfl ?_
  refine z_iconst (v := 1) C dX0_buddyOf_1 (by decide) ?_
  refine z_iload_n C dX0_buddyOf_2 rfl 1 rfl ?_
  refine z_ishl C dX0_buddyOf_3 ?_
  refine z_casti (y := nI (2 ^ k)) (nI_1lt k (by omega)) ?_
  refine z_ixor C dX0_buddyOf_4 ?_
  refine z_casti (y := nI (f ^^^ 2 ^ k)) (nI_xor _ _) ?_
  exact z_iret C hrt rfl dX0_buddyOf_5 (by decide) (by decide) (⟨rfl, rfl⟩)

set_option maxHeartbeats 4000000 in
set_option maxRecDepth 100000 in
theorem m_X0_firstOf (l : Launch) (G : z_G) (base : Nat) (xs : Nat → va_E) (sc td : Nat → Int32) (q : q_T) (tl : List va_E) (hq : ∀ p, q.1 p ≤ 7) (x : Int32) : z_M l G base yX0_firstOf cX0_firstOf 4 (some .int) 1 0 0 [.ref (base + 3), .int (x)] (hpB G base xs sc td q tl) (fun v hp' => v = some (.int (oI (j_fo q.1 (x)))) ∧ hp' = hpB G base xs sc td q tl) := by
  refine z_M.of (lv0 := [(0, .ref (base + 3)), (1, .int (x))]) (by decide) (Nat.le_of_ble_eq_true rfl) rfl ?_
  intro p e s m below meth c hmn hrt C
  refine z_iload_n C dX0_firstOf_0 rfl 1 rfl ?_
  refine z_callSN (rest := []) C (m_X4_isPage l G base _ (x)) ml_X0_43 kw_X4_isPage rfl rfl (by simp [Value.category]) dX0_firstOf_1 (by decide) (by decide) (by decide) (by decide) ?_
  rintro _ _ ⟨rfl, rfl⟩
  refine z_st (st' := [.int ((bI (decide (0 ≤ x ∧ x < 256))))]) rfl ?_
  refine z_if_ne (tgt := 9) C dX0_firstOf_4 (by decide) (fun h4 => ?_) (fun h4 => ?_)
  · skip
    obtain ⟨P, hP, rfl⟩ := pg_of (bI_ne h4)
    refine z_iconst (v := 0) C dX0_firstOf_9 (by decide) ?_
    refine z_casti (y := nI 0) (rfl) ?_
    refine z_istore_n (lv' := [(2, .int (nI 0)), (0, .ref (base + 3)), (1, .int (nI P))]) C dX0_firstOf_10 rfl (by decide) rfl ?_
    refine z_lv (lv' := [(2, .int (nI 0)), (0, .ref (base + 3)), (1, .int (nI P))]) [0, 1, 2] rfl ?_
    have loop : ∀ (n : Nat) (k : Nat), (k ≤ 7) → (8 ≤ n + k) → (j_fo q.1 (nI P) = q_fst q.1 P (7 - k) k) → z_R p l e (z_rm 1 0 0) s m ([Value.ref (base + 3), .int (nI P)] : List Value).toArray below meth c (MQ below (z_Qc G base (fun v hp' => v = some (.int (oI (j_fo q.1 (nI P)))) ∧ hp' = hpB G base xs sc td q tl)) ([Value.ref (base + 3), .int (nI P)] : List Value).toArray s 0 0 (fun z => base ≤ z)) G base 4 0 0 11 [(2, .int (nI k)), (0, .ref (base + 3)), (1, .int (nI P))] [] (hpB G base xs sc td q tl) := by
      intro n
      induction n with
      | zero => intro k hk hn0 hv; exact absurd hn0 (by omega)
      | succ n ih =>
        intro k hk hn0 hv
        have hk2 : P / 2 ^ k * 2 ^ k ≤ P := Nat.div_mul_le_self _ _
        refine z_iload_n C dX0_firstOf_11 rfl 0 rfl ?_
        refine z_bipush (v := 6) C dX0_firstOf_12 (by decide) ?_
        refine z_icmp_gt (tgt := 44) C dX0_firstOf_14 (by decide) (fun h14 => ?_) (fun h14 => ?_)
        · skip
          refine z_iconst (v := -1) C dX0_firstOf_44 (by decide) ?_
          exact z_iret C hrt rfl dX0_firstOf_45 (by decide) (by decide) (⟨by rw [hv, show k = 7 by rcases Nat.lt_or_ge k 7 with z | z; exact absurd h14 (nI_nlt (a := 6) (b := k) (by omega) (by decide)); omega]; rfl, rfl⟩)
        · skip
          have hk7 : k < 7 := by
            rcases Nat.lt_or_ge k 7 with z | z
            · exact z
            · exact absurd (nI_lt (a := 6) (b := k) (by omega) (by omega)) h14
          refine z_iload_n C dX0_firstOf_17 rfl 2 rfl ?_
          refine z_iconst (v := 1) C dX0_firstOf_18 (by decide) ?_
          refine z_iload_n C dX0_firstOf_19 rfl 0 rfl ?_
          refine z_ishl C dX0_firstOf_20 ?_
          refine z_ineg C dX0_firstOf_21 ?_
          refine z_iand C dX0_firstOf_22 ?_
          refine z_casti (y := nI (P / 2 ^ k * 2 ^ k)) (nI_mask k (by omega) P hP) ?_
          refine z_istore_n (lv' := [(3, .int (nI (P / 2 ^ k * 2 ^ k))), (2, .int (nI k)), (0, .ref (base + 3)), (1, .int (nI P))]) C dX0_firstOf_23 rfl (by decide) rfl ?_
          refine z_aload_n C dX0_firstOf_24 rfl 2 rfl ?_
          refine z_get C fl_X0_15 dX0_firstOf_25 rfl rfl ?_
          refine z_iload_n C dX0_firstOf_28 rfl 0 rfl ?_
          refine z_ialdK C dX0_firstOf_29 rfl (by omega) (by decide) ?_
          refine z_iload_n C dX0_firstOf_30 rfl 1 rfl ?_
          refine z_iconst (v := 1) C dX0_firstOf_31 (by decide) ?_
          refine z_iadd C dX0_firstOf_32 ?_
          refine z_casti (y := nI (k + 1)) (nI_1 k) ?_
          refine z_icmp_ne (tgt := 38) C dX0_firstOf_33 (by decide) (fun h33 => ?_) (fun h33 => ?_)
          · skip
            refine z_iinc (k := 1) (v := nI (k + 1)) (lv' := [(2, .int (nI (k + 1))), (3, .int (nI (P / 2 ^ k * 2 ^ k))), (0, .ref (base + 3)), (1, .int (nI P))]) C dX0_firstOf_38 rfl (nI_1 k) (by decide) rfl ?_
            refine z_goto (tgt := 11) C dX0_firstOf_41 (by decide) ?_
            refine z_lv (lv' := [(2, .int (nI (k + 1))), (0, .ref (base + 3)), (1, .int (nI P))]) [0, 2, 3] rfl ?_
            exact ih (k + 1) (by omega) (by omega) (by rw [hv]; exact q_fst_miss (by omega) (fun z => h33 (by rw [z])))
          · skip
            refine z_iload_n C dX0_firstOf_36 rfl 0 rfl ?_
            exact z_iret C hrt rfl dX0_firstOf_37 (by decide) (by decide) (⟨by rw [hv, q_fst_hit hk7 ((nI_eq (Nat.lt_of_le_of_lt (hq _) (by decide)) (by omega)).mp h33)]; rfl, rfl⟩)
    exact loop 8 0 (by omega) (by omega) (by unfold j_fo; rw [if_pos (pg_in hP), cl_nI hP])
  · skip
    refine z_iconst (v := -1) C dX0_firstOf_7 (by decide) ?_
    exact z_iret C hrt rfl dX0_firstOf_8 (by decide) (by decide) (⟨by unfold j_fo; rw [if_neg (bI_eq h4)]; rfl, rfl⟩)

set_option maxHeartbeats 4000000 in
set_option maxRecDepth 100000 in
theorem m_X0_leastFree (l : Launch) (G : z_G) (base : Nat) (xs : Nat → va_E) (sc td : Nat → Int32) (q : q_T) (tl : List va_E) (hq : ∀ p, q.1 p ≤ 7) (hu : ∀ p, q.2.1 p ≤ 13) (k : Nat) (hk : k ≤ 6) : z_M l G base yX0_leastFree cX0_leastFree 4 (some .int) 1 0 0 [.ref (base + 3), .int (nI k)] (hpB G base xs sc td q tl) (fun v hp' => v = some (.int (oI (q_lp q.1 q.2.1 (q_lo q.2.2 (6 - k) k) 256 0))) ∧ hp' = hpB G base xs sc td q tl) := by
  refine z_M.of (lv0 := [(0, .ref (base + 3)), (1, .int (nI k))]) (by decide) (Nat.le_of_ble_eq_true rfl) rfl ?_
  intro p e s m below meth c hmn hrt C
  refine z_iload_n C dX0_leastFree_0 rfl 1 rfl ?_
  refine z_istore_n (lv' := [(2, .int (nI k)), (0, .ref (base + 3)), (1, .int (nI k))]) C dX0_leastFree_1 rfl (by decide) rfl ?_
  refine z_lv (lv' := [(2, .int (nI k)), (0, .ref (base + 3)), (1, .int (nI k))]) [0, 1, 2] rfl ?_
  have loop : ∀ (n : Nat) (o : Nat), (o ≤ 6) → (7 ≤ n + o) → (q_lo q.2.2 (6 - o) o = q_lo q.2.2 (6 - k) k) → z_R p l e (z_rm 1 0 0) s m ([Value.ref (base + 3), .int (nI k)] : List Value).toArray below meth c (MQ below (z_Qc G base (fun v hp' => v = some (.int (oI (q_lp q.1 q.2.1 (q_lo q.2.2 (6 - k) k) 256 0))) ∧ hp' = hpB G base xs sc td q tl)) ([Value.ref (base + 3), .int (nI k)] : List Value).toArray s 0 0 (fun z => base ≤ z)) G base 4 0 0 2 [(2, .int (nI o)), (0, .ref (base + 3)), (1, .int (nI k))] [] (hpB G base xs sc td q tl) := by
    intro n
    induction n with
    | zero => intro o ho hn0 hv; exact absurd hn0 (by omega)
    | succ n ih =>
      intro o ho hn0 hv
      refine z_iload_n C dX0_leastFree_2 rfl 0 rfl ?_
      refine z_bipush (v := 6) C dX0_leastFree_3 (by decide) ?_
      refine z_icmp_ge (tgt := 23) C dX0_leastFree_5 (by decide) (fun h5 => ?_) (fun h5 => ?_)
      · skip
        have hoe : q_lo q.2.2 (6 - o) o = o := q_lo_hit ho (by first | exact fun _ => h14 | exact fun z => absurd h5 (nI_ge (by omega) (by decide)))
        refine z_iconst (v := 0) C dX0_leastFree_23 (by decide) ?_
        refine z_casti (y := nI 0) (rfl) ?_
        refine z_istore_n (lv' := [(3, .int (nI 0)), (2, .int (nI o)), (0, .ref (base + 3)), (1, .int (nI k))]) C dX0_leastFree_24 rfl (by decide) rfl ?_
        refine z_lv (lv' := [(3, .int (nI 0)), (0, .ref (base + 3)), (2, .int (nI o))]) [0, 2, 1] rfl ?_
        have loop2 : ∀ (n : Nat) (r : Nat), (r ≤ 256) → (257 ≤ n + r) → (q_lp q.1 q.2.1 o (256 - r) r = q_lp q.1 q.2.1 (q_lo q.2.2 (6 - k) k) 256 0) → z_R p l e (z_rm 1 0 0) s m ([Value.ref (base + 3), .int (nI k)] : List Value).toArray below meth c (MQ below (z_Qc G base (fun v hp' => v = some (.int (oI (q_lp q.1 q.2.1 (q_lo q.2.2 (6 - k) k) 256 0))) ∧ hp' = hpB G base xs sc td q tl)) ([Value.ref (base + 3), .int (nI k)] : List Value).toArray s 0 0 (fun z => base ≤ z)) G base 4 0 0 25 [(3, .int (nI r)), (0, .ref (base + 3)), (2, .int (nI o))] [] (hpB G base xs sc td q tl) := by
          intro n
          induction n with
          | zero => intro r hrl hn0 hr; exact absurd hn0 (by omega)
          | succ n ih =>
            intro r hrl hn0 hr
            have ihp := ih
            refine z_iload_n C dX0_leastFree_25 rfl 0 rfl ?_
            refine z_sipush (v := 256) C dX0_leastFree_26 (by decide) ?_
            refine z_icmp_ge (tgt := 49) C dX0_leastFree_29 (by decide) (fun h29 => ?_) (fun h29 => ?_)
            · skip
              refine z_iconst (v := -1) C dX0_leastFree_49 (by decide) ?_
              exact z_iret C hrt rfl dX0_leastFree_50 (by decide) (by decide) (⟨by rw [← hr, show r = 256 by rcases Nat.lt_or_ge r 256 with z | z; exact absurd h29 (nI_ge z (by decide)); omega]; rfl, rfl⟩)
            · skip
              have hr2 : r < 256 := by
                rcases Nat.lt_or_ge r 256 with z | z
                · exact z
                · exact absurd (nI_le (a := 256) (b := r) z (by omega)) h29
              refine z_aload_n C dX0_leastFree_32 rfl 1 rfl ?_
              refine z_iload_n C dX0_leastFree_33 rfl 0 rfl ?_
              refine z_iload_n C dX0_leastFree_34 rfl 2 rfl ?_
              refine z_callV (rest := []) C (m_X0_isFree l G base xs sc td q tl hq hu r o (by omega) (by omega)) ml_X0_75 kw_X0_isFree rfl rfl rfl rfl (by simp [Value.category]) dX0_leastFree_35 (by decide) (by decide) (by decide) (by decide) ?_
              rintro _ _ ⟨rfl, rfl⟩
              refine z_st (st' := [.int ((bI (decide (q.1 r = o + 1 ∧ q.2.1 r = 0))))]) rfl ?_
              refine z_if_eq (tgt := 43) C dX0_leastFree_38 (by decide) (fun h38 => ?_) (fun h38 => ?_)
              · skip
                refine z_iinc (k := 0) (v := nI (r + 1)) (lv' := [(3, .int (nI (r + 1))), (0, .ref (base + 3)), (2, .int (nI o))]) C dX0_leastFree_43 rfl (nI_1 r) (by decide) rfl ?_
                refine z_goto (tgt := 25) C dX0_leastFree_46 (by decide) ?_
                refine z_lv (lv' := [(3, .int (nI (r + 1))), (0, .ref (base + 3)), (2, .int (nI o))]) [0, 1, 2] rfl ?_
                exact ihp (r + 1) (by omega) (by omega) (by rw [← q_lp_miss (by omega) (bI_eq h38)]; exact hr)
              · skip
                refine z_iload_n C dX0_leastFree_41 rfl 0 rfl ?_
                exact z_iret C hrt rfl dX0_leastFree_42 (by decide) (by decide) (⟨by rw [← hr, q_lp_hit hr2 (bI_ne h38)]; rfl, rfl⟩)
        exact loop2 257 0 (by omega) (by omega) (by rw [← hv, hoe])
      · skip
        have ho6 : o < 6 := by
          rcases Nat.lt_or_ge o 6 with z | z
          · exact z
          · exact absurd (nI_le (a := 6) (b := o) z (by omega)) h5
        refine z_aload_n C dX0_leastFree_8 rfl 1 rfl ?_
        refine z_get C fl_X0_22 dX0_leastFree_9 rfl rfl ?_
        refine z_iload_n C dX0_leastFree_12 rfl 0 rfl ?_
        refine z_ialdN C dX0_leastFree_13 rfl (by omega) (by decide) ?_
        refine z_if_ne (tgt := 23) C dX0_leastFree_14 (by decide) (fun h14 => ?_) (fun h14 => ?_)
        · skip
          have hoe : q_lo q.2.2 (6 - o) o = o := q_lo_hit ho (by first | exact fun _ => h14 | exact fun z => absurd h5 (nI_ge (by omega) (by decide)))
          refine z_iconst (v := 0) C dX0_leastFree_23 (by decide) ?_
          refine z_casti (y := nI 0) (rfl) ?_
          refine z_istore_n (lv' := [(3, .int (nI 0)), (2, .int (nI o)), (0, .ref (base + 3)), (1, .int (nI k))]) C dX0_leastFree_24 rfl (by decide) rfl ?_
          refine z_lv (lv' := [(3, .int (nI 0)), (0, .ref (base + 3)), (2, .int (nI o))]) [0, 2, 1] rfl ?_
          have loop2 : ∀ (n : Nat) (r : Nat), (r ≤ 256) → (257 ≤ n + r) → (q_lp q.1 q.2.1 o (256 - r) r = q_lp q.1 q.2.1 (q_lo q.2.2 (6 - k) k) 256 0) → z_R p l e (z_rm 1 0 0) s m ([Value.ref (base + 3), .int (nI k)] : List Value).toArray below meth c (MQ below (z_Qc G base (fun v hp' => v = some (.int (oI (q_lp q.1 q.2.1 (q_lo q.2.2 (6 - k) k) 256 0))) ∧ hp' = hpB G base xs sc td q tl)) ([Value.ref (base + 3), .int (nI k)] : List Value).toArray s 0 0 (fun z => base ≤ z)) G base 4 0 0 25 [(3, .int (nI r)), (0, .ref (base + 3)), (2, .int (nI o))] [] (hpB G base xs sc td q tl) := by
            intro n
            induction n with
            | zero => intro r hrl hn0 hr; exact absurd hn0 (by omega)
            | succ n ih =>
              intro r hrl hn0 hr
              have ihp := ih
              refine z_iload_n C dX0_leastFree_25 rfl 0 rfl ?_
              refine z_sipush (v := 256) C dX0_leastFree_26 (by decide) ?_
              refine z_icmp_ge (tgt := 49) C dX0_leastFree_29 (by decide) (fun h29 => ?_) (fun h29 => ?_)
              · skip
                refine z_iconst (v := -1) C dX0_leastFree_49 (by decide) ?_
                exact z_iret C hrt rfl dX0_leastFree_50 (by decide) (by decide) (⟨by rw [← hr, show r = 256 by rcases Nat.lt_or_ge r 256 with z | z; exact absurd h29 (nI_ge z (by decide)); omega]; rfl, rfl⟩)
              · skip
                have hr2 : r < 256 := by
                  rcases Nat.lt_or_ge r 256 with z | z
                  · exact z
                  · exact absurd (nI_le (a := 256) (b := r) z (by omega)) h29
                refine z_aload_n C dX0_leastFree_32 rfl 1 rfl ?_
                refine z_iload_n C dX0_leastFree_33 rfl 0 rfl ?_
                refine z_iload_n C dX0_leastFree_34 rfl 2 rfl ?_
                refine z_callV (rest := []) C (m_X0_isFree l G base xs sc td q tl hq hu r o (by omega) (by omega)) ml_X0_75 kw_X0_isFree rfl rfl rfl rfl (by simp [Value.category]) dX0_leastFree_35 (by decide) (by decide) (by decide) (by decide) ?_
                rintro _ _ ⟨rfl, rfl⟩
                refine z_st (st' := [.int ((bI (decide (q.1 r = o + 1 ∧ q.2.1 r = 0))))]) rfl ?_
                refine z_if_eq (tgt := 43) C dX0_leastFree_38 (by decide) (fun h38 => ?_) (fun h38 => ?_)
                · skip
                  refine z_iinc (k := 0) (v := nI (r + 1)) (lv' := [(3, .int (nI (r + 1))), (0, .ref (base + 3)), (2, .int (nI o))]) C dX0_leastFree_43 rfl (nI_1 r) (by decide) rfl ?_
                  refine z_goto (tgt := 25) C dX0_leastFree_46 (by decide) ?_
                  refine z_lv (lv' := [(3, .int (nI (r + 1))), (0, .ref (base + 3)), (2, .int (nI o))]) [0, 1, 2] rfl ?_
                  exact ihp (r + 1) (by omega) (by omega) (by rw [← q_lp_miss (by omega) (bI_eq h38)]; exact hr)
                · skip
                  refine z_iload_n C dX0_leastFree_41 rfl 0 rfl ?_
                  exact z_iret C hrt rfl dX0_leastFree_42 (by decide) (by decide) (⟨by rw [← hr, q_lp_hit hr2 (bI_ne h38)]; rfl, rfl⟩)
          exact loop2 257 0 (by omega) (by omega) (by rw [← hv, hoe])
        · skip
          refine z_iinc (k := 0) (v := nI (o + 1)) (lv' := [(2, .int (nI (o + 1))), (0, .ref (base + 3)), (1, .int (nI k))]) C dX0_leastFree_17 rfl (nI_1 o) (by decide) rfl ?_
          refine z_goto (tgt := 2) C dX0_leastFree_20 (by decide) ?_
          refine z_lv (lv' := [(2, .int (nI (o + 1))), (0, .ref (base + 3)), (1, .int (nI k))]) [0, 1, 2] rfl ?_
          exact ih (o + 1) (by omega) (by omega) (by rw [← q_lo_miss ho6 h14]; exact hv)
  exact loop 7 k (by omega) (by omega) rfl

set_option maxHeartbeats 4000000 in
set_option maxRecDepth 100000 in
theorem m_X0_halve (l : Launch) (G : z_G) (base : Nat) (xs : Nat → va_E) (sc td : Nat → Int32) (q : q_T) (tl : List va_E) (P k : Nat) (hP : P < 256) (hk : k + 1 ≤ q.1 P) (hq7 : q.1 P ≤ 7) (hr : P + 2 ^ (q.1 P - 1) ≤ 256) : z_M l G base yX0_halve cX0_halve 5 none 1 0 0 [.ref (base + 3), .int (nI P), .int (nI k)] (hpB G base xs sc td q tl) (fun v hp' => v = none ∧ hp' = hpB G base xs sc td (q_halve q P k) tl) := by
  refine z_M.of (lv0 := [(0, .ref (base + 3)), (1, .int (nI P)), (2, .int (nI k))]) (by decide) (Nat.le_of_ble_eq_true rfl) rfl ?_
  intro p e s m below meth c hmn hrt C
  refine z_aload_n C dX0_halve_0 rfl 0 rfl ?_
  refine z_get C fl_X0_15 dX0_halve_1 rfl rfl ?_
  refine z_iload_n C dX0_halve_4 rfl 1 rfl ?_
  refine z_ialdK C dX0_halve_5 rfl (by omega) (by decide) ?_
  refine z_iconst (v := 1) C dX0_halve_6 (by decide) ?_
  refine z_isub C dX0_halve_7 ?_
  refine z_casti (y := nI (q.1 P - 1)) (pk_sub (b := 1) (by omega)) ?_
  refine z_istore_n (lv' := [(3, .int (nI (q.1 P - 1))), (0, .ref (base + 3)), (1, .int (nI P)), (2, .int (nI k))]) C dX0_halve_8 rfl (by decide) rfl ?_
  refine z_aload_n C dX0_halve_9 rfl 1 rfl ?_
  refine z_get C fl_X0_22 dX0_halve_10 rfl rfl ?_
  refine z_iload_n C dX0_halve_13 rfl 0 rfl ?_
  refine z_dup2 C dX0_halve_14 rfl rfl ?_
  refine z_ialdN C dX0_halve_15 rfl (by omega) (by decide) ?_
  refine z_iconst (v := 1) C dX0_halve_16 (by decide) ?_
  refine z_isub C dX0_halve_17 ?_
  refine z_iastN C dX0_halve_18 rfl (by omega) (by decide) ?_
  refine z_iload_n C dX0_halve_19 rfl 0 rfl ?_
  refine z_iconst (v := 1) C dX0_halve_20 (by decide) ?_
  refine z_isub C dX0_halve_21 ?_
  refine z_casti (y := (nI (k + (q.1 P - 1 - k)) - 1)) (by rw [show k + (q.1 P - 1 - k) = q.1 P - 1 by omega]) ?_
  refine z_istore (lv' := [(4, .int ((nI (k + (q.1 P - 1 - k)) - 1))), (3, .int (nI (q.1 P - 1))), (0, .ref (base + 3)), (1, .int (nI P)), (2, .int (nI k))]) C dX0_halve_22 (by decide) rfl ?_
  refine z_lv (lv' := [(4, .int ((nI (k + (q.1 P - 1 - k)) - 1))), (0, .ref (base + 3)), (1, .int (nI P)), (2, .int (nI k))]) [0, 2, 3, 4] rfl ?_
  have loop : ∀ (n : Nat) (r : Nat) (q1 : q_T), (k + r ≤ 6) → (r + 1 ≤ n) → (P + 2 ^ (k + r) ≤ 256) → (q_hv P k r q1 = q_hv P k (q.1 P - 1 - k) (q.1, q.2.1, upd q.2.2 (q.1 P - 1) (q.2.2 (q.1 P - 1) - 1))) → z_R p l e (z_rm 1 0 0) s m ([Value.ref (base + 3), .int (nI P), .int (nI k)] : List Value).toArray below meth c (MQ below (z_Qc G base (fun v hp' => v = none ∧ hp' = hpB G base xs sc td (q_halve q P k) tl)) ([Value.ref (base + 3), .int (nI P), .int (nI k)] : List Value).toArray s 0 0 (fun z => base ≤ z)) G base 5 0 0 24 [(4, .int ((nI (k + r) - 1))), (0, .ref (base + 3)), (1, .int (nI P)), (2, .int (nI k))] [] (hpB G base xs sc td q1 tl) := by
    intro n
    induction n with
    | zero => intro r q1 hr7 hn0 hpw hv; exact absurd hn0 (by omega)
    | succ n ih =>
      intro r q1 hr7 hn0 hpw hv
      refine z_iload C dX0_halve_24 0 rfl ?_
      refine z_iload_n C dX0_halve_26 rfl 3 rfl ?_
      refine z_icmp_lt (tgt := 48) C dX0_halve_27 (by decide) (fun h27 => ?_) (fun h27 => ?_)
      · skip
        have hr0 : r = 0 := (hv_cond k (by omega) r (by omega)).mp h27
        subst hr0
        refine z_aload_n C dX0_halve_48 rfl 1 rfl ?_
        refine z_get C fl_X0_15 dX0_halve_49 rfl rfl ?_
        refine z_iload_n C dX0_halve_52 rfl 2 rfl ?_
        refine z_iload_n C dX0_halve_53 rfl 3 rfl ?_
        refine z_iconst (v := 1) C dX0_halve_54 (by decide) ?_
        refine z_iadd C dX0_halve_55 ?_
        refine z_casti (y := nI (k + 1)) (nI_1 k) ?_
        refine z_iastK C dX0_halve_56 rfl (by omega) (by decide) ?_
        exact z_vret C hrt dX0_halve_57 (by decide) (by decide) (⟨rfl, by unfold q_halve; rw [← hv]; rfl⟩)
      · skip
        obtain ⟨r1, rfl⟩ : ∃ r1, r = r1 + 1 := by
          cases r with
          | zero => exact absurd ((hv_cond k (by omega) 0 (by omega)).mpr rfl) h27
          | succ r1 => exact ⟨r1, rfl⟩
        refine z_lvq (lv' := [(4, .int (nI (k + r1))), (0, .ref (base + 3)), (1, .int (nI P)), (2, .int (nI k))]) (by rw [show nI (k + (r1 + 1)) - 1 = nI (k + r1) from nI_pred _]) ?_
        refine z_aload_n C dX0_halve_30 rfl 1 rfl ?_
        refine z_iload_n C dX0_halve_31 rfl 2 rfl ?_
        refine z_iconst (v := 1) C dX0_halve_32 (by decide) ?_
        refine z_iload C dX0_halve_33 0 rfl ?_
        refine z_ishl C dX0_halve_35 ?_
        refine z_casti (y := nI (2 ^ (k + r1))) (nI_1lt _ (by omega)) ?_
        refine z_iadd C dX0_halve_36 ?_
        refine z_casti (y := nI (P + 2 ^ (k + r1))) (nI_add _ _) ?_
        refine z_iload C dX0_halve_37 0 rfl ?_
        refine z_callV (rest := []) C (m_X0_layFree l G base xs sc td q1 tl (P + 2 ^ (k + r1)) (k + r1) (by have := Nat.two_pow_pos (k + r1); rw [show k + (r1 + 1) = (k + r1) + 1 from rfl, Nat.pow_succ] at hpw; omega) (by omega)) ml_X0_79 kw_X0_layFree rfl rfl rfl rfl (by simp [Value.category]) dX0_halve_39 (by decide) (by decide) (by decide) (by decide) ?_
        rintro _ _ ⟨rfl, rfl⟩
        refine z_st (st' := []) rfl ?_
        refine z_iinc (k := 0) (v := (nI (k + r1) - 1)) (lv' := [(4, .int ((nI (k + r1) - 1))), (0, .ref (base + 3)), (1, .int (nI P)), (2, .int (nI k))]) C dX0_halve_42 rfl (add_m1 _) (by decide) rfl ?_
        refine z_goto (tgt := 24) C dX0_halve_45 (by decide) ?_
        refine z_lv (lv' := [(4, .int ((nI (k + r1) - 1))), (0, .ref (base + 3)), (1, .int (nI P)), (2, .int (nI k))]) [0, 1, 2, 3] rfl ?_
        exact ih r1 _ (by omega) (by omega) (by rw [show k + (r1 + 1) = (k + r1) + 1 from rfl, Nat.pow_succ] at hpw; omega) (by rw [← hv]; rfl)
  exact loop (q.1 P - 1 - k + 1) (q.1 P - 1 - k) _ (by omega) (by omega) (by rw [show k + (q.1 P - 1 - k) = q.1 P - 1 by omega]; exact hr) rfl

set_option maxHeartbeats 4000000 in
set_option maxRecDepth 100000 in
theorem m_X0_join (l : Launch) (G : z_G) (base : Nat) (xs : Nat → va_E) (sc td : Nat → Int32) (q : q_T) (tl : List va_E) (hq : ∀ p, q.1 p ≤ 7) (hu : ∀ p, q.2.1 p ≤ 13) (f k : Nat) (hf : f < 256) (hk : k ≤ 6) : z_M l G base yX0_join cX0_join 6 none 1 0 0 [.ref (base + 3), .int (nI f), .int (nI k)] (hpB G base xs sc td q tl) (fun v hp' => v = none ∧ hp' = hpB G base xs sc td (q_join (6 - k) q f k) tl) := by
  refine z_M.of (lv0 := [(0, .ref (base + 3)), (1, .int (nI f)), (2, .int (nI k))]) (by decide) (Nat.le_of_ble_eq_true rfl) rfl ?_
  intro p e s m below meth c hmn hrt C
  refine z_iload_n C dX0_join_0 rfl 1 rfl ?_
  refine z_istore_n (lv' := [(3, .int (nI f)), (0, .ref (base + 3)), (1, .int (nI f)), (2, .int (nI k))]) C dX0_join_1 rfl (by decide) rfl ?_
  refine z_iload_n C dX0_join_2 rfl 3 rfl ?_
  refine z_istore (lv' := [(4, .int (nI k)), (3, .int (nI f)), (0, .ref (base + 3)), (1, .int (nI f)), (2, .int (nI k))]) C dX0_join_3 (by decide) rfl ?_
  refine z_lv (lv' := [(4, .int (nI k)), (3, .int (nI f)), (0, .ref (base + 3))]) [0, 1, 2] rfl ?_
  have loop : ∀ (n : Nat) (j : Nat) (g : Nat) (q1 : q_T), (j ≤ 6) → (7 ≤ n + j) → (g < 256) → (∀ z, q1.1 z ≤ 7) → (∀ z, q1.2.1 z ≤ 13) → (q_join (6 - j) q1 g j = q_join (6 - k) q f k) → z_R p l e (z_rm 1 0 0) s m ([Value.ref (base + 3), .int (nI f), .int (nI k)] : List Value).toArray below meth c (MQ below (z_Qc G base (fun v hp' => v = none ∧ hp' = hpB G base xs sc td (q_join (6 - k) q f k) tl)) ([Value.ref (base + 3), .int (nI f), .int (nI k)] : List Value).toArray s 0 0 (fun z => base ≤ z)) G base 6 0 0 5 [(4, .int (nI j)), (3, .int (nI g)), (0, .ref (base + 3))] [] (hpB G base xs sc td q1 tl) := by
    intro n
    induction n with
    | zero => intro j g q1 hj hn0 hg hq1 hu1 hv; exact absurd hn0 (by omega)
    | succ n ih =>
      intro j g q1 hj hn0 hg hq1 hu1 hv
      refine z_iload C dX0_join_5 0 rfl ?_
      refine z_bipush (v := 6) C dX0_join_7 (by decide) ?_
      refine z_icmp_ge (tgt := 74) C dX0_join_9 (by decide) (fun h9 => ?_) (fun h9 => ?_)
      · skip
        refine z_aload_n C dX0_join_74 rfl 2 rfl ?_
        refine z_iload_n C dX0_join_75 rfl 1 rfl ?_
        refine z_iload C dX0_join_76 0 rfl ?_
        refine z_callV (rest := []) C (m_X0_layFree l G base xs sc td q1 tl g j hg (by omega)) ml_X0_79 kw_X0_layFree rfl rfl rfl rfl (by simp [Value.category]) dX0_join_78 (by decide) (by decide) (by decide) (by decide) ?_
        rintro _ _ ⟨rfl, rfl⟩
        refine z_st (st' := []) rfl ?_
        exact z_vret C hrt dX0_join_81 (by decide) (by decide) (⟨rfl, by rw [← hv, q_join_end (by first | exact fun z => bI_eq h24 z.2 | exact fun z => absurd h9 (nI_ge z.1 (by decide)))]⟩)
      · skip
        have hj6 : j < 6 := by
          rcases Nat.lt_or_ge j 6 with z | z
          · exact z
          · exact absurd (nI_le (a := 6) (b := j) z (by omega)) h9
        refine z_aload_n C dX0_join_12 rfl 2 rfl ?_
        refine z_iload_n C dX0_join_13 rfl 1 rfl ?_
        refine z_iload C dX0_join_14 0 rfl ?_
        refine z_callS (rest := [.ref (base + 3)]) C (m_X0_buddyOf l G base _ g j (by omega)) ml_X0_82 kw_X0_buddyOf rfl rfl (by simp [Value.category]) dX0_join_16 (by decide) (by decide) (by decide) (by decide) ?_
        rintro _ _ ⟨rfl, rfl⟩
        refine z_st (st' := [.int (nI (g ^^^ 2 ^ j)), .ref (base + 3)]) rfl ?_
        refine z_iload C dX0_join_19 0 rfl ?_
        refine z_callV (rest := []) C (m_X0_isFree l G base xs sc td q1 tl hq1 hu1 (g ^^^ 2 ^ j) j (xor_lt j (by omega) g hg).1 (by omega)) ml_X0_75 kw_X0_isFree rfl rfl rfl rfl (by simp [Value.category]) dX0_join_21 (by decide) (by decide) (by decide) (by decide) ?_
        rintro _ _ ⟨rfl, rfl⟩
        refine z_st (st' := [.int ((bI (decide (q1.1 (g ^^^ 2 ^ j) = j + 1 ∧ q1.2.1 (g ^^^ 2 ^ j) = 0))))]) rfl ?_
        refine z_if_eq (tgt := 74) C dX0_join_24 (by decide) (fun h24 => ?_) (fun h24 => ?_)
        · skip
          refine z_aload_n C dX0_join_74 rfl 2 rfl ?_
          refine z_iload_n C dX0_join_75 rfl 1 rfl ?_
          refine z_iload C dX0_join_76 0 rfl ?_
          refine z_callV (rest := []) C (m_X0_layFree l G base xs sc td q1 tl g j hg (by omega)) ml_X0_79 kw_X0_layFree rfl rfl rfl rfl (by simp [Value.category]) dX0_join_78 (by decide) (by decide) (by decide) (by decide) ?_
          rintro _ _ ⟨rfl, rfl⟩
          refine z_st (st' := []) rfl ?_
          exact z_vret C hrt dX0_join_81 (by decide) (by decide) (⟨rfl, by rw [← hv, q_join_end (by first | exact fun z => bI_eq h24 z.2 | exact fun z => absurd h9 (nI_ge z.1 (by decide)))]⟩)
        · skip
          refine z_iload_n C dX0_join_27 rfl 1 rfl ?_
          refine z_iload C dX0_join_28 0 rfl ?_
          refine z_callS (rest := []) C (m_X0_buddyOf l G base _ g j (by omega)) ml_X0_82 kw_X0_buddyOf rfl rfl (by simp [Value.category]) dX0_join_30 (by decide) (by decide) (by decide) (by decide) ?_
          rintro _ _ ⟨rfl, rfl⟩
          refine z_st (st' := [.int (nI (g ^^^ 2 ^ j))]) rfl ?_
          have hxl := (xor_lt j (by omega) g hg).1
          refine z_istore (lv' := [(5, .int (nI (g ^^^ 2 ^ j))), (4, .int (nI j)), (3, .int (nI g)), (0, .ref (base + 3))]) C dX0_join_33 (by decide) rfl ?_
          refine z_aload_n C dX0_join_35 rfl 3 rfl ?_
          refine z_get C fl_X0_22 dX0_join_36 rfl rfl ?_
          refine z_iload C dX0_join_39 1 rfl ?_
          refine z_dup2 C dX0_join_41 rfl rfl ?_
          refine z_ialdN C dX0_join_42 rfl (by omega) (by decide) ?_
          refine z_iconst (v := 1) C dX0_join_43 (by decide) ?_
          refine z_isub C dX0_join_44 ?_
          refine z_iastN C dX0_join_45 rfl (by omega) (by decide) ?_
          refine z_aload_n C dX0_join_46 rfl 3 rfl ?_
          refine z_get C fl_X0_15 dX0_join_47 rfl rfl ?_
          refine z_iload_n C dX0_join_50 rfl 2 rfl ?_
          refine z_iconst (v := 0) C dX0_join_51 (by decide) ?_
          refine z_casti (y := nI 0) (rfl) ?_
          refine z_iastK C dX0_join_52 rfl (by omega) (by decide) ?_
          refine z_aload_n C dX0_join_53 rfl 3 rfl ?_
          refine z_get C fl_X0_15 dX0_join_54 rfl rfl ?_
          refine z_iload C dX0_join_57 0 rfl ?_
          refine z_iconst (v := 0) C dX0_join_59 (by decide) ?_
          refine z_casti (y := nI 0) (rfl) ?_
          refine z_iastK C dX0_join_60 rfl (by omega) (by decide) ?_
          refine z_iload_n C dX0_join_61 rfl 2 rfl ?_
          refine z_iload C dX0_join_62 0 rfl ?_
          refine z_mmin C ml_X0_85 st_min in_J9 kc_min dX0_join_64 (by decide) (Nat.le_of_ble_eq_true rfl) (by decide) (by decide) ?_
          refine z_casti (y := nI (min g (g ^^^ 2 ^ j))) (min_nI (by omega) (by omega)) ?_
          refine z_istore_n (lv' := [(3, .int (nI (min g (g ^^^ 2 ^ j)))), (5, .int (nI (g ^^^ 2 ^ j))), (4, .int (nI j)), (0, .ref (base + 3))]) C dX0_join_67 rfl (by decide) rfl ?_
          refine z_iinc (k := 2) (v := nI (j + 1)) (lv' := [(4, .int (nI (j + 1))), (3, .int (nI (min g (g ^^^ 2 ^ j)))), (5, .int (nI (g ^^^ 2 ^ j))), (0, .ref (base + 3))]) C dX0_join_68 rfl (nI_1 j) (by decide) rfl ?_
          refine z_goto (tgt := 5) C dX0_join_71 (by decide) ?_
          refine z_lv (lv' := [(4, .int (nI (j + 1))), (3, .int (nI (min g (g ^^^ 2 ^ j)))), (0, .ref (base + 3))]) [0, 1, 3] rfl ?_
          refine z_hp (hp' := hpB G base xs sc td (va_up (va_up q1.1 g 0) (g ^^^ 2 ^ j) 0, q1.2.1, upd q1.2.2 j (q1.2.2 j - 1)) tl) rfl ?_
          exact ih (j + 1) (min g (g ^^^ 2 ^ j)) _ (by omega) (by omega) (by omega) (fun z => by show va_up (va_up q1.1 g 0) (g ^^^ 2 ^ j) 0 z ≤ 7; unfold va_up; split; omega; split; omega; exact hq1 z) hu1 (by rw [← hv]; exact (q_join_go hj6 (bI_ne h24)).symm)
  exact loop 7 k f q (by omega) (by omega) (by omega) hq hu rfl

set_option maxHeartbeats 4000000 in
set_option maxRecDepth 100000 in
theorem m_X0_claim (l : Launch) (G : z_G) (base : Nat) (xs : Nat → va_E) (sc td : Nat → Int32) (q : q_T) (tl : List va_E) (hq : ∀ p, q.1 p ≤ 7) (hu : ∀ p, q.2.1 p ≤ 13) (hal : ∀ p, p < 256 → q.1 p ≠ 0 → p + 2 ^ (q.1 p - 1) ≤ 256) (k u : Nat) (hk : k ≤ 6) : z_M l G base yX0_claim cX0_claim 5 (some .int) 2 0 0 [.ref (base + 3), .int (nI k), .int (nI u)] (hpB G base xs sc td q tl) (fun v hp' => v = some (.int (oI (j_take sc q k))) ∧ hp' = hpB G base xs (j_scl sc q k) td (j_qcl sc q k u) tl) := by
  refine z_M.of (lv0 := [(0, .ref (base + 3)), (1, .int (nI k)), (2, .int (nI u))]) (by decide) (Nat.le_of_ble_eq_true rfl) rfl ?_
  intro p e s m below meth c hmn hrt C
  refine z_aload_n C dX0_claim_0 rfl 0 rfl ?_
  refine z_get C fl_X0_25 dX0_claim_1 rfl rfl ?_
  refine z_if_ne (tgt := 11) C dX0_claim_4 (by decide) (fun h4 => ?_) (fun h4 => ?_)
  · skip
    refine z_iconst (v := 0) C dX0_claim_11 (by decide) ?_
    refine z_istore_n (lv' := [(3, .int ((0 : Int32))), (0, .ref (base + 3)), (1, .int (nI k)), (2, .int (nI u))]) C dX0_claim_12 rfl (by decide) rfl ?_
    refine z_aload_n C dX0_claim_13 rfl 1 rfl ?_
    refine z_get C fl_X0_25 dX0_claim_14 rfl rfl ?_
    refine z_iconst (v := -1) C dX0_claim_17 (by decide) ?_
    refine z_icmp_eq (tgt := 31) C dX0_claim_18 (by decide) (fun h18 => ?_) (fun h18 => ?_)
    · skip
      try (refine z_hp (hp' := hpB G base xs (upd sc 7 (sc 7 - 1)) td q tl) rfl ?_)
      refine z_iload_n C dX0_claim_31 rfl 0 rfl ?_
      refine z_if_eq (tgt := 39) C dX0_claim_32 (by decide) (fun h32 => ?_) (fun h32 => absurd h32 (by decide))
      refine z_aload_n C dX0_claim_39 rfl 1 rfl ?_
      refine z_iload_n C dX0_claim_40 rfl 2 rfl ?_
      refine z_callV (rest := []) C (m_X0_leastFree l G base xs sc td q tl hq hu k hk) ml_X0_47 kw_X0_leastFree rfl rfl rfl rfl (by simp [Value.category]) dX0_claim_41 (by decide) (by decide) (by decide) (by decide) ?_
      rintro _ _ ⟨rfl, rfl⟩
      refine z_st (st' := [.int (oI (q_lp q.1 q.2.1 (q_lo q.2.2 (6 - k) k) 256 0))]) rfl ?_
      rcases hlp : q_lp q.1 q.2.1 (q_lo q.2.2 (6 - k) k) 256 0 with _ | P
      · skip
        refine z_istore (lv' := [(4, .int ((-1 : Int32))), (3, .int ((0 : Int32))), (0, .ref (base + 3)), (1, .int (nI k)), (2, .int (nI u))]) C dX0_claim_44 (by decide) rfl ?_
        refine z_iload C dX0_claim_46 0 rfl ?_
        refine z_iconst (v := -1) C dX0_claim_48 (by decide) ?_
        refine z_icmp_ne (tgt := 64) C dX0_claim_49 (by decide) (fun h49 => absurd h49 (by decide)) (fun h49 => ?_)
        refine z_aload_n C dX0_claim_52 rfl 2 rfl ?_
        refine z_dup C dX0_claim_53 rfl ?_
        refine z_get C fl_X0_51 dX0_claim_54 rfl rfl ?_
        refine z_iconst (v := 1) C dX0_claim_57 (by decide) ?_
        refine z_iadd C dX0_claim_58 ?_
        refine z_put C fl_X0_51 fp_X0 rfl dX0_claim_59 rfl (by simp) rfl rfl ?_
        refine z_iconst (v := -1) C dX0_claim_62 (by decide) ?_
        exact z_iret C hrt rfl dX0_claim_63 (by decide) (by decide) (⟨by rw [show j_take sc q k = none by unfold j_take q_take; first | rw [if_pos h4] | (rw [if_neg h4]; exact hlp)]; rfl, by unfold j_scl j_qcl; rw [show j_take sc q k = none by unfold j_take q_take; first | rw [if_pos h4] | (rw [if_neg h4]; exact hlp)]; unfold s_arm; first | rw [if_pos h18]; rfl | rw [if_neg h18]; rfl⟩)
      · skip
        have hPl := q_lp_lt 256 0 P hlp
        have hge := q_lo_ge (fc := q.2.2) (6 - k) k
        have hle := q_lo_le (fc := q.2.2) (6 - k) k
        have hP : P < 256 := by omega
        refine z_istore (lv' := [(4, .int (nI P)), (3, .int ((0 : Int32))), (0, .ref (base + 3)), (1, .int (nI k)), (2, .int (nI u))]) C dX0_claim_44 (by decide) rfl ?_
        refine z_iload C dX0_claim_46 0 rfl ?_
        refine z_iconst (v := -1) C dX0_claim_48 (by decide) ?_
        refine z_icmp_ne (tgt := 64) C dX0_claim_49 (by decide) (fun h49 => ?_) (fun h49 => absurd h49 (nI_m1 (by omega)))
        refine z_aload_n C dX0_claim_64 rfl 2 rfl ?_
        refine z_iload C dX0_claim_65 0 rfl ?_
        refine z_iload_n C dX0_claim_67 rfl 3 rfl ?_
        refine z_callV (rest := []) C (m_X0_halve l G base xs sc td q tl P k hP (by omega) (hq P) (hal P hP (by omega))) ml_X0_54 kw_X0_halve rfl rfl rfl rfl (by simp [Value.category]) dX0_claim_68 (by decide) (by decide) (by decide) (by decide) ?_
        rintro _ _ ⟨rfl, rfl⟩
        refine z_st (st' := []) rfl ?_
        refine z_aload_n C dX0_claim_71 rfl 2 rfl ?_
        refine z_get C fl_X0_19 dX0_claim_72 rfl rfl ?_
        refine z_iload C dX0_claim_75 0 rfl ?_
        refine z_iload_n C dX0_claim_77 rfl 4 rfl ?_
        refine z_iastK C dX0_claim_78 rfl (by omega) (by decide) ?_
        refine z_aload_n C dX0_claim_79 rfl 2 rfl ?_
        refine z_dup C dX0_claim_80 rfl ?_
        refine z_get C fl_X0_57 dX0_claim_81 rfl rfl ?_
        refine z_iconst (v := 1) C dX0_claim_84 (by decide) ?_
        refine z_iadd C dX0_claim_85 ?_
        refine z_put C fl_X0_57 fp_X0 rfl dX0_claim_86 rfl (by simp) rfl rfl ?_
        refine z_aload_n C dX0_claim_89 rfl 2 rfl ?_
        refine z_dup C dX0_claim_90 rfl ?_
        refine z_get C fl_X0_40 dX0_claim_91 rfl rfl ?_
        refine z_iconst (v := 1) C dX0_claim_94 (by decide) ?_
        refine z_iload_n C dX0_claim_95 rfl 3 rfl ?_
        refine z_ishl C dX0_claim_96 ?_
        refine z_casti (y := nI (2 ^ k)) (nI_1lt k (by omega)) ?_
        refine z_isub C dX0_claim_97 ?_
        refine z_put C fl_X0_40 fp_X0 rfl dX0_claim_98 rfl (by simp) rfl rfl ?_
        refine z_aload_n C dX0_claim_101 rfl 2 rfl ?_
        refine z_aload_n C dX0_claim_102 rfl 2 rfl ?_
        refine z_get C fl_X0_60 dX0_claim_103 rfl rfl ?_
        refine z_aload_n C dX0_claim_106 rfl 2 rfl ?_
        refine z_get C fl_X0_29 dX0_claim_107 rfl rfl ?_
        refine z_aload_n C dX0_claim_110 rfl 2 rfl ?_
        refine z_get C fl_X0_40 dX0_claim_111 rfl rfl ?_
        refine z_isub C dX0_claim_114 ?_
        refine z_mmax C ml_X0_63 st_max in_J9 kc_max dX0_claim_115 (by decide) (Nat.le_of_ble_eq_true rfl) (by decide) (by decide) ?_
        refine z_put C fl_X0_60 fp_X0 rfl dX0_claim_118 rfl (by simp) rfl rfl ?_
        refine z_iload C dX0_claim_121 0 rfl ?_
        exact z_iret C hrt rfl dX0_claim_123 (by decide) (by decide) (⟨by rw [show j_take sc q k = some P by unfold j_take q_take; rw [if_neg h4]; exact hlp]; rfl, by unfold j_scl j_qcl; rw [show j_take sc q k = some P by unfold j_take q_take; rw [if_neg h4]; exact hlp]; unfold s_arm; first | rw [if_pos h18]; rfl | rw [if_neg h18]; rfl⟩)
    · skip
      refine z_aload_n C dX0_claim_21 rfl 1 rfl ?_
      refine z_dup C dX0_claim_22 rfl ?_
      refine z_get C fl_X0_25 dX0_claim_23 rfl rfl ?_
      refine z_iconst (v := 1) C dX0_claim_26 (by decide) ?_
      refine z_isub C dX0_claim_27 ?_
      refine z_put C fl_X0_25 fp_X0 rfl dX0_claim_28 rfl (by simp) rfl rfl ?_
      try (refine z_hp (hp' := hpB G base xs (upd sc 7 (sc 7 - 1)) td q tl) rfl ?_)
      refine z_iload_n C dX0_claim_31 rfl 0 rfl ?_
      refine z_if_eq (tgt := 39) C dX0_claim_32 (by decide) (fun h32 => ?_) (fun h32 => absurd h32 (by decide))
      refine z_aload_n C dX0_claim_39 rfl 1 rfl ?_
      refine z_iload_n C dX0_claim_40 rfl 2 rfl ?_
      refine z_callV (rest := []) C (m_X0_leastFree l G base xs (upd sc 7 (sc 7 - 1)) td q tl hq hu k hk) ml_X0_47 kw_X0_leastFree rfl rfl rfl rfl (by simp [Value.category]) dX0_claim_41 (by decide) (by decide) (by decide) (by decide) ?_
      rintro _ _ ⟨rfl, rfl⟩
      refine z_st (st' := [.int (oI (q_lp q.1 q.2.1 (q_lo q.2.2 (6 - k) k) 256 0))]) rfl ?_
      rcases hlp : q_lp q.1 q.2.1 (q_lo q.2.2 (6 - k) k) 256 0 with _ | P
      · skip
        refine z_istore (lv' := [(4, .int ((-1 : Int32))), (3, .int ((0 : Int32))), (0, .ref (base + 3)), (1, .int (nI k)), (2, .int (nI u))]) C dX0_claim_44 (by decide) rfl ?_
        refine z_iload C dX0_claim_46 0 rfl ?_
        refine z_iconst (v := -1) C dX0_claim_48 (by decide) ?_
        refine z_icmp_ne (tgt := 64) C dX0_claim_49 (by decide) (fun h49 => absurd h49 (by decide)) (fun h49 => ?_)
        refine z_aload_n C dX0_claim_52 rfl 2 rfl ?_
        refine z_dup C dX0_claim_53 rfl ?_
        refine z_get C fl_X0_51 dX0_claim_54 rfl rfl ?_
        refine z_iconst (v := 1) C dX0_claim_57 (by decide) ?_
        refine z_iadd C dX0_claim_58 ?_
        refine z_put C fl_X0_51 fp_X0 rfl dX0_claim_59 rfl (by simp) rfl rfl ?_
        refine z_iconst (v := -1) C dX0_claim_62 (by decide) ?_
        exact z_iret C hrt rfl dX0_claim_63 (by decide) (by decide) (⟨by rw [show j_take sc q k = none by unfold j_take q_take; first | rw [if_pos h4] | (rw [if_neg h4]; exact hlp)]; rfl, by unfold j_scl j_qcl; rw [show j_take sc q k = none by unfold j_take q_take; first | rw [if_pos h4] | (rw [if_neg h4]; exact hlp)]; unfold s_arm; first | rw [if_pos h18]; rfl | rw [if_neg h18]; rfl⟩)
      · skip
        have hPl := q_lp_lt 256 0 P hlp
        have hge := q_lo_ge (fc := q.2.2) (6 - k) k
        have hle := q_lo_le (fc := q.2.2) (6 - k) k
        have hP : P < 256 := by omega
        refine z_istore (lv' := [(4, .int (nI P)), (3, .int ((0 : Int32))), (0, .ref (base + 3)), (1, .int (nI k)), (2, .int (nI u))]) C dX0_claim_44 (by decide) rfl ?_
        refine z_iload C dX0_claim_46 0 rfl ?_
        refine z_iconst (v := -1) C dX0_claim_48 (by decide) ?_
        refine z_icmp_ne (tgt := 64) C dX0_claim_49 (by decide) (fun h49 => ?_) (fun h49 => absurd h49 (nI_m1 (by omega)))
        refine z_aload_n C dX0_claim_64 rfl 2 rfl ?_
        refine z_iload C dX0_claim_65 0 rfl ?_
        refine z_iload_n C dX0_claim_67 rfl 3 rfl ?_
        refine z_callV (rest := []) C (m_X0_halve l G base xs (upd sc 7 (sc 7 - 1)) td q tl P k hP (by omega) (hq P) (hal P hP (by omega))) ml_X0_54 kw_X0_halve rfl rfl rfl rfl (by simp [Value.category]) dX0_claim_68 (by decide) (by decide) (by decide) (by decide) ?_
        rintro _ _ ⟨rfl, rfl⟩
        refine z_st (st' := []) rfl ?_
        refine z_aload_n C dX0_claim_71 rfl 2 rfl ?_
        refine z_get C fl_X0_19 dX0_claim_72 rfl rfl ?_
        refine z_iload C dX0_claim_75 0 rfl ?_
        refine z_iload_n C dX0_claim_77 rfl 4 rfl ?_
        refine z_iastK C dX0_claim_78 rfl (by omega) (by decide) ?_
        refine z_aload_n C dX0_claim_79 rfl 2 rfl ?_
        refine z_dup C dX0_claim_80 rfl ?_
        refine z_get C fl_X0_57 dX0_claim_81 rfl rfl ?_
        refine z_iconst (v := 1) C dX0_claim_84 (by decide) ?_
        refine z_iadd C dX0_claim_85 ?_
        refine z_put C fl_X0_57 fp_X0 rfl dX0_claim_86 rfl (by simp) rfl rfl ?_
        refine z_aload_n C dX0_claim_89 rfl 2 rfl ?_
        refine z_dup C dX0_claim_90 rfl ?_
        refine z_get C fl_X0_40 dX0_claim_91 rfl rfl ?_
        refine z_iconst (v := 1) C dX0_claim_94 (by decide) ?_
        refine z_iload_n C dX0_claim_95 rfl 3 rfl ?_
        refine z_ishl C dX0_claim_96 ?_
        refine z_casti (y := nI (2 ^ k)) (nI_1lt k (by omega)) ?_
        refine z_isub C dX0_claim_97 ?_
        refine z_put C fl_X0_40 fp_X0 rfl dX0_claim_98 rfl (by simp) rfl rfl ?_
        refine z_aload_n C dX0_claim_101 rfl 2 rfl ?_
        refine z_aload_n C dX0_claim_102 rfl 2 rfl ?_
        refine z_get C fl_X0_60 dX0_claim_103 rfl rfl ?_
        refine z_aload_n C dX0_claim_106 rfl 2 rfl ?_
        refine z_get C fl_X0_29 dX0_claim_107 rfl rfl ?_
        refine z_aload_n C dX0_claim_110 rfl 2 rfl ?_
        refine z_get C fl_X0_40 dX0_claim_111 rfl rfl ?_
        refine z_isub C dX0_claim_114 ?_
        refine z_mmax C ml_X0_63 st_max in_J9 kc_max dX0_claim_115 (by decide) (Nat.le_of_ble_eq_true rfl) (by decide) (by decide) ?_
        refine z_put C fl_X0_60 fp_X0 rfl dX0_claim_118 rfl (by simp) rfl rfl ?_
        refine z_iload C dX0_claim_121 0 rfl ?_
        exact z_iret C hrt rfl dX0_claim_123 (by decide) (by decide) (⟨by rw [show j_take sc q k = some P by unfold j_take q_take; rw [if_neg h4]; exact hlp]; rfl, by unfold j_scl j_qcl; rw [show j_take sc q k = some P by unfold j_take q_take; rw [if_neg h4]; exact hlp]; unfold s_arm; first | rw [if_pos h18]; rfl | rw [if_neg h18]; rfl⟩)
  · skip
    refine z_iconst (v := 1) C dX0_claim_7 (by decide) ?_
    refine z_goto (tgt := 12) C dX0_claim_8 (by decide) ?_
    refine z_istore_n (lv' := [(3, .int ((1 : Int32))), (0, .ref (base + 3)), (1, .int (nI k)), (2, .int (nI u))]) C dX0_claim_12 rfl (by decide) rfl ?_
    refine z_aload_n C dX0_claim_13 rfl 1 rfl ?_
    refine z_get C fl_X0_25 dX0_claim_14 rfl rfl ?_
    refine z_iconst (v := -1) C dX0_claim_17 (by decide) ?_
    refine z_icmp_eq (tgt := 31) C dX0_claim_18 (by decide) (fun h18 => absurd h18 (by rw [h4]; decide)) (fun h18 => ?_)
    refine z_aload_n C dX0_claim_21 rfl 1 rfl ?_
    refine z_dup C dX0_claim_22 rfl ?_
    refine z_get C fl_X0_25 dX0_claim_23 rfl rfl ?_
    refine z_iconst (v := 1) C dX0_claim_26 (by decide) ?_
    refine z_isub C dX0_claim_27 ?_
    refine z_put C fl_X0_25 fp_X0 rfl dX0_claim_28 rfl (by simp) rfl rfl ?_
    try (refine z_hp (hp' := hpB G base xs (upd sc 7 (sc 7 - 1)) td q tl) rfl ?_)
    refine z_iload_n C dX0_claim_31 rfl 0 rfl ?_
    refine z_if_eq (tgt := 39) C dX0_claim_32 (by decide) (fun h32 => absurd h32 (by decide)) (fun h32 => ?_)
    refine z_iconst (v := -1) C dX0_claim_35 (by decide) ?_
    refine z_goto (tgt := 44) C dX0_claim_36 (by decide) ?_
    refine z_istore (lv' := [(4, .int ((-1 : Int32))), (3, .int ((1 : Int32))), (0, .ref (base + 3)), (1, .int (nI k)), (2, .int (nI u))]) C dX0_claim_44 (by decide) rfl ?_
    refine z_iload C dX0_claim_46 0 rfl ?_
    refine z_iconst (v := -1) C dX0_claim_48 (by decide) ?_
    refine z_icmp_ne (tgt := 64) C dX0_claim_49 (by decide) (fun h49 => absurd h49 (by decide)) (fun h49 => ?_)
    refine z_aload_n C dX0_claim_52 rfl 2 rfl ?_
    refine z_dup C dX0_claim_53 rfl ?_
    refine z_get C fl_X0_51 dX0_claim_54 rfl rfl ?_
    refine z_iconst (v := 1) C dX0_claim_57 (by decide) ?_
    refine z_iadd C dX0_claim_58 ?_
    refine z_put C fl_X0_51 fp_X0 rfl dX0_claim_59 rfl (by simp) rfl rfl ?_
    refine z_iconst (v := -1) C dX0_claim_62 (by decide) ?_
    exact z_iret C hrt rfl dX0_claim_63 (by decide) (by decide) (⟨by rw [show j_take sc q k = none by unfold j_take q_take; first | rw [if_pos h4] | (rw [if_neg h4]; exact hlp)]; rfl, by unfold j_scl j_qcl; rw [show j_take sc q k = none by unfold j_take q_take; first | rw [if_pos h4] | (rw [if_neg h4]; exact hlp)]; unfold s_arm; first | rw [if_pos h18]; rfl | rw [if_neg h18]; rfl⟩)

set_option maxHeartbeats 4000000 in
set_option maxRecDepth 100000 in
theorem m_X0_release (l : Launch) (G : z_G) (base : Nat) (xs : Nat → va_E) (sc td : Nat → Int32) (q : q_T) (tl : List va_E) (hq : ∀ p, q.1 p ≤ 7) (hu : ∀ p, q.2.1 p ≤ 13) (P : Nat) (hP : P < 256) (h1 : 1 ≤ q.1 P) : z_M l G base yX0_release cX0_release 3 none 2 0 0 [.ref (base + 3), .int (nI P)] (hpB G base xs sc td q tl) (fun v hp' => v = none ∧ hp' = hpB G base xs (upd (upd sc 6 (sc 6 + 1)) 2 (sc 2 + nI (2 ^ (q.1 P - 1)))) td (q_join (6 - (q.1 P - 1)) q P (q.1 P - 1)) tl) := by
  refine z_M.of (lv0 := [(0, .ref (base + 3)), (1, .int (nI P))]) (by decide) (Nat.le_of_ble_eq_true rfl) rfl ?_
  intro p e s m below meth c hmn hrt C
  have hq7 := hq P
  refine z_aload_n C dX0_release_0 rfl 0 rfl ?_
  refine z_iload_n C dX0_release_1 rfl 1 rfl ?_
  refine z_callV (rest := []) C (m_X0_orderFrom l G base xs sc td q tl (nI P)) ml_X0_69 kw_X0_orderFrom rfl rfl rfl rfl (by simp [Value.category]) dX0_release_2 (by decide) (by decide) (by decide) (by decide) ?_
  rintro _ _ ⟨rfl, rfl⟩
  refine z_st (st' := [.int (j_of q.1 (nI P))]) rfl ?_
  refine z_casti (y := nI (q.1 P - 1)) (by unfold j_of; rw [if_pos (pg_in hP), cl_nI hP]; exact pk_sub (b := 1) (by omega)) ?_
  refine z_istore_n (lv' := [(2, .int (nI (q.1 P - 1))), (0, .ref (base + 3)), (1, .int (nI P))]) C dX0_release_5 rfl (by decide) rfl ?_
  refine z_iload_n C dX0_release_6 rfl 0 rfl ?_
  refine z_iconst (v := -1) C dX0_release_7 (by decide) ?_
  refine z_icmp_ne (tgt := 12) C dX0_release_8 (by decide) (fun h8 => ?_) (fun h8 => absurd h8 (nI_m1 (by omega)))
  refine z_aload_n C dX0_release_12 rfl 1 rfl ?_
  refine z_dup C dX0_release_13 rfl ?_
  refine z_get C fl_X0_72 dX0_release_14 rfl rfl ?_
  refine z_iconst (v := 1) C dX0_release_17 (by decide) ?_
  refine z_iadd C dX0_release_18 ?_
  refine z_put C fl_X0_72 fp_X0 rfl dX0_release_19 rfl (by simp) rfl rfl ?_
  refine z_aload_n C dX0_release_22 rfl 1 rfl ?_
  refine z_dup C dX0_release_23 rfl ?_
  refine z_get C fl_X0_40 dX0_release_24 rfl rfl ?_
  refine z_iconst (v := 1) C dX0_release_27 (by decide) ?_
  refine z_iload_n C dX0_release_28 rfl 0 rfl ?_
  refine z_ishl C dX0_release_29 ?_
  refine z_casti (y := nI (2 ^ (q.1 P - 1))) (nI_1lt _ (by omega)) ?_
  refine z_iadd C dX0_release_30 ?_
  refine z_put C fl_X0_40 fp_X0 rfl dX0_release_31 rfl (by simp) rfl rfl ?_
  refine z_hp (hp' := hpB G base xs (upd (upd sc 6 (sc 6 + 1)) 2 (sc 2 + nI (2 ^ (q.1 P - 1)))) td q tl) (rfl) ?_
  refine z_aload_n C dX0_release_34 rfl 1 rfl ?_
  refine z_iload_n C dX0_release_35 rfl 2 rfl ?_
  refine z_iload_n C dX0_release_36 rfl 0 rfl ?_
  refine z_callV (rest := []) C (m_X0_join l G base xs (upd (upd sc 6 (sc 6 + 1)) 2 (sc 2 + nI (2 ^ (q.1 P - 1)))) td q tl hq hu P (q.1 P - 1) hP (by omega)) ml_X0_36 kw_X0_join rfl rfl rfl rfl (by simp [Value.category]) dX0_release_37 (by decide) (by decide) (by decide) (by decide) ?_
  rintro _ _ ⟨rfl, rfl⟩
  refine z_st (st' := []) rfl ?_
  exact z_vret C hrt dX0_release_40 (by decide) (by decide) (⟨rfl, rfl⟩)

set_option maxHeartbeats 4000000 in
set_option maxRecDepth 100000 in
theorem m_X0_tell (l : Launch) (G : z_G) (base : Nat) (xs : Nat → va_E) (sc td : Nat → Int32) (q : q_T) (tl : List va_E) (a b : Nat) (hab : a ≤ b) (hb : b < 256) : z_M l G base yX0_tell cX0_tell 4 none 0 0 0 [.ref (base + 3), .int (nI a), .int (nI b)] (hpB G base xs sc td q tl) (fun v hp' => v = none ∧ hp' = hpB G base xs (upd sc 1 (q_tell (b + 1 - a) a (td, sc 1)).2) (q_tell (b + 1 - a) a (td, sc 1)).1 q tl) := by
  refine z_M.of (lv0 := [(0, .ref (base + 3)), (1, .int (nI a)), (2, .int (nI b))]) (by decide) (Nat.le_of_ble_eq_true rfl) rfl ?_
  intro p e s m below meth c hmn hrt C
  refine z_iload_n C dX0_tell_0 rfl 1 rfl ?_
  refine z_istore_n (lv' := [(3, .int (nI a)), (0, .ref (base + 3)), (1, .int (nI a)), (2, .int (nI b))]) C dX0_tell_1 rfl (by decide) rfl ?_
  refine z_lv (lv' := [(3, .int (nI a)), (0, .ref (base + 3)), (2, .int (nI b))]) [0, 1, 3] rfl ?_
  have loop : ∀ (n : Nat) (r : Nat) (t : (Nat → Int32) × Int32), (r ≤ b + 1) → (b + 2 ≤ n + r) → (q_tell (b + 1 - r) r t = q_tell (b + 1 - a) a (td, sc 1)) → z_R p l e (z_rm 0 0 0) s m ([Value.ref (base + 3), .int (nI a), .int (nI b)] : List Value).toArray below meth c (MQ below (z_Qc G base (fun v hp' => v = none ∧ hp' = hpB G base xs (upd sc 1 (q_tell (b + 1 - a) a (td, sc 1)).2) (q_tell (b + 1 - a) a (td, sc 1)).1 q tl)) ([Value.ref (base + 3), .int (nI a), .int (nI b)] : List Value).toArray s 0 0 (fun z => base ≤ z)) G base 4 0 0 2 [(3, .int (nI r)), (0, .ref (base + 3)), (2, .int (nI b))] [] (hpB G base xs (upd sc 1 t.2) t.1 q tl) := by
    intro n
    induction n with
    | zero => intro r t hr hn0 hv; exact absurd hn0 (by omega)
    | succ n ih =>
      intro r t hr hn0 hv
      refine z_iload_n C dX0_tell_2 rfl 0 rfl ?_
      refine z_iload_n C dX0_tell_3 rfl 2 rfl ?_
      refine z_icmp_gt (tgt := 39) C dX0_tell_4 (by decide) (fun h4 => ?_) (fun h4 => ?_)
      · skip
        have hrb : r = b + 1 := by
          rcases Nat.lt_or_ge b r with z | z
          · omega
          · exact absurd h4 (nI_nlt z (by omega))
        exact z_vret C hrt dX0_tell_39 (by decide) (by decide) (⟨rfl, by rw [← hv, hrb, Nat.sub_self]; rfl⟩)
      · skip
        have hrb : r ≤ b := by
          rcases Nat.lt_or_ge b r with z | z
          · exact absurd (nI_lt z (by omega)) h4
          · exact z
        refine z_aload_n C dX0_tell_7 rfl 1 rfl ?_
        refine z_get C fl_X0_9 dX0_tell_8 rfl rfl ?_
        refine z_iload_n C dX0_tell_11 rfl 0 rfl ?_
        refine z_zaldN C dX0_tell_12 rfl (by omega) (by decide) ?_
        refine z_if_ne (tgt := 33) C dX0_tell_13 (by decide) (fun h13 => ?_) (fun h13 => ?_)
        · skip
          refine z_iinc (k := 0) (v := nI (r + 1)) (lv' := [(3, .int (nI (r + 1))), (0, .ref (base + 3)), (2, .int (nI b))]) C dX0_tell_33 rfl (nI_1 r) (by decide) rfl ?_
          refine z_goto (tgt := 2) C dX0_tell_36 (by decide) ?_
          refine z_lv (lv' := [(3, .int (nI (r + 1))), (0, .ref (base + 3)), (2, .int (nI b))]) [0, 1, 2] rfl ?_
          first
            | (refine z_hp (hp' := hpB G base xs (upd sc 1 (t.2 + 1)) (upd t.1 r 1) q tl) ?_ ?_
               · first | rfl | (unfold hpB q_oB; rfl)
               · exact ih (r + 1) (upd t.1 r 1, t.2 + 1) (by omega) (by omega) (by rw [← hv, show b + 1 - r = (b + 1 - (r + 1)) + 1 by omega]; show _ = q_tell _ _ (if t.1 r = 0 then _ else _); rw [if_pos h13]))
            | exact ih (r + 1) t (by omega) (by omega) (by rw [← hv, show b + 1 - r = (b + 1 - (r + 1)) + 1 by omega]; show _ = q_tell _ _ (if t.1 r = 0 then _ else _); rw [if_neg h13])
        · skip
          refine z_aload_n C dX0_tell_16 rfl 1 rfl ?_
          refine z_get C fl_X0_9 dX0_tell_17 rfl rfl ?_
          refine z_iload_n C dX0_tell_20 rfl 0 rfl ?_
          refine z_iconst (v := 1) C dX0_tell_21 (by decide) ?_
          refine z_zastN C dX0_tell_22 rfl (by omega) (by decide) ?_
          refine z_aload_n C dX0_tell_23 rfl 1 rfl ?_
          refine z_dup C dX0_tell_24 rfl ?_
          refine z_get C fl_X0_29 dX0_tell_25 rfl rfl ?_
          refine z_iconst (v := 1) C dX0_tell_28 (by decide) ?_
          refine z_iadd C dX0_tell_29 ?_
          refine z_put C fl_X0_29 fp_X0 rfl dX0_tell_30 rfl (by simp) rfl rfl ?_
          refine z_iinc (k := 0) (v := nI (r + 1)) (lv' := [(3, .int (nI (r + 1))), (0, .ref (base + 3)), (2, .int (nI b))]) C dX0_tell_33 rfl (nI_1 r) (by decide) rfl ?_
          refine z_goto (tgt := 2) C dX0_tell_36 (by decide) ?_
          refine z_lv (lv' := [(3, .int (nI (r + 1))), (0, .ref (base + 3)), (2, .int (nI b))]) [0, 1, 2] rfl ?_
          first
            | (refine z_hp (hp' := hpB G base xs (upd sc 1 (t.2 + 1)) (upd t.1 r 1) q tl) ?_ ?_
               · first | rfl | (unfold hpB q_oB; rfl)
               · exact ih (r + 1) (upd t.1 r 1, t.2 + 1) (by omega) (by omega) (by rw [← hv, show b + 1 - r = (b + 1 - (r + 1)) + 1 by omega]; show _ = q_tell _ _ (if t.1 r = 0 then _ else _); rw [if_pos h13]))
            | exact ih (r + 1) t (by omega) (by omega) (by rw [← hv, show b + 1 - r = (b + 1 - (r + 1)) + 1 by omega]; show _ = q_tell _ _ (if t.1 r = 0 then _ else _); rw [if_neg h13])
  refine z_hp (hp' := hpB G base xs (upd sc 1 (td, sc 1).2) (td, sc 1).1 q tl) ?_ (loop (b + 2) a (td, sc 1) (by omega) (by omega) rfl)
  unfold hpB q_oB
  rfl

set_option maxHeartbeats 4000000 in
set_option maxRecDepth 100000 in
theorem m_X0_open (l : Launch) (G : z_G) (base : Nat) (xs : Nat → va_E) (sc td : Nat → Int32) (q : q_T) (tl : List va_E) (hq : ∀ p, q.1 p ≤ 7) (hu : ∀ p, q.2.1 p ≤ 13) : z_M l G base yX0_open cX0_open 2 none 2 0 0 [.ref (base + 3)] (hpB G base xs sc td q tl) (fun v hp' => v = none ∧ hp' = hpB G base xs (upd (upd sc 0 1) 2 (sc 1)) td (q_open td 256 0 q) tl) := by
  refine z_M.of (lv0 := [(0, .ref (base + 3))]) (by decide) (Nat.le_of_ble_eq_true rfl) rfl ?_
  intro p e s m below meth c hmn hrt C
  refine z_aload_n C dX0_open_0 rfl 0 rfl ?_
  refine z_iconst (v := 1) C dX0_open_1 (by decide) ?_
  refine z_put C fl_X0_32 fp_X0 rfl dX0_open_2 rfl (by simp) rfl rfl ?_
  refine z_iconst (v := 0) C dX0_open_5 (by decide) ?_
  refine z_casti (y := nI 0) (rfl) ?_
  refine z_istore_n (lv' := [(1, .int (nI 0)), (0, .ref (base + 3))]) C dX0_open_6 rfl (by decide) rfl ?_
  refine z_lv (lv' := [(1, .int (nI 0)), (0, .ref (base + 3))]) [0, 1] rfl ?_
  have loop : ∀ (n : Nat) (r : Nat) (q1 : q_T), (r ≤ 256) → (257 ≤ n + r) → (∀ z, q1.1 z ≤ 7) → (∀ z, q1.2.1 z ≤ 13) → (q_open td (256 - r) r q1 = q_open td 256 0 q) → z_R p l e (z_rm 2 0 0) s m ([Value.ref (base + 3)] : List Value).toArray below meth c (MQ below (z_Qc G base (fun v hp' => v = none ∧ hp' = hpB G base xs (upd (upd sc 0 1) 2 (sc 1)) td (q_open td 256 0 q) tl)) ([Value.ref (base + 3)] : List Value).toArray s 0 0 (fun z => base ≤ z)) G base 2 0 0 7 [(1, .int (nI r)), (0, .ref (base + 3))] [] (hpB G base xs (upd sc 0 1) td q1 tl) := by
    intro n
    induction n with
    | zero => intro r q1 hr hn0 hq1 hu1 hv; exact absurd hn0 (by omega)
    | succ n ih =>
      intro r q1 hr hn0 hq1 hu1 hv
      refine z_iload_n C dX0_open_7 rfl 0 rfl ?_
      refine z_sipush (v := 256) C dX0_open_8 (by decide) ?_
      refine z_icmp_ge (tgt := 35) C dX0_open_11 (by decide) (fun h11 => ?_) (fun h11 => ?_)
      · skip
        have hre : r = 256 := by
          rcases Nat.lt_or_ge r 256 with z | z
          · exact absurd h11 (nI_ge z (by decide))
          · omega
        refine z_aload_n C dX0_open_35 rfl 1 rfl ?_
        refine z_aload_n C dX0_open_36 rfl 1 rfl ?_
        refine z_get C fl_X0_29 dX0_open_37 rfl rfl ?_
        refine z_put C fl_X0_40 fp_X0 rfl dX0_open_40 rfl (by simp) rfl rfl ?_
        exact z_vret C hrt dX0_open_43 (by decide) (by decide) (⟨rfl, by rw [← hv, hre, Nat.sub_self]; rfl⟩)
      · skip
        have hrl : r < 256 := by
          rcases Nat.lt_or_ge r 256 with z | z
          · exact z
          · exact absurd (nI_le (a := 256) (b := r) z (by omega)) h11
        refine z_aload_n C dX0_open_14 rfl 1 rfl ?_
        refine z_get C fl_X0_9 dX0_open_15 rfl rfl ?_
        refine z_iload_n C dX0_open_18 rfl 0 rfl ?_
        refine z_zaldN C dX0_open_19 rfl (by omega) (by decide) ?_
        refine z_if_eq (tgt := 29) C dX0_open_20 (by decide) (fun h20 => ?_) (fun h20 => ?_)
        · skip
          refine z_iinc (k := 0) (v := nI (r + 1)) (lv' := [(1, .int (nI (r + 1))), (0, .ref (base + 3))]) C dX0_open_29 rfl (nI_1 r) (by decide) rfl ?_
          refine z_goto (tgt := 7) C dX0_open_32 (by decide) ?_
          refine z_lv (lv' := [(1, .int (nI (r + 1))), (0, .ref (base + 3))]) [0, 1] rfl ?_
          first
            | exact ih (r + 1) q1 (by omega) (by omega) hq1 hu1 (by rw [← hv, show 256 - r = (256 - (r + 1)) + 1 by omega]; show _ = q_open _ _ _ (if td r = 0 then _ else _); rw [if_pos h20])
            | exact ih (r + 1) (q_join 6 q1 r 0) (by omega) (by omega) (q_join_ok 6 q1 r 0 (by omega) hq1 hu1).1 (q_join_ok 6 q1 r 0 (by omega) hq1 hu1).2 (by rw [← hv, show 256 - r = (256 - (r + 1)) + 1 by omega]; show _ = q_open _ _ _ (if td r = 0 then _ else _); rw [if_neg h20])
        · skip
          refine z_aload_n C dX0_open_23 rfl 1 rfl ?_
          refine z_iload_n C dX0_open_24 rfl 0 rfl ?_
          refine z_iconst (v := 0) C dX0_open_25 (by decide) ?_
          refine z_casti (y := nI 0) (rfl) ?_
          refine z_callV (rest := []) C (m_X0_join l G base xs (upd sc 0 1) td q1 tl hq1 hu1 r 0 (by omega) (by omega)) ml_X0_36 kw_X0_join rfl rfl rfl rfl (by simp [Value.category]) dX0_open_26 (by decide) (by decide) (by decide) (by decide) ?_
          rintro _ _ ⟨rfl, rfl⟩
          refine z_st (st' := []) rfl ?_
          refine z_iinc (k := 0) (v := nI (r + 1)) (lv' := [(1, .int (nI (r + 1))), (0, .ref (base + 3))]) C dX0_open_29 rfl (nI_1 r) (by decide) rfl ?_
          refine z_goto (tgt := 7) C dX0_open_32 (by decide) ?_
          refine z_lv (lv' := [(1, .int (nI (r + 1))), (0, .ref (base + 3))]) [0, 1] rfl ?_
          first
            | exact ih (r + 1) q1 (by omega) (by omega) hq1 hu1 (by rw [← hv, show 256 - r = (256 - (r + 1)) + 1 by omega]; show _ = q_open _ _ _ (if td r = 0 then _ else _); rw [if_pos h20])
            | exact ih (r + 1) (q_join 6 q1 r 0) (by omega) (by omega) (q_join_ok 6 q1 r 0 (by omega) hq1 hu1).1 (q_join_ok 6 q1 r 0 (by omega) hq1 hu1).2 (by rw [← hv, show 256 - r = (256 - (r + 1)) + 1 by omega]; show _ = q_open _ _ _ (if td r = 0 then _ else _); rw [if_neg h20])
  refine z_hp (hp' := hpB G base xs (upd sc 0 1) td q tl) ?_ (loop 257 0 q (by omega) (by omega) hq hu rfl)
  unfold hpB q_oB
  rfl
end
section
theorem z_set0 {hp : List va_E} {i : Nat} {e : va_E} (h : hp[i]? = some e) : hp.set i e = hp := by
  apply List.ext_getElem?
  intro k
  by_cases hk : i = k
  · subst hk
    rw [z_self h, h]
  · rw [List.getElem?_set_ne hk]
set_option maxHeartbeats 4000000 in
set_option maxRecDepth 100000 in
theorem m_X1_objectsIn (l : Launch) (G : z_G) (base : Nat) (hp : List va_E) (k t : Nat) (hk : k < 7) (ht : 1 ≤ t) (ht2 : t < 65536) : z_M l G base yX1_objectsIn cX1_objectsIn 2 (some .int) 0 0 0 [.int (nI k), .int (nI t)] hp (fun v hp' => v = some (.int (nI (64 * 2 ^ k / t))) ∧ hp' = hp) := by
  refine z_M.of (lv0 := [(0, .int (nI k)), (1, .int (nI t))]) (by decide) (Nat.le_of_ble_eq_true rfl) rfl ?_
  intro p e s m below meth c hmn hrt C
  have hp2 := two_le k hk
  refine z_iload_n C dX1_objectsIn_0 rfl 1 rfl ?_
  refine z_iconst (v := 1) C dX1_objectsIn_1 (by decide) ?_
  refine z_icmp_ge (tgt := 9) C dX1_objectsIn_2 (by decide) (fun h2 => ?_) (fun h2 => absurd h2 (fun z => z (nI_le (a := 1) ht (by omega))))
  refine z_bipush (v := 64) C dX1_objectsIn_9 (by decide) ?_
  refine z_iload_n C dX1_objectsIn_11 rfl 0 rfl ?_
  refine z_ishl C dX1_objectsIn_12 ?_
  refine z_casti (y := nI (64 * 2 ^ k)) (nI_64 k hk) ?_
  refine z_iload_n C dX1_objectsIn_13 rfl 1 rfl ?_
  refine z_idiv C dX1_objectsIn_14 (nI_ne0 (by omega) (by omega)) ?_
  refine z_casti (y := nI (64 * 2 ^ k / t)) (pk_div (by omega) (by omega) (by omega)) ?_
  exact z_iret C hrt rfl dX1_objectsIn_15 (by decide) (by decide) (⟨rfl, rfl⟩)

set_option maxHeartbeats 4000000 in
set_option maxRecDepth 100000 in
theorem m_X1_orderFor (l : Launch) (G : z_G) (base : Nat) (hp : List va_E) (t : Nat) (ht : 1 ≤ t) (ht2 : t < 65536) : z_M l G base yX1_orderFor cX1_orderFor 2 (some .int) 1 0 0 [.int (nI t)] hp (fun v hp' => v = some (.int (nI (q_so t 4 0))) ∧ hp' = hp) := by
  refine z_M.of (lv0 := [(0, .int (nI t))]) (by decide) (Nat.le_of_ble_eq_true rfl) rfl ?_
  intro p e s m below meth c hmn hrt C
  refine z_iconst (v := 0) C dX1_orderFor_0 (by decide) ?_
  refine z_casti (y := nI 0) (rfl) ?_
  refine z_istore_n (lv' := [(1, .int (nI 0)), (0, .int (nI t))]) C dX1_orderFor_1 rfl (by decide) rfl ?_
  refine z_lv (lv' := [(1, .int (nI 0)), (0, .int (nI t))]) [0, 1] rfl ?_
  have loop : ∀ (n : Nat) (k : Nat), (k ≤ 4) → (5 ≤ n + k) → (q_so t (4 - k) k = q_so t 4 0) → z_R p l e (z_rm 1 0 0) s m ([Value.int (nI t)] : List Value).toArray below meth c (MQ below (z_Qc G base (fun v hp' => v = some (.int (nI (q_so t 4 0))) ∧ hp' = hp)) ([Value.int (nI t)] : List Value).toArray s 0 0 (fun z => base ≤ z)) G base 2 0 0 2 [(1, .int (nI k)), (0, .int (nI t))] [] hp := by
    intro n
    induction n with
    | zero => intro k hk hn0 hv; exact absurd hn0 (by omega)
    | succ n ih =>
      intro k hk hn0 hv
      refine z_iload_n C dX1_orderFor_2 rfl 0 rfl ?_
      refine z_iconst (v := 4) C dX1_orderFor_3 (by decide) ?_
      refine z_icmp_ge (tgt := 22) C dX1_orderFor_4 (by decide) (fun h4 => ?_) (fun h4 => ?_)
      · skip
        have hlt : ¬ (k < 4 ∧ 64 * 2 ^ k / t < 4) := fun z => absurd h4 (nI_ge z.1 (by decide))
        refine z_iload_n C dX1_orderFor_22 rfl 0 rfl ?_
        exact z_iret C hrt rfl dX1_orderFor_23 (by decide) (by decide) (⟨by rw [← hv, q_so_end hlt], rfl⟩)
      · skip
        have hk4 : k < 4 := by
          rcases Nat.lt_or_ge k 4 with z | z
          · exact z
          · exact absurd (nI_le (a := 4) (b := k) z (by omega)) h4
        have hdv : 64 * 2 ^ k / t ≤ 64 * 2 ^ k := Nat.div_le_self _ _
        have hp2 := two_le k (by omega)
        refine z_iload_n C dX1_orderFor_7 rfl 0 rfl ?_
        refine z_iload_n C dX1_orderFor_8 rfl 1 rfl ?_
        refine z_callS (rest := []) C (m_X1_objectsIn l G base _ k t (by omega) ht ht2) ml_X1_34 kw_X1_objectsIn rfl rfl (by simp [Value.category]) dX1_orderFor_9 (by decide) (by decide) (by decide) (by decide) ?_
        rintro _ _ ⟨rfl, rfl⟩
        refine z_st (st' := [.int (nI (64 * 2 ^ k / t))]) rfl ?_
        refine z_iconst (v := 4) C dX1_orderFor_12 (by decide) ?_
        refine z_icmp_ge (tgt := 22) C dX1_orderFor_13 (by decide) (fun h13 => ?_) (fun h13 => ?_)
        · skip
          have hlt : ¬ (k < 4 ∧ 64 * 2 ^ k / t < 4) := fun z => absurd h13 (nI_ge z.2 (by decide))
          refine z_iload_n C dX1_orderFor_22 rfl 0 rfl ?_
          exact z_iret C hrt rfl dX1_orderFor_23 (by decide) (by decide) (⟨by rw [← hv, q_so_end hlt], rfl⟩)
        · skip
          have hlt : 64 * 2 ^ k / t < 4 := by
            rcases Nat.lt_or_ge (64 * 2 ^ k / t) 4 with z | z
            · exact z
            · exact absurd (nI_le (a := 4) z (by omega)) h13
          refine z_iinc (k := 0) (v := nI (k + 1)) (lv' := [(1, .int (nI (k + 1))), (0, .int (nI t))]) C dX1_orderFor_16 rfl (nI_1 k) (by decide) rfl ?_
          refine z_goto (tgt := 2) C dX1_orderFor_19 (by decide) ?_
          refine z_lv (lv' := [(1, .int (nI (k + 1))), (0, .int (nI t))]) [0, 1] rfl ?_
          exact ih (k + 1) (by omega) (by omega) (by rw [← hv]; exact (q_so_go hk4 hlt).symm)
  exact loop 5 0 (by omega) (by omega) rfl

set_option maxHeartbeats 4000000 in
set_option maxRecDepth 100000 in
theorem m_X1_indexAt (l : Launch) (G : z_G) (base : Nat) (hp : List va_E) (i : Nat) (cf : Nat → Int32) (he : hp[i]? = some (q_oC cf)) (off t ob : Nat) (hc3 : cf 3 = nI t) (hc5 : cf 5 = nI ob) (ht : 1 ≤ t) (ht2 : t < 65536) (hof : off < 65536) (hob : ob < 65536) : z_M l G base yX1_indexAt cX1_indexAt 3 (some .int) 0 0 0 [.ref (base + i), .int (nI off)] hp (fun v hp' => v = some (.int (oI (j_ix off t ob))) ∧ hp' = hp) := by
  refine z_M.of (lv0 := [(0, .ref (base + i)), (1, .int (nI off))]) (by decide) (Nat.le_of_ble_eq_true rfl) rfl ?_
  intro p e s m below meth c hmn hrt C
  refine z_aload_n C dX1_indexAt_0 rfl 0 rfl ?_
  refine z_get C fl_X1_24 dX1_indexAt_1 he rfl ?_
  refine z_casti (y := nI t) (hc3) ?_
  refine z_iconst (v := 1) C dX1_indexAt_4 (by decide) ?_
  refine z_icmp_lt (tgt := 21) C dX1_indexAt_5 (by decide) (fun h5 => absurd h5 (nI_nlt (b := 1) ht (by omega))) (fun h5 => ?_)
  refine z_iload_n C dX1_indexAt_8 rfl 1 rfl ?_
  refine z_if_lt (tgt := 21) C dX1_indexAt_9 (by decide) (fun h9 => absurd h9 (nI_pos (by omega))) (fun h9 => ?_)
  refine z_iload_n C dX1_indexAt_12 rfl 1 rfl ?_
  refine z_aload_n C dX1_indexAt_13 rfl 0 rfl ?_
  refine z_get C fl_X1_24 dX1_indexAt_14 he rfl ?_
  refine z_casti (y := nI t) (hc3) ?_
  refine z_irem C dX1_indexAt_17 (nI_ne0 (by omega) (by omega)) ?_
  refine z_casti (y := nI (off % t)) (pk_rem (by omega) (by omega) (by omega)) ?_
  refine z_if_eq (tgt := 23) C dX1_indexAt_18 (by decide) (fun h18 => ?_) (fun h18 => ?_)
  · skip
    have hm : off % t = 0 := (nI_eq (b := 0) (Nat.lt_of_lt_of_le (Nat.mod_lt _ ht) (by omega)) (by decide)).mp h18
    have hdv : off / t ≤ off := Nat.div_le_self _ _
    refine z_iload_n C dX1_indexAt_23 rfl 1 rfl ?_
    refine z_aload_n C dX1_indexAt_24 rfl 0 rfl ?_
    refine z_get C fl_X1_24 dX1_indexAt_25 he rfl ?_
    refine z_casti (y := nI t) (hc3) ?_
    refine z_idiv C dX1_indexAt_28 (nI_ne0 (by omega) (by omega)) ?_
    refine z_casti (y := nI (off / t)) (pk_div (by omega) (by omega) (by omega)) ?_
    refine z_istore_n (lv' := [(2, .int (nI (off / t))), (0, .ref (base + i)), (1, .int (nI off))]) C dX1_indexAt_29 rfl (by decide) rfl ?_
    refine z_iload_n C dX1_indexAt_30 rfl 0 rfl ?_
    refine z_aload_n C dX1_indexAt_31 rfl 1 rfl ?_
    refine z_get C fl_X1_38 dX1_indexAt_32 he rfl ?_
    refine z_casti (y := nI ob) (hc5) ?_
    refine z_icmp_ge (tgt := 42) C dX1_indexAt_35 (by decide) (fun h35 => ?_) (fun h35 => ?_)
    · skip
      refine z_iconst (v := -1) C dX1_indexAt_42 (by decide) ?_
      exact z_iret C hrt rfl dX1_indexAt_43 (by decide) (by decide) (⟨by unfold j_ix; rw [if_neg (fun z => absurd h35 (nI_ge z.2 (by omega)))]; rfl, rfl⟩)
    · skip
      refine z_iload_n C dX1_indexAt_38 rfl 0 rfl ?_
      refine z_goto (tgt := 43) C dX1_indexAt_39 (by decide) ?_
      exact z_iret C hrt rfl dX1_indexAt_43 (by decide) (by decide) (⟨by unfold j_ix; rw [if_pos ⟨hm, (nI_ltI (by omega) (by omega)).mp (Int32.not_le.mp h35)⟩]; rfl, rfl⟩)
  · skip
    have hm : ¬ off % t = 0 := fun z => h18 (by rw [z]; rfl)
    refine z_iconst (v := -1) C dX1_indexAt_21 (by decide) ?_
    exact z_iret C hrt rfl dX1_indexAt_22 (by decide) (by decide) (⟨by unfold j_ix; rw [if_neg (fun z => hm z.1)]; rfl, rfl⟩)

set_option maxHeartbeats 4000000 in
set_option maxRecDepth 100000 in
theorem m_X1_figure (l : Launch) (G : z_G) (base : Nat) (hp : List va_E) (i : Nat) (cf : Nat → Int32) (he : hp[i]? = some (q_oC cf)) (x : Int32) : z_M l G base yX1_figure cX1_figure 2 (some .int) 0 0 0 [.ref (base + i), .int (x)] hp (fun v hp' => v = some (.int (j_fig cf (x))) ∧ hp' = hp) := by
  refine z_M.of (lv0 := [(0, .ref (base + i)), (1, .int (x))]) (by decide) (Nat.le_of_ble_eq_true rfl) rfl ?_
  intro p e s m below meth c hmn hrt C
  refine z_iload_n C dX1_figure_0 rfl 1 rfl ?_
  rcases tab8 x with hto | ⟨j, hj, rfl⟩
  · skip
    refine z_tabOut (tgt := 88) C dX1_figure_1 hto (by decide) ?_
    refine z_iconst (v := -1) C dX1_figure_88 (by decide) ?_
    exact z_iret C hrt rfl dX1_figure_89 (by decide) (by decide) (⟨by unfold j_fig; first | rw [if_pos hto] | rfl, rfl⟩)
  · skip
    rcases (show j = 0 ∨ j = 1 ∨ j = 2 ∨ j = 3 ∨ j = 4 ∨ j = 5 ∨ j = 6 ∨ j = 7 by omega) with rfl | rfl | rfl | rfl | rfl | rfl | rfl | rfl
    · skip
      refine z_tabIn (off := 47) (tgt := 48) C dX1_figure_1 (by decide) (by decide) (by decide) (by decide) ?_
      refine z_aload_n C dX1_figure_48 rfl 0 rfl ?_
      refine z_get C fl_X1_18 dX1_figure_49 he rfl ?_
      exact z_iret C hrt rfl dX1_figure_52 (by decide) (by decide) (⟨by unfold j_fig; first | rw [if_pos hto] | rfl, rfl⟩)
    · skip
      refine z_tabIn (off := 52) (tgt := 53) C dX1_figure_1 (by decide) (by decide) (by decide) (by decide) ?_
      refine z_aload_n C dX1_figure_53 rfl 0 rfl ?_
      refine z_get C fl_X1_21 dX1_figure_54 he rfl ?_
      exact z_iret C hrt rfl dX1_figure_57 (by decide) (by decide) (⟨by unfold j_fig; first | rw [if_pos hto] | rfl, rfl⟩)
    · skip
      refine z_tabIn (off := 57) (tgt := 58) C dX1_figure_1 (by decide) (by decide) (by decide) (by decide) ?_
      refine z_aload_n C dX1_figure_58 rfl 0 rfl ?_
      refine z_get C fl_X1_24 dX1_figure_59 he rfl ?_
      exact z_iret C hrt rfl dX1_figure_62 (by decide) (by decide) (⟨by unfold j_fig; first | rw [if_pos hto] | rfl, rfl⟩)
    · skip
      refine z_tabIn (off := 62) (tgt := 63) C dX1_figure_1 (by decide) (by decide) (by decide) (by decide) ?_
      refine z_aload_n C dX1_figure_63 rfl 0 rfl ?_
      refine z_get C fl_X1_31 dX1_figure_64 he rfl ?_
      exact z_iret C hrt rfl dX1_figure_67 (by decide) (by decide) (⟨by unfold j_fig; first | rw [if_pos hto] | rfl, rfl⟩)
    · skip
      refine z_tabIn (off := 67) (tgt := 68) C dX1_figure_1 (by decide) (by decide) (by decide) (by decide) ?_
      refine z_aload_n C dX1_figure_68 rfl 0 rfl ?_
      refine z_get C fl_X1_38 dX1_figure_69 he rfl ?_
      exact z_iret C hrt rfl dX1_figure_72 (by decide) (by decide) (⟨by unfold j_fig; first | rw [if_pos hto] | rfl, rfl⟩)
    · skip
      refine z_tabIn (off := 72) (tgt := 73) C dX1_figure_1 (by decide) (by decide) (by decide) (by decide) ?_
      refine z_aload_n C dX1_figure_73 rfl 0 rfl ?_
      refine z_get C fl_X1_41 dX1_figure_74 he rfl ?_
      exact z_iret C hrt rfl dX1_figure_77 (by decide) (by decide) (⟨by unfold j_fig; first | rw [if_pos hto] | rfl, rfl⟩)
    · skip
      refine z_tabIn (off := 77) (tgt := 78) C dX1_figure_1 (by decide) (by decide) (by decide) (by decide) ?_
      refine z_aload_n C dX1_figure_78 rfl 0 rfl ?_
      refine z_get C fl_X1_44 dX1_figure_79 he rfl ?_
      exact z_iret C hrt rfl dX1_figure_82 (by decide) (by decide) (⟨by unfold j_fig; first | rw [if_pos hto] | rfl, rfl⟩)
    · skip
      refine z_tabIn (off := 82) (tgt := 83) C dX1_figure_1 (by decide) (by decide) (by decide) (by decide) ?_
      refine z_aload_n C dX1_figure_83 rfl 0 rfl ?_
      refine z_get C fl_X1_9 dX1_figure_84 he rfl ?_
      exact z_iret C hrt rfl dX1_figure_87 (by decide) (by decide) (⟨by unfold j_fig; first | rw [if_pos hto] | rfl, rfl⟩)

set_option maxHeartbeats 4000000 in
set_option maxRecDepth 100000 in
theorem m_X2_shiftOf (l : Launch) (G : z_G) (base : Nat) (hp : List va_E) (a : Nat) (ha : a < 65536) : z_M l G base yX2_shiftOf cX2_shiftOf 1 (some .int) 0 0 0 [.int (nI a)] hp (fun v hp' => v = some (.int (nI (a % 8 * 8))) ∧ hp' = hp) := by
  refine z_M.of (lv0 := [(0, .int (nI a))]) (by decide) (Nat.le_of_ble_eq_true rfl) rfl ?_
  intro p e s m below meth c hmn hrt C
  refine z_iload_n C dX2_shiftOf_0 rfl 0 rfl ?_
  refine z_bipush (v := 8) C dX2_shiftOf_1 (by decide) ?_
  refine z_irem C dX2_shiftOf_3 (by decide) ?_
  refine z_casti (y := nI (a % 8)) (pk_rem (d := 8) (by omega) (by omega) (by decide)) ?_
  refine z_bipush (v := 8) C dX2_shiftOf_4 (by decide) ?_
  refine z_imul C dX2_shiftOf_6 ?_
  refine z_casti (y := nI (a % 8 * 8)) (pk_mul _ 8) ?_
  exact z_iret C hrt rfl dX2_shiftOf_7 (by decide) (by decide) (⟨rfl, rfl⟩)

set_option maxHeartbeats 4000000 in
set_option maxRecDepth 100000 in
theorem m_X2_get (l : Launch) (G : z_G) (base : Nat) (hp : List va_E) (f : Nat → Int64) (mem : Nat → Nat) (h1 : hp[1]? = some (q_oM base)) (h2 : hp[2]? = some (q_aL G 2048 f)) (hm : q_Mb f mem) (a : Nat) (ha : a < 16384) : z_M l G base yX2_get cX2_get 2 (some .int) 1 0 0 [.ref (base + 1), .int (nI a)] hp (fun v hp' => v = some (.int (nI (mem a))) ∧ hp' = hp) := by
  refine z_M.of (lv0 := [(0, .ref (base + 1)), (1, .int (nI a))]) (by decide) (Nat.le_of_ble_eq_true rfl) rfl ?_
  intro p e s m below meth c hmn hrt C
  refine z_aload_n C dX2_get_0 rfl 0 rfl ?_
  refine z_get C fl_X2_11 dX2_get_1 h1 rfl ?_
  refine z_iload_n C dX2_get_4 rfl 1 rfl ?_
  refine z_bipush (v := 8) C dX2_get_5 (by decide) ?_
  refine z_idiv C dX2_get_7 (by decide) ?_
  refine z_casti (y := nI (a / 8)) (pk_div (d := 8) (by omega) (by omega) (by decide)) ?_
  refine z_laldN C dX2_get_8 h2 (by omega) (by decide) ?_
  refine z_iload_n C dX2_get_9 rfl 1 rfl ?_
  refine z_callS (rest := [.long (f (a / 8))]) C (m_X2_shiftOf l G base _ a (by omega)) ml_X2_15 kw_X2_shiftOf rfl rfl (by simp [Value.category]) dX2_get_10 (by decide) (by decide) (by decide) (by decide) ?_
  rintro _ _ ⟨rfl, rfl⟩
  refine z_st (st' := [.int (nI (a % 8 * 8)), .long (f (a / 8))]) rfl ?_
  refine z_lushr C dX2_get_13 rfl ?_
  refine z_l2i C dX2_get_14 rfl ?_
  refine z_sipush (v := 255) C dX2_get_15 (by decide) ?_
  refine z_iand C dX2_get_18 ?_
  exact z_iret C hrt rfl dX2_get_19 (by decide) (by decide) (⟨by rw [mb_get (by omega) (hm a ha).1 (hm a ha).2], rfl⟩)

set_option maxHeartbeats 4000000 in
set_option maxRecDepth 100000 in
theorem m_X2_put (l : Launch) (G : z_G) (base : Nat) (hp : List va_E) (f : Nat → Int64) (mem : Nat → Nat) (h1 : hp[1]? = some (q_oM base)) (h2 : hp[2]? = some (q_aL G 2048 f)) (hm : q_Mb f mem) (a : Nat) (ha : a < 16384) (x : Int32) : z_M l G base yX2_put cX2_put 6 none 1 0 0 [.ref (base + 1), .int (nI a), .int (x)] hp (fun v hp' => v = none ∧ ∃ f', q_Mb f' (va_up mem a (x.toBitVec.toNat % 256)) ∧ hp' = hp.set 2 (q_aL G 2048 f')) := by
  refine z_M.of (lv0 := [(0, .ref (base + 1)), (1, .int (nI a)), (2, .int (x))]) (by decide) (Nat.le_of_ble_eq_true rfl) rfl ?_
  intro p e s m below meth c hmn hrt C
  refine z_iload_n C dX2_put_0 rfl 1 rfl ?_
  refine z_callS (rest := []) C (m_X2_shiftOf l G base _ a (by omega)) ml_X2_15 kw_X2_shiftOf rfl rfl (by simp [Value.category]) dX2_put_1 (by decide) (by decide) (by decide) (by decide) ?_
  rintro _ _ ⟨rfl, rfl⟩
  refine z_st (st' := [.int (nI (a % 8 * 8))]) rfl ?_
  refine z_istore_n (lv' := [(3, .int (nI (a % 8 * 8))), (0, .ref (base + 1)), (1, .int (nI a)), (2, .int (x))]) C dX2_put_4 rfl (by decide) rfl ?_
  refine z_aload_n C dX2_put_5 rfl 1 rfl ?_
  refine z_get C fl_X2_11 dX2_put_6 h1 rfl ?_
  refine z_iload_n C dX2_put_9 rfl 2 rfl ?_
  refine z_bipush (v := 8) C dX2_put_10 (by decide) ?_
  refine z_idiv C dX2_put_12 (by decide) ?_
  refine z_casti (y := nI (a / 8)) (pk_div (d := 8) (by omega) (by omega) (by decide)) ?_
  refine z_laldN C dX2_put_13 h2 (by omega) (by decide) ?_
  refine z_ldc2 (v := 255) C cl_X2_19 dX2_put_14 ?_
  refine z_iload_n C dX2_put_17 rfl 0 rfl ?_
  refine z_lshl C dX2_put_18 rfl ?_
  refine z_ldc2 (v := -1) C cl_X2_21 dX2_put_19 ?_
  refine z_lxor C dX2_put_22 ?_
  refine z_land C dX2_put_23 ?_
  refine z_lstore (lv' := [(4, .long ((f (a / 8) &&& (((255 : Int64) <<< ((nI (a % 8 * 8)).toInt64 &&& 63)) ^^^ (-1 : Int64))))), (3, .int (nI (a % 8 * 8))), (0, .ref (base + 1)), (1, .int (nI a)), (2, .int (x))]) C dX2_put_24 (by decide) rfl ?_
  refine z_aload_n C dX2_put_26 rfl 2 rfl ?_
  refine z_get C fl_X2_11 dX2_put_27 h1 rfl ?_
  refine z_iload_n C dX2_put_30 rfl 3 rfl ?_
  refine z_bipush (v := 8) C dX2_put_31 (by decide) ?_
  refine z_idiv C dX2_put_33 (by decide) ?_
  refine z_casti (y := nI (a / 8)) (pk_div (d := 8) (by omega) (by omega) (by decide)) ?_
  refine z_lload C dX2_put_34 0 rfl ?_
  refine z_iload_n C dX2_put_36 rfl 4 rfl ?_
  refine z_i2l C dX2_put_37 rfl ?_
  refine z_ldc2 (v := 255) C cl_X2_19 dX2_put_38 ?_
  refine z_land C dX2_put_41 ?_
  refine z_iload_n C dX2_put_42 rfl 1 rfl ?_
  refine z_lshl C dX2_put_43 rfl ?_
  refine z_lor C dX2_put_44 ?_
  refine z_lastN C dX2_put_45 h2 (by omega) (by decide) ?_
  exact z_vret C hrt dX2_put_46 (by decide) (by decide) (⟨rfl, _, q_Mb_put ha hm, rfl⟩)

set_option maxHeartbeats 4000000 in
set_option maxRecDepth 100000 in
theorem m_X2_copy (l : Launch) (G : z_G) (base : Nat) (hp : List va_E) (f : Nat → Int64) (mem : Nat → Nat) (h1 : hp[1]? = some (q_oM base)) (h2 : hp[2]? = some (q_aL G 2048 f)) (hm : q_Mb f mem) (a b k : Nat) (ha8 : a % 8 = 0) (hb8 : b % 8 = 0) (ha : a + k ≤ 16384) (hb : b + k ≤ 16384) (hab : a + k ≤ b ∨ b + k ≤ a) : z_M l G base yX2_copy cX2_copy 6 none 2 0 0 [.ref (base + 1), .int (nI a), .int (nI b), .int (nI k)] hp (fun v hp' => v = none ∧ ∃ f', q_Mb f' (q_cpm mem a b k) ∧ hp' = hp.set 2 (q_aL G 2048 f')) := by
  refine z_M.of (lv0 := [(0, .ref (base + 1)), (1, .int (nI a)), (2, .int (nI b)), (3, .int (nI k))]) (by decide) (Nat.le_of_ble_eq_true rfl) rfl ?_
  intro p e s m below meth c hmn hrt C
  refine z_iload_n C dX2_copy_0 rfl 3 rfl ?_
  refine z_bipush (v := 8) C dX2_copy_1 (by decide) ?_
  refine z_idiv C dX2_copy_3 (by decide) ?_
  refine z_casti (y := nI (k / 8)) (pk_div (d := 8) (by omega) (by omega) (by decide)) ?_
  refine z_istore (lv' := [(4, .int (nI (k / 8))), (0, .ref (base + 1)), (1, .int (nI a)), (2, .int (nI b)), (3, .int (nI k))]) C dX2_copy_4 (by decide) rfl ?_
  refine z_aload_n C dX2_copy_6 rfl 1 rfl ?_
  refine z_get C fl_X2_11 dX2_copy_7 h1 rfl ?_
  refine z_iload_n C dX2_copy_10 rfl 2 rfl ?_
  refine z_bipush (v := 8) C dX2_copy_11 (by decide) ?_
  refine z_idiv C dX2_copy_13 (by decide) ?_
  refine z_casti (y := nI (a / 8)) (pk_div (d := 8) (by omega) (by omega) (by decide)) ?_
  refine z_aload_n C dX2_copy_14 rfl 1 rfl ?_
  refine z_get C fl_X2_11 dX2_copy_15 h1 rfl ?_
  refine z_iload_n C dX2_copy_18 rfl 3 rfl ?_
  refine z_bipush (v := 8) C dX2_copy_19 (by decide) ?_
  refine z_idiv C dX2_copy_21 (by decide) ?_
  refine z_casti (y := nI (b / 8)) (pk_div (d := 8) (by omega) (by omega) (by decide)) ?_
  refine z_iload C dX2_copy_22 0 rfl ?_
  refine z_copyl C ml_X2_23 na_copy st_copy in_J10 dX2_copy_24 h2 (by omega) (by omega) (by decide) (by decide) (Nat.le_of_ble_eq_true rfl) ?_
  refine z_iload C dX2_copy_27 0 rfl ?_
  refine z_bipush (v := 8) C dX2_copy_29 (by decide) ?_
  refine z_imul C dX2_copy_31 ?_
  refine z_casti (y := nI (k / 8 * 8)) (pk_mul _ 8) ?_
  refine z_istore (lv' := [(5, .int (nI (k / 8 * 8))), (4, .int (nI (k / 8))), (0, .ref (base + 1)), (1, .int (nI a)), (2, .int (nI b)), (3, .int (nI k))]) C dX2_copy_32 (by decide) rfl ?_
  refine z_lv (lv' := [(5, .int (nI (k / 8 * 8))), (0, .ref (base + 1)), (1, .int (nI a)), (2, .int (nI b)), (3, .int (nI k))]) [0, 2, 3, 4, 5] rfl ?_
  have loop : ∀ (n : Nat) (i : Nat) (g : Nat → Int64), (i ≤ k) → (k + 1 ≤ n + i) → (q_Mb g (q_cpm mem a b i)) → z_R p l e (z_rm 2 0 0) s m ([Value.ref (base + 1), .int (nI a), .int (nI b), .int (nI k)] : List Value).toArray below meth c (MQ below (z_Qc G base (fun v hp' => v = none ∧ ∃ f', q_Mb f' (q_cpm mem a b k) ∧ hp' = hp.set 2 (q_aL G 2048 f'))) ([Value.ref (base + 1), .int (nI a), .int (nI b), .int (nI k)] : List Value).toArray s 0 0 (fun z => base ≤ z)) G base 6 0 0 34 [(5, .int (nI i)), (0, .ref (base + 1)), (1, .int (nI a)), (2, .int (nI b)), (3, .int (nI k))] [] (hp.set 2 (q_aL G 2048 g)) := by
    intro n
    induction n with
    | zero => intro i g hi hn0 hg; exact absurd hn0 (by omega)
    | succ n ih =>
      intro i g hi hn0 hg
      refine z_iload C dX2_copy_34 0 rfl ?_
      refine z_iload_n C dX2_copy_36 rfl 4 rfl ?_
      refine z_icmp_ge (tgt := 62) C dX2_copy_37 (by decide) (fun h37 => ?_) (fun h37 => ?_)
      · skip
        have hie : i = k := by
          rcases Nat.lt_or_ge i k with z | z
          · exact absurd h37 (nI_ge z (by omega))
          · omega
        exact z_vret C hrt dX2_copy_62 (by decide) (by decide) (⟨rfl, g, by rw [hie] at hg; exact hg, rfl⟩)
      · skip
        have hil : i < k := by
          rcases Nat.lt_or_ge i k with z | z
          · exact z
          · exact absurd (nI_le z (by omega)) h37
        refine z_aload_n C dX2_copy_40 rfl 1 rfl ?_
        refine z_iload_n C dX2_copy_41 rfl 3 rfl ?_
        refine z_iload C dX2_copy_42 0 rfl ?_
        refine z_iadd C dX2_copy_44 ?_
        refine z_casti (y := nI (b + i)) (nI_add _ _) ?_
        refine z_aload_n C dX2_copy_45 rfl 1 rfl ?_
        refine z_iload_n C dX2_copy_46 rfl 2 rfl ?_
        refine z_iload C dX2_copy_47 0 rfl ?_
        refine z_iadd C dX2_copy_49 ?_
        refine z_casti (y := nI (a + i)) (nI_add _ _) ?_
        refine z_callV (rest := [.int (nI (b + i)), .ref (base + 1)]) C (m_X2_get l G base _ g _ (z_oth (by decide) h1) (z_self h2) hg (a + i) (by omega)) ml_X2_29 kw_X2_get (z_oth (by decide) h1) rfl rfl rfl (by simp [Value.category]) dX2_copy_50 (by decide) (by decide) (by decide) (by decide) ?_
        rintro _ _ ⟨rfl, rfl⟩
        rw [show q_cpm mem a b i (a + i) = mem (a + i) from q_cpm_src (by omega) (by omega)]
        refine z_st (st' := [.int (nI (mem (a + i))), .int (nI (b + i)), .ref (base + 1)]) rfl ?_
        refine z_callV (rest := []) C (m_X2_put l G base _ g _ (z_oth (by decide) h1) (z_self h2) hg (b + i) (by omega) (nI (mem (a + i)))) ml_X2_32 kw_X2_put (z_oth (by decide) h1) rfl rfl rfl (by simp [Value.category]) dX2_copy_53 (by decide) (by decide) (by decide) (by decide) ?_
        rintro _ _ ⟨rfl, g2, hg2, rfl⟩
        refine z_st (st' := []) rfl ?_
        refine z_iinc (k := 0) (v := nI (i + 1)) (lv' := [(5, .int (nI (i + 1))), (0, .ref (base + 1)), (1, .int (nI a)), (2, .int (nI b)), (3, .int (nI k))]) C dX2_copy_56 rfl (nI_1 i) (by decide) rfl ?_
        refine z_goto (tgt := 34) C dX2_copy_59 (by decide) ?_
        refine z_lv (lv' := [(5, .int (nI (i + 1))), (0, .ref (base + 1)), (1, .int (nI a)), (2, .int (nI b)), (3, .int (nI k))]) [0, 1, 2, 3, 4] rfl ?_
        refine z_hp (hp' := hp.set 2 (q_aL G 2048 g2)) (by rw [List.set_set]) ?_
        exact ih (i + 1) g2 (by omega) (by omega) (by rw [nI_byte (hm (a + i) (by omega)).1, q_cpm_step] at hg2; exact hg2)
  exact loop (k + 1) (k / 8 * 8) _ (by omega) (by omega) (q_Mb_cpw ha8 hb8 ha hb hm)

set_option maxHeartbeats 4000000 in
set_option maxRecDepth 100000 in
theorem m_X3_isLive (l : Launch) (G : z_G) (base : Nat) (hp : List va_E) (j r n ob : Nat) (f : Nat → Nat) (w : Int64) (hj : hp[j]? = some (q_oS r n ob w base)) (hr : hp[r]? = some (q_aI G 64 f)) (hjr : j ≠ r) (i : Nat) (hi : i < 64) : z_M l G base yX3_isLive cX3_isLive 2 (some .boolean) 0 0 0 [.ref (base + j), .int (nI i)] hp (fun v hp' => v = some (.int (bI (lb w i))) ∧ hp' = hp) := by
  refine z_M.of (lv0 := [(0, .ref (base + j)), (1, .int (nI i))]) (by decide) (Nat.le_of_ble_eq_true rfl) rfl ?_
  intro p e s m below meth c hmn hrt C
  refine z_aload_n C dX3_isLive_0 rfl 0 rfl ?_
  refine z_get C fl_X3_28 dX3_isLive_1 hj rfl ?_
  refine z_iload_n C dX3_isLive_4 rfl 1 rfl ?_
  refine z_lushr C dX3_isLive_5 rfl ?_
  refine z_lconst (v := 1) C dX3_isLive_6 (by decide) ?_
  refine z_land C dX3_isLive_7 ?_
  refine z_lconst (v := 0) C dX3_isLive_8 (by decide) ?_
  refine z_lcmp C dX3_isLive_9 ?_
  refine z_if_eq (tgt := 17) C dX3_isLive_10 (by decide) (fun h10 => ?_) (fun h10 => ?_)
  · skip
    refine z_iconst (v := 0) C dX3_isLive_17 (by decide) ?_
    exact z_iret C hrt rfl dX3_isLive_18 (by decide) (by decide) (⟨by rw [(lb_test hi).mp h10]; rfl, rfl⟩)
  · skip
    refine z_iconst (v := 1) C dX3_isLive_13 (by decide) ?_
    refine z_goto (tgt := 18) C dX3_isLive_14 (by decide) ?_
    exact z_iret C hrt rfl dX3_isLive_18 (by decide) (by decide) (⟨by rw [show lb w i = true by rcases hb : lb w i with _ | _; exact absurd ((lb_test hi).mpr hb) h10; rfl]; rfl, rfl⟩)

set_option maxHeartbeats 4000000 in
set_option maxRecDepth 100000 in
theorem m_X3_liveCount (l : Launch) (G : z_G) (base : Nat) (hp : List va_E) (j r n ob : Nat) (f : Nat → Nat) (w : Int64) (hj : hp[j]? = some (q_oS r n ob w base)) (hr : hp[r]? = some (q_aI G 64 f)) (hjr : j ≠ r) (hno : n ≤ ob) : z_M l G base yX3_liveCount cX3_liveCount 1 (some .int) 0 0 0 [.ref (base + j)] hp (fun v hp' => v = some (.int (nI (ob - n))) ∧ hp' = hp) := by
  refine z_M.of (lv0 := [(0, .ref (base + j))]) (by decide) (Nat.le_of_ble_eq_true rfl) rfl ?_
  intro p e s m below meth c hmn hrt C
  refine z_aload_n C dX3_liveCount_0 rfl 0 rfl ?_
  refine z_get C fl_X3_21 dX3_liveCount_1 hj rfl ?_
  refine z_aload_n C dX3_liveCount_4 rfl 0 rfl ?_
  refine z_get C fl_X3_25 dX3_liveCount_5 hj rfl ?_
  refine z_isub C dX3_liveCount_8 ?_
  refine z_casti (y := nI (ob - n)) (pk_sub hno) ?_
  exact z_iret C hrt rfl dX3_liveCount_9 (by decide) (by decide) (⟨rfl, rfl⟩)

set_option maxHeartbeats 4000000 in
set_option maxRecDepth 100000 in
theorem m_X3_isPartlyLive (l : Launch) (G : z_G) (base : Nat) (hp : List va_E) (j r n ob : Nat) (f : Nat → Nat) (w : Int64) (hj : hp[j]? = some (q_oS r n ob w base)) (hr : hp[r]? = some (q_aI G 64 f)) (hjr : j ≠ r) (hno : n ≤ ob) (hob : ob ≤ 64) : z_M l G base yX3_isPartlyLive cX3_isPartlyLive 1 (some .boolean) 0 0 0 [.ref (base + j)] hp (fun v hp' => v = some (.int (bI (decide (0 < n ∧ n < ob)))) ∧ hp' = hp) := by
  refine z_M.of (lv0 := [(0, .ref (base + j))]) (by decide) (Nat.le_of_ble_eq_true rfl) rfl ?_
  intro p e s m below meth c hmn hrt C
  refine z_aload_n C dX3_isPartlyLive_0 rfl 0 rfl ?_
  refine z_get C fl_X3_25 dX3_isPartlyLive_1 hj rfl ?_
  refine z_if_le (tgt := 22) C dX3_isPartlyLive_4 (by decide) (fun h4 => ?_) (fun h4 => ?_)
  · skip
    refine z_iconst (v := 0) C dX3_isPartlyLive_22 (by decide) ?_
    exact z_iret C hrt rfl dX3_isPartlyLive_23 (by decide) (by decide) (⟨by rw [← bI_f (by first | exact fun z => absurd h4 (nI_nle z.1 (by omega)) | exact fun z => absurd h15 (nI_ge z.2 (by omega)))], rfl⟩)
  · skip
    refine z_aload_n C dX3_isPartlyLive_7 rfl 0 rfl ?_
    refine z_get C fl_X3_25 dX3_isPartlyLive_8 hj rfl ?_
    refine z_aload_n C dX3_isPartlyLive_11 rfl 0 rfl ?_
    refine z_get C fl_X3_21 dX3_isPartlyLive_12 hj rfl ?_
    refine z_icmp_ge (tgt := 22) C dX3_isPartlyLive_15 (by decide) (fun h15 => ?_) (fun h15 => ?_)
    · skip
      refine z_iconst (v := 0) C dX3_isPartlyLive_22 (by decide) ?_
      exact z_iret C hrt rfl dX3_isPartlyLive_23 (by decide) (by decide) (⟨by rw [← bI_f (by first | exact fun z => absurd h4 (nI_nle z.1 (by omega)) | exact fun z => absurd h15 (nI_ge z.2 (by omega)))], rfl⟩)
    · skip
      refine z_iconst (v := 1) C dX3_isPartlyLive_18 (by decide) ?_
      refine z_goto (tgt := 23) C dX3_isPartlyLive_19 (by decide) ?_
      exact z_iret C hrt rfl dX3_isPartlyLive_23 (by decide) (by decide) (⟨by rw [← bI_t ⟨by rcases Nat.eq_zero_or_pos n with z | z; exact absurd (by rw [z]; decide) h4; exact z, by rcases Nat.lt_or_ge n ob with z | z; exact z; exact absurd (nI_le z (by omega)) h15⟩], rfl⟩)

set_option maxHeartbeats 4000000 in
set_option maxRecDepth 100000 in
theorem m_X3_takeFront (l : Launch) (G : z_G) (base : Nat) (hp : List va_E) (j r n ob : Nat) (f : Nat → Nat) (w : Int64) (hj : hp[j]? = some (q_oS r n ob w base)) (hr : hp[r]? = some (q_aI G 64 f)) (hjr : j ≠ r) (hn : 1 ≤ n) (hno : n ≤ ob) (hob : ob ≤ 64) (hf : f (n - 1) < 64) : z_M l G base yX3_takeFront cX3_takeFront 2 (some .int) 0 0 0 [.ref (base + j)] hp (fun v hp' => v = some (.int (nI (f (n - 1)))) ∧ hp' = hp.set j (q_oS r (n - 1) ob (w ||| ((1 : Int64) <<< ((nI (f (n - 1))).toInt64 &&& 63))) base)) := by
  refine z_M.of (lv0 := [(0, .ref (base + j))]) (by decide) (Nat.le_of_ble_eq_true rfl) rfl ?_
  intro p e s m below meth c hmn hrt C
  refine z_aload_n C dX3_takeFront_0 rfl 0 rfl ?_
  refine z_get C fl_X3_25 dX3_takeFront_1 hj rfl ?_
  refine z_iconst (v := 1) C dX3_takeFront_4 (by decide) ?_
  refine z_icmp_ge (tgt := 10) C dX3_takeFront_5 (by decide) (fun h5 => ?_) (fun h5 => absurd h5 (fun z => z (nI_le (a := 1) hn (by omega))))
  refine z_aload_n C dX3_takeFront_10 rfl 0 rfl ?_
  refine z_dup C dX3_takeFront_11 rfl ?_
  refine z_get C fl_X3_25 dX3_takeFront_12 hj rfl ?_
  refine z_iconst (v := 1) C dX3_takeFront_15 (by decide) ?_
  refine z_isub C dX3_takeFront_16 ?_
  refine z_casti (y := nI (n - 1)) (pk_sub (b := 1) hn) ?_
  refine z_put C fl_X3_25 fp_X3 rfl dX3_takeFront_17 hj (by simp) rfl rfl ?_
  refine z_aload_n C dX3_takeFront_20 rfl 0 rfl ?_
  refine z_get C fl_X3_9 dX3_takeFront_21 (z_self hj) rfl ?_
  refine z_aload_n C dX3_takeFront_24 rfl 0 rfl ?_
  refine z_get C fl_X3_25 dX3_takeFront_25 (z_self hj) rfl ?_
  refine z_ialdK C dX3_takeFront_28 (z_oth (by first | decide | assumption | exact Ne.symm (by assumption) | omega) hr) (by omega) (by decide) ?_
  refine z_istore_n (lv' := [(1, .int (nI (f (n - 1)))), (0, .ref (base + j))]) C dX3_takeFront_29 rfl (by decide) rfl ?_
  refine z_aload_n C dX3_takeFront_30 rfl 1 rfl ?_
  refine z_dup C dX3_takeFront_31 rfl ?_
  refine z_get C fl_X3_28 dX3_takeFront_32 (z_self hj) rfl ?_
  refine z_lconst (v := 1) C dX3_takeFront_35 (by decide) ?_
  refine z_iload_n C dX3_takeFront_36 rfl 0 rfl ?_
  refine z_lshl C dX3_takeFront_37 rfl ?_
  refine z_lor C dX3_takeFront_38 ?_
  refine z_put C fl_X3_28 fp_X3 rfl dX3_takeFront_39 (z_self hj) (by simp) rfl rfl ?_
  refine z_iload_n C dX3_takeFront_42 rfl 0 rfl ?_
  exact z_iret C hrt rfl dX3_takeFront_43 (by decide) (by decide) (⟨rfl, by rw [List.set_set]; rfl⟩)

set_option maxHeartbeats 4000000 in
set_option maxRecDepth 100000 in
theorem m_X3_putFront (l : Launch) (G : z_G) (base : Nat) (hp : List va_E) (j r n ob : Nat) (f : Nat → Nat) (w : Int64) (hj : hp[j]? = some (q_oS r n ob w base)) (hr : hp[r]? = some (q_aI G 64 f)) (hjr : j ≠ r) (hno : n < ob) (hob : ob ≤ 64) (i : Nat) (hi : i < ob) : z_M l G base yX3_putFront cX3_putFront 2 none 0 0 0 [.ref (base + j), .int (nI i)] hp (fun v hp' => v = none ∧ hp' = (hp.set r (q_aI G 64 (va_up f n i))).set j (q_oS r (n + 1) ob (w &&& (((1 : Int64) <<< ((nI i).toInt64 &&& 63)) ^^^ (-1))) base)) := by
  refine z_M.of (lv0 := [(0, .ref (base + j)), (1, .int (nI i))]) (by decide) (Nat.le_of_ble_eq_true rfl) rfl ?_
  intro p e s m below meth c hmn hrt C
  refine z_iload_n C dX3_putFront_0 rfl 1 rfl ?_
  refine z_if_lt (tgt := 23) C dX3_putFront_1 (by decide) (fun h1 => absurd h1 (nI_pos (by omega))) (fun h1 => ?_)
  refine z_iload_n C dX3_putFront_4 rfl 1 rfl ?_
  refine z_aload_n C dX3_putFront_5 rfl 0 rfl ?_
  refine z_get C fl_X3_21 dX3_putFront_6 hj rfl ?_
  refine z_icmp_ge (tgt := 23) C dX3_putFront_9 (by decide) (fun h9 => absurd h9 (nI_ge hi (by omega))) (fun h9 => ?_)
  refine z_aload_n C dX3_putFront_12 rfl 0 rfl ?_
  refine z_get C fl_X3_25 dX3_putFront_13 hj rfl ?_
  refine z_aload_n C dX3_putFront_16 rfl 0 rfl ?_
  refine z_get C fl_X3_21 dX3_putFront_17 hj rfl ?_
  refine z_icmp_lt (tgt := 24) C dX3_putFront_20 (by decide) (fun h20 => ?_) (fun h20 => absurd h20 (fun z => z (nI_lt hno (by omega))))
  refine z_aload_n C dX3_putFront_24 rfl 0 rfl ?_
  refine z_get C fl_X3_9 dX3_putFront_25 hj rfl ?_
  refine z_aload_n C dX3_putFront_28 rfl 0 rfl ?_
  refine z_get C fl_X3_25 dX3_putFront_29 hj rfl ?_
  refine z_iload_n C dX3_putFront_32 rfl 1 rfl ?_
  refine z_iastK C dX3_putFront_33 hr (by omega) (by decide) ?_
  refine z_aload_n C dX3_putFront_34 rfl 0 rfl ?_
  refine z_dup C dX3_putFront_35 rfl ?_
  refine z_get C fl_X3_25 dX3_putFront_36 (z_oth (by first | decide | assumption | exact Ne.symm (by assumption) | omega) hj) rfl ?_
  refine z_iconst (v := 1) C dX3_putFront_39 (by decide) ?_
  refine z_iadd C dX3_putFront_40 ?_
  refine z_casti (y := nI (n + 1)) (nI_1 n) ?_
  refine z_put C fl_X3_25 fp_X3 rfl dX3_putFront_41 (z_oth (by first | decide | assumption | exact Ne.symm (by assumption) | omega) hj) (by simp) rfl rfl ?_
  refine z_aload_n C dX3_putFront_44 rfl 0 rfl ?_
  refine z_dup C dX3_putFront_45 rfl ?_
  refine z_get C fl_X3_28 dX3_putFront_46 (z_self (z_oth (by first | decide | assumption | exact Ne.symm (by assumption) | omega) hj)) rfl ?_
  refine z_lconst (v := 1) C dX3_putFront_49 (by decide) ?_
  refine z_iload_n C dX3_putFront_50 rfl 1 rfl ?_
  refine z_lshl C dX3_putFront_51 rfl ?_
  refine z_ldc2 (v := -1) C cl_X3_32 dX3_putFront_52 ?_
  refine z_lxor C dX3_putFront_55 ?_
  refine z_land C dX3_putFront_56 ?_
  refine z_put C fl_X3_28 fp_X3 rfl dX3_putFront_57 (z_self (z_oth (by first | decide | assumption | exact Ne.symm (by assumption) | omega) hj)) (by simp) rfl rfl ?_
  exact z_vret C hrt dX3_putFront_60 (by decide) (by decide) (⟨rfl, by rw [List.set_set]; rfl⟩)

set_option maxHeartbeats 4000000 in
set_option maxRecDepth 100000 in
theorem m_X3_layOut (l : Launch) (G : z_G) (base : Nat) (hp : List va_E) (j r n0 ob0 ob : Nat) (f : Nat → Nat) (w : Int64) (hj : hp[j]? = some (q_oS r n0 ob0 w base)) (hr : hp[r]? = some (q_aI G 64 f)) (hjr : j ≠ r) (hob : ob ≤ 64) : z_M l G base yX3_layOut cX3_layOut 3 none 1 0 0 [.ref (base + j), .int (nI ob)] hp (fun v hp' => v = none ∧ hp' = (hp.set r (q_aI G 64 (q_row ob ob 0 f))).set j (q_oS r ob ob 0 base)) := by
  refine z_M.of (lv0 := [(0, .ref (base + j)), (1, .int (nI ob))]) (by decide) (Nat.le_of_ble_eq_true rfl) rfl ?_
  intro p e s m below meth c hmn hrt C
  refine z_aload_n C dX3_layOut_0 rfl 0 rfl ?_
  refine z_iload_n C dX3_layOut_1 rfl 1 rfl ?_
  refine z_bipush (v := 64) C dX3_layOut_2 (by decide) ?_
  refine z_mmin C ml_X3_15 st_min in_J9 kc_min dX3_layOut_4 (by decide) (Nat.le_of_ble_eq_true rfl) (by decide) (by decide) ?_
  refine z_casti (y := nI ob) (by rw [show (64 : Int32) = nI 64 from rfl, min_nI (by omega) (by omega), Nat.min_eq_left hob]) ?_
  refine z_put C fl_X3_21 fp_X3 rfl dX3_layOut_7 hj (by simp) rfl rfl ?_
  refine z_aload_n C dX3_layOut_10 rfl 0 rfl ?_
  refine z_aload_n C dX3_layOut_11 rfl 0 rfl ?_
  refine z_get C fl_X3_21 dX3_layOut_12 (z_self hj) rfl ?_
  refine z_put C fl_X3_25 fp_X3 rfl dX3_layOut_15 (z_self hj) (by simp) rfl rfl ?_
  refine z_aload_n C dX3_layOut_18 rfl 0 rfl ?_
  refine z_lconst (v := 0) C dX3_layOut_19 (by decide) ?_
  refine z_put C fl_X3_28 fp_X3 rfl dX3_layOut_20 (z_self (z_self hj)) (by simp) rfl rfl ?_
  refine z_iconst (v := 0) C dX3_layOut_23 (by decide) ?_
  refine z_casti (y := nI 0) (rfl) ?_
  refine z_istore_n (lv' := [(2, .int (nI 0)), (0, .ref (base + j)), (1, .int (nI ob))]) C dX3_layOut_24 rfl (by decide) rfl ?_
  refine z_lv (lv' := [(2, .int (nI 0)), (0, .ref (base + j))]) [0, 1] rfl ?_
  have loop : ∀ (n : Nat) (i : Nat) (g : Nat → Nat), (i ≤ ob) → (ob + 1 ≤ n + i) → (q_row ob (ob - i) i g = q_row ob ob 0 f) → z_R p l e (z_rm 1 0 0) s m ([Value.ref (base + j), .int (nI ob)] : List Value).toArray below meth c (MQ below (z_Qc G base (fun v hp' => v = none ∧ hp' = (hp.set r (q_aI G 64 (q_row ob ob 0 f))).set j (q_oS r ob ob 0 base))) ([Value.ref (base + j), .int (nI ob)] : List Value).toArray s 0 0 (fun z => base ≤ z)) G base 3 0 0 25 [(2, .int (nI i)), (0, .ref (base + j))] [] ((hp.set r (q_aI G 64 g)).set j (q_oS r ob ob 0 base)) := by
    intro n
    induction n with
    | zero => intro i g hi hn0 hv; exact absurd hn0 (by omega)
    | succ n ih =>
      intro i g hi hn0 hv
      refine z_iload_n C dX3_layOut_25 rfl 0 rfl ?_
      refine z_aload_n C dX3_layOut_26 rfl 1 rfl ?_
      refine z_get C fl_X3_21 dX3_layOut_27 (z_self (z_oth (by first | decide | assumption | exact Ne.symm (by assumption) | omega) hj)) rfl ?_
      refine z_icmp_ge (tgt := 53) C dX3_layOut_30 (by decide) (fun h30 => ?_) (fun h30 => ?_)
      · skip
        have hie : i = ob := by
          rcases Nat.lt_or_ge i ob with z | z
          · exact absurd h30 (nI_ge z (by omega))
          · omega
        exact z_vret C hrt dX3_layOut_53 (by decide) (by decide) (⟨rfl, by rw [← hv, hie, Nat.sub_self]; rfl⟩)
      · skip
        have hil : i < ob := by
          rcases Nat.lt_or_ge i ob with z | z
          · exact z
          · exact absurd (nI_le z (by omega)) h30
        refine z_aload_n C dX3_layOut_33 rfl 1 rfl ?_
        refine z_get C fl_X3_9 dX3_layOut_34 (z_self (z_oth (by first | decide | assumption | exact Ne.symm (by assumption) | omega) hj)) rfl ?_
        refine z_iload_n C dX3_layOut_37 rfl 0 rfl ?_
        refine z_aload_n C dX3_layOut_38 rfl 1 rfl ?_
        refine z_get C fl_X3_21 dX3_layOut_39 (z_self (z_oth (by first | decide | assumption | exact Ne.symm (by assumption) | omega) hj)) rfl ?_
        refine z_iconst (v := 1) C dX3_layOut_42 (by decide) ?_
        refine z_isub C dX3_layOut_43 ?_
        refine z_iload_n C dX3_layOut_44 rfl 0 rfl ?_
        refine z_isub C dX3_layOut_45 ?_
        refine z_casti (y := nI (ob - 1 - i)) (by rw [show nI ob - 1 = nI (ob - 1) from pk_sub (b := 1) (by omega)]; exact pk_sub (by omega)) ?_
        refine z_iastK C dX3_layOut_46 (z_oth (by first | decide | assumption | exact Ne.symm (by assumption) | omega) (z_self hr)) (by omega) (by decide) ?_
        refine z_iinc (k := 0) (v := nI (i + 1)) (lv' := [(2, .int (nI (i + 1))), (0, .ref (base + j))]) C dX3_layOut_47 rfl (nI_1 i) (by decide) rfl ?_
        refine z_goto (tgt := 25) C dX3_layOut_50 (by decide) ?_
        refine z_lv (lv' := [(2, .int (nI (i + 1))), (0, .ref (base + j))]) [0, 1] rfl ?_
        refine z_hp (hp' := (hp.set r (q_aI G 64 (va_up g i (ob - 1 - i)))).set j (q_oS r ob ob 0 base)) (by rw [List.set_comm _ _ (Ne.symm hjr), List.set_set, List.set_comm _ _ hjr]; rfl) ?_
        exact ih (i + 1) _ (by omega) (by omega) (by rw [← hv, show ob - i = (ob - (i + 1)) + 1 by omega]; rfl)
  refine z_hp (hp' := (hp.set r (q_aI G 64 f)).set j (q_oS r ob ob 0 base)) (by rw [List.set_set, List.set_set, z_set0 hr]; rfl) ?_
  exact loop (ob + 1) 0 f (by omega) (by omega) rfl
end
section
set_option maxHeartbeats 4000000 in
set_option maxRecDepth 100000 in
theorem m_X5_in (l : Launch) (G : z_G) (base : Nat) (hp : List va_E) (x y z : Int32) : z_M l G base yX5_in cX5_in 3 (some .boolean) 0 0 0 [.int (x), .int (y), .int (z)] hp (fun v hp' => v = some (.int (bI (decide (y ≤ x ∧ x ≤ z)))) ∧ hp' = hp) := by
  refine z_M.of (lv0 := [(0, .int (x)), (1, .int (y)), (2, .int (z))]) (by decide) (Nat.le_of_ble_eq_true rfl) rfl ?_
  intro p e s m below meth c hmn hrt C
  refine z_iload_n C dX5_in_0 rfl 0 rfl ?_
  refine z_iload_n C dX5_in_1 rfl 1 rfl ?_
  refine z_icmp_lt (tgt := 14) C dX5_in_2 (by decide) (fun h2 => ?_) (fun h2 => ?_)
  · skip
    refine z_iconst (v := 0) C dX5_in_14 (by decide) ?_
    exact z_iret C hrt rfl dX5_in_15 (by decide) (by decide) (⟨by rw [← bI_f (fun q => by first | exact absurd h2 (Int32.not_lt.mpr q.1) | exact absurd h7 (Int32.not_lt.mpr q.2))], rfl⟩)
  · skip
    refine z_iload_n C dX5_in_5 rfl 0 rfl ?_
    refine z_iload_n C dX5_in_6 rfl 2 rfl ?_
    refine z_icmp_gt (tgt := 14) C dX5_in_7 (by decide) (fun h7 => ?_) (fun h7 => ?_)
    · skip
      refine z_iconst (v := 0) C dX5_in_14 (by decide) ?_
      exact z_iret C hrt rfl dX5_in_15 (by decide) (by decide) (⟨by rw [← bI_f (fun q => by first | exact absurd h2 (Int32.not_lt.mpr q.1) | exact absurd h7 (Int32.not_lt.mpr q.2))], rfl⟩)
    · skip
      refine z_iconst (v := 1) C dX5_in_10 (by decide) ?_
      refine z_goto (tgt := 15) C dX5_in_11 (by decide) ?_
      exact z_iret C hrt rfl dX5_in_15 (by decide) (by decide) (⟨by rw [← bI_t ⟨Int32.not_lt.mp h2, Int32.not_lt.mp h7⟩], rfl⟩)

set_option maxHeartbeats 4000000 in
set_option maxRecDepth 100000 in
theorem m_X5_usablePages (l : Launch) (G : z_G) (base : Nat) (xs : Nat → va_E) (r : r_T) (tl : List va_E) : z_M l G base yX5_usablePages cX5_usablePages 3 (some .int) 0 0 0 [.ref (base + 16)] (hpM G base xs r tl) (fun v hp' => v = some (.int (nI (r_sum (fun p => if r.2.2 0 p = 0 then 0 else 1) 256))) ∧ hp' = hpM G base xs r tl) := by
  refine z_M.of (lv0 := [(0, .ref (base + 16))]) (by decide) (Nat.le_of_ble_eq_true rfl) rfl ?_
  intro p e s m below meth c hmn hrt C
  refine z_iconst (v := 0) C dX5_usablePages_0 (by decide) ?_
  refine z_casti (y := nI 0) (rfl) ?_
  refine z_istore_n (lv' := [(1, .int (nI 0)), (0, .ref (base + 16))]) C dX5_usablePages_1 rfl (by decide) rfl ?_
  refine z_iconst (v := 0) C dX5_usablePages_2 (by decide) ?_
  refine z_casti (y := nI 0) (rfl) ?_
  refine z_istore_n (lv' := [(2, .int (nI 0)), (1, .int (nI 0)), (0, .ref (base + 16))]) C dX5_usablePages_3 rfl (by decide) rfl ?_
  refine z_lv (lv' := [(2, .int (nI 0)), (1, .int (nI 0)), (0, .ref (base + 16))]) [0, 1, 2] rfl ?_
  have loop : ∀ (n : Nat) (z : Nat), (z ≤ 256) → (257 ≤ n + z) → z_R p l e (z_rm 0 0 0) s m ([Value.ref (base + 16)] : List Value).toArray below meth c (MQ below (z_Qc G base (fun v hp' => v = some (.int (nI (r_sum (fun p => if r.2.2 0 p = 0 then 0 else 1) 256))) ∧ hp' = hpM G base xs r tl)) ([Value.ref (base + 16)] : List Value).toArray s 0 0 (fun z => base ≤ z)) G base 3 0 0 4 [(2, .int (nI z)), (1, .int (nI (r_sum (fun p => if r.2.2 0 p = 0 then 0 else 1) z))), (0, .ref (base + 16))] [] (hpM G base xs r tl) := by
    intro n
    induction n with
    | zero => intro z hz hn0; exact absurd hn0 (by omega)
    | succ n ih =>
      intro z hz hn0
      refine z_iload_n C dX5_usablePages_4 rfl 0 rfl ?_
      refine z_sipush (v := 256) C dX5_usablePages_5 (by decide) ?_
      refine z_icmp_ge (tgt := 34) C dX5_usablePages_8 (by decide) (fun h8 => ?_) (fun h8 => ?_)
      · skip
        have ze : z = 256 := by
          rcases Nat.lt_or_ge z 256 with q9 | q9
          · exact absurd h8 (nI_ge q9 (by decide))
          · omega
        refine z_iload_n C dX5_usablePages_34 rfl 1 rfl ?_
        exact z_iret C hrt rfl dX5_usablePages_35 (by decide) (by decide) (⟨by rw [ze], rfl⟩)
      · skip
        have zl : z < 256 := by
          rcases Nat.lt_or_ge z 256 with q9 | q9
          · exact q9
          · exact absurd (nI_le (a := 256) (b := z) q9 (by omega)) h8
        refine z_aload_n C dX5_usablePages_11 rfl 2 rfl ?_
        refine z_get C fl_X5_13 dX5_usablePages_12 rfl rfl ?_
        refine z_iload_n C dX5_usablePages_15 rfl 0 rfl ?_
        refine z_zaldN C dX5_usablePages_16 rfl (by omega) (by decide) ?_
        refine z_if_eq (tgt := 26) C dX5_usablePages_17 (by decide) (fun h17 => ?_) (fun h17 => ?_)
        · skip
          refine z_iload_n C dX5_usablePages_26 rfl 1 rfl ?_
          refine z_casti (y := nI (r_sum (fun p => if r.2.2 0 p = 0 then 0 else 1) (z + 1))) (by show _ = nI (r_sum (fun p => if r.2.2 0 p = 0 then 0 else 1) z + (fun p => if r.2.2 0 p = 0 then 0 else 1) z); first | (rw [show (fun p => if r.2.2 0 p = 0 then 0 else 1) z = 0 from if_pos h17]; rfl) | (rw [show (fun p => if r.2.2 0 p = 0 then 0 else 1) z = 1 from if_neg h17]; exact nI_add _ _)) ?_
          refine z_istore_n (lv' := [(1, .int (nI (r_sum (fun p => if r.2.2 0 p = 0 then 0 else 1) (z + 1)))), (2, .int (nI z)), (0, .ref (base + 16))]) C dX5_usablePages_27 rfl (by decide) rfl ?_
          refine z_iinc (k := 1) (v := nI (z + 1)) (lv' := [(2, .int (nI (z + 1))), (1, .int (nI (r_sum (fun p => if r.2.2 0 p = 0 then 0 else 1) (z + 1)))), (0, .ref (base + 16))]) C dX5_usablePages_28 rfl (nI_1 z) (by decide) rfl ?_
          refine z_goto (tgt := 4) C dX5_usablePages_31 (by decide) ?_
          refine z_lv (lv' := [(2, .int (nI (z + 1))), (1, .int (nI (r_sum (fun p => if r.2.2 0 p = 0 then 0 else 1) (z + 1)))), (0, .ref (base + 16))]) [0, 1, 2] rfl ?_
          exact ih (z + 1) (by omega) (by omega)
        · skip
          refine z_iload_n C dX5_usablePages_20 rfl 1 rfl ?_
          refine z_iconst (v := 1) C dX5_usablePages_21 (by decide) ?_
          refine z_iadd C dX5_usablePages_22 ?_
          refine z_goto (tgt := 27) C dX5_usablePages_23 (by decide) ?_
          refine z_casti (y := nI (r_sum (fun p => if r.2.2 0 p = 0 then 0 else 1) (z + 1))) (by show _ = nI (r_sum (fun p => if r.2.2 0 p = 0 then 0 else 1) z + (fun p => if r.2.2 0 p = 0 then 0 else 1) z); first | (rw [show (fun p => if r.2.2 0 p = 0 then 0 else 1) z = 0 from if_pos h17]; rfl) | (rw [show (fun p => if r.2.2 0 p = 0 then 0 else 1) z = 1 from if_neg h17]; exact nI_add _ _)) ?_
          refine z_istore_n (lv' := [(1, .int (nI (r_sum (fun p => if r.2.2 0 p = 0 then 0 else 1) (z + 1)))), (2, .int (nI z)), (0, .ref (base + 16))]) C dX5_usablePages_27 rfl (by decide) rfl ?_
          refine z_iinc (k := 1) (v := nI (z + 1)) (lv' := [(2, .int (nI (z + 1))), (1, .int (nI (r_sum (fun p => if r.2.2 0 p = 0 then 0 else 1) (z + 1)))), (0, .ref (base + 16))]) C dX5_usablePages_28 rfl (nI_1 z) (by decide) rfl ?_
          refine z_goto (tgt := 4) C dX5_usablePages_31 (by decide) ?_
          refine z_lv (lv' := [(2, .int (nI (z + 1))), (1, .int (nI (r_sum (fun p => if r.2.2 0 p = 0 then 0 else 1) (z + 1)))), (0, .ref (base + 16))]) [0, 1, 2] rfl ?_
          exact ih (z + 1) (by omega) (by omega)
  exact loop 257 0 (by omega) (by omega)

set_option maxHeartbeats 4000000 in
set_option maxRecDepth 100000 in
theorem m_X5_isFirst (l : Launch) (G : z_G) (base : Nat) (xs : Nat → va_E) (r : r_T) (tl : List va_E) (hfo : ∀ p, r.2.1 1 p < 256) (z : Nat) (hz : z < 256) : z_M l G base yX5_isFirst cX5_isFirst 2 (some .boolean) 1 0 0 [.ref (base + 16), .int (nI z)] (hpM G base xs r tl) (fun v hp' => v = some (.int (bI (r_first r z))) ∧ hp' = hpM G base xs r tl) := by
  refine z_M.of (lv0 := [(0, .ref (base + 16)), (1, .int (nI z))]) (by decide) (Nat.le_of_ble_eq_true rfl) rfl ?_
  intro p e s m below meth c hmn hrt C
  refine z_aload_n C dX5_isFirst_0 rfl 0 rfl ?_
  refine z_get C fl_X5_58 dX5_isFirst_1 rfl rfl ?_
  refine z_if_eq (tgt := 41) C dX5_isFirst_4 (by decide) (fun h4 => ?_) (fun h4 => ?_)
  · skip
    refine z_iconst (v := 0) C dX5_isFirst_41 (by decide) ?_
    exact z_iret C hrt rfl dX5_isFirst_42 (by decide) (by decide) (⟨by unfold r_first; rw [← bI_f (by first | exact fun q => q.1 h4 | exact fun q => q.2.1 h24 | exact fun q => h34 (by rw [q.2.2]))], rfl⟩)
  · skip
    refine z_iload_n C dX5_isFirst_7 rfl 1 rfl ?_
    refine z_iconst (v := 0) C dX5_isFirst_8 (by decide) ?_
    refine z_sipush (v := 255) C dX5_isFirst_9 (by decide) ?_
    refine z_callS (rest := []) C (m_X5_in l G base _ (nI z) ((0 : Int32)) ((255 : Int32))) ml_X5_62 kw_X5_in rfl rfl (by simp [Value.category]) dX5_isFirst_12 (by decide) (by decide) (by decide) (by decide) ?_
    rintro _ _ ⟨rfl, rfl⟩
    refine z_st (st' := [.int ((bI (decide (0 ≤ nI z ∧ nI z ≤ 255))))]) rfl ?_
    refine z_if_eq (tgt := 41) C dX5_isFirst_15 (by decide) (fun h15 => absurd h15 (fun q => bI_eq q (⟨nI_pos' (by omega), nI_le (b := 255) (by omega) (by decide)⟩ : (0 : Int32) ≤ nI z ∧ nI z ≤ 255))) (fun h15 => ?_)
    refine z_aload_n C dX5_isFirst_18 rfl 0 rfl ?_
    refine z_get C fl_X5_13 dX5_isFirst_19 rfl rfl ?_
    refine z_iload_n C dX5_isFirst_22 rfl 1 rfl ?_
    refine z_zaldN C dX5_isFirst_23 rfl (by omega) (by decide) ?_
    refine z_if_eq (tgt := 41) C dX5_isFirst_24 (by decide) (fun h24 => ?_) (fun h24 => ?_)
    · skip
      refine z_iconst (v := 0) C dX5_isFirst_41 (by decide) ?_
      exact z_iret C hrt rfl dX5_isFirst_42 (by decide) (by decide) (⟨by unfold r_first; rw [← bI_f (by first | exact fun q => q.1 h4 | exact fun q => q.2.1 h24 | exact fun q => h34 (by rw [q.2.2]))], rfl⟩)
    · skip
      refine z_aload_n C dX5_isFirst_27 rfl 0 rfl ?_
      refine z_get C fl_X5_17 dX5_isFirst_28 rfl rfl ?_
      refine z_iload_n C dX5_isFirst_31 rfl 1 rfl ?_
      refine z_ialdK C dX5_isFirst_32 rfl (by omega) (by decide) ?_
      refine z_iload_n C dX5_isFirst_33 rfl 1 rfl ?_
      refine z_icmp_ne (tgt := 41) C dX5_isFirst_34 (by decide) (fun h34 => ?_) (fun h34 => ?_)
      · skip
        refine z_iconst (v := 0) C dX5_isFirst_41 (by decide) ?_
        exact z_iret C hrt rfl dX5_isFirst_42 (by decide) (by decide) (⟨by unfold r_first; rw [← bI_f (by first | exact fun q => q.1 h4 | exact fun q => q.2.1 h24 | exact fun q => h34 (by rw [q.2.2]))], rfl⟩)
      · skip
        refine z_iconst (v := 1) C dX5_isFirst_37 (by decide) ?_
        refine z_goto (tgt := 42) C dX5_isFirst_38 (by decide) ?_
        exact z_iret C hrt rfl dX5_isFirst_42 (by decide) (by decide) (⟨by unfold r_first; rw [← bI_t ⟨h4, h24, (nI_eq (Nat.lt_trans (hfo z) (by decide)) (by omega)).mp h34⟩], rfl⟩)

set_option maxHeartbeats 4000000 in
set_option maxRecDepth 100000 in
theorem m_X5_isFirst_out (l : Launch) (G : z_G) (base : Nat) (xs : Nat → va_E) (r : r_T) (tl : List va_E) (x : Int32) (hx : ¬ (0 ≤ x ∧ x ≤ 255)) : z_M l G base yX5_isFirst cX5_isFirst 2 (some .boolean) 1 0 0 [.ref (base + 16), .int (x)] (hpM G base xs r tl) (fun v hp' => v = some (.int (0)) ∧ hp' = hpM G base xs r tl) := by
  refine z_M.of (lv0 := [(0, .ref (base + 16)), (1, .int (x))]) (by decide) (Nat.le_of_ble_eq_true rfl) rfl ?_
  intro p e s m below meth c hmn hrt C
  refine z_aload_n C dX5_isFirst_0 rfl 0 rfl ?_
  refine z_get C fl_X5_58 dX5_isFirst_1 rfl rfl ?_
  refine z_if_eq (tgt := 41) C dX5_isFirst_4 (by decide) (fun h4 => ?_) (fun h4 => ?_)
  · skip
    refine z_iconst (v := 0) C dX5_isFirst_41 (by decide) ?_
    exact z_iret C hrt rfl dX5_isFirst_42 (by decide) (by decide) (⟨rfl, rfl⟩)
  · skip
    refine z_iload_n C dX5_isFirst_7 rfl 1 rfl ?_
    refine z_iconst (v := 0) C dX5_isFirst_8 (by decide) ?_
    refine z_sipush (v := 255) C dX5_isFirst_9 (by decide) ?_
    refine z_callS (rest := []) C (m_X5_in l G base _ (x) ((0 : Int32)) ((255 : Int32))) ml_X5_62 kw_X5_in rfl rfl (by simp [Value.category]) dX5_isFirst_12 (by decide) (by decide) (by decide) (by decide) ?_
    rintro _ _ ⟨rfl, rfl⟩
    refine z_st (st' := [.int ((bI (decide ((0 : Int32) ≤ x ∧ x ≤ (255 : Int32)))))]) rfl ?_
    refine z_if_eq (tgt := 41) C dX5_isFirst_15 (by decide) (fun h15 => ?_) (fun h15 => absurd h15 (fun q => q (by rw [← bI_f hx])))
    refine z_iconst (v := 0) C dX5_isFirst_41 (by decide) ?_
    exact z_iret C hrt rfl dX5_isFirst_42 (by decide) (by decide) (⟨rfl, rfl⟩)

set_option maxHeartbeats 4000000 in
set_option maxRecDepth 100000 in
theorem m_X5_isFree (l : Launch) (G : z_G) (base : Nat) (xs : Nat → va_E) (r : r_T) (tl : List va_E) (hfo : ∀ p, r.2.1 1 p < 256) (z : Nat) (hz : z < 256) : z_M l G base yX5_isFree cX5_isFree 2 (some .boolean) 2 0 0 [.ref (base + 16), .int (nI z)] (hpM G base xs r tl) (fun v hp' => v = some (.int (bI (r_free r z))) ∧ hp' = hpM G base xs r tl) := by
  refine z_M.of (lv0 := [(0, .ref (base + 16)), (1, .int (nI z))]) (by decide) (Nat.le_of_ble_eq_true rfl) rfl ?_
  intro p e s m below meth c hmn hrt C
  refine z_aload_n C dX5_isFree_0 rfl 0 rfl ?_
  refine z_iload_n C dX5_isFree_1 rfl 1 rfl ?_
  refine z_callV (rest := []) C (m_X5_isFirst l G base xs r tl hfo z (by omega)) ml_X5_78 kw_X5_isFirst rfl rfl rfl rfl (by simp [Value.category]) dX5_isFree_2 (by decide) (by decide) (by decide) (by decide) ?_
  rintro _ _ ⟨rfl, rfl⟩
  refine z_st (st' := [.int ((bI (r_first r z)))]) rfl ?_
  refine z_if_eq (tgt := 21) C dX5_isFree_5 (by decide) (fun h5 => ?_) (fun h5 => ?_)
  · skip
    refine z_iconst (v := 0) C dX5_isFree_21 (by decide) ?_
    exact z_iret C hrt rfl dX5_isFree_22 (by decide) (by decide) (⟨by unfold r_free; rw [← bI_f (by first | (exact fun q => by rw [bI_ff h5] at q; exact Bool.noConfusion q.1) | exact fun q => h14 q.2)], rfl⟩)
  · skip
    refine z_aload_n C dX5_isFree_8 rfl 0 rfl ?_
    refine z_get C fl_X5_23 dX5_isFree_9 rfl rfl ?_
    refine z_iload_n C dX5_isFree_12 rfl 1 rfl ?_
    refine z_zaldN C dX5_isFree_13 rfl (by omega) (by decide) ?_
    refine z_if_ne (tgt := 21) C dX5_isFree_14 (by decide) (fun h14 => ?_) (fun h14 => ?_)
    · skip
      refine z_iconst (v := 0) C dX5_isFree_21 (by decide) ?_
      exact z_iret C hrt rfl dX5_isFree_22 (by decide) (by decide) (⟨by unfold r_free; rw [← bI_f (by first | (exact fun q => by rw [bI_ff h5] at q; exact Bool.noConfusion q.1) | exact fun q => h14 q.2)], rfl⟩)
    · skip
      refine z_iconst (v := 1) C dX5_isFree_17 (by decide) ?_
      refine z_goto (tgt := 22) C dX5_isFree_18 (by decide) ?_
      exact z_iret C hrt rfl dX5_isFree_22 (by decide) (by decide) (⟨by unfold r_free; rw [← bI_t ⟨bI_nt h5, h14⟩], rfl⟩)

set_option maxHeartbeats 4000000 in
set_option maxRecDepth 100000 in
theorem m_X5_freePageCount (l : Launch) (G : z_G) (base : Nat) (xs : Nat → va_E) (r : r_T) (tl : List va_E) (hfo : ∀ p, r.2.1 1 p < 256) (hoo : ∀ p, r.2.1 2 p ≤ 6) : z_M l G base yX5_freePageCount cX5_freePageCount 3 (some .int) 3 0 0 [.ref (base + 16)] (hpM G base xs r tl) (fun v hp' => v = some (.int (nI (r_sum (fun p => if r_free r p = true then 2 ^ r.2.1 2 p else 0) 256))) ∧ hp' = hpM G base xs r tl) := by
  refine z_M.of (lv0 := [(0, .ref (base + 16))]) (by decide) (Nat.le_of_ble_eq_true rfl) rfl ?_
  intro p e s m below meth c hmn hrt C
  refine z_iconst (v := 0) C dX5_freePageCount_0 (by decide) ?_
  refine z_casti (y := nI 0) (rfl) ?_
  refine z_istore_n (lv' := [(1, .int (nI 0)), (0, .ref (base + 16))]) C dX5_freePageCount_1 rfl (by decide) rfl ?_
  refine z_iconst (v := 0) C dX5_freePageCount_2 (by decide) ?_
  refine z_casti (y := nI 0) (rfl) ?_
  refine z_istore_n (lv' := [(2, .int (nI 0)), (1, .int (nI 0)), (0, .ref (base + 16))]) C dX5_freePageCount_3 rfl (by decide) rfl ?_
  refine z_lv (lv' := [(2, .int (nI 0)), (1, .int (nI 0)), (0, .ref (base + 16))]) [0, 1, 2] rfl ?_
  have loop : ∀ (n : Nat) (z : Nat), (z ≤ 256) → (257 ≤ n + z) → z_R p l e (z_rm 3 0 0) s m ([Value.ref (base + 16)] : List Value).toArray below meth c (MQ below (z_Qc G base (fun v hp' => v = some (.int (nI (r_sum (fun p => if r_free r p = true then 2 ^ r.2.1 2 p else 0) 256))) ∧ hp' = hpM G base xs r tl)) ([Value.ref (base + 16)] : List Value).toArray s 0 0 (fun z => base ≤ z)) G base 3 0 0 4 [(2, .int (nI z)), (1, .int (nI (r_sum (fun p => if r_free r p = true then 2 ^ r.2.1 2 p else 0) z))), (0, .ref (base + 16))] [] (hpM G base xs r tl) := by
    intro n
    induction n with
    | zero => intro z hz hn0; exact absurd hn0 (by omega)
    | succ n ih =>
      intro z hz hn0
      refine z_iload_n C dX5_freePageCount_4 rfl 0 rfl ?_
      refine z_sipush (v := 256) C dX5_freePageCount_5 (by decide) ?_
      refine z_icmp_ge (tgt := 40) C dX5_freePageCount_8 (by decide) (fun h8 => ?_) (fun h8 => ?_)
      · skip
        have ze : z = 256 := by
          rcases Nat.lt_or_ge z 256 with q9 | q9
          · exact absurd h8 (nI_ge q9 (by decide))
          · omega
        refine z_iload_n C dX5_freePageCount_40 rfl 1 rfl ?_
        exact z_iret C hrt rfl dX5_freePageCount_41 (by decide) (by decide) (⟨by rw [ze], rfl⟩)
      · skip
        have zl : z < 256 := by
          rcases Nat.lt_or_ge z 256 with q9 | q9
          · exact q9
          · exact absurd (nI_le (a := 256) (b := z) q9 (by omega)) h8
        refine z_aload_n C dX5_freePageCount_11 rfl 2 rfl ?_
        refine z_iload_n C dX5_freePageCount_12 rfl 0 rfl ?_
        refine z_callV (rest := []) C (m_X5_isFree l G base xs r tl hfo z (by omega)) ml_X5_82 kw_X5_isFree rfl rfl rfl rfl (by simp [Value.category]) dX5_freePageCount_13 (by decide) (by decide) (by decide) (by decide) ?_
        rintro _ _ ⟨rfl, rfl⟩
        refine z_st (st' := [.int ((bI (r_free r z)))]) rfl ?_
        refine z_if_eq (tgt := 32) C dX5_freePageCount_16 (by decide) (fun h16 => ?_) (fun h16 => ?_)
        · skip
          refine z_iload_n C dX5_freePageCount_32 rfl 1 rfl ?_
          refine z_casti (y := nI (r_sum (fun p => if r_free r p = true then 2 ^ r.2.1 2 p else 0) (z + 1))) (by show _ = nI (r_sum (fun p => if r_free r p = true then 2 ^ r.2.1 2 p else 0) z + (fun p => if r_free r p = true then 2 ^ r.2.1 2 p else 0) z); first | (rw [show (fun p => if r_free r p = true then 2 ^ r.2.1 2 p else 0) z = 0 from if_neg (by rw [bI_ff h16]; exact Bool.false_ne_true)]; rfl) | (rw [show (fun p => if r_free r p = true then 2 ^ r.2.1 2 p else 0) z = 2 ^ r.2.1 2 z from if_pos (bI_nt h16)]; exact nI_add _ _)) ?_
          refine z_istore_n (lv' := [(1, .int (nI (r_sum (fun p => if r_free r p = true then 2 ^ r.2.1 2 p else 0) (z + 1)))), (2, .int (nI z)), (0, .ref (base + 16))]) C dX5_freePageCount_33 rfl (by decide) rfl ?_
          refine z_iinc (k := 1) (v := nI (z + 1)) (lv' := [(2, .int (nI (z + 1))), (1, .int (nI (r_sum (fun p => if r_free r p = true then 2 ^ r.2.1 2 p else 0) (z + 1)))), (0, .ref (base + 16))]) C dX5_freePageCount_34 rfl (nI_1 z) (by decide) rfl ?_
          refine z_goto (tgt := 4) C dX5_freePageCount_37 (by decide) ?_
          refine z_lv (lv' := [(2, .int (nI (z + 1))), (1, .int (nI (r_sum (fun p => if r_free r p = true then 2 ^ r.2.1 2 p else 0) (z + 1)))), (0, .ref (base + 16))]) [0, 1, 2] rfl ?_
          exact ih (z + 1) (by omega) (by omega)
        · skip
          refine z_iload_n C dX5_freePageCount_19 rfl 1 rfl ?_
          refine z_iconst (v := 1) C dX5_freePageCount_20 (by decide) ?_
          refine z_aload_n C dX5_freePageCount_21 rfl 2 rfl ?_
          refine z_get C fl_X5_20 dX5_freePageCount_22 rfl rfl ?_
          refine z_iload_n C dX5_freePageCount_25 rfl 0 rfl ?_
          refine z_ialdK C dX5_freePageCount_26 rfl (by omega) (by decide) ?_
          refine z_ishl C dX5_freePageCount_27 ?_
          refine z_casti (y := nI (2 ^ r.2.1 2 z)) (nI_1lt _ (by have := hoo z; omega)) ?_
          refine z_iadd C dX5_freePageCount_28 ?_
          refine z_goto (tgt := 33) C dX5_freePageCount_29 (by decide) ?_
          refine z_casti (y := nI (r_sum (fun p => if r_free r p = true then 2 ^ r.2.1 2 p else 0) (z + 1))) (by show _ = nI (r_sum (fun p => if r_free r p = true then 2 ^ r.2.1 2 p else 0) z + (fun p => if r_free r p = true then 2 ^ r.2.1 2 p else 0) z); first | (rw [show (fun p => if r_free r p = true then 2 ^ r.2.1 2 p else 0) z = 0 from if_neg (by rw [bI_ff h16]; exact Bool.false_ne_true)]; rfl) | (rw [show (fun p => if r_free r p = true then 2 ^ r.2.1 2 p else 0) z = 2 ^ r.2.1 2 z from if_pos (bI_nt h16)]; exact nI_add _ _)) ?_
          refine z_istore_n (lv' := [(1, .int (nI (r_sum (fun p => if r_free r p = true then 2 ^ r.2.1 2 p else 0) (z + 1)))), (2, .int (nI z)), (0, .ref (base + 16))]) C dX5_freePageCount_33 rfl (by decide) rfl ?_
          refine z_iinc (k := 1) (v := nI (z + 1)) (lv' := [(2, .int (nI (z + 1))), (1, .int (nI (r_sum (fun p => if r_free r p = true then 2 ^ r.2.1 2 p else 0) (z + 1)))), (0, .ref (base + 16))]) C dX5_freePageCount_34 rfl (nI_1 z) (by decide) rfl ?_
          refine z_goto (tgt := 4) C dX5_freePageCount_37 (by decide) ?_
          refine z_lv (lv' := [(2, .int (nI (z + 1))), (1, .int (nI (r_sum (fun p => if r_free r p = true then 2 ^ r.2.1 2 p else 0) (z + 1)))), (0, .ref (base + 16))]) [0, 1, 2] rfl ?_
          exact ih (z + 1) (by omega) (by omega)
  exact loop 257 0 (by omega) (by omega)

set_option maxHeartbeats 4000000 in
set_option maxRecDepth 100000 in
theorem m_X5_freeBlocks (l : Launch) (G : z_G) (base : Nat) (xs : Nat → va_E) (r : r_T) (tl : List va_E) (hfo : ∀ p, r.2.1 1 p < 256) (hoo : ∀ p, r.2.1 2 p ≤ 6) (k : Nat) (hk : k ≤ 6) : z_M l G base yX5_freeBlocks cX5_freeBlocks 4 (some .int) 3 0 0 [.ref (base + 16), .int (nI k)] (hpM G base xs r tl) (fun v hp' => v = some (.int (nI (r_sum (fun p => if r_free r p = true ∧ r.2.1 2 p = k then 1 else 0) 256))) ∧ hp' = hpM G base xs r tl) := by
  refine z_M.of (lv0 := [(0, .ref (base + 16)), (1, .int (nI k))]) (by decide) (Nat.le_of_ble_eq_true rfl) rfl ?_
  intro p e s m below meth c hmn hrt C
  refine z_iload_n C dX5_freeBlocks_0 rfl 1 rfl ?_
  refine z_iconst (v := 0) C dX5_freeBlocks_1 (by decide) ?_
  refine z_bipush (v := 6) C dX5_freeBlocks_2 (by decide) ?_
  refine z_callS (rest := []) C (m_X5_in l G base _ (nI k) ((0 : Int32)) ((6 : Int32))) ml_X5_62 kw_X5_in rfl rfl (by simp [Value.category]) dX5_freeBlocks_4 (by decide) (by decide) (by decide) (by decide) ?_
  rintro _ _ ⟨rfl, rfl⟩
  refine z_st (st' := [.int ((bI (decide (0 ≤ nI k ∧ nI k ≤ 6))))]) rfl ?_
  refine z_if_ne (tgt := 12) C dX5_freeBlocks_7 (by decide) (fun h7 => ?_) (fun h7 => absurd h7 (fun q => bI_eq q ⟨nI_pos' (by omega), nI_le (b := 6) (by omega) (by decide)⟩))
  refine z_iconst (v := 0) C dX5_freeBlocks_12 (by decide) ?_
  refine z_casti (y := nI 0) (rfl) ?_
  refine z_istore_n (lv' := [(2, .int (nI 0)), (0, .ref (base + 16)), (1, .int (nI k))]) C dX5_freeBlocks_13 rfl (by decide) rfl ?_
  refine z_iconst (v := 0) C dX5_freeBlocks_14 (by decide) ?_
  refine z_casti (y := nI 0) (rfl) ?_
  refine z_istore_n (lv' := [(3, .int (nI 0)), (2, .int (nI 0)), (0, .ref (base + 16)), (1, .int (nI k))]) C dX5_freeBlocks_15 rfl (by decide) rfl ?_
  refine z_lv (lv' := [(3, .int (nI 0)), (2, .int (nI 0)), (0, .ref (base + 16)), (1, .int (nI k))]) [0, 1, 2, 3] rfl ?_
  have loop : ∀ (n : Nat) (z : Nat), (z ≤ 256) → (257 ≤ n + z) → z_R p l e (z_rm 3 0 0) s m ([Value.ref (base + 16), .int (nI k)] : List Value).toArray below meth c (MQ below (z_Qc G base (fun v hp' => v = some (.int (nI (r_sum (fun p => if r_free r p = true ∧ r.2.1 2 p = k then 1 else 0) 256))) ∧ hp' = hpM G base xs r tl)) ([Value.ref (base + 16), .int (nI k)] : List Value).toArray s 0 0 (fun z => base ≤ z)) G base 4 0 0 16 [(3, .int (nI z)), (2, .int (nI (r_sum (fun p => if r_free r p = true ∧ r.2.1 2 p = k then 1 else 0) z))), (0, .ref (base + 16)), (1, .int (nI k))] [] (hpM G base xs r tl) := by
    intro n
    induction n with
    | zero => intro z hz hn0; exact absurd hn0 (by omega)
    | succ n ih =>
      intro z hz hn0
      refine z_iload_n C dX5_freeBlocks_16 rfl 0 rfl ?_
      refine z_sipush (v := 256) C dX5_freeBlocks_17 (by decide) ?_
      refine z_icmp_ge (tgt := 55) C dX5_freeBlocks_20 (by decide) (fun h20 => ?_) (fun h20 => ?_)
      · skip
        have ze : z = 256 := by
          rcases Nat.lt_or_ge z 256 with q9 | q9
          · exact absurd h20 (nI_ge q9 (by decide))
          · omega
        refine z_iload_n C dX5_freeBlocks_55 rfl 1 rfl ?_
        exact z_iret C hrt rfl dX5_freeBlocks_56 (by decide) (by decide) (⟨by rw [ze], rfl⟩)
      · skip
        have zl : z < 256 := by
          rcases Nat.lt_or_ge z 256 with q9 | q9
          · exact q9
          · exact absurd (nI_le (a := 256) (b := z) q9 (by omega)) h20
        refine z_aload_n C dX5_freeBlocks_23 rfl 2 rfl ?_
        refine z_iload_n C dX5_freeBlocks_24 rfl 0 rfl ?_
        refine z_callV (rest := []) C (m_X5_isFree l G base xs r tl hfo z (by omega)) ml_X5_82 kw_X5_isFree rfl rfl rfl rfl (by simp [Value.category]) dX5_freeBlocks_25 (by decide) (by decide) (by decide) (by decide) ?_
        rintro _ _ ⟨rfl, rfl⟩
        refine z_st (st' := [.int ((bI (r_free r z)))]) rfl ?_
        refine z_if_eq (tgt := 47) C dX5_freeBlocks_28 (by decide) (fun h28 => ?_) (fun h28 => ?_)
        · skip
          refine z_iload_n C dX5_freeBlocks_47 rfl 1 rfl ?_
          refine z_casti (y := nI (r_sum (fun p => if r_free r p = true ∧ r.2.1 2 p = k then 1 else 0) (z + 1))) (by show _ = nI (r_sum (fun p => if r_free r p = true ∧ r.2.1 2 p = k then 1 else 0) z + (fun p => if r_free r p = true ∧ r.2.1 2 p = k then 1 else 0) z); first | (rw [show (fun p => if r_free r p = true ∧ r.2.1 2 p = k then 1 else 0) z = 0 from if_neg (by first | (rw [bI_ff h28]; exact fun q => Bool.noConfusion q.1) | exact fun q => h38 (by rw [q.2]))]; rfl) | (rw [show (fun p => if r_free r p = true ∧ r.2.1 2 p = k then 1 else 0) z = 1 from if_pos ⟨bI_nt h28, (nI_eq (by have := hoo z; omega) (by omega)).mp h38⟩]; exact nI_add _ _)) ?_
          refine z_istore_n (lv' := [(2, .int (nI (r_sum (fun p => if r_free r p = true ∧ r.2.1 2 p = k then 1 else 0) (z + 1)))), (3, .int (nI z)), (0, .ref (base + 16)), (1, .int (nI k))]) C dX5_freeBlocks_48 rfl (by decide) rfl ?_
          refine z_iinc (k := 1) (v := nI (z + 1)) (lv' := [(3, .int (nI (z + 1))), (2, .int (nI (r_sum (fun p => if r_free r p = true ∧ r.2.1 2 p = k then 1 else 0) (z + 1)))), (0, .ref (base + 16)), (1, .int (nI k))]) C dX5_freeBlocks_49 rfl (nI_1 z) (by decide) rfl ?_
          refine z_goto (tgt := 16) C dX5_freeBlocks_52 (by decide) ?_
          refine z_lv (lv' := [(3, .int (nI (z + 1))), (2, .int (nI (r_sum (fun p => if r_free r p = true ∧ r.2.1 2 p = k then 1 else 0) (z + 1)))), (0, .ref (base + 16)), (1, .int (nI k))]) [0, 1, 2, 3] rfl ?_
          exact ih (z + 1) (by omega) (by omega)
        · skip
          refine z_aload_n C dX5_freeBlocks_31 rfl 2 rfl ?_
          refine z_get C fl_X5_20 dX5_freeBlocks_32 rfl rfl ?_
          refine z_iload_n C dX5_freeBlocks_35 rfl 0 rfl ?_
          refine z_ialdK C dX5_freeBlocks_36 rfl (by omega) (by decide) ?_
          refine z_iload_n C dX5_freeBlocks_37 rfl 3 rfl ?_
          refine z_icmp_ne (tgt := 47) C dX5_freeBlocks_38 (by decide) (fun h38 => ?_) (fun h38 => ?_)
          · skip
            refine z_iload_n C dX5_freeBlocks_47 rfl 1 rfl ?_
            refine z_casti (y := nI (r_sum (fun p => if r_free r p = true ∧ r.2.1 2 p = k then 1 else 0) (z + 1))) (by show _ = nI (r_sum (fun p => if r_free r p = true ∧ r.2.1 2 p = k then 1 else 0) z + (fun p => if r_free r p = true ∧ r.2.1 2 p = k then 1 else 0) z); first | (rw [show (fun p => if r_free r p = true ∧ r.2.1 2 p = k then 1 else 0) z = 0 from if_neg (by first | (rw [bI_ff h28]; exact fun q => Bool.noConfusion q.1) | exact fun q => h38 (by rw [q.2]))]; rfl) | (rw [show (fun p => if r_free r p = true ∧ r.2.1 2 p = k then 1 else 0) z = 1 from if_pos ⟨bI_nt h28, (nI_eq (by have := hoo z; omega) (by omega)).mp h38⟩]; exact nI_add _ _)) ?_
            refine z_istore_n (lv' := [(2, .int (nI (r_sum (fun p => if r_free r p = true ∧ r.2.1 2 p = k then 1 else 0) (z + 1)))), (3, .int (nI z)), (0, .ref (base + 16)), (1, .int (nI k))]) C dX5_freeBlocks_48 rfl (by decide) rfl ?_
            refine z_iinc (k := 1) (v := nI (z + 1)) (lv' := [(3, .int (nI (z + 1))), (2, .int (nI (r_sum (fun p => if r_free r p = true ∧ r.2.1 2 p = k then 1 else 0) (z + 1)))), (0, .ref (base + 16)), (1, .int (nI k))]) C dX5_freeBlocks_49 rfl (nI_1 z) (by decide) rfl ?_
            refine z_goto (tgt := 16) C dX5_freeBlocks_52 (by decide) ?_
            refine z_lv (lv' := [(3, .int (nI (z + 1))), (2, .int (nI (r_sum (fun p => if r_free r p = true ∧ r.2.1 2 p = k then 1 else 0) (z + 1)))), (0, .ref (base + 16)), (1, .int (nI k))]) [0, 1, 2, 3] rfl ?_
            exact ih (z + 1) (by omega) (by omega)
          · skip
            refine z_iload_n C dX5_freeBlocks_41 rfl 1 rfl ?_
            refine z_iconst (v := 1) C dX5_freeBlocks_42 (by decide) ?_
            refine z_iadd C dX5_freeBlocks_43 ?_
            refine z_goto (tgt := 48) C dX5_freeBlocks_44 (by decide) ?_
            refine z_casti (y := nI (r_sum (fun p => if r_free r p = true ∧ r.2.1 2 p = k then 1 else 0) (z + 1))) (by show _ = nI (r_sum (fun p => if r_free r p = true ∧ r.2.1 2 p = k then 1 else 0) z + (fun p => if r_free r p = true ∧ r.2.1 2 p = k then 1 else 0) z); first | (rw [show (fun p => if r_free r p = true ∧ r.2.1 2 p = k then 1 else 0) z = 0 from if_neg (by first | (rw [bI_ff h28]; exact fun q => Bool.noConfusion q.1) | exact fun q => h38 (by rw [q.2]))]; rfl) | (rw [show (fun p => if r_free r p = true ∧ r.2.1 2 p = k then 1 else 0) z = 1 from if_pos ⟨bI_nt h28, (nI_eq (by have := hoo z; omega) (by omega)).mp h38⟩]; exact nI_add _ _)) ?_
            refine z_istore_n (lv' := [(2, .int (nI (r_sum (fun p => if r_free r p = true ∧ r.2.1 2 p = k then 1 else 0) (z + 1)))), (3, .int (nI z)), (0, .ref (base + 16)), (1, .int (nI k))]) C dX5_freeBlocks_48 rfl (by decide) rfl ?_
            refine z_iinc (k := 1) (v := nI (z + 1)) (lv' := [(3, .int (nI (z + 1))), (2, .int (nI (r_sum (fun p => if r_free r p = true ∧ r.2.1 2 p = k then 1 else 0) (z + 1)))), (0, .ref (base + 16)), (1, .int (nI k))]) C dX5_freeBlocks_49 rfl (nI_1 z) (by decide) rfl ?_
            refine z_goto (tgt := 16) C dX5_freeBlocks_52 (by decide) ?_
            refine z_lv (lv' := [(3, .int (nI (z + 1))), (2, .int (nI (r_sum (fun p => if r_free r p = true ∧ r.2.1 2 p = k then 1 else 0) (z + 1)))), (0, .ref (base + 16)), (1, .int (nI k))]) [0, 1, 2, 3] rfl ?_
            exact ih (z + 1) (by omega) (by omega)
  exact loop 257 0 (by omega) (by omega)

set_option maxHeartbeats 4000000 in
set_option maxRecDepth 100000 in
theorem m_X5_freeBlocks_out (l : Launch) (G : z_G) (base : Nat) (xs : Nat → va_E) (r : r_T) (tl : List va_E) (x : Int32) (hx : ¬ (0 ≤ x ∧ x ≤ 6)) : z_M l G base yX5_freeBlocks cX5_freeBlocks 4 (some .int) 3 0 0 [.ref (base + 16), .int (x)] (hpM G base xs r tl) (fun v hp' => v = some (.int (-1)) ∧ hp' = hpM G base xs r tl) := by
  refine z_M.of (lv0 := [(0, .ref (base + 16)), (1, .int (x))]) (by decide) (Nat.le_of_ble_eq_true rfl) rfl ?_
  intro p e s m below meth c hmn hrt C
  refine z_iload_n C dX5_freeBlocks_0 rfl 1 rfl ?_
  refine z_iconst (v := 0) C dX5_freeBlocks_1 (by decide) ?_
  refine z_bipush (v := 6) C dX5_freeBlocks_2 (by decide) ?_
  refine z_callS (rest := []) C (m_X5_in l G base _ (x) ((0 : Int32)) ((6 : Int32))) ml_X5_62 kw_X5_in rfl rfl (by simp [Value.category]) dX5_freeBlocks_4 (by decide) (by decide) (by decide) (by decide) ?_
  rintro _ _ ⟨rfl, rfl⟩
  refine z_st (st' := [.int ((bI (decide ((0 : Int32) ≤ x ∧ x ≤ (6 : Int32)))))]) rfl ?_
  refine z_if_ne (tgt := 12) C dX5_freeBlocks_7 (by decide) (fun h7 => absurd h7 (fun q => q (by rw [← bI_f hx]))) (fun h7 => ?_)
  refine z_iconst (v := -1) C dX5_freeBlocks_10 (by decide) ?_
  exact z_iret C hrt rfl dX5_freeBlocks_11 (by decide) (by decide) (⟨rfl, rfl⟩)

set_option maxHeartbeats 4000000 in
set_option maxRecDepth 100000 in
theorem m_X5_makeBlock (l : Launch) (G : z_G) (base : Nat) (xs : Nat → va_E) (r : r_T) (tl : List va_E) (P k : Nat) (b : Int32) (hk : k ≤ 6) (hP : P + 2 ^ k ≤ 256) (hb : vp_nar .boolean b = b) : z_M l G base yX5_makeBlock cX5_makeBlock 5 none 0 0 0 [.ref (base + 16), .int (nI P), .int (nI k), .int (b)] (hpM G base xs r tl) (fun v hp' => v = none ∧ hp' = hpM G base xs (r_mk r P k b) tl) := by
  refine z_M.of (lv0 := [(0, .ref (base + 16)), (1, .int (nI P)), (2, .int (nI k)), (3, .int (b))]) (by decide) (Nat.le_of_ble_eq_true rfl) rfl ?_
  intro p e s m below meth c hmn hrt C
  have hpos := Nat.two_pow_pos k
  refine z_iload_n C dX5_makeBlock_0 rfl 1 rfl ?_
  refine z_istore (lv' := [(4, .int (nI P)), (0, .ref (base + 16)), (1, .int (nI P)), (2, .int (nI k)), (3, .int (b))]) C dX5_makeBlock_1 (by decide) rfl ?_
  refine z_lv (lv' := [(4, .int (nI P)), (0, .ref (base + 16)), (1, .int (nI P)), (2, .int (nI k)), (3, .int (b))]) [0, 1, 2, 3, 4] rfl ?_
  have loop : ∀ (n : Nat) (z : Nat) (fo : Nat → Nat), (P ≤ z ∧ z ≤ P + 2 ^ k) → (P + 2 ^ k + 1 ≤ n + z) → (r_run fo P (P + 2 ^ k - z) z = r_run (r.2.1 1) P (2 ^ k) P) → z_R p l e (z_rm 0 0 0) s m ([Value.ref (base + 16), .int (nI P), .int (nI k), .int (b)] : List Value).toArray below meth c (MQ below (z_Qc G base (fun v hp' => v = none ∧ hp' = hpM G base xs (r_mk r P k b) tl)) ([Value.ref (base + 16), .int (nI P), .int (nI k), .int (b)] : List Value).toArray s 0 0 (fun z => base ≤ z)) G base 5 0 0 3 [(4, .int (nI z)), (0, .ref (base + 16)), (1, .int (nI P)), (2, .int (nI k)), (3, .int (b))] [] (hpM G base xs (r.1, va_up r.2.1 1 fo, r.2.2) tl) := by
    intro n
    induction n with
    | zero => intro z fo hz hn0 hv; exact absurd hn0 (by omega)
    | succ n ih =>
      intro z fo hz hn0 hv
      refine z_iload C dX5_makeBlock_3 0 rfl ?_
      refine z_iload_n C dX5_makeBlock_5 rfl 2 rfl ?_
      refine z_iconst (v := 1) C dX5_makeBlock_6 (by decide) ?_
      refine z_iload_n C dX5_makeBlock_7 rfl 3 rfl ?_
      refine z_ishl C dX5_makeBlock_8 ?_
      refine z_casti (y := nI (2 ^ k)) (nI_1lt k (by omega)) ?_
      refine z_iadd C dX5_makeBlock_9 ?_
      refine z_casti (y := nI (P + 2 ^ k)) (nI_add _ _) ?_
      refine z_icmp_ge (tgt := 27) C dX5_makeBlock_10 (by decide) (fun h10 => ?_) (fun h10 => ?_)
      · skip
        have ze : z = P + 2 ^ k := by
          rcases Nat.lt_or_ge z (P + 2 ^ k) with q9 | q9
          · exact absurd h10 (nI_ge q9 (by omega))
          · omega
        refine z_aload_n C dX5_makeBlock_27 rfl 1 rfl ?_
        refine z_get C fl_X5_20 dX5_makeBlock_28 rfl rfl ?_
        refine z_iload_n C dX5_makeBlock_31 rfl 2 rfl ?_
        refine z_iload_n C dX5_makeBlock_32 rfl 3 rfl ?_
        refine z_iastK C dX5_makeBlock_33 rfl (by omega) (by decide) ?_
        refine z_aload_n C dX5_makeBlock_34 rfl 1 rfl ?_
        refine z_get C fl_X5_23 dX5_makeBlock_35 rfl rfl ?_
        refine z_iload_n C dX5_makeBlock_38 rfl 2 rfl ?_
        refine z_iload_n C dX5_makeBlock_39 rfl 4 rfl ?_
        refine z_zastN C dX5_makeBlock_40 rfl (by omega) (by decide) ?_
        refine z_aload_n C dX5_makeBlock_41 rfl 1 rfl ?_
        refine z_get C fl_X5_26 dX5_makeBlock_42 rfl rfl ?_
        refine z_iload_n C dX5_makeBlock_45 rfl 2 rfl ?_
        refine z_iconst (v := -1) C dX5_makeBlock_46 (by decide) ?_
        refine z_iastN C dX5_makeBlock_47 rfl (by omega) (by decide) ?_
        exact z_vret C hrt dX5_makeBlock_48 (by decide) (by decide) (⟨rfl, by rw [ze, Nat.sub_self] at hv; unfold r_mk; rw [← hv, hb]; rfl⟩)
      · skip
        have zl : z < P + 2 ^ k := by
          rcases Nat.lt_or_ge z (P + 2 ^ k) with q9 | q9
          · exact q9
          · exact absurd (nI_le q9 (by omega)) h10
        refine z_aload_n C dX5_makeBlock_13 rfl 1 rfl ?_
        refine z_get C fl_X5_17 dX5_makeBlock_14 rfl rfl ?_
        refine z_iload C dX5_makeBlock_17 0 rfl ?_
        refine z_iload_n C dX5_makeBlock_19 rfl 2 rfl ?_
        refine z_iastK C dX5_makeBlock_20 rfl (by omega) (by decide) ?_
        refine z_iinc (k := 0) (v := nI (z + 1)) (lv' := [(4, .int (nI (z + 1))), (0, .ref (base + 16)), (1, .int (nI P)), (2, .int (nI k)), (3, .int (b))]) C dX5_makeBlock_21 rfl (nI_1 z) (by decide) rfl ?_
        refine z_goto (tgt := 3) C dX5_makeBlock_24 (by decide) ?_
        refine z_lv (lv' := [(4, .int (nI (z + 1))), (0, .ref (base + 16)), (1, .int (nI P)), (2, .int (nI k)), (3, .int (b))]) [0, 1, 2, 3, 4] rfl ?_
        refine z_hp (hp' := hpM G base xs (r.1, va_up r.2.1 1 (va_up fo z P), r.2.2) tl) rfl ?_
        exact ih (z + 1) _ (by omega) (by omega) (by rw [← hv, show P + 2 ^ k - z = (P + 2 ^ k - (z + 1)) + 1 by omega]; rfl)
  refine z_hp (hp' := hpM G base xs (r.1, va_up r.2.1 1 (r.2.1 1), r.2.2) tl) rfl ?_
  exact loop (2 ^ k + 1) P _ (by omega) (by omega) (by rw [Nat.add_sub_cancel_left])

set_option maxHeartbeats 4000000 in
set_option maxRecDepth 100000 in
theorem m_X5_takeBlock (l : Launch) (G : z_G) (base : Nat) (xs : Nat → va_E) (r : r_T) (tl : List va_E) (hfo : ∀ p, r.2.1 1 p < 256) (hoo : ∀ p, r.2.1 2 p ≤ 6) (hal : ∀ p, p < 256 → r_free r p = true → p + 2 ^ r.2.1 2 p ≤ 256) (k : Nat) (hk : k ≤ 6) : z_M l G base yX5_takeBlock cX5_takeBlock 6 (some .int) 4 0 0 [.ref (base + 16), .int (nI k)] (hpM G base xs r tl) (fun v hp' => v = some (.int (oI (r_tk r k))) ∧ hp' = hpM G base xs (r_tks r k) tl) := by
  refine z_M.of (lv0 := [(0, .ref (base + 16)), (1, .int (nI k))]) (by decide) (Nat.le_of_ble_eq_true rfl) rfl ?_
  intro p e s m below meth c hmn hrt C
  have cut : z_R p l e (z_rm 4 0 0) s m ([Value.ref (base + 16), .int (nI k)] : List Value).toArray below meth c (MQ below (z_Qc G base (fun v hp' => v = some (.int (oI (r_tk r k))) ∧ hp' = hpM G base xs (r_tks r k) tl)) ([Value.ref (base + 16), .int (nI k)] : List Value).toArray s 0 0 (fun z => base ≤ z)) G base 6 0 0 34 [(2, .int (bI (decide (r.1 2 = 0)))), (0, .ref (base + 16)), (1, .int (nI k))] [] (hpM G base xs (upd r.1 2 (r_arm (r.1 2)), r.2) tl) := by
    refine z_iconst (v := -1) C dX5_takeBlock_34 (by decide) ?_
    refine z_casti (y := oI none) (rfl) ?_
    refine z_istore_n (lv' := [(3, .int (oI none)), (2, .int (bI (decide (r.1 2 = 0)))), (0, .ref (base + 16)), (1, .int (nI k))]) C dX5_takeBlock_35 rfl (by decide) rfl ?_
    refine z_iload_n C dX5_takeBlock_36 rfl 3 rfl ?_
    refine z_istore (lv' := [(4, .int (nI k)), (3, .int (oI none)), (2, .int (bI (decide (r.1 2 = 0)))), (0, .ref (base + 16)), (1, .int (nI k))]) C dX5_takeBlock_37 (by decide) rfl ?_
    refine z_lv (lv' := [(4, .int (nI k)), (3, .int (oI none)), (0, .ref (base + 16)), (1, .int (nI k)), (2, .int (bI (decide (r.1 2 = 0))))]) [0, 1, 3, 4, 2] rfl ?_
    have loop : ∀ (n : Nat) (o : Nat) (b : Option Nat), (k ≤ o ∧ o ≤ 7) → (8 ≤ n + o) → (∀ p, b = some p → p < 256) → (r_best r (7 - k) k = r_or b (r_best r (7 - o) o)) → z_R p l e (z_rm 4 0 0) s m ([Value.ref (base + 16), .int (nI k)] : List Value).toArray below meth c (MQ below (z_Qc G base (fun v hp' => v = some (.int (oI (r_tk r k))) ∧ hp' = hpM G base xs (r_tks r k) tl)) ([Value.ref (base + 16), .int (nI k)] : List Value).toArray s 0 0 (fun z => base ≤ z)) G base 6 0 0 39 [(4, .int (nI o)), (3, .int (oI b)), (0, .ref (base + 16)), (1, .int (nI k)), (2, .int (bI (decide (r.1 2 = 0))))] [] (hpM G base xs (upd r.1 2 (r_arm (r.1 2)), r.2) tl) := by
      intro n
      induction n with
      | zero => intro o b ho hn0 hb hv; exact absurd hn0 (by omega)
      | succ n ih =>
        intro o b ho hn0 hb hv
        have iho := ih
        refine z_iload C dX5_takeBlock_39 0 rfl ?_
        refine z_bipush (v := 6) C dX5_takeBlock_41 (by decide) ?_
        refine z_icmp_gt (tgt := 100) C dX5_takeBlock_43 (by decide) (fun h43 => ?_) (fun h43 => ?_)
        · skip
          rcases b with _ | P
          · skip
            refine z_lv (lv' := [(2, .int (bI (decide (r.1 2 = 0)))), (3, .int ((-1 : Int32))), (0, .ref (base + 16)), (1, .int (nI k))]) [4, 1, 2, 3] rfl ?_
            have hbe : True := trivial
            refine z_iload_n C dX5_takeBlock_100 rfl 0 rfl ?_
            refine z_if_ne (tgt := 108) C dX5_takeBlock_101 (by decide) (fun h101 => ?_) (fun h101 => ?_)
            · skip
              refine z_aload_n C dX5_takeBlock_108 rfl 2 rfl ?_
              refine z_dup C dX5_takeBlock_109 rfl ?_
              refine z_get C fl_X5_85 dX5_takeBlock_110 rfl rfl ?_
              refine z_iconst (v := 1) C dX5_takeBlock_113 (by decide) ?_
              refine z_iadd C dX5_takeBlock_114 ?_
              refine z_put C fl_X5_85 fp_X5 rfl dX5_takeBlock_115 rfl (by simp) rfl rfl ?_
              refine z_iconst (v := -1) C dX5_takeBlock_118 (by decide) ?_
              exact z_iret C hrt rfl dX5_takeBlock_119 (by decide) (by decide) (⟨by rw [show r_tk r k = none by unfold r_tk; first | rw [if_pos (bI_ne h101)] | (rw [if_neg (bI_eq h101), hv, show o = 7 by rcases Nat.lt_or_ge o 7 with q9 | q9; exact absurd h43 (nI_nlt (a := 6) (b := o) (by omega) (by decide)); omega]; rfl)]; rfl, by unfold r_tks; rw [show r_tk r k = none by unfold r_tk; first | rw [if_pos (bI_ne h101)] | (rw [if_neg (bI_eq h101), hv, show o = 7 by rcases Nat.lt_or_ge o 7 with q9 | q9; exact absurd h43 (nI_nlt (a := 6) (b := o) (by omega) (by decide)); omega]; rfl)]; rfl⟩)
            · skip
              refine z_iload_n C dX5_takeBlock_104 rfl 1 rfl ?_
              refine z_if_ge (tgt := 120) C dX5_takeBlock_105 (by decide) (fun h105 => absurd h105 (by decide)) (fun h105 => ?_)
              refine z_aload_n C dX5_takeBlock_108 rfl 2 rfl ?_
              refine z_dup C dX5_takeBlock_109 rfl ?_
              refine z_get C fl_X5_85 dX5_takeBlock_110 rfl rfl ?_
              refine z_iconst (v := 1) C dX5_takeBlock_113 (by decide) ?_
              refine z_iadd C dX5_takeBlock_114 ?_
              refine z_put C fl_X5_85 fp_X5 rfl dX5_takeBlock_115 rfl (by simp) rfl rfl ?_
              refine z_iconst (v := -1) C dX5_takeBlock_118 (by decide) ?_
              exact z_iret C hrt rfl dX5_takeBlock_119 (by decide) (by decide) (⟨by rw [show r_tk r k = none by unfold r_tk; first | rw [if_pos (bI_ne h101)] | (rw [if_neg (bI_eq h101), hv, show o = 7 by rcases Nat.lt_or_ge o 7 with q9 | q9; exact absurd h43 (nI_nlt (a := 6) (b := o) (by omega) (by decide)); omega]; rfl)]; rfl, by unfold r_tks; rw [show r_tk r k = none by unfold r_tk; first | rw [if_pos (bI_ne h101)] | (rw [if_neg (bI_eq h101), hv, show o = 7 by rcases Nat.lt_or_ge o 7 with q9 | q9; exact absurd h43 (nI_nlt (a := 6) (b := o) (by omega) (by decide)); omega]; rfl)]; rfl⟩)
          · skip
            refine z_lv (lv' := [(2, .int (bI (decide (r.1 2 = 0)))), (3, .int (nI P)), (0, .ref (base + 16)), (1, .int (nI k))]) [4, 1, 2, 3] rfl ?_
            have hbe : True := trivial
            refine z_iload_n C dX5_takeBlock_100 rfl 0 rfl ?_
            refine z_if_ne (tgt := 108) C dX5_takeBlock_101 (by decide) (fun h101 => ?_) (fun h101 => ?_)
            · skip
              refine z_aload_n C dX5_takeBlock_108 rfl 2 rfl ?_
              refine z_dup C dX5_takeBlock_109 rfl ?_
              refine z_get C fl_X5_85 dX5_takeBlock_110 rfl rfl ?_
              refine z_iconst (v := 1) C dX5_takeBlock_113 (by decide) ?_
              refine z_iadd C dX5_takeBlock_114 ?_
              refine z_put C fl_X5_85 fp_X5 rfl dX5_takeBlock_115 rfl (by simp) rfl rfl ?_
              refine z_iconst (v := -1) C dX5_takeBlock_118 (by decide) ?_
              exact z_iret C hrt rfl dX5_takeBlock_119 (by decide) (by decide) (⟨by rw [show r_tk r k = none by unfold r_tk; first | rw [if_pos (bI_ne h101)] | (rw [if_neg (bI_eq h101), hv, show o = 7 by rcases Nat.lt_or_ge o 7 with q9 | q9; exact absurd h43 (nI_nlt (a := 6) (b := o) (by omega) (by decide)); omega]; rfl)]; rfl, by unfold r_tks; rw [show r_tk r k = none by unfold r_tk; first | rw [if_pos (bI_ne h101)] | (rw [if_neg (bI_eq h101), hv, show o = 7 by rcases Nat.lt_or_ge o 7 with q9 | q9; exact absurd h43 (nI_nlt (a := 6) (b := o) (by omega) (by decide)); omega]; rfl)]; rfl⟩)
            · skip
              refine z_iload_n C dX5_takeBlock_104 rfl 1 rfl ?_
              refine z_if_ge (tgt := 120) C dX5_takeBlock_105 (by decide) (fun h105 => ?_) (fun h105 => absurd h105 (fun q => q (nI_pos' (by have := hb P rfl; omega))))
              have hPl : P < 256 := hb P rfl
              have hbs := r_best_some (7 - k) k P hv
              have hPf : r_free r P = true := hbs.2.1
              have hPo := hoo P
              refine z_aload_n C dX5_takeBlock_120 rfl 2 rfl ?_
              refine z_get C fl_X5_20 dX5_takeBlock_121 rfl rfl ?_
              refine z_iload_n C dX5_takeBlock_124 rfl 1 rfl ?_
              refine z_ialdK C dX5_takeBlock_125 rfl (by omega) (by decide) ?_
              refine z_casti (y := nI (k + (r.2.1 2 P - k))) (by rw [show k + (r.2.1 2 P - k) = r.2.1 2 P by omega]) ?_
              refine z_istore (lv' := [(4, .int (nI (k + (r.2.1 2 P - k)))), (2, .int (bI (decide (r.1 2 = 0)))), (3, .int (nI P)), (0, .ref (base + 16)), (1, .int (nI k))]) C dX5_takeBlock_126 (by decide) rfl ?_
              refine z_lv (lv' := [(4, .int (nI (k + (r.2.1 2 P - k)))), (3, .int (nI P)), (0, .ref (base + 16)), (1, .int (nI k))]) [0, 2, 3, 4] rfl ?_
              have loop3 : ∀ (n : Nat) (y : Nat) (r1 : r_T), (k + y ≤ 6) → (y + 1 ≤ n) → (P + 2 ^ (k + y) ≤ 256) → (∀ p, r1.2.1 1 p < 256) → (∀ p, r1.2.1 2 p ≤ 6) → (r_split P k y r1 = r_split P k (r.2.1 2 P - k) (upd r.1 2 (r_arm (r.1 2)), r.2)) → z_R p l e (z_rm 4 0 0) s m ([Value.ref (base + 16), .int (nI k)] : List Value).toArray below meth c (MQ below (z_Qc G base (fun v hp' => v = some (.int (oI (r_tk r k))) ∧ hp' = hpM G base xs (r_tks r k) tl)) ([Value.ref (base + 16), .int (nI k)] : List Value).toArray s 0 0 (fun z => base ≤ z)) G base 6 0 0 128 [(4, .int (nI (k + y))), (3, .int (nI P)), (0, .ref (base + 16)), (1, .int (nI k))] [] (hpM G base xs r1 tl) := by
                intro n
                induction n with
                | zero => intro y r1 hy hn0 hpw hfo1 hoo1 hv2; exact absurd hn0 (by omega)
                | succ n ih =>
                  intro y r1 hy hn0 hpw hfo1 hoo1 hv2
                  refine z_iload C dX5_takeBlock_128 0 rfl ?_
                  refine z_iload_n C dX5_takeBlock_130 rfl 3 rfl ?_
                  refine z_icmp_le (tgt := 153) C dX5_takeBlock_131 (by decide) (fun h131 => ?_) (fun h131 => ?_)
                  · skip
                    have hy0 : y = 0 := by
                      rcases Nat.eq_zero_or_pos y with q9 | q9
                      · exact q9
                      · exact absurd h131 (nI_ge (by omega) (by omega))
                    refine z_aload_n C dX5_takeBlock_153 rfl 2 rfl ?_
                    refine z_iload_n C dX5_takeBlock_154 rfl 1 rfl ?_
                    refine z_iload_n C dX5_takeBlock_155 rfl 3 rfl ?_
                    refine z_iconst (v := 1) C dX5_takeBlock_156 (by decide) ?_
                    refine z_callV (rest := []) C (m_X5_makeBlock l G base xs r1 tl P k 1 (by omega) (by rw [hy0] at hpw; exact hpw) rfl) ml_X5_70 kw_X5_makeBlock rfl rfl rfl rfl (by simp [Value.category]) dX5_takeBlock_157 (by decide) (by decide) (by decide) (by decide) ?_
                    rintro _ _ ⟨rfl, rfl⟩
                    refine z_st (st' := []) rfl ?_
                    have hfo2 := r_mk_fo (b := 1) (k := k) hfo1 hPl
                    have hoo2 := r_mk_oo (P := P) (b := 1) hoo1 hk
                    have hgot : r_mk r1 P k 1 = r_got (upd r.1 2 (r_arm (r.1 2)), r.2) P k := by unfold r_got; rw [show r1 = r_split P k 0 r1 from rfl, ← hy0, hv2]
                    have hsc : (r_mk r1 P k 1).1 = upd r.1 2 (r_arm (r.1 2)) := by rw [hgot]; exact r_got_sc _ _ _
                    refine z_aload_n C dX5_takeBlock_160 rfl 2 rfl ?_
                    refine z_dup C dX5_takeBlock_161 rfl ?_
                    refine z_get C fl_X5_88 dX5_takeBlock_162 rfl rfl ?_
                    refine z_iconst (v := 1) C dX5_takeBlock_165 (by decide) ?_
                    refine z_iadd C dX5_takeBlock_166 ?_
                    refine z_put C fl_X5_88 fp_X5 rfl dX5_takeBlock_167 rfl (by simp) rfl rfl ?_
                    refine z_hp (hp' := hpM G base xs (upd (r_mk r1 P k 1).1 4 ((r_mk r1 P k 1).1 4 + 1), (r_mk r1 P k 1).2) tl) (rfl) ?_
                    refine z_aload_n C dX5_takeBlock_170 rfl 2 rfl ?_
                    refine z_callV (rest := []) C (m_X5_usablePages l G base xs (upd (r_mk r1 P k 1).1 4 ((r_mk r1 P k 1).1 4 + 1), (r_mk r1 P k 1).2) tl) ml_X5_74 kw_X5_usablePages rfl rfl rfl rfl (by simp [Value.category]) dX5_takeBlock_171 (by decide) (by decide) (by decide) (by decide) ?_
                    rintro _ _ ⟨rfl, rfl⟩
                    refine z_st (st' := [.int (nI (r_sum (fun p => if (r_mk r1 P k 1).2.2 0 p = 0 then 0 else 1) 256))]) rfl ?_
                    refine z_aload_n C dX5_takeBlock_174 rfl 2 rfl ?_
                    refine z_callV (rest := [.int (nI (r_sum (fun p => if (r_mk r1 P k 1).2.2 0 p = 0 then 0 else 1) 256))]) C (m_X5_freePageCount l G base xs (upd (r_mk r1 P k 1).1 4 ((r_mk r1 P k 1).1 4 + 1), (r_mk r1 P k 1).2) tl hfo2 hoo2) ml_X5_91 kw_X5_freePageCount rfl rfl rfl rfl (by simp [Value.category]) dX5_takeBlock_175 (by decide) (by decide) (by decide) (by decide) ?_
                    rintro _ _ ⟨rfl, rfl⟩
                    refine z_st (st' := [.int (nI (r_sum (fun p => if r_free (r_mk r1 P k 1) p = true then 2 ^ (r_mk r1 P k 1).2.1 2 p else 0) 256)), .int (nI (r_sum (fun p => if (r_mk r1 P k 1).2.2 0 p = 0 then 0 else 1) 256))]) rfl ?_
                    refine z_isub C dX5_takeBlock_178 ?_
                    refine z_casti (y := r_used (r_mk r1 P k 1)) (rfl) ?_
                    refine z_istore (lv' := [(5, .int (r_used (r_mk r1 P k 1))), (4, .int (nI (k + y))), (3, .int (nI P)), (0, .ref (base + 16)), (1, .int (nI k))]) C dX5_takeBlock_179 (by decide) rfl ?_
                    refine z_aload_n C dX5_takeBlock_181 rfl 3 rfl ?_
                    refine z_iload C dX5_takeBlock_182 0 rfl ?_
                    refine z_aload_n C dX5_takeBlock_184 rfl 3 rfl ?_
                    refine z_get C fl_X5_94 dX5_takeBlock_185 rfl rfl ?_
                    refine z_icmp_le (tgt := 196) C dX5_takeBlock_188 (by decide) (fun h188 => ?_) (fun h188 => ?_)
                    · skip
                      refine z_aload_n C dX5_takeBlock_196 rfl 3 rfl ?_
                      refine z_get C fl_X5_94 dX5_takeBlock_197 rfl rfl ?_
                      refine z_casti (y := (if r.1 6 < r_used (r_mk r1 P k 1) then r_used (r_mk r1 P k 1) else r.1 6)) (by
                        have e6 : (r_mk r1 P k 1).1 6 = r.1 6 := by rw [hsc]; rfl
                        first | (rw [if_neg (Int32.not_lt.mpr (by rw [← e6]; exact h188))]; exact e6) | rw [if_pos (by rw [← e6]; exact Int32.not_le.mp h188)]) ?_
                      refine z_put C fl_X5_94 fp_X5 rfl dX5_takeBlock_200 rfl (by simp) rfl rfl ?_
                      refine z_iload_n C dX5_takeBlock_203 rfl 2 rfl ?_
                      exact z_iret C hrt rfl dX5_takeBlock_204 (by decide) (by decide) (⟨by rw [show r_tk r k = some P by unfold r_tk; rw [if_neg (bI_eq h101)]; exact hv]; rfl, by unfold r_tks; rw [show r_tk r k = some P by unfold r_tk; rw [if_neg (bI_eq h101)]; exact hv]; show _ = hpM G base xs (upd (upd (r_got (upd r.1 2 (r_arm (r.1 2)), r.2) P k).1 4 (r.1 4 + 1)) 6 (if r.1 6 < r_used (r_got (upd r.1 2 (r_arm (r.1 2)), r.2) P k) then r_used (r_got (upd r.1 2 (r_arm (r.1 2)), r.2) P k) else r.1 6), (r_got (upd r.1 2 (r_arm (r.1 2)), r.2) P k).2) tl; rw [← hgot, show (r.1 4 : Int32) = (r_mk r1 P k 1).1 4 by rw [hsc]; rfl]; rfl⟩)
                    · skip
                      refine z_iload C dX5_takeBlock_191 0 rfl ?_
                      refine z_goto (tgt := 200) C dX5_takeBlock_193 (by decide) ?_
                      refine z_casti (y := (if r.1 6 < r_used (r_mk r1 P k 1) then r_used (r_mk r1 P k 1) else r.1 6)) (by
                        have e6 : (r_mk r1 P k 1).1 6 = r.1 6 := by rw [hsc]; rfl
                        first | (rw [if_neg (Int32.not_lt.mpr (by rw [← e6]; exact h188))]; exact e6) | rw [if_pos (by rw [← e6]; exact Int32.not_le.mp h188)]) ?_
                      refine z_put C fl_X5_94 fp_X5 rfl dX5_takeBlock_200 rfl (by simp) rfl rfl ?_
                      refine z_iload_n C dX5_takeBlock_203 rfl 2 rfl ?_
                      exact z_iret C hrt rfl dX5_takeBlock_204 (by decide) (by decide) (⟨by rw [show r_tk r k = some P by unfold r_tk; rw [if_neg (bI_eq h101)]; exact hv]; rfl, by unfold r_tks; rw [show r_tk r k = some P by unfold r_tk; rw [if_neg (bI_eq h101)]; exact hv]; show _ = hpM G base xs (upd (upd (r_got (upd r.1 2 (r_arm (r.1 2)), r.2) P k).1 4 (r.1 4 + 1)) 6 (if r.1 6 < r_used (r_got (upd r.1 2 (r_arm (r.1 2)), r.2) P k) then r_used (r_got (upd r.1 2 (r_arm (r.1 2)), r.2) P k) else r.1 6), (r_got (upd r.1 2 (r_arm (r.1 2)), r.2) P k).2) tl; rw [← hgot, show (r.1 4 : Int32) = (r_mk r1 P k 1).1 4 by rw [hsc]; rfl]; rfl⟩)
                  · skip
                    obtain ⟨y1, rfl⟩ : ∃ y1, y = y1 + 1 := by
                      cases y with
                      | zero => exact absurd (nI_le (Nat.le_refl k) (by omega)) h131
                      | succ y1 => exact ⟨y1, rfl⟩
                    refine z_iinc (k := 0) (v := nI (k + y1)) (lv' := [(4, .int (nI (k + y1))), (3, .int (nI P)), (0, .ref (base + 16)), (1, .int (nI k))]) C dX5_takeBlock_134 rfl (by rw [add_m1]; exact nI_pred _) (by decide) rfl ?_
                    refine z_aload_n C dX5_takeBlock_137 rfl 2 rfl ?_
                    refine z_iload_n C dX5_takeBlock_138 rfl 1 rfl ?_
                    refine z_iconst (v := 1) C dX5_takeBlock_139 (by decide) ?_
                    refine z_iload C dX5_takeBlock_140 0 rfl ?_
                    refine z_ishl C dX5_takeBlock_142 ?_
                    refine z_casti (y := nI (2 ^ (k + y1))) (nI_1lt _ (by omega)) ?_
                    refine z_iadd C dX5_takeBlock_143 ?_
                    refine z_casti (y := nI (P + 2 ^ (k + y1))) (nI_add _ _) ?_
                    refine z_iload C dX5_takeBlock_144 0 rfl ?_
                    refine z_iconst (v := 0) C dX5_takeBlock_146 (by decide) ?_
                    refine z_callV (rest := []) C (m_X5_makeBlock l G base xs r1 tl (P + 2 ^ (k + y1)) (k + y1) 0 (by omega) (by rw [show k + (y1 + 1) = (k + y1) + 1 from rfl, Nat.pow_succ] at hpw; omega) rfl) ml_X5_70 kw_X5_makeBlock rfl rfl rfl rfl (by simp [Value.category]) dX5_takeBlock_147 (by decide) (by decide) (by decide) (by decide) ?_
                    rintro _ _ ⟨rfl, rfl⟩
                    refine z_st (st' := []) rfl ?_
                    refine z_goto (tgt := 128) C dX5_takeBlock_150 (by decide) ?_
                    refine z_lv (lv' := [(4, .int (nI (k + y1))), (3, .int (nI P)), (0, .ref (base + 16)), (1, .int (nI k))]) [0, 1, 2, 3] rfl ?_
                    exact ih y1 _ (by omega) (by omega) (by rw [show k + (y1 + 1) = (k + y1) + 1 from rfl, Nat.pow_succ] at hpw; omega) (r_mk_fo hfo1 (by have := Nat.two_pow_pos (k + y1); rw [show k + (y1 + 1) = (k + y1) + 1 from rfl, Nat.pow_succ] at hpw; omega)) (r_mk_oo hoo1 (by omega)) (by rw [← hv2]; rfl)
              exact loop3 7 (r.2.1 2 P - k) (upd r.1 2 (r_arm (r.1 2)), r.2) (by omega) (by omega) (by rw [show k + (r.2.1 2 P - k) = r.2.1 2 P by omega]; exact hal P hPl (by exact hPf)) hfo hoo rfl
        · skip
          have ho6 : o ≤ 6 := by
            rcases Nat.lt_or_ge o 7 with q9 | q9
            · omega
            · exact absurd (nI_lt (a := 6) (b := o) (by omega) (by omega)) h43
          rcases b with _ | P
          · skip
            refine z_iload_n C dX5_takeBlock_46 rfl 1 rfl ?_
            refine z_if_ge (tgt := 100) C dX5_takeBlock_47 (by decide) (fun h47 => absurd h47 (by decide)) (fun h47 => ?_)
            refine z_sipush (v := 255) C dX5_takeBlock_50 (by decide) ?_
            refine z_casti (y := (nI 256 - 1)) (by decide) ?_
            refine z_istore (lv' := [(5, .int ((nI 256 - 1))), (4, .int (nI o)), (3, .int ((-1 : Int32))), (0, .ref (base + 16)), (1, .int (nI k)), (2, .int (bI (decide (r.1 2 = 0))))]) C dX5_takeBlock_53 (by decide) rfl ?_
            refine z_lv (lv' := [(5, .int ((nI 256 - 1))), (3, .int ((-1 : Int32))), (0, .ref (base + 16)), (1, .int (nI k)), (2, .int (bI (decide (r.1 2 = 0)))), (4, .int (nI o))]) [0, 2, 3, 4, 5, 1] rfl ?_
            have loop2 : ∀ (n : Nat) (y : Nat) (b1 : Option Nat), (y ≤ 256) → (y + 1 ≤ n) → (∀ p, b1 = some p → p < 256) → (r_low (fun p => decide (r_free r p = true ∧ r.2.1 2 p = o)) y b1 = r_low (fun p => decide (r_free r p = true ∧ r.2.1 2 p = o)) 256 none) → z_R p l e (z_rm 4 0 0) s m ([Value.ref (base + 16), .int (nI k)] : List Value).toArray below meth c (MQ below (z_Qc G base (fun v hp' => v = some (.int (oI (r_tk r k))) ∧ hp' = hpM G base xs (r_tks r k) tl)) ([Value.ref (base + 16), .int (nI k)] : List Value).toArray s 0 0 (fun z => base ≤ z)) G base 6 0 0 55 [(5, .int ((nI y - 1))), (3, .int (oI b1)), (0, .ref (base + 16)), (1, .int (nI k)), (2, .int (bI (decide (r.1 2 = 0)))), (4, .int (nI o))] [] (hpM G base xs (upd r.1 2 (r_arm (r.1 2)), r.2) tl) := by
              intro n
              induction n with
              | zero => intro y b1 hy hn0 hb1 hlv; exact absurd hn0 (by omega)
              | succ n ih =>
                intro y b1 hy hn0 hb1 hlv
                have ihi := ih
                refine z_iload C dX5_takeBlock_55 0 rfl ?_
                refine z_if_lt (tgt := 94) C dX5_takeBlock_57 (by decide) (fun h57 => ?_) (fun h57 => ?_)
                · skip
                  have hy0 : y = 0 := by
                    rcases Nat.eq_zero_or_pos y with q9 | q9
                    · exact q9
                    · exact absurd h57 (by rw [show nI y - 1 = nI (y - 1) from pk_sub (b := 1) q9]; exact nI_pos (by omega))
                  subst hy0
                  have hlv0 : b1 = r_low (fun p => decide (r_free r p = true ∧ r.2.1 2 p = o)) 256 none := hlv
                  have hb2 : ∀ p, b1 = some p → p < 256 := hb1
                  have hbv : r_best r (7 - k) k = r_or b1 (r_best r (7 - (o + 1)) (o + 1)) := by
                    rw [hv, hlv0, show 7 - o = (7 - (o + 1)) + 1 by omega]
                    rfl
                  refine z_iinc (k := 5) (v := nI (o + 1)) (lv' := [(4, .int (nI (o + 1))), (5, .int ((nI 0 - 1))), (3, .int (oI b1)), (0, .ref (base + 16)), (1, .int (nI k)), (2, .int (bI (decide (r.1 2 = 0))))]) C dX5_takeBlock_94 rfl (nI_1 o) (by decide) rfl ?_
                  refine z_goto (tgt := 39) C dX5_takeBlock_97 (by decide) ?_
                  refine z_lv (lv' := [(4, .int (nI (o + 1))), (3, .int (oI b1)), (0, .ref (base + 16)), (1, .int (nI k)), (2, .int (bI (decide (r.1 2 = 0))))]) [0, 2, 3, 4, 5] rfl ?_
                  exact iho (o + 1) _ (by omega) (by omega) hb2 hbv
                · skip
                  obtain ⟨y1, rfl⟩ : ∃ y1, y = y1 + 1 := by
                    cases y with
                    | zero => exact absurd (by decide) h57
                    | succ y1 => exact ⟨y1, rfl⟩
                  refine z_lvq (lv' := [(5, .int (nI y1)), (3, .int (oI b1)), (0, .ref (base + 16)), (1, .int (nI k)), (2, .int (bI (decide (r.1 2 = 0)))), (4, .int (nI o))]) (by rw [show nI (y1 + 1) - 1 = nI y1 from nI_pred _]) ?_
                  refine z_aload_n C dX5_takeBlock_60 rfl 2 rfl ?_
                  refine z_iload C dX5_takeBlock_61 0 rfl ?_
                  refine z_callV (rest := []) C (m_X5_isFree l G base xs (upd r.1 2 (r_arm (r.1 2)), r.2) tl hfo y1 (by omega)) ml_X5_82 kw_X5_isFree rfl rfl rfl rfl (by simp [Value.category]) dX5_takeBlock_63 (by decide) (by decide) (by decide) (by decide) ?_
                  rintro _ _ ⟨rfl, rfl⟩
                  refine z_st (st' := [.int ((bI (r_free r y1)))]) rfl ?_
                  refine z_if_eq (tgt := 86) C dX5_takeBlock_66 (by decide) (fun h66 => ?_) (fun h66 => ?_)
                  · skip
                    refine z_iload_n C dX5_takeBlock_86 rfl 1 rfl ?_
                    refine z_casti (y := oI (if decide (r_free r y1 = true ∧ r.2.1 2 y1 = o) then some y1 else b1)) (by first | (rw [if_pos (decide_eq_true ⟨bI_nt h66, (nI_eq (by have := hoo y1; omega) (by omega)).mp h78⟩)]; rfl) | rw [if_neg (by rw [decide_eq_true_iff]; first | (rw [bI_ff h66]; exact fun q => Bool.noConfusion q.1) | exact fun q => h78 (by rw [q.2]))]) ?_
                    have hb3 : ∀ p, (if decide (r_free r y1 = true ∧ r.2.1 2 y1 = o) then some y1 else b1) = some p → p < 256 := fun p h => by
                      split at h
                      · cases h; omega
                      · exact hb1 p h
                    refine z_istore_n (lv' := [(3, .int (oI (if decide (r_free r y1 = true ∧ r.2.1 2 y1 = o) then some y1 else b1))), (5, .int (nI y1)), (0, .ref (base + 16)), (1, .int (nI k)), (2, .int (bI (decide (r.1 2 = 0)))), (4, .int (nI o))]) C dX5_takeBlock_87 rfl (by decide) rfl ?_
                    refine z_iinc (k := 1) (v := (nI y1 - 1)) (lv' := [(5, .int ((nI y1 - 1))), (3, .int (oI (if decide (r_free r y1 = true ∧ r.2.1 2 y1 = o) then some y1 else b1))), (0, .ref (base + 16)), (1, .int (nI k)), (2, .int (bI (decide (r.1 2 = 0)))), (4, .int (nI o))]) C dX5_takeBlock_88 rfl (add_m1 _) (by decide) rfl ?_
                    refine z_goto (tgt := 55) C dX5_takeBlock_91 (by decide) ?_
                    refine z_lv (lv' := [(5, .int ((nI y1 - 1))), (3, .int (oI (if decide (r_free r y1 = true ∧ r.2.1 2 y1 = o) then some y1 else b1))), (0, .ref (base + 16)), (1, .int (nI k)), (2, .int (bI (decide (r.1 2 = 0)))), (4, .int (nI o))]) [0, 1, 2, 3, 4, 5] rfl ?_
                    exact ihi y1 _ (by omega) (by omega) hb3 (by rw [← hlv]; rfl)
                  · skip
                    refine z_aload_n C dX5_takeBlock_69 rfl 2 rfl ?_
                    refine z_get C fl_X5_20 dX5_takeBlock_70 rfl rfl ?_
                    refine z_iload C dX5_takeBlock_73 0 rfl ?_
                    refine z_ialdK C dX5_takeBlock_75 rfl (by omega) (by decide) ?_
                    refine z_iload C dX5_takeBlock_76 5 rfl ?_
                    refine z_icmp_ne (tgt := 86) C dX5_takeBlock_78 (by decide) (fun h78 => ?_) (fun h78 => ?_)
                    · skip
                      refine z_iload_n C dX5_takeBlock_86 rfl 1 rfl ?_
                      refine z_casti (y := oI (if decide (r_free r y1 = true ∧ r.2.1 2 y1 = o) then some y1 else b1)) (by first | (rw [if_pos (decide_eq_true ⟨bI_nt h66, (nI_eq (by have := hoo y1; omega) (by omega)).mp h78⟩)]; rfl) | rw [if_neg (by rw [decide_eq_true_iff]; first | (rw [bI_ff h66]; exact fun q => Bool.noConfusion q.1) | exact fun q => h78 (by rw [q.2]))]) ?_
                      have hb3 : ∀ p, (if decide (r_free r y1 = true ∧ r.2.1 2 y1 = o) then some y1 else b1) = some p → p < 256 := fun p h => by
                        split at h
                        · cases h; omega
                        · exact hb1 p h
                      refine z_istore_n (lv' := [(3, .int (oI (if decide (r_free r y1 = true ∧ r.2.1 2 y1 = o) then some y1 else b1))), (5, .int (nI y1)), (0, .ref (base + 16)), (1, .int (nI k)), (2, .int (bI (decide (r.1 2 = 0)))), (4, .int (nI o))]) C dX5_takeBlock_87 rfl (by decide) rfl ?_
                      refine z_iinc (k := 1) (v := (nI y1 - 1)) (lv' := [(5, .int ((nI y1 - 1))), (3, .int (oI (if decide (r_free r y1 = true ∧ r.2.1 2 y1 = o) then some y1 else b1))), (0, .ref (base + 16)), (1, .int (nI k)), (2, .int (bI (decide (r.1 2 = 0)))), (4, .int (nI o))]) C dX5_takeBlock_88 rfl (add_m1 _) (by decide) rfl ?_
                      refine z_goto (tgt := 55) C dX5_takeBlock_91 (by decide) ?_
                      refine z_lv (lv' := [(5, .int ((nI y1 - 1))), (3, .int (oI (if decide (r_free r y1 = true ∧ r.2.1 2 y1 = o) then some y1 else b1))), (0, .ref (base + 16)), (1, .int (nI k)), (2, .int (bI (decide (r.1 2 = 0)))), (4, .int (nI o))]) [0, 1, 2, 3, 4, 5] rfl ?_
                      exact ihi y1 _ (by omega) (by omega) hb3 (by rw [← hlv]; rfl)
                    · skip
                      refine z_iload C dX5_takeBlock_81 0 rfl ?_
                      refine z_goto (tgt := 87) C dX5_takeBlock_83 (by decide) ?_
                      refine z_casti (y := oI (if decide (r_free r y1 = true ∧ r.2.1 2 y1 = o) then some y1 else b1)) (by first | (rw [if_pos (decide_eq_true ⟨bI_nt h66, (nI_eq (by have := hoo y1; omega) (by omega)).mp h78⟩)]; rfl) | rw [if_neg (by rw [decide_eq_true_iff]; first | (rw [bI_ff h66]; exact fun q => Bool.noConfusion q.1) | exact fun q => h78 (by rw [q.2]))]) ?_
                      have hb3 : ∀ p, (if decide (r_free r y1 = true ∧ r.2.1 2 y1 = o) then some y1 else b1) = some p → p < 256 := fun p h => by
                        split at h
                        · cases h; omega
                        · exact hb1 p h
                      refine z_istore_n (lv' := [(3, .int (oI (if decide (r_free r y1 = true ∧ r.2.1 2 y1 = o) then some y1 else b1))), (5, .int (nI y1)), (0, .ref (base + 16)), (1, .int (nI k)), (2, .int (bI (decide (r.1 2 = 0)))), (4, .int (nI o))]) C dX5_takeBlock_87 rfl (by decide) rfl ?_
                      refine z_iinc (k := 1) (v := (nI y1 - 1)) (lv' := [(5, .int ((nI y1 - 1))), (3, .int (oI (if decide (r_free r y1 = true ∧ r.2.1 2 y1 = o) then some y1 else b1))), (0, .ref (base + 16)), (1, .int (nI k)), (2, .int (bI (decide (r.1 2 = 0)))), (4, .int (nI o))]) C dX5_takeBlock_88 rfl (add_m1 _) (by decide) rfl ?_
                      refine z_goto (tgt := 55) C dX5_takeBlock_91 (by decide) ?_
                      refine z_lv (lv' := [(5, .int ((nI y1 - 1))), (3, .int (oI (if decide (r_free r y1 = true ∧ r.2.1 2 y1 = o) then some y1 else b1))), (0, .ref (base + 16)), (1, .int (nI k)), (2, .int (bI (decide (r.1 2 = 0)))), (4, .int (nI o))]) [0, 1, 2, 3, 4, 5] rfl ?_
                      exact ihi y1 _ (by omega) (by omega) hb3 (by rw [← hlv]; rfl)
            exact loop2 257 256 none (by omega) (by omega) (fun p h => by cases h) rfl
          · skip
            refine z_iload_n C dX5_takeBlock_46 rfl 1 rfl ?_
            refine z_if_ge (tgt := 100) C dX5_takeBlock_47 (by decide) (fun h47 => ?_) (fun h47 => absurd h47 (fun q => q (nI_pos' (by have := hb P rfl; omega))))
            refine z_lv (lv' := [(2, .int (bI (decide (r.1 2 = 0)))), (3, .int (nI P)), (0, .ref (base + 16)), (1, .int (nI k))]) [4, 1, 2, 3] rfl ?_
            have hbe : True := trivial
            refine z_iload_n C dX5_takeBlock_100 rfl 0 rfl ?_
            refine z_if_ne (tgt := 108) C dX5_takeBlock_101 (by decide) (fun h101 => ?_) (fun h101 => ?_)
            · skip
              refine z_aload_n C dX5_takeBlock_108 rfl 2 rfl ?_
              refine z_dup C dX5_takeBlock_109 rfl ?_
              refine z_get C fl_X5_85 dX5_takeBlock_110 rfl rfl ?_
              refine z_iconst (v := 1) C dX5_takeBlock_113 (by decide) ?_
              refine z_iadd C dX5_takeBlock_114 ?_
              refine z_put C fl_X5_85 fp_X5 rfl dX5_takeBlock_115 rfl (by simp) rfl rfl ?_
              refine z_iconst (v := -1) C dX5_takeBlock_118 (by decide) ?_
              exact z_iret C hrt rfl dX5_takeBlock_119 (by decide) (by decide) (⟨by rw [show r_tk r k = none by unfold r_tk; first | rw [if_pos (bI_ne h101)] | (rw [if_neg (bI_eq h101), hv, show o = 7 by rcases Nat.lt_or_ge o 7 with q9 | q9; exact absurd h43 (nI_nlt (a := 6) (b := o) (by omega) (by decide)); omega]; rfl)]; rfl, by unfold r_tks; rw [show r_tk r k = none by unfold r_tk; first | rw [if_pos (bI_ne h101)] | (rw [if_neg (bI_eq h101), hv, show o = 7 by rcases Nat.lt_or_ge o 7 with q9 | q9; exact absurd h43 (nI_nlt (a := 6) (b := o) (by omega) (by decide)); omega]; rfl)]; rfl⟩)
            · skip
              refine z_iload_n C dX5_takeBlock_104 rfl 1 rfl ?_
              refine z_if_ge (tgt := 120) C dX5_takeBlock_105 (by decide) (fun h105 => ?_) (fun h105 => absurd h105 (fun q => q (nI_pos' (by have := hb P rfl; omega))))
              have hPl : P < 256 := hb P rfl
              have hbs := r_best_some (7 - k) k P hv
              have hPf : r_free r P = true := hbs.2.1
              have hPo := hoo P
              refine z_aload_n C dX5_takeBlock_120 rfl 2 rfl ?_
              refine z_get C fl_X5_20 dX5_takeBlock_121 rfl rfl ?_
              refine z_iload_n C dX5_takeBlock_124 rfl 1 rfl ?_
              refine z_ialdK C dX5_takeBlock_125 rfl (by omega) (by decide) ?_
              refine z_casti (y := nI (k + (r.2.1 2 P - k))) (by rw [show k + (r.2.1 2 P - k) = r.2.1 2 P by omega]) ?_
              refine z_istore (lv' := [(4, .int (nI (k + (r.2.1 2 P - k)))), (2, .int (bI (decide (r.1 2 = 0)))), (3, .int (nI P)), (0, .ref (base + 16)), (1, .int (nI k))]) C dX5_takeBlock_126 (by decide) rfl ?_
              refine z_lv (lv' := [(4, .int (nI (k + (r.2.1 2 P - k)))), (3, .int (nI P)), (0, .ref (base + 16)), (1, .int (nI k))]) [0, 2, 3, 4] rfl ?_
              have loop3 : ∀ (n : Nat) (y : Nat) (r1 : r_T), (k + y ≤ 6) → (y + 1 ≤ n) → (P + 2 ^ (k + y) ≤ 256) → (∀ p, r1.2.1 1 p < 256) → (∀ p, r1.2.1 2 p ≤ 6) → (r_split P k y r1 = r_split P k (r.2.1 2 P - k) (upd r.1 2 (r_arm (r.1 2)), r.2)) → z_R p l e (z_rm 4 0 0) s m ([Value.ref (base + 16), .int (nI k)] : List Value).toArray below meth c (MQ below (z_Qc G base (fun v hp' => v = some (.int (oI (r_tk r k))) ∧ hp' = hpM G base xs (r_tks r k) tl)) ([Value.ref (base + 16), .int (nI k)] : List Value).toArray s 0 0 (fun z => base ≤ z)) G base 6 0 0 128 [(4, .int (nI (k + y))), (3, .int (nI P)), (0, .ref (base + 16)), (1, .int (nI k))] [] (hpM G base xs r1 tl) := by
                intro n
                induction n with
                | zero => intro y r1 hy hn0 hpw hfo1 hoo1 hv2; exact absurd hn0 (by omega)
                | succ n ih =>
                  intro y r1 hy hn0 hpw hfo1 hoo1 hv2
                  refine z_iload C dX5_takeBlock_128 0 rfl ?_
                  refine z_iload_n C dX5_takeBlock_130 rfl 3 rfl ?_
                  refine z_icmp_le (tgt := 153) C dX5_takeBlock_131 (by decide) (fun h131 => ?_) (fun h131 => ?_)
                  · skip
                    have hy0 : y = 0 := by
                      rcases Nat.eq_zero_or_pos y with q9 | q9
                      · exact q9
                      · exact absurd h131 (nI_ge (by omega) (by omega))
                    refine z_aload_n C dX5_takeBlock_153 rfl 2 rfl ?_
                    refine z_iload_n C dX5_takeBlock_154 rfl 1 rfl ?_
                    refine z_iload_n C dX5_takeBlock_155 rfl 3 rfl ?_
                    refine z_iconst (v := 1) C dX5_takeBlock_156 (by decide) ?_
                    refine z_callV (rest := []) C (m_X5_makeBlock l G base xs r1 tl P k 1 (by omega) (by rw [hy0] at hpw; exact hpw) rfl) ml_X5_70 kw_X5_makeBlock rfl rfl rfl rfl (by simp [Value.category]) dX5_takeBlock_157 (by decide) (by decide) (by decide) (by decide) ?_
                    rintro _ _ ⟨rfl, rfl⟩
                    refine z_st (st' := []) rfl ?_
                    have hfo2 := r_mk_fo (b := 1) (k := k) hfo1 hPl
                    have hoo2 := r_mk_oo (P := P) (b := 1) hoo1 hk
                    have hgot : r_mk r1 P k 1 = r_got (upd r.1 2 (r_arm (r.1 2)), r.2) P k := by unfold r_got; rw [show r1 = r_split P k 0 r1 from rfl, ← hy0, hv2]
                    have hsc : (r_mk r1 P k 1).1 = upd r.1 2 (r_arm (r.1 2)) := by rw [hgot]; exact r_got_sc _ _ _
                    refine z_aload_n C dX5_takeBlock_160 rfl 2 rfl ?_
                    refine z_dup C dX5_takeBlock_161 rfl ?_
                    refine z_get C fl_X5_88 dX5_takeBlock_162 rfl rfl ?_
                    refine z_iconst (v := 1) C dX5_takeBlock_165 (by decide) ?_
                    refine z_iadd C dX5_takeBlock_166 ?_
                    refine z_put C fl_X5_88 fp_X5 rfl dX5_takeBlock_167 rfl (by simp) rfl rfl ?_
                    refine z_hp (hp' := hpM G base xs (upd (r_mk r1 P k 1).1 4 ((r_mk r1 P k 1).1 4 + 1), (r_mk r1 P k 1).2) tl) (rfl) ?_
                    refine z_aload_n C dX5_takeBlock_170 rfl 2 rfl ?_
                    refine z_callV (rest := []) C (m_X5_usablePages l G base xs (upd (r_mk r1 P k 1).1 4 ((r_mk r1 P k 1).1 4 + 1), (r_mk r1 P k 1).2) tl) ml_X5_74 kw_X5_usablePages rfl rfl rfl rfl (by simp [Value.category]) dX5_takeBlock_171 (by decide) (by decide) (by decide) (by decide) ?_
                    rintro _ _ ⟨rfl, rfl⟩
                    refine z_st (st' := [.int (nI (r_sum (fun p => if (r_mk r1 P k 1).2.2 0 p = 0 then 0 else 1) 256))]) rfl ?_
                    refine z_aload_n C dX5_takeBlock_174 rfl 2 rfl ?_
                    refine z_callV (rest := [.int (nI (r_sum (fun p => if (r_mk r1 P k 1).2.2 0 p = 0 then 0 else 1) 256))]) C (m_X5_freePageCount l G base xs (upd (r_mk r1 P k 1).1 4 ((r_mk r1 P k 1).1 4 + 1), (r_mk r1 P k 1).2) tl hfo2 hoo2) ml_X5_91 kw_X5_freePageCount rfl rfl rfl rfl (by simp [Value.category]) dX5_takeBlock_175 (by decide) (by decide) (by decide) (by decide) ?_
                    rintro _ _ ⟨rfl, rfl⟩
                    refine z_st (st' := [.int (nI (r_sum (fun p => if r_free (r_mk r1 P k 1) p = true then 2 ^ (r_mk r1 P k 1).2.1 2 p else 0) 256)), .int (nI (r_sum (fun p => if (r_mk r1 P k 1).2.2 0 p = 0 then 0 else 1) 256))]) rfl ?_
                    refine z_isub C dX5_takeBlock_178 ?_
                    refine z_casti (y := r_used (r_mk r1 P k 1)) (rfl) ?_
                    refine z_istore (lv' := [(5, .int (r_used (r_mk r1 P k 1))), (4, .int (nI (k + y))), (3, .int (nI P)), (0, .ref (base + 16)), (1, .int (nI k))]) C dX5_takeBlock_179 (by decide) rfl ?_
                    refine z_aload_n C dX5_takeBlock_181 rfl 3 rfl ?_
                    refine z_iload C dX5_takeBlock_182 0 rfl ?_
                    refine z_aload_n C dX5_takeBlock_184 rfl 3 rfl ?_
                    refine z_get C fl_X5_94 dX5_takeBlock_185 rfl rfl ?_
                    refine z_icmp_le (tgt := 196) C dX5_takeBlock_188 (by decide) (fun h188 => ?_) (fun h188 => ?_)
                    · skip
                      refine z_aload_n C dX5_takeBlock_196 rfl 3 rfl ?_
                      refine z_get C fl_X5_94 dX5_takeBlock_197 rfl rfl ?_
                      refine z_casti (y := (if r.1 6 < r_used (r_mk r1 P k 1) then r_used (r_mk r1 P k 1) else r.1 6)) (by
                        have e6 : (r_mk r1 P k 1).1 6 = r.1 6 := by rw [hsc]; rfl
                        first | (rw [if_neg (Int32.not_lt.mpr (by rw [← e6]; exact h188))]; exact e6) | rw [if_pos (by rw [← e6]; exact Int32.not_le.mp h188)]) ?_
                      refine z_put C fl_X5_94 fp_X5 rfl dX5_takeBlock_200 rfl (by simp) rfl rfl ?_
                      refine z_iload_n C dX5_takeBlock_203 rfl 2 rfl ?_
                      exact z_iret C hrt rfl dX5_takeBlock_204 (by decide) (by decide) (⟨by rw [show r_tk r k = some P by unfold r_tk; rw [if_neg (bI_eq h101)]; exact hv]; rfl, by unfold r_tks; rw [show r_tk r k = some P by unfold r_tk; rw [if_neg (bI_eq h101)]; exact hv]; show _ = hpM G base xs (upd (upd (r_got (upd r.1 2 (r_arm (r.1 2)), r.2) P k).1 4 (r.1 4 + 1)) 6 (if r.1 6 < r_used (r_got (upd r.1 2 (r_arm (r.1 2)), r.2) P k) then r_used (r_got (upd r.1 2 (r_arm (r.1 2)), r.2) P k) else r.1 6), (r_got (upd r.1 2 (r_arm (r.1 2)), r.2) P k).2) tl; rw [← hgot, show (r.1 4 : Int32) = (r_mk r1 P k 1).1 4 by rw [hsc]; rfl]; rfl⟩)
                    · skip
                      refine z_iload C dX5_takeBlock_191 0 rfl ?_
                      refine z_goto (tgt := 200) C dX5_takeBlock_193 (by decide) ?_
                      refine z_casti (y := (if r.1 6 < r_used (r_mk r1 P k 1) then r_used (r_mk r1 P k 1) else r.1 6)) (by
                        have e6 : (r_mk r1 P k 1).1 6 = r.1 6 := by rw [hsc]; rfl
                        first | (rw [if_neg (Int32.not_lt.mpr (by rw [← e6]; exact h188))]; exact e6) | rw [if_pos (by rw [← e6]; exact Int32.not_le.mp h188)]) ?_
                      refine z_put C fl_X5_94 fp_X5 rfl dX5_takeBlock_200 rfl (by simp) rfl rfl ?_
                      refine z_iload_n C dX5_takeBlock_203 rfl 2 rfl ?_
                      exact z_iret C hrt rfl dX5_takeBlock_204 (by decide) (by decide) (⟨by rw [show r_tk r k = some P by unfold r_tk; rw [if_neg (bI_eq h101)]; exact hv]; rfl, by unfold r_tks; rw [show r_tk r k = some P by unfold r_tk; rw [if_neg (bI_eq h101)]; exact hv]; show _ = hpM G base xs (upd (upd (r_got (upd r.1 2 (r_arm (r.1 2)), r.2) P k).1 4 (r.1 4 + 1)) 6 (if r.1 6 < r_used (r_got (upd r.1 2 (r_arm (r.1 2)), r.2) P k) then r_used (r_got (upd r.1 2 (r_arm (r.1 2)), r.2) P k) else r.1 6), (r_got (upd r.1 2 (r_arm (r.1 2)), r.2) P k).2) tl; rw [← hgot, show (r.1 4 : Int32) = (r_mk r1 P k 1).1 4 by rw [hsc]; rfl]; rfl⟩)
                  · skip
                    obtain ⟨y1, rfl⟩ : ∃ y1, y = y1 + 1 := by
                      cases y with
                      | zero => exact absurd (nI_le (Nat.le_refl k) (by omega)) h131
                      | succ y1 => exact ⟨y1, rfl⟩
                    refine z_iinc (k := 0) (v := nI (k + y1)) (lv' := [(4, .int (nI (k + y1))), (3, .int (nI P)), (0, .ref (base + 16)), (1, .int (nI k))]) C dX5_takeBlock_134 rfl (by rw [add_m1]; exact nI_pred _) (by decide) rfl ?_
                    refine z_aload_n C dX5_takeBlock_137 rfl 2 rfl ?_
                    refine z_iload_n C dX5_takeBlock_138 rfl 1 rfl ?_
                    refine z_iconst (v := 1) C dX5_takeBlock_139 (by decide) ?_
                    refine z_iload C dX5_takeBlock_140 0 rfl ?_
                    refine z_ishl C dX5_takeBlock_142 ?_
                    refine z_casti (y := nI (2 ^ (k + y1))) (nI_1lt _ (by omega)) ?_
                    refine z_iadd C dX5_takeBlock_143 ?_
                    refine z_casti (y := nI (P + 2 ^ (k + y1))) (nI_add _ _) ?_
                    refine z_iload C dX5_takeBlock_144 0 rfl ?_
                    refine z_iconst (v := 0) C dX5_takeBlock_146 (by decide) ?_
                    refine z_callV (rest := []) C (m_X5_makeBlock l G base xs r1 tl (P + 2 ^ (k + y1)) (k + y1) 0 (by omega) (by rw [show k + (y1 + 1) = (k + y1) + 1 from rfl, Nat.pow_succ] at hpw; omega) rfl) ml_X5_70 kw_X5_makeBlock rfl rfl rfl rfl (by simp [Value.category]) dX5_takeBlock_147 (by decide) (by decide) (by decide) (by decide) ?_
                    rintro _ _ ⟨rfl, rfl⟩
                    refine z_st (st' := []) rfl ?_
                    refine z_goto (tgt := 128) C dX5_takeBlock_150 (by decide) ?_
                    refine z_lv (lv' := [(4, .int (nI (k + y1))), (3, .int (nI P)), (0, .ref (base + 16)), (1, .int (nI k))]) [0, 1, 2, 3] rfl ?_
                    exact ih y1 _ (by omega) (by omega) (by rw [show k + (y1 + 1) = (k + y1) + 1 from rfl, Nat.pow_succ] at hpw; omega) (r_mk_fo hfo1 (by have := Nat.two_pow_pos (k + y1); rw [show k + (y1 + 1) = (k + y1) + 1 from rfl, Nat.pow_succ] at hpw; omega)) (r_mk_oo hoo1 (by omega)) (by rw [← hv2]; rfl)
              exact loop3 7 (r.2.1 2 P - k) (upd r.1 2 (r_arm (r.1 2)), r.2) (by omega) (by omega) (by rw [show k + (r.2.1 2 P - k) = r.2.1 2 P by omega]; exact hal P hPl (by exact hPf)) hfo hoo rfl
    exact loop 8 k none (by omega) (by omega) (fun p h => by cases h) rfl
  refine z_aload_n C dX5_takeBlock_0 rfl 0 rfl ?_
  refine z_get C fl_X5_50 dX5_takeBlock_1 rfl rfl ?_
  refine z_if_ne (tgt := 11) C dX5_takeBlock_4 (by decide) (fun h4 => ?_) (fun h4 => ?_)
  · skip
    refine z_iconst (v := 0) C dX5_takeBlock_11 (by decide) ?_
    refine z_casti (y := bI (decide (r.1 2 = 0))) (by first | exact bI_t h4 | exact bI_f h4) ?_
    refine z_istore_n (lv' := [(2, .int (bI (decide (r.1 2 = 0)))), (0, .ref (base + 16)), (1, .int (nI k))]) C dX5_takeBlock_12 rfl (by decide) rfl ?_
    refine z_aload_n C dX5_takeBlock_13 rfl 1 rfl ?_
    refine z_aload_n C dX5_takeBlock_14 rfl 1 rfl ?_
    refine z_get C fl_X5_50 dX5_takeBlock_15 rfl rfl ?_
    refine z_if_ge (tgt := 25) C dX5_takeBlock_18 (by decide) (fun h18 => ?_) (fun h18 => ?_)
    · skip
      refine z_aload_n C dX5_takeBlock_25 rfl 1 rfl ?_
      refine z_get C fl_X5_50 dX5_takeBlock_26 rfl rfl ?_
      refine z_iconst (v := 1) C dX5_takeBlock_29 (by decide) ?_
      refine z_isub C dX5_takeBlock_30 ?_
      refine z_casti (y := r_arm (r.1 2)) (by unfold r_arm; first | rw [if_neg (Int32.not_lt.mpr h18)] | rw [if_pos (Int32.not_le.mp h18)]) ?_
      refine z_put C fl_X5_50 fp_X5 rfl dX5_takeBlock_31 rfl (by simp) rfl rfl ?_
      refine z_lv (lv' := [(2, .int (bI (decide (r.1 2 = 0)))), (0, .ref (base + 16)), (1, .int (nI k))]) [0, 1, 2] rfl ?_
      refine z_hp (hp' := (hpM G base xs (upd r.1 2 (r_arm (r.1 2)), r.2) tl)) (by first | rfl) ?_
      exact cut
    · skip
      refine z_iconst (v := -1) C dX5_takeBlock_21 (by decide) ?_
      refine z_goto (tgt := 31) C dX5_takeBlock_22 (by decide) ?_
      refine z_casti (y := r_arm (r.1 2)) (by unfold r_arm; first | rw [if_neg (Int32.not_lt.mpr h18)] | rw [if_pos (Int32.not_le.mp h18)]) ?_
      refine z_put C fl_X5_50 fp_X5 rfl dX5_takeBlock_31 rfl (by simp) rfl rfl ?_
      refine z_lv (lv' := [(2, .int (bI (decide (r.1 2 = 0)))), (0, .ref (base + 16)), (1, .int (nI k))]) [0, 1, 2] rfl ?_
      refine z_hp (hp' := (hpM G base xs (upd r.1 2 (r_arm (r.1 2)), r.2) tl)) (by first | rfl) ?_
      exact cut
  · skip
    refine z_iconst (v := 1) C dX5_takeBlock_7 (by decide) ?_
    refine z_goto (tgt := 12) C dX5_takeBlock_8 (by decide) ?_
    refine z_casti (y := bI (decide (r.1 2 = 0))) (by first | exact bI_t h4 | exact bI_f h4) ?_
    refine z_istore_n (lv' := [(2, .int (bI (decide (r.1 2 = 0)))), (0, .ref (base + 16)), (1, .int (nI k))]) C dX5_takeBlock_12 rfl (by decide) rfl ?_
    refine z_aload_n C dX5_takeBlock_13 rfl 1 rfl ?_
    refine z_aload_n C dX5_takeBlock_14 rfl 1 rfl ?_
    refine z_get C fl_X5_50 dX5_takeBlock_15 rfl rfl ?_
    refine z_if_ge (tgt := 25) C dX5_takeBlock_18 (by decide) (fun h18 => ?_) (fun h18 => ?_)
    · skip
      refine z_aload_n C dX5_takeBlock_25 rfl 1 rfl ?_
      refine z_get C fl_X5_50 dX5_takeBlock_26 rfl rfl ?_
      refine z_iconst (v := 1) C dX5_takeBlock_29 (by decide) ?_
      refine z_isub C dX5_takeBlock_30 ?_
      refine z_casti (y := r_arm (r.1 2)) (by unfold r_arm; first | rw [if_neg (Int32.not_lt.mpr h18)] | rw [if_pos (Int32.not_le.mp h18)]) ?_
      refine z_put C fl_X5_50 fp_X5 rfl dX5_takeBlock_31 rfl (by simp) rfl rfl ?_
      refine z_lv (lv' := [(2, .int (bI (decide (r.1 2 = 0)))), (0, .ref (base + 16)), (1, .int (nI k))]) [0, 1, 2] rfl ?_
      refine z_hp (hp' := (hpM G base xs (upd r.1 2 (r_arm (r.1 2)), r.2) tl)) (by first | rfl) ?_
      exact cut
    · skip
      refine z_iconst (v := -1) C dX5_takeBlock_21 (by decide) ?_
      refine z_goto (tgt := 31) C dX5_takeBlock_22 (by decide) ?_
      refine z_casti (y := r_arm (r.1 2)) (by unfold r_arm; first | rw [if_neg (Int32.not_lt.mpr h18)] | rw [if_pos (Int32.not_le.mp h18)]) ?_
      refine z_put C fl_X5_50 fp_X5 rfl dX5_takeBlock_31 rfl (by simp) rfl rfl ?_
      refine z_lv (lv' := [(2, .int (bI (decide (r.1 2 = 0)))), (0, .ref (base + 16)), (1, .int (nI k))]) [0, 1, 2] rfl ?_
      refine z_hp (hp' := (hpM G base xs (upd r.1 2 (r_arm (r.1 2)), r.2) tl)) (by first | rfl) ?_
      exact cut

set_option maxHeartbeats 4000000 in
set_option maxRecDepth 100000 in
theorem m_X5_giveBlock (l : Launch) (G : z_G) (base : Nat) (xs : Nat → va_E) (r : r_T) (tl : List va_E) (hfo : ∀ p, r.2.1 1 p < 256) (hoo : ∀ p, r.2.1 2 p ≤ 6) (P : Nat) (hP : P < 256) (hPa : P % 2 ^ r.2.1 2 P = 0) : z_M l G base yX5_giveBlock cX5_giveBlock 7 (some .int) 3 0 0 [.ref (base + 16), .int (nI P)] (hpM G base xs r tl) (fun v hp' => v = some (.int (nI (2 ^ r.2.1 2 P))) ∧ hp' = hpM G base xs (r_gvs r P) tl) := by
  refine z_M.of (lv0 := [(0, .ref (base + 16)), (1, .int (nI P))]) (by decide) (Nat.le_of_ble_eq_true rfl) rfl ?_
  intro p e s m below meth c hmn hrt C
  have hPo := hoo P
  have hPe := al_end _ (by omega) P hP hPa
  refine z_iconst (v := 1) C dX5_giveBlock_0 (by decide) ?_
  refine z_aload_n C dX5_giveBlock_1 rfl 0 rfl ?_
  refine z_get C fl_X5_20 dX5_giveBlock_2 rfl rfl ?_
  refine z_iload_n C dX5_giveBlock_5 rfl 1 rfl ?_
  refine z_ialdK C dX5_giveBlock_6 rfl (by omega) (by decide) ?_
  refine z_ishl C dX5_giveBlock_7 ?_
  refine z_casti (y := nI (2 ^ r.2.1 2 P)) (nI_1lt _ (by omega)) ?_
  refine z_istore_n (lv' := [(2, .int (nI (2 ^ r.2.1 2 P))), (0, .ref (base + 16)), (1, .int (nI P))]) C dX5_giveBlock_8 rfl (by decide) rfl ?_
  refine z_iload_n C dX5_giveBlock_9 rfl 2 rfl ?_
  refine z_istore_n (lv' := [(3, .int (nI P)), (2, .int (nI (2 ^ r.2.1 2 P))), (0, .ref (base + 16)), (1, .int (nI P))]) C dX5_giveBlock_10 rfl (by decide) rfl ?_
  refine z_aload_n C dX5_giveBlock_11 rfl 2 rfl ?_
  refine z_get C fl_X5_20 dX5_giveBlock_12 rfl rfl ?_
  refine z_iload_n C dX5_giveBlock_15 rfl 3 rfl ?_
  refine z_ialdK C dX5_giveBlock_16 rfl (by omega) (by decide) ?_
  refine z_istore (lv' := [(4, .int (nI (((r.2.1 2)) P))), (3, .int (nI P)), (2, .int (nI (2 ^ r.2.1 2 P))), (0, .ref (base + 16)), (1, .int (nI P))]) C dX5_giveBlock_17 (by decide) rfl ?_
  refine z_aload_n C dX5_giveBlock_19 rfl 3 rfl ?_
  refine z_iload_n C dX5_giveBlock_20 rfl 1 rfl ?_
  refine z_iload C dX5_giveBlock_21 0 rfl ?_
  refine z_iconst (v := 0) C dX5_giveBlock_23 (by decide) ?_
  refine z_callV (rest := []) C (m_X5_makeBlock l G base xs r tl P (r.2.1 2 P) 0 hPo hPe rfl) ml_X5_70 kw_X5_makeBlock rfl rfl rfl rfl (by simp [Value.category]) dX5_giveBlock_24 (by decide) (by decide) (by decide) (by decide) ?_
  rintro _ _ ⟨rfl, rfl⟩
  refine z_st (st' := []) rfl ?_
  refine z_iconst (v := 1) C dX5_giveBlock_27 (by decide) ?_
  refine z_istore (lv' := [(5, .int ((1 : Int32))), (4, .int (nI (((r.2.1 2)) P))), (3, .int (nI P)), (2, .int (nI (2 ^ r.2.1 2 P))), (0, .ref (base + 16)), (1, .int (nI P))]) C dX5_giveBlock_28 (by decide) rfl ?_
  refine z_lv (lv' := [(5, .int ((1 : Int32))), (3, .int (nI P)), (4, .int (nI (((r.2.1 2)) P))), (0, .ref (base + 16)), (2, .int (nI (2 ^ r.2.1 2 P)))]) [0, 2, 1, 4, 3] rfl ?_
  have loop : ∀ (n : Nat) (f : Nat) (j : Nat) (r1 : r_T), (j ≤ 6) → (7 ≤ n + j) → (f < 256) → (f % 2 ^ j = 0) → (∀ p, r1.2.1 1 p < 256) → (∀ p, r1.2.1 2 p ≤ 6) → (r_join (6 - j) r1 f j = r_join (6 - r.2.1 2 P) (r_mk r P (r.2.1 2 P) 0) P (r.2.1 2 P)) → z_R p l e (z_rm 3 0 0) s m ([Value.ref (base + 16), .int (nI P)] : List Value).toArray below meth c (MQ below (z_Qc G base (fun v hp' => v = some (.int (nI (2 ^ r.2.1 2 P))) ∧ hp' = hpM G base xs (r_gvs r P) tl)) ([Value.ref (base + 16), .int (nI P)] : List Value).toArray s 0 0 (fun z => base ≤ z)) G base 7 0 0 30 [(5, .int ((1 : Int32))), (3, .int (nI f)), (4, .int (nI j)), (0, .ref (base + 16)), (2, .int (nI (2 ^ r.2.1 2 P)))] [] (hpM G base xs r1 tl) := by
    intro n
    induction n with
    | zero => intro f j r1 hj hn0 hf hfa hfo1 hoo1 hv; exact absurd hn0 (by omega)
    | succ n ih =>
      intro f j r1 hj hn0 hf hfa hfo1 hoo1 hv
      have hxl := (xor_lt j (by omega) f hf).1
      refine z_iload C dX5_giveBlock_30 0 rfl ?_
      refine z_if_eq (tgt := 110) C dX5_giveBlock_32 (by decide) (fun h32 => absurd h32 (by decide)) (fun h32 => ?_)
      refine z_iload_n C dX5_giveBlock_35 rfl 1 rfl ?_
      refine z_iconst (v := 1) C dX5_giveBlock_36 (by decide) ?_
      refine z_iload C dX5_giveBlock_37 2 rfl ?_
      refine z_ishl C dX5_giveBlock_39 ?_
      refine z_casti (y := nI (2 ^ j)) (nI_1lt _ (by omega)) ?_
      refine z_ixor C dX5_giveBlock_40 ?_
      refine z_casti (y := nI (f ^^^ 2 ^ j)) (nI_xor _ _) ?_
      refine z_istore (lv' := [(6, .int (nI (f ^^^ 2 ^ j))), (5, .int ((1 : Int32))), (3, .int (nI f)), (4, .int (nI j)), (0, .ref (base + 16)), (2, .int (nI (2 ^ r.2.1 2 P)))]) C dX5_giveBlock_41 (by decide) rfl ?_
      refine z_iload C dX5_giveBlock_43 3 rfl ?_
      refine z_bipush (v := 6) C dX5_giveBlock_45 (by decide) ?_
      refine z_icmp_ge (tgt := 75) C dX5_giveBlock_47 (by decide) (fun h47 => ?_) (fun h47 => ?_)
      · skip
        have hend : ¬ (j < 6 ∧ r_free r1 (f ^^^ 2 ^ j) = true ∧ r1.2.1 2 (f ^^^ 2 ^ j) = j) := fun z => absurd h47 (nI_ge z.1 (by decide))
        refine z_iconst (v := 0) C dX5_giveBlock_75 (by decide) ?_
        refine z_istore (lv' := [(5, .int ((0 : Int32))), (6, .int (nI (f ^^^ 2 ^ j))), (3, .int (nI f)), (4, .int (nI j)), (0, .ref (base + 16)), (2, .int (nI (2 ^ r.2.1 2 P)))]) C dX5_giveBlock_76 (by decide) rfl ?_
        refine z_iload C dX5_giveBlock_78 0 rfl ?_
        refine z_if_eq (tgt := 107) C dX5_giveBlock_80 (by decide) (fun h80 => ?_) (fun h80 => absurd h80 (by decide))
        refine z_goto (tgt := 30) C dX5_giveBlock_107 (by decide) ?_
        refine z_lv (lv' := [(5, .int ((0 : Int32))), (3, .int (nI f)), (4, .int (nI j)), (0, .ref (base + 16)), (2, .int (nI (2 ^ r.2.1 2 P)))]) [0, 2, 3, 4, 5] rfl ?_
        refine z_iload C dX5_giveBlock_30 0 rfl ?_
        refine z_if_eq (tgt := 110) C dX5_giveBlock_32 (by decide) (fun h32 => ?_) (fun h32 => absurd h32 (by decide))
        refine z_aload_n C dX5_giveBlock_110 rfl 3 rfl ?_
        refine z_dup C dX5_giveBlock_111 rfl ?_
        refine z_get C fl_X5_97 dX5_giveBlock_112 rfl rfl ?_
        refine z_iconst (v := 1) C dX5_giveBlock_115 (by decide) ?_
        refine z_iadd C dX5_giveBlock_116 ?_
        refine z_put C fl_X5_97 fp_X5 rfl dX5_giveBlock_117 rfl (by simp) rfl rfl ?_
        refine z_iload_n C dX5_giveBlock_120 rfl 4 rfl ?_
        exact z_iret C hrt rfl dX5_giveBlock_121 (by decide) (by decide) (⟨rfl, by unfold r_gvs; rw [← hv, r_join_end hend, show (r.1 5 : Int32) = r1.1 5 by rw [show r1 = r_join (6 - j) r1 f j from (r_join_end hend).symm, hv, r_join_sc]; rfl]; rfl⟩)
      · skip
        have hj6 : j < 6 := by
          rcases Nat.lt_or_ge j 6 with q9 | q9
          · exact q9
          · exact absurd (nI_le (a := 6) (b := j) q9 (by omega)) h47
        refine z_aload_n C dX5_giveBlock_50 rfl 4 rfl ?_
        refine z_iload C dX5_giveBlock_51 0 rfl ?_
        refine z_callV (rest := []) C (m_X5_isFree l G base xs r1 tl hfo1 (f ^^^ 2 ^ j) hxl) ml_X5_82 kw_X5_isFree rfl rfl rfl rfl (by simp [Value.category]) dX5_giveBlock_53 (by decide) (by decide) (by decide) (by decide) ?_
        rintro _ _ ⟨rfl, rfl⟩
        refine z_st (st' := [.int ((bI (r_free r1 (f ^^^ 2 ^ j))))]) rfl ?_
        refine z_if_eq (tgt := 75) C dX5_giveBlock_56 (by decide) (fun h56 => ?_) (fun h56 => ?_)
        · skip
          have hend : ¬ (j < 6 ∧ r_free r1 (f ^^^ 2 ^ j) = true ∧ r1.2.1 2 (f ^^^ 2 ^ j) = j) := fun z => by rw [bI_ff h56] at z; exact Bool.noConfusion z.2.1
          refine z_iconst (v := 0) C dX5_giveBlock_75 (by decide) ?_
          refine z_istore (lv' := [(5, .int ((0 : Int32))), (6, .int (nI (f ^^^ 2 ^ j))), (3, .int (nI f)), (4, .int (nI j)), (0, .ref (base + 16)), (2, .int (nI (2 ^ r.2.1 2 P)))]) C dX5_giveBlock_76 (by decide) rfl ?_
          refine z_iload C dX5_giveBlock_78 0 rfl ?_
          refine z_if_eq (tgt := 107) C dX5_giveBlock_80 (by decide) (fun h80 => ?_) (fun h80 => absurd h80 (by decide))
          refine z_goto (tgt := 30) C dX5_giveBlock_107 (by decide) ?_
          refine z_lv (lv' := [(5, .int ((0 : Int32))), (3, .int (nI f)), (4, .int (nI j)), (0, .ref (base + 16)), (2, .int (nI (2 ^ r.2.1 2 P)))]) [0, 2, 3, 4, 5] rfl ?_
          refine z_iload C dX5_giveBlock_30 0 rfl ?_
          refine z_if_eq (tgt := 110) C dX5_giveBlock_32 (by decide) (fun h32 => ?_) (fun h32 => absurd h32 (by decide))
          refine z_aload_n C dX5_giveBlock_110 rfl 3 rfl ?_
          refine z_dup C dX5_giveBlock_111 rfl ?_
          refine z_get C fl_X5_97 dX5_giveBlock_112 rfl rfl ?_
          refine z_iconst (v := 1) C dX5_giveBlock_115 (by decide) ?_
          refine z_iadd C dX5_giveBlock_116 ?_
          refine z_put C fl_X5_97 fp_X5 rfl dX5_giveBlock_117 rfl (by simp) rfl rfl ?_
          refine z_iload_n C dX5_giveBlock_120 rfl 4 rfl ?_
          exact z_iret C hrt rfl dX5_giveBlock_121 (by decide) (by decide) (⟨rfl, by unfold r_gvs; rw [← hv, r_join_end hend, show (r.1 5 : Int32) = r1.1 5 by rw [show r1 = r_join (6 - j) r1 f j from (r_join_end hend).symm, hv, r_join_sc]; rfl]; rfl⟩)
        · skip
          refine z_aload_n C dX5_giveBlock_59 rfl 4 rfl ?_
          refine z_get C fl_X5_20 dX5_giveBlock_60 rfl rfl ?_
          refine z_iload C dX5_giveBlock_63 0 rfl ?_
          refine z_ialdK C dX5_giveBlock_65 rfl (by omega) (by decide) ?_
          refine z_iload C dX5_giveBlock_66 3 rfl ?_
          refine z_icmp_ne (tgt := 75) C dX5_giveBlock_68 (by decide) (fun h68 => ?_) (fun h68 => ?_)
          · skip
            have hend : ¬ (j < 6 ∧ r_free r1 (f ^^^ 2 ^ j) = true ∧ r1.2.1 2 (f ^^^ 2 ^ j) = j) := fun z => h68 (by rw [z.2.2])
            refine z_iconst (v := 0) C dX5_giveBlock_75 (by decide) ?_
            refine z_istore (lv' := [(5, .int ((0 : Int32))), (6, .int (nI (f ^^^ 2 ^ j))), (3, .int (nI f)), (4, .int (nI j)), (0, .ref (base + 16)), (2, .int (nI (2 ^ r.2.1 2 P)))]) C dX5_giveBlock_76 (by decide) rfl ?_
            refine z_iload C dX5_giveBlock_78 0 rfl ?_
            refine z_if_eq (tgt := 107) C dX5_giveBlock_80 (by decide) (fun h80 => ?_) (fun h80 => absurd h80 (by decide))
            refine z_goto (tgt := 30) C dX5_giveBlock_107 (by decide) ?_
            refine z_lv (lv' := [(5, .int ((0 : Int32))), (3, .int (nI f)), (4, .int (nI j)), (0, .ref (base + 16)), (2, .int (nI (2 ^ r.2.1 2 P)))]) [0, 2, 3, 4, 5] rfl ?_
            refine z_iload C dX5_giveBlock_30 0 rfl ?_
            refine z_if_eq (tgt := 110) C dX5_giveBlock_32 (by decide) (fun h32 => ?_) (fun h32 => absurd h32 (by decide))
            refine z_aload_n C dX5_giveBlock_110 rfl 3 rfl ?_
            refine z_dup C dX5_giveBlock_111 rfl ?_
            refine z_get C fl_X5_97 dX5_giveBlock_112 rfl rfl ?_
            refine z_iconst (v := 1) C dX5_giveBlock_115 (by decide) ?_
            refine z_iadd C dX5_giveBlock_116 ?_
            refine z_put C fl_X5_97 fp_X5 rfl dX5_giveBlock_117 rfl (by simp) rfl rfl ?_
            refine z_iload_n C dX5_giveBlock_120 rfl 4 rfl ?_
            exact z_iret C hrt rfl dX5_giveBlock_121 (by decide) (by decide) (⟨rfl, by unfold r_gvs; rw [← hv, r_join_end hend, show (r.1 5 : Int32) = r1.1 5 by rw [show r1 = r_join (6 - j) r1 f j from (r_join_end hend).symm, hv, r_join_sc]; rfl]; rfl⟩)
          · skip
            have hgo : r_free r1 (f ^^^ 2 ^ j) = true ∧ r1.2.1 2 (f ^^^ 2 ^ j) = j := ⟨bI_nt h56, (nI_eq (by have := hoo1 (f ^^^ 2 ^ j); omega) (by omega)).mp h68⟩
            have hal1 := al_min j hj6 f hf hfa
            refine z_iconst (v := 1) C dX5_giveBlock_71 (by decide) ?_
            refine z_goto (tgt := 76) C dX5_giveBlock_72 (by decide) ?_
            refine z_istore (lv' := [(5, .int ((1 : Int32))), (6, .int (nI (f ^^^ 2 ^ j))), (3, .int (nI f)), (4, .int (nI j)), (0, .ref (base + 16)), (2, .int (nI (2 ^ r.2.1 2 P)))]) C dX5_giveBlock_76 (by decide) rfl ?_
            refine z_iload C dX5_giveBlock_78 0 rfl ?_
            refine z_if_eq (tgt := 107) C dX5_giveBlock_80 (by decide) (fun h80 => absurd h80 (by decide)) (fun h80 => ?_)
            refine z_iload C dX5_giveBlock_83 1 rfl ?_
            refine z_iload_n C dX5_giveBlock_85 rfl 2 rfl ?_
            refine z_icmp_ge (tgt := 94) C dX5_giveBlock_86 (by decide) (fun h86 => ?_) (fun h86 => ?_)
            · skip
              refine z_iload_n C dX5_giveBlock_94 rfl 2 rfl ?_
              refine z_casti (y := nI (min f (f ^^^ 2 ^ j))) (by first | (rw [Nat.min_eq_right (Nat.le_of_lt ((nI_ltI (by omega) (by omega)).mp (Int32.not_le.mp h86)))]) | (rw [Nat.min_eq_left ((nI_leI (by omega) (by omega)).mp h86)])) ?_
              refine z_istore_n (lv' := [(3, .int (nI (min f (f ^^^ 2 ^ j)))), (5, .int ((1 : Int32))), (6, .int (nI (f ^^^ 2 ^ j))), (4, .int (nI j)), (0, .ref (base + 16)), (2, .int (nI (2 ^ r.2.1 2 P)))]) C dX5_giveBlock_95 rfl (by decide) rfl ?_
              refine z_iinc (k := 3) (v := nI (j + 1)) (lv' := [(4, .int (nI (j + 1))), (3, .int (nI (min f (f ^^^ 2 ^ j)))), (5, .int ((1 : Int32))), (6, .int (nI (f ^^^ 2 ^ j))), (0, .ref (base + 16)), (2, .int (nI (2 ^ r.2.1 2 P)))]) C dX5_giveBlock_96 rfl (nI_1 j) (by decide) rfl ?_
              refine z_aload_n C dX5_giveBlock_99 rfl 4 rfl ?_
              refine z_iload_n C dX5_giveBlock_100 rfl 1 rfl ?_
              refine z_iload C dX5_giveBlock_101 0 rfl ?_
              refine z_iconst (v := 0) C dX5_giveBlock_103 (by decide) ?_
              refine z_callV (rest := []) C (m_X5_makeBlock l G base xs r1 tl (min f (f ^^^ 2 ^ j)) (j + 1) 0 (by omega) hal1.2 rfl) ml_X5_70 kw_X5_makeBlock rfl rfl rfl rfl (by simp [Value.category]) dX5_giveBlock_104 (by decide) (by decide) (by decide) (by decide) ?_
              rintro _ _ ⟨rfl, rfl⟩
              refine z_st (st' := []) rfl ?_
              refine z_goto (tgt := 30) C dX5_giveBlock_107 (by decide) ?_
              refine z_lv (lv' := [(5, .int ((1 : Int32))), (3, .int (nI (min f (f ^^^ 2 ^ j)))), (4, .int (nI (j + 1))), (0, .ref (base + 16)), (2, .int (nI (2 ^ r.2.1 2 P)))]) [2, 1, 0, 4, 5] rfl ?_
              exact ih (min f (f ^^^ 2 ^ j)) (j + 1) _ (by omega) (by omega) (by omega) hal1.1 (r_mk_fo hfo1 (by omega)) (r_mk_oo hoo1 (by omega)) (by rw [← hv]; exact (r_join_go hj6 hgo).symm)
            · skip
              refine z_iload C dX5_giveBlock_89 1 rfl ?_
              refine z_goto (tgt := 95) C dX5_giveBlock_91 (by decide) ?_
              refine z_casti (y := nI (min f (f ^^^ 2 ^ j))) (by first | (rw [Nat.min_eq_right (Nat.le_of_lt ((nI_ltI (by omega) (by omega)).mp (Int32.not_le.mp h86)))]) | (rw [Nat.min_eq_left ((nI_leI (by omega) (by omega)).mp h86)])) ?_
              refine z_istore_n (lv' := [(3, .int (nI (min f (f ^^^ 2 ^ j)))), (5, .int ((1 : Int32))), (6, .int (nI (f ^^^ 2 ^ j))), (4, .int (nI j)), (0, .ref (base + 16)), (2, .int (nI (2 ^ r.2.1 2 P)))]) C dX5_giveBlock_95 rfl (by decide) rfl ?_
              refine z_iinc (k := 3) (v := nI (j + 1)) (lv' := [(4, .int (nI (j + 1))), (3, .int (nI (min f (f ^^^ 2 ^ j)))), (5, .int ((1 : Int32))), (6, .int (nI (f ^^^ 2 ^ j))), (0, .ref (base + 16)), (2, .int (nI (2 ^ r.2.1 2 P)))]) C dX5_giveBlock_96 rfl (nI_1 j) (by decide) rfl ?_
              refine z_aload_n C dX5_giveBlock_99 rfl 4 rfl ?_
              refine z_iload_n C dX5_giveBlock_100 rfl 1 rfl ?_
              refine z_iload C dX5_giveBlock_101 0 rfl ?_
              refine z_iconst (v := 0) C dX5_giveBlock_103 (by decide) ?_
              refine z_callV (rest := []) C (m_X5_makeBlock l G base xs r1 tl (min f (f ^^^ 2 ^ j)) (j + 1) 0 (by omega) hal1.2 rfl) ml_X5_70 kw_X5_makeBlock rfl rfl rfl rfl (by simp [Value.category]) dX5_giveBlock_104 (by decide) (by decide) (by decide) (by decide) ?_
              rintro _ _ ⟨rfl, rfl⟩
              refine z_st (st' := []) rfl ?_
              refine z_goto (tgt := 30) C dX5_giveBlock_107 (by decide) ?_
              refine z_lv (lv' := [(5, .int ((1 : Int32))), (3, .int (nI (min f (f ^^^ 2 ^ j)))), (4, .int (nI (j + 1))), (0, .ref (base + 16)), (2, .int (nI (2 ^ r.2.1 2 P)))]) [2, 1, 0, 4, 5] rfl ?_
              exact ih (min f (f ^^^ 2 ^ j)) (j + 1) _ (by omega) (by omega) (by omega) hal1.1 (r_mk_fo hfo1 (by omega)) (r_mk_oo hoo1 (by omega)) (by rw [← hv]; exact (r_join_go hj6 hgo).symm)
  exact loop 7 P (r.2.1 2 P) _ hPo (by omega) hP hPa (r_mk_fo hfo hP) (r_mk_oo hoo hPo) rfl

set_option maxHeartbeats 4000000 in
set_option maxRecDepth 100000 in
theorem m_X5_areUsable (l : Launch) (G : z_G) (base : Nat) (xs : Nat → va_E) (r : r_T) (tl : List va_E) (P k : Nat) (hP : P < 256) (hk : k ≤ 64) : z_M l G base yX5_areUsable cX5_areUsable 5 (some .boolean) 0 0 0 [.ref (base + 16), .int (nI P), .int (nI k)] (hpM G base xs r tl) (fun v hp' => v = some (.int (bI (r_au (r.2.2 0) k P))) ∧ hp' = hpM G base xs r tl) := by
  refine z_M.of (lv0 := [(0, .ref (base + 16)), (1, .int (nI P)), (2, .int (nI k))]) (by decide) (Nat.le_of_ble_eq_true rfl) rfl ?_
  intro p e s m below meth c hmn hrt C
  refine z_iconst (v := 1) C dX5_areUsable_0 (by decide) ?_
  refine z_casti (y := bI true) (rfl) ?_
  refine z_istore_n (lv' := [(3, .int (bI true)), (0, .ref (base + 16)), (1, .int (nI P)), (2, .int (nI k))]) C dX5_areUsable_1 rfl (by decide) rfl ?_
  refine z_iload_n C dX5_areUsable_2 rfl 2 rfl ?_
  refine z_istore (lv' := [(4, .int (nI P)), (3, .int (bI true)), (0, .ref (base + 16)), (1, .int (nI P)), (2, .int (nI k))]) C dX5_areUsable_3 (by decide) rfl ?_
  refine z_lv (lv' := [(4, .int (nI P)), (3, .int (bI true)), (0, .ref (base + 16)), (1, .int (nI P)), (2, .int (nI k))]) [0, 1, 2, 3, 4] rfl ?_
  have loop : ∀ (n : Nat) (z : Nat) (b : Bool), (P ≤ z ∧ z ≤ P + k) → (P + k + 1 ≤ n + z) → ((b && r_au (r.2.2 0) (P + k - z) z) = r_au (r.2.2 0) k P) → z_R p l e (z_rm 0 0 0) s m ([Value.ref (base + 16), .int (nI P), .int (nI k)] : List Value).toArray below meth c (MQ below (z_Qc G base (fun v hp' => v = some (.int (bI (r_au (r.2.2 0) k P))) ∧ hp' = hpM G base xs r tl)) ([Value.ref (base + 16), .int (nI P), .int (nI k)] : List Value).toArray s 0 0 (fun z => base ≤ z)) G base 5 0 0 5 [(4, .int (nI z)), (3, .int (bI b)), (0, .ref (base + 16)), (1, .int (nI P)), (2, .int (nI k))] [] (hpM G base xs r tl) := by
    intro n
    induction n with
    | zero => intro z b hz hn0 hv; exact absurd hn0 (by omega)
    | succ n ih =>
      intro z b hz hn0 hv
      refine z_iload C dX5_areUsable_5 0 rfl ?_
      refine z_iload_n C dX5_areUsable_7 rfl 3 rfl ?_
      refine z_iload_n C dX5_areUsable_8 rfl 4 rfl ?_
      refine z_iadd C dX5_areUsable_9 ?_
      refine z_casti (y := nI (P + k)) (nI_add _ _) ?_
      refine z_icmp_ge (tgt := 47) C dX5_areUsable_10 (by decide) (fun h10 => ?_) (fun h10 => ?_)
      · skip
        have ze : z = P + k := by
          rcases Nat.lt_or_ge z (P + k) with q9 | q9
          · exact absurd h10 (nI_ge q9 (by omega))
          · omega
        refine z_iload_n C dX5_areUsable_47 rfl 1 rfl ?_
        exact z_iret C hrt (nar_b _) dX5_areUsable_48 (by decide) (by decide) (⟨by rw [← hv, ze, Nat.sub_self]; show some (Value.int (bI b)) = some (Value.int (bI (b && true))); rw [Bool.and_true], rfl⟩)
      · skip
        have zl : z < P + k := by
          rcases Nat.lt_or_ge z (P + k) with q9 | q9
          · exact q9
          · exact absurd (nI_le q9 (by omega)) h10
        refine z_iload_n C dX5_areUsable_13 rfl 1 rfl ?_
        refine z_if_eq (tgt := 39) C dX5_areUsable_14 (by decide) (fun h14 => ?_) (fun h14 => ?_)
        · skip
          refine z_iconst (v := 0) C dX5_areUsable_39 (by decide) ?_
          refine z_casti (y := bI (b && decide (z < 256 ∧ ¬ r.2.2 0 z = 0))) (by first | (rw [bI_nt h14, show decide (z < 256 ∧ ¬ r.2.2 0 z = 0) = true from decide_eq_true ⟨z2, h32⟩]; rfl) | (rw [bI_ff h14]; rfl) | (rw [show decide (z < 256 ∧ ¬ r.2.2 0 z = 0) = false from decide_eq_false (fun q => by first | exact absurd h22 (nI_ge q.1 (by decide)) | exact q.2 h32), Bool.and_false]; rfl)) ?_
          refine z_istore_n (lv' := [(3, .int (bI (b && decide (z < 256 ∧ ¬ r.2.2 0 z = 0)))), (4, .int (nI z)), (0, .ref (base + 16)), (1, .int (nI P)), (2, .int (nI k))]) C dX5_areUsable_40 rfl (by decide) rfl ?_
          refine z_iinc (k := 1) (v := nI (z + 1)) (lv' := [(4, .int (nI (z + 1))), (3, .int (bI (b && decide (z < 256 ∧ ¬ r.2.2 0 z = 0)))), (0, .ref (base + 16)), (1, .int (nI P)), (2, .int (nI k))]) C dX5_areUsable_41 rfl (nI_1 z) (by decide) rfl ?_
          refine z_goto (tgt := 5) C dX5_areUsable_44 (by decide) ?_
          refine z_lv (lv' := [(4, .int (nI (z + 1))), (3, .int (bI (b && decide (z < 256 ∧ ¬ r.2.2 0 z = 0)))), (0, .ref (base + 16)), (1, .int (nI P)), (2, .int (nI k))]) [0, 1, 2, 3, 4] rfl ?_
          exact ih (z + 1) _ (by omega) (by omega) (by rw [← hv, show P + k - z = (P + k - (z + 1)) + 1 by omega]; exact Bool.and_assoc _ _ _)
        · skip
          refine z_iload C dX5_areUsable_17 0 rfl ?_
          refine z_sipush (v := 256) C dX5_areUsable_19 (by decide) ?_
          refine z_icmp_ge (tgt := 39) C dX5_areUsable_22 (by decide) (fun h22 => ?_) (fun h22 => ?_)
          · skip
            refine z_iconst (v := 0) C dX5_areUsable_39 (by decide) ?_
            refine z_casti (y := bI (b && decide (z < 256 ∧ ¬ r.2.2 0 z = 0))) (by first | (rw [bI_nt h14, show decide (z < 256 ∧ ¬ r.2.2 0 z = 0) = true from decide_eq_true ⟨z2, h32⟩]; rfl) | (rw [bI_ff h14]; rfl) | (rw [show decide (z < 256 ∧ ¬ r.2.2 0 z = 0) = false from decide_eq_false (fun q => by first | exact absurd h22 (nI_ge q.1 (by decide)) | exact q.2 h32), Bool.and_false]; rfl)) ?_
            refine z_istore_n (lv' := [(3, .int (bI (b && decide (z < 256 ∧ ¬ r.2.2 0 z = 0)))), (4, .int (nI z)), (0, .ref (base + 16)), (1, .int (nI P)), (2, .int (nI k))]) C dX5_areUsable_40 rfl (by decide) rfl ?_
            refine z_iinc (k := 1) (v := nI (z + 1)) (lv' := [(4, .int (nI (z + 1))), (3, .int (bI (b && decide (z < 256 ∧ ¬ r.2.2 0 z = 0)))), (0, .ref (base + 16)), (1, .int (nI P)), (2, .int (nI k))]) C dX5_areUsable_41 rfl (nI_1 z) (by decide) rfl ?_
            refine z_goto (tgt := 5) C dX5_areUsable_44 (by decide) ?_
            refine z_lv (lv' := [(4, .int (nI (z + 1))), (3, .int (bI (b && decide (z < 256 ∧ ¬ r.2.2 0 z = 0)))), (0, .ref (base + 16)), (1, .int (nI P)), (2, .int (nI k))]) [0, 1, 2, 3, 4] rfl ?_
            exact ih (z + 1) _ (by omega) (by omega) (by rw [← hv, show P + k - z = (P + k - (z + 1)) + 1 by omega]; exact Bool.and_assoc _ _ _)
          · skip
            have z2 : z < 256 := by
              rcases Nat.lt_or_ge z 256 with q9 | q9
              · exact q9
              · exact absurd (nI_le (a := 256) (b := z) q9 (by omega)) h22
            refine z_aload_n C dX5_areUsable_25 rfl 2 rfl ?_
            refine z_get C fl_X5_13 dX5_areUsable_26 rfl rfl ?_
            refine z_iload C dX5_areUsable_29 0 rfl ?_
            refine z_zaldN C dX5_areUsable_31 rfl (by omega) (by decide) ?_
            refine z_if_eq (tgt := 39) C dX5_areUsable_32 (by decide) (fun h32 => ?_) (fun h32 => ?_)
            · skip
              refine z_iconst (v := 0) C dX5_areUsable_39 (by decide) ?_
              refine z_casti (y := bI (b && decide (z < 256 ∧ ¬ r.2.2 0 z = 0))) (by first | (rw [bI_nt h14, show decide (z < 256 ∧ ¬ r.2.2 0 z = 0) = true from decide_eq_true ⟨z2, h32⟩]; rfl) | (rw [bI_ff h14]; rfl) | (rw [show decide (z < 256 ∧ ¬ r.2.2 0 z = 0) = false from decide_eq_false (fun q => by first | exact absurd h22 (nI_ge q.1 (by decide)) | exact q.2 h32), Bool.and_false]; rfl)) ?_
              refine z_istore_n (lv' := [(3, .int (bI (b && decide (z < 256 ∧ ¬ r.2.2 0 z = 0)))), (4, .int (nI z)), (0, .ref (base + 16)), (1, .int (nI P)), (2, .int (nI k))]) C dX5_areUsable_40 rfl (by decide) rfl ?_
              refine z_iinc (k := 1) (v := nI (z + 1)) (lv' := [(4, .int (nI (z + 1))), (3, .int (bI (b && decide (z < 256 ∧ ¬ r.2.2 0 z = 0)))), (0, .ref (base + 16)), (1, .int (nI P)), (2, .int (nI k))]) C dX5_areUsable_41 rfl (nI_1 z) (by decide) rfl ?_
              refine z_goto (tgt := 5) C dX5_areUsable_44 (by decide) ?_
              refine z_lv (lv' := [(4, .int (nI (z + 1))), (3, .int (bI (b && decide (z < 256 ∧ ¬ r.2.2 0 z = 0)))), (0, .ref (base + 16)), (1, .int (nI P)), (2, .int (nI k))]) [0, 1, 2, 3, 4] rfl ?_
              exact ih (z + 1) _ (by omega) (by omega) (by rw [← hv, show P + k - z = (P + k - (z + 1)) + 1 by omega]; exact Bool.and_assoc _ _ _)
            · skip
              refine z_iconst (v := 1) C dX5_areUsable_35 (by decide) ?_
              refine z_goto (tgt := 40) C dX5_areUsable_36 (by decide) ?_
              refine z_casti (y := bI (b && decide (z < 256 ∧ ¬ r.2.2 0 z = 0))) (by first | (rw [bI_nt h14, show decide (z < 256 ∧ ¬ r.2.2 0 z = 0) = true from decide_eq_true ⟨z2, h32⟩]; rfl) | (rw [bI_ff h14]; rfl) | (rw [show decide (z < 256 ∧ ¬ r.2.2 0 z = 0) = false from decide_eq_false (fun q => by first | exact absurd h22 (nI_ge q.1 (by decide)) | exact q.2 h32), Bool.and_false]; rfl)) ?_
              refine z_istore_n (lv' := [(3, .int (bI (b && decide (z < 256 ∧ ¬ r.2.2 0 z = 0)))), (4, .int (nI z)), (0, .ref (base + 16)), (1, .int (nI P)), (2, .int (nI k))]) C dX5_areUsable_40 rfl (by decide) rfl ?_
              refine z_iinc (k := 1) (v := nI (z + 1)) (lv' := [(4, .int (nI (z + 1))), (3, .int (bI (b && decide (z < 256 ∧ ¬ r.2.2 0 z = 0)))), (0, .ref (base + 16)), (1, .int (nI P)), (2, .int (nI k))]) C dX5_areUsable_41 rfl (nI_1 z) (by decide) rfl ?_
              refine z_goto (tgt := 5) C dX5_areUsable_44 (by decide) ?_
              refine z_lv (lv' := [(4, .int (nI (z + 1))), (3, .int (bI (b && decide (z < 256 ∧ ¬ r.2.2 0 z = 0)))), (0, .ref (base + 16)), (1, .int (nI P)), (2, .int (nI k))]) [0, 1, 2, 3, 4] rfl ?_
              exact ih (z + 1) _ (by omega) (by omega) (by rw [← hv, show P + k - z = (P + k - (z + 1)) + 1 by omega]; exact Bool.and_assoc _ _ _)
  exact loop (k + 1) P true (by omega) (by omega) (by rw [Nat.add_sub_cancel_left]; rfl)

set_option maxHeartbeats 4000000 in
set_option maxRecDepth 100000 in
theorem m_X5_start (l : Launch) (G : z_G) (base : Nat) (xs : Nat → va_E) (r : r_T) (tl : List va_E) (hfo : ∀ p, r.2.1 1 p < 256) (hst : r.1 0 = 0) : z_M l G base yX5_start cX5_start 3 (some .int) 1 0 0 [.ref (base + 16)] (hpM G base xs r tl) (fun v hp' => v = some (.int (nI (r_sum (fun p => if r.2.2 0 p = 0 then 0 else 1) 256))) ∧ hp' = hpM G base xs (r_st (r.2.2 0) 256 0 (upd r.1 0 1, r.2)) tl) := by
  refine z_M.of (lv0 := [(0, .ref (base + 16))]) (by decide) (Nat.le_of_ble_eq_true rfl) rfl ?_
  intro p e s m below meth c hmn hrt C
  refine z_aload_n C dX5_start_0 rfl 0 rfl ?_
  refine z_get C fl_X5_58 dX5_start_1 rfl rfl ?_
  refine z_if_eq (tgt := 9) C dX5_start_4 (by decide) (fun h4 => ?_) (fun h4 => absurd h4 (fun q => q hst))
  refine z_aload_n C dX5_start_9 rfl 0 rfl ?_
  refine z_iconst (v := 1) C dX5_start_10 (by decide) ?_
  refine z_put C fl_X5_58 fp_X5 rfl dX5_start_11 rfl (by simp) rfl rfl ?_
  refine z_iconst (v := 0) C dX5_start_14 (by decide) ?_
  refine z_casti (y := nI 0) (rfl) ?_
  refine z_istore_n (lv' := [(1, .int (nI 0)), (0, .ref (base + 16))]) C dX5_start_15 rfl (by decide) rfl ?_
  refine z_lv (lv' := [(1, .int (nI 0)), (0, .ref (base + 16))]) [0, 1] rfl ?_
  have loop : ∀ (n : Nat) (z : Nat) (r1 : r_T), (z ≤ 256) → (257 ≤ n + z) → (∀ p, r1.2.1 1 p < 256) → (r1.2.2 0 = r.2.2 0) → (∃ q, 256 ≤ q + z ∧ r_st (r.2.2 0) q z r1 = r_st (r.2.2 0) 256 0 (upd r.1 0 1, r.2)) → z_R p l e (z_rm 1 0 0) s m ([Value.ref (base + 16)] : List Value).toArray below meth c (MQ below (z_Qc G base (fun v hp' => v = some (.int (nI (r_sum (fun p => if r.2.2 0 p = 0 then 0 else 1) 256))) ∧ hp' = hpM G base xs (r_st (r.2.2 0) 256 0 (upd r.1 0 1, r.2)) tl)) ([Value.ref (base + 16)] : List Value).toArray s 0 0 (fun z => base ≤ z)) G base 3 0 0 16 [(1, .int (nI z)), (0, .ref (base + 16))] [] (hpM G base xs r1 tl) := by
    intro n
    induction n with
    | zero => intro z r1 hz hn0 hfo1 hus hv; exact absurd hn0 (by omega)
    | succ n ih =>
      intro z r1 hz hn0 hfo1 hus hv
      have iho := ih
      refine z_iload_n C dX5_start_16 rfl 0 rfl ?_
      refine z_sipush (v := 256) C dX5_start_17 (by decide) ?_
      refine z_icmp_ge (tgt := 82) C dX5_start_20 (by decide) (fun h20 => ?_) (fun h20 => ?_)
      · skip
        have ze : z = 256 := by
          rcases Nat.lt_or_ge z 256 with q9 | q9
          · exact absurd h20 (nI_ge q9 (by decide))
          · omega
        refine z_aload_n C dX5_start_82 rfl 1 rfl ?_
        refine z_callV (rest := []) C (m_X5_usablePages l G base xs r1 tl) ml_X5_74 kw_X5_usablePages rfl rfl rfl rfl (by simp [Value.category]) dX5_start_83 (by decide) (by decide) (by decide) (by decide) ?_
        rintro _ _ ⟨rfl, rfl⟩
        refine z_st (st' := [.int (nI (r_sum (fun p => if r1.2.2 0 p = 0 then 0 else 1) 256))]) rfl ?_
        exact z_iret C hrt rfl dX5_start_86 (by decide) (by decide) (⟨by rw [hus], by obtain ⟨q, hq, hqe⟩ := hv; rw [← hqe, ze]; cases q with | zero => rfl | succ q => unfold r_st; rw [if_neg (by omega)]⟩)
      · skip
        have zl : z < 256 := by
          rcases Nat.lt_or_ge z 256 with q9 | q9
          · exact q9
          · exact absurd (nI_le (a := 256) (b := z) q9 (by omega)) h20
        refine z_aload_n C dX5_start_23 rfl 1 rfl ?_
        refine z_get C fl_X5_13 dX5_start_24 rfl rfl ?_
        refine z_iload_n C dX5_start_27 rfl 0 rfl ?_
        refine z_zaldN C dX5_start_28 rfl (by omega) (by decide) ?_
        refine z_if_eq (tgt := 76) C dX5_start_29 (by decide) (fun h29 => ?_) (fun h29 => ?_)
        · skip
          refine z_iinc (k := 0) (v := nI (z + 1)) (lv' := [(1, .int (nI (z + 1))), (0, .ref (base + 16))]) C dX5_start_76 rfl (nI_1 z) (by decide) rfl ?_
          refine z_goto (tgt := 16) C dX5_start_79 (by decide) ?_
          refine z_lv (lv' := [(1, .int (nI (z + 1))), (0, .ref (base + 16))]) [0, 1] rfl ?_
          exact iho (z + 1) r1 (by omega) (by omega) hfo1 hus (by obtain ⟨q, hq, hqe⟩ := hv; obtain ⟨q1, rfl⟩ : ∃ q1, q = q1 + 1 := ⟨q - 1, by omega⟩; refine ⟨q1, by omega, ?_⟩; rw [← hqe]; conv => rhs; unfold r_st; rw [if_pos zl, if_pos (by rw [← hus]; exact h29)])
        · skip
          refine z_bipush (v := 6) C dX5_start_32 (by decide) ?_
          refine z_casti (y := nI 6) (rfl) ?_
          refine z_istore_n (lv' := [(2, .int (nI 6)), (1, .int (nI z)), (0, .ref (base + 16))]) C dX5_start_34 rfl (by decide) rfl ?_
          refine z_lv (lv' := [(2, .int (nI 6)), (1, .int (nI z)), (0, .ref (base + 16))]) [0, 1, 2] rfl ?_
          have loop2 : ∀ (n : Nat) (j : Nat), (j ≤ 6) → (j + 1 ≤ n) → (r_so (r.2.2 0) z j = r_so (r.2.2 0) z 6) → z_R p l e (z_rm 1 0 0) s m ([Value.ref (base + 16)] : List Value).toArray below meth c (MQ below (z_Qc G base (fun v hp' => v = some (.int (nI (r_sum (fun p => if r.2.2 0 p = 0 then 0 else 1) 256))) ∧ hp' = hpM G base xs (r_st (r.2.2 0) 256 0 (upd r.1 0 1, r.2)) tl)) ([Value.ref (base + 16)] : List Value).toArray s 0 0 (fun z => base ≤ z)) G base 3 0 0 35 [(2, .int (nI j)), (1, .int (nI z)), (0, .ref (base + 16))] [] (hpM G base xs r1 tl) := by
            intro n
            induction n with
            | zero => intro j hj hn0 hvi; exact absurd hn0 (by omega)
            | succ n ih =>
              intro j hj hn0 hvi
              have ihi := ih
              have hp2 := two_le j (by omega)
              have hpos := Nat.two_pow_pos j
              refine z_iload_n C dX5_start_35 rfl 1 rfl ?_
              refine z_iconst (v := 1) C dX5_start_36 (by decide) ?_
              refine z_iload_n C dX5_start_37 rfl 0 rfl ?_
              refine z_ishl C dX5_start_38 ?_
              refine z_casti (y := nI (2 ^ j)) (nI_1lt _ (by omega)) ?_
              refine z_irem C dX5_start_39 (nI_ne0 hpos (by omega)) ?_
              refine z_casti (y := nI (z % 2 ^ j)) (pk_rem (by omega) hpos (by omega)) ?_
              refine z_if_ne (tgt := 54) C dX5_start_40 (by decide) (fun h40 => ?_) (fun h40 => ?_)
              · skip
                have hno0 : ¬ (z % 2 ^ j = 0 ∧ r_au (r.2.2 0) (2 ^ j) z = true) := fun q => h40 (by rw [q.1]; rfl)
                obtain ⟨j1, rfl⟩ : ∃ j1, j = j1 + 1 := by
                  cases j with
                  | zero => exact absurd ⟨Nat.mod_one z, by show (decide (z < 256 ∧ ¬ r.2.2 0 z = 0) && true) = true; rw [decide_eq_true ⟨zl, by rw [← hus]; exact h29⟩]; rfl⟩ hno0
                  | succ j1 => exact ⟨j1, rfl⟩
                have hno := hno0
                refine z_iinc (k := 0) (v := nI j1) (lv' := [(2, .int (nI j1)), (1, .int (nI z)), (0, .ref (base + 16))]) C dX5_start_54 rfl (by rw [add_m1]; exact nI_pred _) (by decide) rfl ?_
                refine z_goto (tgt := 35) C dX5_start_57 (by decide) ?_
                refine z_lv (lv' := [(2, .int (nI j1)), (1, .int (nI z)), (0, .ref (base + 16))]) [0, 1, 2] rfl ?_
                exact ihi j1 (by omega) (by omega) (by rw [← hvi]; exact (if_neg hno).symm)
              · skip
                refine z_aload_n C dX5_start_43 rfl 2 rfl ?_
                refine z_iload_n C dX5_start_44 rfl 1 rfl ?_
                refine z_iconst (v := 1) C dX5_start_45 (by decide) ?_
                refine z_iload_n C dX5_start_46 rfl 0 rfl ?_
                refine z_ishl C dX5_start_47 ?_
                refine z_casti (y := nI (2 ^ j)) (nI_1lt _ (by omega)) ?_
                refine z_callV (rest := []) C (m_X5_areUsable l G base xs r1 tl z (2 ^ j) zl hp2) ml_X5_66 kw_X5_areUsable rfl rfl rfl rfl (by simp [Value.category]) dX5_start_48 (by decide) (by decide) (by decide) (by decide) ?_
                rintro _ _ ⟨rfl, rfl⟩
                refine z_st (st' := [.int ((bI (r_au (r1.2.2 0) (2 ^ j) z)))]) rfl ?_
                refine z_if_ne (tgt := 60) C dX5_start_51 (by decide) (fun h51 => ?_) (fun h51 => ?_)
                · skip
                  have hso : j = r_so (r.2.2 0) z 6 := by
                    rw [← hvi]
                    cases j with
                    | zero => rfl
                    | succ j1 => exact (if_pos ⟨(nI_eq (b := 0) (by have := Nat.mod_lt z hpos; omega) (by decide)).mp h40, by rw [← hus]; exact bI_nt h51⟩).symm
                  have hzj : z + 2 ^ j ≤ 256 := by rw [hso]; exact r_so_in zl 6
                  refine z_aload_n C dX5_start_60 rfl 2 rfl ?_
                  refine z_iload_n C dX5_start_61 rfl 1 rfl ?_
                  refine z_iload_n C dX5_start_62 rfl 0 rfl ?_
                  refine z_iconst (v := 0) C dX5_start_63 (by decide) ?_
                  refine z_callV (rest := []) C (m_X5_makeBlock l G base xs r1 tl z j 0 hj hzj rfl) ml_X5_70 kw_X5_makeBlock rfl rfl rfl rfl (by simp [Value.category]) dX5_start_64 (by decide) (by decide) (by decide) (by decide) ?_
                  rintro _ _ ⟨rfl, rfl⟩
                  refine z_st (st' := []) rfl ?_
                  refine z_iload_n C dX5_start_67 rfl 1 rfl ?_
                  refine z_iconst (v := 1) C dX5_start_68 (by decide) ?_
                  refine z_iload_n C dX5_start_69 rfl 0 rfl ?_
                  refine z_ishl C dX5_start_70 ?_
                  refine z_casti (y := nI (2 ^ j)) (nI_1lt _ (by omega)) ?_
                  refine z_iadd C dX5_start_71 ?_
                  refine z_casti (y := nI (z + 2 ^ j)) (nI_add _ _) ?_
                  refine z_istore_n (lv' := [(1, .int (nI (z + 2 ^ j))), (2, .int (nI j)), (0, .ref (base + 16))]) C dX5_start_72 rfl (by decide) rfl ?_
                  refine z_goto (tgt := 16) C dX5_start_73 (by decide) ?_
                  refine z_lv (lv' := [(1, .int (nI (z + 2 ^ j))), (0, .ref (base + 16))]) [0, 2] rfl ?_
                  exact iho (z + 2 ^ j) _ (by omega) (by omega) (r_mk_fo hfo1 zl) hus (by obtain ⟨q, hq, hqe⟩ := hv; obtain ⟨q1, rfl⟩ : ∃ q1, q = q1 + 1 := ⟨q - 1, by omega⟩; refine ⟨q1, by omega, ?_⟩; rw [← hqe]; conv => rhs; unfold r_st; rw [if_pos zl, if_neg (by rw [← hus]; exact h29), ← hso])
                · skip
                  have hno0 : ¬ (z % 2 ^ j = 0 ∧ r_au (r.2.2 0) (2 ^ j) z = true) := fun q => by rw [← hus] at q; rw [bI_ff h51] at q; exact Bool.noConfusion q.2
                  obtain ⟨j1, rfl⟩ : ∃ j1, j = j1 + 1 := by
                    cases j with
                    | zero => exact absurd ⟨Nat.mod_one z, by show (decide (z < 256 ∧ ¬ r.2.2 0 z = 0) && true) = true; rw [decide_eq_true ⟨zl, by rw [← hus]; exact h29⟩]; rfl⟩ hno0
                    | succ j1 => exact ⟨j1, rfl⟩
                  have hno := hno0
                  refine z_iinc (k := 0) (v := nI j1) (lv' := [(2, .int (nI j1)), (1, .int (nI z)), (0, .ref (base + 16))]) C dX5_start_54 rfl (by rw [add_m1]; exact nI_pred _) (by decide) rfl ?_
                  refine z_goto (tgt := 35) C dX5_start_57 (by decide) ?_
                  refine z_lv (lv' := [(2, .int (nI j1)), (1, .int (nI z)), (0, .ref (base + 16))]) [0, 1, 2] rfl ?_
                  exact ihi j1 (by omega) (by omega) (by rw [← hvi]; exact (if_neg hno).symm)
          exact loop2 7 6 (by omega) (by omega) rfl
  refine z_hp (hp' := hpM G base xs (upd r.1 0 1, r.2) tl) rfl ?_
  exact loop 257 0 (upd r.1 0 1, r.2) (by omega) (by omega) hfo rfl ⟨256, by omega, rfl⟩

set_option maxHeartbeats 4000000 in
set_option maxRecDepth 100000 in
theorem m_X5_start_2 (l : Launch) (G : z_G) (base : Nat) (xs : Nat → va_E) (r : r_T) (tl : List va_E) (hst : ¬ r.1 0 = 0) : z_M l G base yX5_start cX5_start 3 (some .int) 1 0 0 [.ref (base + 16)] (hpM G base xs r tl) (fun v hp' => v = some (.int (-1)) ∧ hp' = hpM G base xs r tl) := by
  refine z_M.of (lv0 := [(0, .ref (base + 16))]) (by decide) (Nat.le_of_ble_eq_true rfl) rfl ?_
  intro p e s m below meth c hmn hrt C
  refine z_aload_n C dX5_start_0 rfl 0 rfl ?_
  refine z_get C fl_X5_58 dX5_start_1 rfl rfl ?_
  refine z_if_eq (tgt := 9) C dX5_start_4 (by decide) (fun h4 => absurd h4 (hst)) (fun h4 => ?_)
  refine z_iconst (v := -1) C dX5_start_7 (by decide) ?_
  exact z_iret C hrt rfl dX5_start_8 (by decide) (by decide) (⟨rfl, rfl⟩)
end
section
set_option maxHeartbeats 4000000 in
set_option maxRecDepth 100000 in
theorem m_X5_faultOfPage (l : Launch) (G : z_G) (base : Nat) (xs : Nat → va_E) (r : r_T) (tl : List va_E) (hfo : ∀ p, r.2.1 1 p < 256) (x : Int32) : z_M l G base yX5_faultOfPage cX5_faultOfPage 2 (some .int) 2 0 0 [.ref (base + 16), .int (x)] (hpM G base xs r tl) (fun v hp' => v = some (.int (r_fp r (x))) ∧ hp' = hpM G base xs r tl) := by
  refine z_M.of (lv0 := [(0, .ref (base + 16)), (1, .int (x))]) (by decide) (Nat.le_of_ble_eq_true rfl) rfl ?_
  intro p e s m below meth c hmn hrt C
  refine z_aload_n C dX5_faultOfPage_0 rfl 0 rfl ?_
  refine z_iload_n C dX5_faultOfPage_1 rfl 1 rfl ?_
  refine z_callV (rest := []) C (m_X5_isFirst_any l G base xs r tl hfo (x) (fun z hz => m_X5_isFirst l G base xs r tl hfo z hz) (fun h => m_X5_isFirst_out l G base xs r tl (x) h)) ml_X5_78 kw_X5_isFirst rfl rfl rfl rfl (by simp [Value.category]) dX5_faultOfPage_2 (by decide) (by decide) (by decide) (by decide) ?_
  rintro _ _ ⟨rfl, rfl⟩
  refine z_st (st' := [.int ((bI (r_fi r (x))))]) rfl ?_
  refine z_if_ne (tgt := 11) C dX5_faultOfPage_5 (by decide) (fun h5 => ?_) (fun h5 => ?_)
  · skip
    obtain ⟨z, hz, rfl, hfs⟩ := r_fi_true (bI_nt h5)
    refine z_aload_n C dX5_faultOfPage_11 rfl 0 rfl ?_
    refine z_get C fl_X5_23 dX5_faultOfPage_12 rfl rfl ?_
    refine z_iload_n C dX5_faultOfPage_15 rfl 1 rfl ?_
    refine z_zaldN C dX5_faultOfPage_16 rfl (by omega) (by decide) ?_
    refine z_if_ne (tgt := 25) C dX5_faultOfPage_17 (by decide) (fun h17 => ?_) (fun h17 => ?_)
    · skip
      refine z_aload_n C dX5_faultOfPage_25 rfl 0 rfl ?_
      refine z_get C fl_X5_26 dX5_faultOfPage_26 rfl rfl ?_
      refine z_iload_n C dX5_faultOfPage_29 rfl 1 rfl ?_
      refine z_ialdN C dX5_faultOfPage_30 rfl (by omega) (by decide) ?_
      refine z_if_lt (tgt := 39) C dX5_faultOfPage_31 (by decide) (fun h31 => ?_) (fun h31 => ?_)
      · skip
        refine z_iconst (v := 0) C dX5_faultOfPage_39 (by decide) ?_
        exact z_iret C hrt rfl dX5_faultOfPage_40 (by decide) (by decide) (⟨by unfold r_fp; rw [if_pos (bI_nt h5), cl_nI hz]; first | rw [if_pos h17] | (rw [if_neg h17]; first | rw [if_neg (Int32.not_le.mpr h31)] | rw [if_pos (Int32.not_lt.mp h31)]), rfl⟩)
      · skip
        refine z_bipush (v := -2) C dX5_faultOfPage_34 (by decide) ?_
        refine z_goto (tgt := 40) C dX5_faultOfPage_36 (by decide) ?_
        exact z_iret C hrt rfl dX5_faultOfPage_40 (by decide) (by decide) (⟨by unfold r_fp; rw [if_pos (bI_nt h5), cl_nI hz]; first | rw [if_pos h17] | (rw [if_neg h17]; first | rw [if_neg (Int32.not_le.mpr h31)] | rw [if_pos (Int32.not_lt.mp h31)]), rfl⟩)
    · skip
      refine z_bipush (v := -3) C dX5_faultOfPage_20 (by decide) ?_
      refine z_goto (tgt := 40) C dX5_faultOfPage_22 (by decide) ?_
      exact z_iret C hrt rfl dX5_faultOfPage_40 (by decide) (by decide) (⟨by unfold r_fp; rw [if_pos (bI_nt h5), cl_nI hz]; first | rw [if_pos h17] | (rw [if_neg h17]; first | rw [if_neg (Int32.not_le.mpr h31)] | rw [if_pos (Int32.not_lt.mp h31)]), rfl⟩)
  · skip
    refine z_bipush (v := -2) C dX5_faultOfPage_8 (by decide) ?_
    exact z_iret C hrt rfl dX5_faultOfPage_10 (by decide) (by decide) (⟨by unfold r_fp; rw [if_neg (by rw [bI_ff h5]; exact Bool.false_ne_true)], rfl⟩)

set_option maxHeartbeats 4000000 in
set_option maxRecDepth 100000 in
theorem m_X5_freePages (l : Launch) (G : z_G) (base : Nat) (xs : Nat → va_E) (r : r_T) (tl : List va_E) (hfo : ∀ p, r.2.1 1 p < 256) (hoo : ∀ p, r.2.1 2 p ≤ 6) (hfa : ∀ p, p < 256 → r_first r p = true → p % 2 ^ r.2.1 2 p = 0) (x : Int32) : z_M l G base yX5_freePages cX5_freePages 3 (some .int) 4 0 0 [.ref (base + 16), .int (x)] (hpM G base xs r tl) (fun v hp' => v = some (.int (r_fpA r (x))) ∧ hp' = hpM G base xs (r_fpS r (x)) tl) := by
  refine z_M.of (lv0 := [(0, .ref (base + 16)), (1, .int (x))]) (by decide) (Nat.le_of_ble_eq_true rfl) rfl ?_
  intro p e s m below meth c hmn hrt C
  refine z_aload_n C dX5_freePages_0 rfl 0 rfl ?_
  refine z_iload_n C dX5_freePages_1 rfl 1 rfl ?_
  refine z_callV (rest := []) C (m_X5_faultOfPage l G base xs r tl hfo x) ml_X5_104 kw_X5_faultOfPage rfl rfl rfl rfl (by simp [Value.category]) dX5_freePages_2 (by decide) (by decide) (by decide) (by decide) ?_
  rintro _ _ ⟨rfl, rfl⟩
  refine z_st (st' := [.int (r_fp r (x))]) rfl ?_
  rcases r_fp_cases r x with h9 | h9 | ⟨h9, z, hz, rfl, hfs, htk, hcc⟩
  · skip
    refine z_casti h9 ?_
    refine z_istore_n (lv' := [(2, .int ((-2 : Int32))), (0, .ref (base + 16)), (1, .int (x))]) C dX5_freePages_5 rfl (by decide) rfl ?_
    refine z_iload_n C dX5_freePages_6 rfl 0 rfl ?_
    refine z_if_ge (tgt := 14) C dX5_freePages_7 (by decide) (fun h7 => absurd h7 (by decide)) (fun h7 => ?_)
    refine z_iload_n C dX5_freePages_10 rfl 0 rfl ?_
    refine z_goto (tgt := 19) C dX5_freePages_11 (by decide) ?_
    exact z_iret C hrt rfl dX5_freePages_19 (by decide) (by decide) (by first | exact ⟨by unfold r_fpA; rw [if_neg (by rw [h9]; decide), h9], by unfold r_fpS; rw [if_neg (by rw [h9]; decide)]⟩ | exact ⟨by unfold r_fpA; rw [if_pos h9, cl_nI hz], by unfold r_fpS; rw [if_pos h9, cl_nI hz]⟩)
  · skip
    refine z_casti h9 ?_
    refine z_istore_n (lv' := [(2, .int ((-3 : Int32))), (0, .ref (base + 16)), (1, .int (x))]) C dX5_freePages_5 rfl (by decide) rfl ?_
    refine z_iload_n C dX5_freePages_6 rfl 0 rfl ?_
    refine z_if_ge (tgt := 14) C dX5_freePages_7 (by decide) (fun h7 => absurd h7 (by decide)) (fun h7 => ?_)
    refine z_iload_n C dX5_freePages_10 rfl 0 rfl ?_
    refine z_goto (tgt := 19) C dX5_freePages_11 (by decide) ?_
    exact z_iret C hrt rfl dX5_freePages_19 (by decide) (by decide) (by first | exact ⟨by unfold r_fpA; rw [if_neg (by rw [h9]; decide), h9], by unfold r_fpS; rw [if_neg (by rw [h9]; decide)]⟩ | exact ⟨by unfold r_fpA; rw [if_pos h9, cl_nI hz], by unfold r_fpS; rw [if_pos h9, cl_nI hz]⟩)
  · skip
    refine z_casti h9 ?_
    refine z_istore_n (lv' := [(2, .int ((0 : Int32))), (0, .ref (base + 16)), (1, .int (nI z))]) C dX5_freePages_5 rfl (by decide) rfl ?_
    refine z_iload_n C dX5_freePages_6 rfl 0 rfl ?_
    refine z_if_ge (tgt := 14) C dX5_freePages_7 (by decide) (fun h7 => ?_) (fun h7 => absurd h7 (by decide))
    refine z_aload_n C dX5_freePages_14 rfl 1 rfl ?_
    refine z_iload_n C dX5_freePages_15 rfl 2 rfl ?_
    refine z_callV (rest := []) C (m_X5_giveBlock l G base xs r tl hfo hoo z hz (hfa z hz hfs)) ml_X5_107 kw_X5_giveBlock rfl rfl rfl rfl (by simp [Value.category]) dX5_freePages_16 (by decide) (by decide) (by decide) (by decide) ?_
    rintro _ _ ⟨rfl, rfl⟩
    refine z_st (st' := [.int (nI (2 ^ r.2.1 2 z))]) rfl ?_
    exact z_iret C hrt rfl dX5_freePages_19 (by decide) (by decide) (by first | exact ⟨by unfold r_fpA; rw [if_neg (by rw [h9]; decide), h9], by unfold r_fpS; rw [if_neg (by rw [h9]; decide)]⟩ | exact ⟨by unfold r_fpA; rw [if_pos h9, cl_nI hz], by unfold r_fpS; rw [if_pos h9, cl_nI hz]⟩)

set_option maxHeartbeats 4000000 in
set_option maxRecDepth 100000 in
theorem m_X5_pages (l : Launch) (G : z_G) (base : Nat) (xs : Nat → va_E) (r : r_T) (tl : List va_E) (hfo : ∀ p, r.2.1 1 p < 256) (hoo : ∀ p, r.2.1 2 p ≤ 6) (hal : ∀ p, p < 256 → r_free r p = true → p + 2 ^ r.2.1 2 p ≤ 256) (x : Int32) : z_M l G base yX5_pages cX5_pages 2 (some .int) 5 0 0 [.ref (base + 16), .int (x)] (hpM G base xs r tl) (fun v hp' => v = some (.int (r_pgA r (x))) ∧ hp' = hpM G base xs (r_pgS r (x)) tl) := by
  refine z_M.of (lv0 := [(0, .ref (base + 16)), (1, .int (x))]) (by decide) (Nat.le_of_ble_eq_true rfl) rfl ?_
  intro p e s m below meth c hmn hrt C
  refine z_aload_n C dX5_pages_0 rfl 0 rfl ?_
  refine z_get C fl_X5_58 dX5_pages_1 rfl rfl ?_
  refine z_if_eq (tgt := 25) C dX5_pages_4 (by decide) (fun h4 => ?_) (fun h4 => ?_)
  · skip
    refine z_iconst (v := -1) C dX5_pages_25 (by decide) ?_
    exact z_iret C hrt rfl dX5_pages_26 (by decide) (by decide) (by first | exact ⟨by unfold r_pgA; rw [if_neg (by first | exact fun q => q.1 h4 | exact fun q => bI_eq h14 q.2)], by unfold r_pgS; rw [if_neg (by first | exact fun q => q.1 h4 | exact fun q => bI_eq h14 q.2)]⟩ | exact ⟨by unfold r_pgA; rw [if_pos ⟨h4, hxx⟩, hck], by unfold r_pgS; rw [if_pos ⟨h4, hxx⟩, hck]⟩)
  · skip
    refine z_iload_n C dX5_pages_7 rfl 1 rfl ?_
    refine z_iconst (v := 0) C dX5_pages_8 (by decide) ?_
    refine z_bipush (v := 6) C dX5_pages_9 (by decide) ?_
    refine z_callS (rest := []) C (m_X5_in l G base _ (x) ((0 : Int32)) ((6 : Int32))) ml_X5_62 kw_X5_in rfl rfl (by simp [Value.category]) dX5_pages_11 (by decide) (by decide) (by decide) (by decide) ?_
    rintro _ _ ⟨rfl, rfl⟩
    refine z_st (st' := [.int ((bI (decide ((0 : Int32) ≤ x ∧ x ≤ (6 : Int32)))))]) rfl ?_
    refine z_if_eq (tgt := 25) C dX5_pages_14 (by decide) (fun h14 => ?_) (fun h14 => ?_)
    · skip
      refine z_iconst (v := -1) C dX5_pages_25 (by decide) ?_
      exact z_iret C hrt rfl dX5_pages_26 (by decide) (by decide) (by first | exact ⟨by unfold r_pgA; rw [if_neg (by first | exact fun q => q.1 h4 | exact fun q => bI_eq h14 q.2)], by unfold r_pgS; rw [if_neg (by first | exact fun q => q.1 h4 | exact fun q => bI_eq h14 q.2)]⟩ | exact ⟨by unfold r_pgA; rw [if_pos ⟨h4, hxx⟩, hck], by unfold r_pgS; rw [if_pos ⟨h4, hxx⟩, hck]⟩)
    · skip
      have hxx := bI_ne h14
      obtain ⟨k, hk, rfl⟩ := in_of (M := 6) (by decide) hxx
      have hck : (nI k).toNatClampNeg = k := nI_clamp (by omega)
      refine z_aload_n C dX5_pages_17 rfl 0 rfl ?_
      refine z_iload_n C dX5_pages_18 rfl 1 rfl ?_
      refine z_callV (rest := []) C (m_X5_takeBlock l G base xs r tl hfo hoo hal k hk) ml_X5_100 kw_X5_takeBlock rfl rfl rfl rfl (by simp [Value.category]) dX5_pages_19 (by decide) (by decide) (by decide) (by decide) ?_
      rintro _ _ ⟨rfl, rfl⟩
      refine z_st (st' := [.int (oI (r_tk r k))]) rfl ?_
      refine z_goto (tgt := 26) C dX5_pages_22 (by decide) ?_
      exact z_iret C hrt rfl dX5_pages_26 (by decide) (by decide) (by first | exact ⟨by unfold r_pgA; rw [if_neg (by first | exact fun q => q.1 h4 | exact fun q => bI_eq h14 q.2)], by unfold r_pgS; rw [if_neg (by first | exact fun q => q.1 h4 | exact fun q => bI_eq h14 q.2)]⟩ | exact ⟨by unfold r_pgA; rw [if_pos ⟨h4, hxx⟩, hck], by unfold r_pgS; rw [if_pos ⟨h4, hxx⟩, hck]⟩)

set_option maxHeartbeats 4000000 in
set_option maxRecDepth 100000 in
theorem m_X5_usable (l : Launch) (G : z_G) (base : Nat) (xs : Nat → va_E) (r : r_T) (tl : List va_E) (x y : Int32) : z_M l G base yX5_usable cX5_usable 4 (some .boolean) 1 0 0 [.ref (base + 16), .int (x), .int (y)] (hpM G base xs r tl) (fun v hp' => v = some (.int (bI (r_usB r (x) (y)))) ∧ hp' = hpM G base xs (r_usS r (x) (y)) tl) := by
  refine z_M.of (lv0 := [(0, .ref (base + 16)), (1, .int (x)), (2, .int (y))]) (by decide) (Nat.le_of_ble_eq_true rfl) rfl ?_
  intro p e s m below meth c hmn hrt C
  refine z_aload_n C dX5_usable_0 rfl 0 rfl ?_
  refine z_get C fl_X5_58 dX5_usable_1 rfl rfl ?_
  refine z_if_ne (tgt := 29) C dX5_usable_4 (by decide) (fun h4 => ?_) (fun h4 => ?_)
  · skip
    refine z_iconst (v := 0) C dX5_usable_29 (by decide) ?_
    exact z_iret C hrt rfl dX5_usable_30 (by decide) (by decide) (⟨by rw [show r_usB r x y = false from decide_eq_false (by first | exact fun q => h4 q.1 | exact fun q => bI_eq h15 q.2.1 | exact fun q => bI_eq h26 q.2.2)]; rfl, by unfold r_usS; rw [if_neg (by rw [show r_usB r x y = false from decide_eq_false (by first | exact fun q => h4 q.1 | exact fun q => bI_eq h15 q.2.1 | exact fun q => bI_eq h26 q.2.2)]; exact Bool.false_ne_true)]⟩)
  · skip
    refine z_iload_n C dX5_usable_7 rfl 1 rfl ?_
    refine z_iconst (v := 0) C dX5_usable_8 (by decide) ?_
    refine z_sipush (v := 255) C dX5_usable_9 (by decide) ?_
    refine z_callS (rest := []) C (m_X5_in l G base _ (x) ((0 : Int32)) ((255 : Int32))) ml_X5_62 kw_X5_in rfl rfl (by simp [Value.category]) dX5_usable_12 (by decide) (by decide) (by decide) (by decide) ?_
    rintro _ _ ⟨rfl, rfl⟩
    refine z_st (st' := [.int ((bI (decide ((0 : Int32) ≤ x ∧ x ≤ (255 : Int32)))))]) rfl ?_
    refine z_if_eq (tgt := 29) C dX5_usable_15 (by decide) (fun h15 => ?_) (fun h15 => ?_)
    · skip
      refine z_iconst (v := 0) C dX5_usable_29 (by decide) ?_
      exact z_iret C hrt rfl dX5_usable_30 (by decide) (by decide) (⟨by rw [show r_usB r x y = false from decide_eq_false (by first | exact fun q => h4 q.1 | exact fun q => bI_eq h15 q.2.1 | exact fun q => bI_eq h26 q.2.2)]; rfl, by unfold r_usS; rw [if_neg (by rw [show r_usB r x y = false from decide_eq_false (by first | exact fun q => h4 q.1 | exact fun q => bI_eq h15 q.2.1 | exact fun q => bI_eq h26 q.2.2)]; exact Bool.false_ne_true)]⟩)
    · skip
      refine z_iload_n C dX5_usable_18 rfl 2 rfl ?_
      refine z_iload_n C dX5_usable_19 rfl 1 rfl ?_
      refine z_sipush (v := 255) C dX5_usable_20 (by decide) ?_
      refine z_callS (rest := []) C (m_X5_in l G base _ (y) (x) ((255 : Int32))) ml_X5_62 kw_X5_in rfl rfl (by simp [Value.category]) dX5_usable_23 (by decide) (by decide) (by decide) (by decide) ?_
      rintro _ _ ⟨rfl, rfl⟩
      refine z_st (st' := [.int ((bI (decide (x ≤ y ∧ y ≤ (255 : Int32)))))]) rfl ?_
      refine z_if_ne (tgt := 31) C dX5_usable_26 (by decide) (fun h26 => ?_) (fun h26 => ?_)
      · skip
        have hxx := bI_ne h15
        have hyy := bI_ne h26
        obtain ⟨a, ha, rfl⟩ := in_of (M := 255) (by decide) hxx
        obtain ⟨b, hb, rfl⟩ := in_of (M := 255) (by decide) ⟨Int32.le_trans hxx.1 hyy.1, hyy.2⟩
        have hab : a ≤ b := (nI_leI (by omega) (by omega)).mp hyy.1
        have hB : r_usB r (nI a) (nI b) = true := decide_eq_true ⟨h4, hxx, hyy⟩
        refine z_iload_n C dX5_usable_31 rfl 1 rfl ?_
        refine z_istore_n (lv' := [(3, .int (nI a)), (0, .ref (base + 16)), (1, .int (nI a)), (2, .int (nI b))]) C dX5_usable_32 rfl (by decide) rfl ?_
        refine z_lv (lv' := [(3, .int (nI a)), (0, .ref (base + 16)), (2, .int (nI b))]) [0, 1, 3] rfl ?_
        have loop : ∀ (n : Nat) (z : Nat) (f : Nat → Int32), (z ≤ b + 1) → (b + 2 ≤ n + z) → (r_tell (b + 1 - z) z f = r_tell (b + 1 - a) a (r.2.2 0)) → z_R p l e (z_rm 1 0 0) s m ([Value.ref (base + 16), .int (nI a), .int (nI b)] : List Value).toArray below meth c (MQ below (z_Qc G base (fun v hp' => v = some (.int (bI (r_usB r (nI a) (nI b)))) ∧ hp' = hpM G base xs (r_usS r (nI a) (nI b)) tl)) ([Value.ref (base + 16), .int (nI a), .int (nI b)] : List Value).toArray s 0 0 (fun z => base ≤ z)) G base 4 0 0 33 [(3, .int (nI z)), (0, .ref (base + 16)), (2, .int (nI b))] [] (hpM G base xs (r.1, r.2.1, va_up r.2.2 0 f) tl) := by
          intro n
          induction n with
          | zero => intro z f hz hn0 hv; exact absurd hn0 (by omega)
          | succ n ih =>
            intro z f hz hn0 hv
            refine z_iload_n C dX5_usable_33 rfl 0 rfl ?_
            refine z_iload_n C dX5_usable_34 rfl 2 rfl ?_
            refine z_icmp_gt (tgt := 51) C dX5_usable_35 (by decide) (fun h35 => ?_) (fun h35 => ?_)
            · skip
              have ze : z = b + 1 := by
                rcases Nat.lt_or_ge b z with q9 | q9
                · omega
                · exact absurd h35 (nI_nlt q9 (by omega))
              refine z_iconst (v := 1) C dX5_usable_51 (by decide) ?_
              exact z_iret C hrt rfl dX5_usable_52 (by decide) (by decide) (⟨by rw [hB]; rfl, by unfold r_usS; rw [if_pos hB, cl_nI (by omega), cl_nI (by omega), ← hv, ze, Nat.sub_self]; rfl⟩)
            · skip
              have zl : z ≤ b := by
                rcases Nat.lt_or_ge b z with q9 | q9
                · exact absurd (nI_lt q9 (by omega)) h35
                · exact q9
              refine z_aload_n C dX5_usable_38 rfl 1 rfl ?_
              refine z_get C fl_X5_13 dX5_usable_39 rfl rfl ?_
              refine z_iload_n C dX5_usable_42 rfl 0 rfl ?_
              refine z_iconst (v := 1) C dX5_usable_43 (by decide) ?_
              refine z_zastN C dX5_usable_44 rfl (by omega) (by decide) ?_
              refine z_iinc (k := 0) (v := nI (z + 1)) (lv' := [(3, .int (nI (z + 1))), (0, .ref (base + 16)), (2, .int (nI b))]) C dX5_usable_45 rfl (nI_1 z) (by decide) rfl ?_
              refine z_goto (tgt := 33) C dX5_usable_48 (by decide) ?_
              refine z_lv (lv' := [(3, .int (nI (z + 1))), (0, .ref (base + 16)), (2, .int (nI b))]) [0, 1, 2] rfl ?_
              refine z_hp (hp' := hpM G base xs (r.1, r.2.1, va_up r.2.2 0 (upd f z 1)) tl) rfl ?_
              exact ih (z + 1) _ (by omega) (by omega) (by rw [← hv, show b + 1 - z = (b + 1 - (z + 1)) + 1 by omega]; rfl)
        refine z_hp (hp' := hpM G base xs (r.1, r.2.1, va_up r.2.2 0 (r.2.2 0)) tl) rfl ?_
        exact loop (b + 2) a _ (by omega) (by omega) rfl
      · skip
        refine z_iconst (v := 0) C dX5_usable_29 (by decide) ?_
        exact z_iret C hrt rfl dX5_usable_30 (by decide) (by decide) (⟨by rw [show r_usB r x y = false from decide_eq_false (by first | exact fun q => h4 q.1 | exact fun q => bI_eq h15 q.2.1 | exact fun q => bI_eq h26 q.2.2)]; rfl, by unfold r_usS; rw [if_neg (by rw [show r_usB r x y = false from decide_eq_false (by first | exact fun q => h4 q.1 | exact fun q => bI_eq h15 q.2.1 | exact fun q => bI_eq h26 q.2.2)]; exact Bool.false_ne_true)]⟩)

set_option maxHeartbeats 4000000 in
set_option maxRecDepth 100000 in
theorem m_X5_objectsOf (l : Launch) (G : z_G) (base : Nat) (xs : Nat → va_E) (r : r_T) (tl : List va_E) (c0 : Nat) (hc : c0 < 12) (hs : 1 ≤ r.2.1 7 c0) (hs2 : r.2.1 7 c0 < 65536) (ho : r.2.1 8 c0 ≤ 4) : z_M l G base yX5_objectsOf cX5_objectsOf 2 (some .int) 0 0 0 [.ref (base + 16), .int (nI c0)] (hpM G base xs r tl) (fun v hp' => v = some (.int (nI (r_ob r c0))) ∧ hp' = hpM G base xs r tl) := by
  refine z_M.of (lv0 := [(0, .ref (base + 16)), (1, .int (nI c0))]) (by decide) (Nat.le_of_ble_eq_true rfl) rfl ?_
  intro p e s m below meth c hmn hrt C
  have hp2 := two_le (r.2.1 8 c0) (by omega)
  refine z_bipush (v := 64) C dX5_objectsOf_0 (by decide) ?_
  refine z_aload_n C dX5_objectsOf_2 rfl 0 rfl ?_
  refine z_get C fl_X5_44 dX5_objectsOf_3 rfl rfl ?_
  refine z_iload_n C dX5_objectsOf_6 rfl 1 rfl ?_
  refine z_ialdK C dX5_objectsOf_7 rfl (by omega) (by decide) ?_
  refine z_ishl C dX5_objectsOf_8 ?_
  refine z_casti (y := nI (64 * 2 ^ r.2.1 8 c0)) (nI_64 _ (by omega)) ?_
  refine z_aload_n C dX5_objectsOf_9 rfl 0 rfl ?_
  refine z_get C fl_X5_41 dX5_objectsOf_10 rfl rfl ?_
  refine z_iload_n C dX5_objectsOf_13 rfl 1 rfl ?_
  refine z_ialdK C dX5_objectsOf_14 rfl (by omega) (by decide) ?_
  refine z_idiv C dX5_objectsOf_15 (nI_ne0 hs (by omega)) ?_
  refine z_casti (y := nI (r_ob r c0)) (pk_div (by omega) (by omega) (by omega)) ?_
  exact z_iret C hrt rfl dX5_objectsOf_16 (by decide) (by decide) (⟨rfl, rfl⟩)

set_option maxHeartbeats 4000000 in
set_option maxRecDepth 100000 in
theorem m_X5_isCache (l : Launch) (G : z_G) (base : Nat) (xs : Nat → va_E) (r : r_T) (tl : List va_E) (x : Int32) : z_M l G base yX5_isCache cX5_isCache 2 (some .boolean) 1 0 0 [.ref (base + 16), .int (x)] (hpM G base xs r tl) (fun v hp' => v = some (.int (bI (r_isc r (x)))) ∧ hp' = hpM G base xs r tl) := by
  refine z_M.of (lv0 := [(0, .ref (base + 16)), (1, .int (x))]) (by decide) (Nat.le_of_ble_eq_true rfl) rfl ?_
  intro p e s m below meth c hmn hrt C
  refine z_iload_n C dX5_isCache_0 rfl 1 rfl ?_
  refine z_iconst (v := 0) C dX5_isCache_1 (by decide) ?_
  refine z_aload_n C dX5_isCache_2 rfl 0 rfl ?_
  refine z_get C fl_X5_110 dX5_isCache_3 rfl rfl ?_
  refine z_iconst (v := 1) C dX5_isCache_6 (by decide) ?_
  refine z_isub C dX5_isCache_7 ?_
  refine z_callS (rest := []) C (m_X5_in l G base _ (x) ((0 : Int32)) ((r.1 1 - (1 : Int32)))) ml_X5_62 kw_X5_in rfl rfl (by simp [Value.category]) dX5_isCache_8 (by decide) (by decide) (by decide) (by decide) ?_
  rintro _ _ ⟨rfl, rfl⟩
  refine z_st (st' := [.int ((bI (decide ((0 : Int32) ≤ x ∧ x ≤ (r.1 1 - (1 : Int32))))))]) rfl ?_
  exact z_iret C hrt (nar_b _) dX5_isCache_11 (by decide) (by decide) (⟨rfl, rfl⟩)

set_option maxHeartbeats 4000000 in
set_option maxRecDepth 100000 in
theorem m_X5_isSlab (l : Launch) (G : z_G) (base : Nat) (xs : Nat → va_E) (r : r_T) (tl : List va_E) (hfo : ∀ p, r.2.1 1 p < 256) (z c0 : Nat) (hz : z < 256) : z_M l G base yX5_isSlab cX5_isSlab 3 (some .boolean) 2 0 0 [.ref (base + 16), .int (nI z), .int (nI c0)] (hpM G base xs r tl) (fun v hp' => v = some (.int (bI (r_slab r z c0))) ∧ hp' = hpM G base xs r tl) := by
  refine z_M.of (lv0 := [(0, .ref (base + 16)), (1, .int (nI z)), (2, .int (nI c0))]) (by decide) (Nat.le_of_ble_eq_true rfl) rfl ?_
  intro p e s m below meth c hmn hrt C
  refine z_aload_n C dX5_isSlab_0 rfl 0 rfl ?_
  refine z_iload_n C dX5_isSlab_1 rfl 1 rfl ?_
  refine z_callV (rest := []) C (m_X5_isFirst l G base xs r tl hfo z (by omega)) ml_X5_78 kw_X5_isFirst rfl rfl rfl rfl (by simp [Value.category]) dX5_isSlab_2 (by decide) (by decide) (by decide) (by decide) ?_
  rintro _ _ ⟨rfl, rfl⟩
  refine z_st (st' := [.int ((bI (r_first r z)))]) rfl ?_
  refine z_if_eq (tgt := 31) C dX5_isSlab_5 (by decide) (fun h5 => ?_) (fun h5 => ?_)
  · skip
    refine z_iconst (v := 0) C dX5_isSlab_31 (by decide) ?_
    exact z_iret C hrt rfl dX5_isSlab_32 (by decide) (by decide) (⟨by unfold r_slab; rw [← bI_f (by first | (exact fun q => by rw [bI_ff h5] at q; exact Bool.noConfusion q.1) | exact fun q => q.2.1 h14 | exact fun q => h24 q.2.2)], rfl⟩)
  · skip
    refine z_aload_n C dX5_isSlab_8 rfl 0 rfl ?_
    refine z_get C fl_X5_23 dX5_isSlab_9 rfl rfl ?_
    refine z_iload_n C dX5_isSlab_12 rfl 1 rfl ?_
    refine z_zaldN C dX5_isSlab_13 rfl (by omega) (by decide) ?_
    refine z_if_eq (tgt := 31) C dX5_isSlab_14 (by decide) (fun h14 => ?_) (fun h14 => ?_)
    · skip
      refine z_iconst (v := 0) C dX5_isSlab_31 (by decide) ?_
      exact z_iret C hrt rfl dX5_isSlab_32 (by decide) (by decide) (⟨by unfold r_slab; rw [← bI_f (by first | (exact fun q => by rw [bI_ff h5] at q; exact Bool.noConfusion q.1) | exact fun q => q.2.1 h14 | exact fun q => h24 q.2.2)], rfl⟩)
    · skip
      refine z_aload_n C dX5_isSlab_17 rfl 0 rfl ?_
      refine z_get C fl_X5_26 dX5_isSlab_18 rfl rfl ?_
      refine z_iload_n C dX5_isSlab_21 rfl 1 rfl ?_
      refine z_ialdN C dX5_isSlab_22 rfl (by omega) (by decide) ?_
      refine z_iload_n C dX5_isSlab_23 rfl 2 rfl ?_
      refine z_icmp_ne (tgt := 31) C dX5_isSlab_24 (by decide) (fun h24 => ?_) (fun h24 => ?_)
      · skip
        refine z_iconst (v := 0) C dX5_isSlab_31 (by decide) ?_
        exact z_iret C hrt rfl dX5_isSlab_32 (by decide) (by decide) (⟨by unfold r_slab; rw [← bI_f (by first | (exact fun q => by rw [bI_ff h5] at q; exact Bool.noConfusion q.1) | exact fun q => q.2.1 h14 | exact fun q => h24 q.2.2)], rfl⟩)
      · skip
        refine z_iconst (v := 1) C dX5_isSlab_27 (by decide) ?_
        refine z_goto (tgt := 32) C dX5_isSlab_28 (by decide) ?_
        exact z_iret C hrt rfl dX5_isSlab_32 (by decide) (by decide) (⟨by unfold r_slab; rw [← bI_t ⟨bI_nt h5, h14, h24⟩], rfl⟩)

set_option maxHeartbeats 4000000 in
set_option maxRecDepth 100000 in
theorem m_X5_liveOf (l : Launch) (G : z_G) (base : Nat) (xs : Nat → va_E) (r : r_T) (tl : List va_E) (z c0 : Nat) (hz : z < 256) (hcz : r.2.2 2 z = nI c0) (hc : c0 < 12) (hs : 1 ≤ r.2.1 7 c0) (hs2 : r.2.1 7 c0 < 65536) (ho : r.2.1 8 c0 ≤ 4) (hl : r.2.1 4 z ≤ r_ob r c0) : z_M l G base yX5_liveOf cX5_liveOf 2 (some .int) 1 0 0 [.ref (base + 16), .int (nI z)] (hpM G base xs r tl) (fun v hp' => v = some (.int (nI (r_ob r c0 - r.2.1 4 z))) ∧ hp' = hpM G base xs r tl) := by
  refine z_M.of (lv0 := [(0, .ref (base + 16)), (1, .int (nI z))]) (by decide) (Nat.le_of_ble_eq_true rfl) rfl ?_
  intro p e s m below meth c hmn hrt C
  refine z_aload_n C dX5_liveOf_0 rfl 0 rfl ?_
  refine z_aload_n C dX5_liveOf_1 rfl 0 rfl ?_
  refine z_get C fl_X5_26 dX5_liveOf_2 rfl rfl ?_
  refine z_iload_n C dX5_liveOf_5 rfl 1 rfl ?_
  refine z_ialdN C dX5_liveOf_6 rfl (by omega) (by decide) ?_
  refine z_casti (y := nI c0) (hcz) ?_
  refine z_callV (rest := []) C (m_X5_objectsOf l G base xs r tl c0 hc hs hs2 ho) ml_X5_113 kw_X5_objectsOf rfl rfl rfl rfl (by simp [Value.category]) dX5_liveOf_7 (by decide) (by decide) (by decide) (by decide) ?_
  rintro _ _ ⟨rfl, rfl⟩
  refine z_st (st' := [.int (nI (r_ob r c0))]) rfl ?_
  refine z_aload_n C dX5_liveOf_10 rfl 0 rfl ?_
  refine z_get C fl_X5_32 dX5_liveOf_11 rfl rfl ?_
  refine z_iload_n C dX5_liveOf_14 rfl 1 rfl ?_
  refine z_ialdK C dX5_liveOf_15 rfl (by omega) (by decide) ?_
  refine z_isub C dX5_liveOf_16 ?_
  refine z_casti (y := nI (r_ob r c0 - r.2.1 4 z)) (pk_sub hl) ?_
  exact z_iret C hrt rfl dX5_liveOf_17 (by decide) (by decide) (⟨rfl, rfl⟩)

set_option maxHeartbeats 4000000 in
set_option maxRecDepth 100000 in
theorem m_X5_slabsOf (l : Launch) (G : z_G) (base : Nat) (xs : Nat → va_E) (r : r_T) (tl : List va_E) (hfo : ∀ p, r.2.1 1 p < 256) (c0 : Nat) : z_M l G base yX5_slabsOf cX5_slabsOf 4 (some .int) 3 0 0 [.ref (base + 16), .int (nI c0)] (hpM G base xs r tl) (fun v hp' => v = some (.int (nI (r_sum (fun p => if r_slab r p c0 = true then 1 else 0) 256))) ∧ hp' = hpM G base xs r tl) := by
  refine z_M.of (lv0 := [(0, .ref (base + 16)), (1, .int (nI c0))]) (by decide) (Nat.le_of_ble_eq_true rfl) rfl ?_
  intro p e s m below meth c hmn hrt C
  refine z_iconst (v := 0) C dX5_slabsOf_0 (by decide) ?_
  refine z_casti (y := nI 0) (rfl) ?_
  refine z_istore_n (lv' := [(2, .int (nI 0)), (0, .ref (base + 16)), (1, .int (nI c0))]) C dX5_slabsOf_1 rfl (by decide) rfl ?_
  refine z_iconst (v := 0) C dX5_slabsOf_2 (by decide) ?_
  refine z_casti (y := nI 0) (rfl) ?_
  refine z_istore_n (lv' := [(3, .int (nI 0)), (2, .int (nI 0)), (0, .ref (base + 16)), (1, .int (nI c0))]) C dX5_slabsOf_3 rfl (by decide) rfl ?_
  refine z_lv (lv' := [(3, .int (nI 0)), (2, .int (nI 0)), (0, .ref (base + 16)), (1, .int (nI c0))]) [0, 1, 2, 3] rfl ?_
  have loop : ∀ (n : Nat) (z : Nat), (z ≤ 256) → (257 ≤ n + z) → z_R p l e (z_rm 3 0 0) s m ([Value.ref (base + 16), .int (nI c0)] : List Value).toArray below meth c (MQ below (z_Qc G base (fun v hp' => v = some (.int (nI (r_sum (fun p => if r_slab r p c0 = true then 1 else 0) 256))) ∧ hp' = hpM G base xs r tl)) ([Value.ref (base + 16), .int (nI c0)] : List Value).toArray s 0 0 (fun z => base ≤ z)) G base 4 0 0 4 [(3, .int (nI z)), (2, .int (nI (r_sum (fun p => if r_slab r p c0 = true then 1 else 0) z))), (0, .ref (base + 16)), (1, .int (nI c0))] [] (hpM G base xs r tl) := by
    intro n
    induction n with
    | zero => intro z hz hn0; exact absurd hn0 (by omega)
    | succ n ih =>
      intro z hz hn0
      refine z_iload_n C dX5_slabsOf_4 rfl 0 rfl ?_
      refine z_sipush (v := 256) C dX5_slabsOf_5 (by decide) ?_
      refine z_icmp_ge (tgt := 34) C dX5_slabsOf_8 (by decide) (fun h8 => ?_) (fun h8 => ?_)
      · skip
        have ze : z = 256 := by
          rcases Nat.lt_or_ge z 256 with q9 | q9
          · exact absurd h8 (nI_ge q9 (by decide))
          · omega
        refine z_iload_n C dX5_slabsOf_34 rfl 1 rfl ?_
        exact z_iret C hrt rfl dX5_slabsOf_35 (by decide) (by decide) (⟨by rw [ze], rfl⟩)
      · skip
        have zl : z < 256 := by
          rcases Nat.lt_or_ge z 256 with q9 | q9
          · exact q9
          · exact absurd (nI_le (a := 256) (b := z) q9 (by omega)) h8
        refine z_aload_n C dX5_slabsOf_11 rfl 2 rfl ?_
        refine z_iload_n C dX5_slabsOf_12 rfl 0 rfl ?_
        refine z_iload_n C dX5_slabsOf_13 rfl 3 rfl ?_
        refine z_callV (rest := []) C (m_X5_isSlab l G base xs r tl hfo z c0 (by omega)) ml_X5_119 kw_X5_isSlab rfl rfl rfl rfl (by simp [Value.category]) dX5_slabsOf_14 (by decide) (by decide) (by decide) (by decide) ?_
        rintro _ _ ⟨rfl, rfl⟩
        refine z_st (st' := [.int ((bI (r_slab r z c0)))]) rfl ?_
        refine z_if_eq (tgt := 26) C dX5_slabsOf_17 (by decide) (fun h17 => ?_) (fun h17 => ?_)
        · skip
          refine z_iload_n C dX5_slabsOf_26 rfl 1 rfl ?_
          refine z_casti (y := nI (r_sum (fun p => if r_slab r p c0 = true then 1 else 0) (z + 1))) (by show _ = nI (r_sum (fun p => if r_slab r p c0 = true then 1 else 0) z + (fun p => if r_slab r p c0 = true then 1 else 0) z); first | (rw [show (fun p => if r_slab r p c0 = true then 1 else 0) z = 0 from if_neg (by rw [bI_ff h17]; exact Bool.false_ne_true)]; rfl) | (rw [show (fun p => if r_slab r p c0 = true then 1 else 0) z = 1 from if_pos (bI_nt h17)]; exact nI_add _ _)) ?_
          refine z_istore_n (lv' := [(2, .int (nI (r_sum (fun p => if r_slab r p c0 = true then 1 else 0) (z + 1)))), (3, .int (nI z)), (0, .ref (base + 16)), (1, .int (nI c0))]) C dX5_slabsOf_27 rfl (by decide) rfl ?_
          refine z_iinc (k := 1) (v := nI (z + 1)) (lv' := [(3, .int (nI (z + 1))), (2, .int (nI (r_sum (fun p => if r_slab r p c0 = true then 1 else 0) (z + 1)))), (0, .ref (base + 16)), (1, .int (nI c0))]) C dX5_slabsOf_28 rfl (nI_1 z) (by decide) rfl ?_
          refine z_goto (tgt := 4) C dX5_slabsOf_31 (by decide) ?_
          refine z_lv (lv' := [(3, .int (nI (z + 1))), (2, .int (nI (r_sum (fun p => if r_slab r p c0 = true then 1 else 0) (z + 1)))), (0, .ref (base + 16)), (1, .int (nI c0))]) [0, 1, 2, 3] rfl ?_
          exact ih (z + 1) (by omega) (by omega)
        · skip
          refine z_iload_n C dX5_slabsOf_20 rfl 1 rfl ?_
          refine z_iconst (v := 1) C dX5_slabsOf_21 (by decide) ?_
          refine z_iadd C dX5_slabsOf_22 ?_
          refine z_goto (tgt := 27) C dX5_slabsOf_23 (by decide) ?_
          refine z_casti (y := nI (r_sum (fun p => if r_slab r p c0 = true then 1 else 0) (z + 1))) (by show _ = nI (r_sum (fun p => if r_slab r p c0 = true then 1 else 0) z + (fun p => if r_slab r p c0 = true then 1 else 0) z); first | (rw [show (fun p => if r_slab r p c0 = true then 1 else 0) z = 0 from if_neg (by rw [bI_ff h17]; exact Bool.false_ne_true)]; rfl) | (rw [show (fun p => if r_slab r p c0 = true then 1 else 0) z = 1 from if_pos (bI_nt h17)]; exact nI_add _ _)) ?_
          refine z_istore_n (lv' := [(2, .int (nI (r_sum (fun p => if r_slab r p c0 = true then 1 else 0) (z + 1)))), (3, .int (nI z)), (0, .ref (base + 16)), (1, .int (nI c0))]) C dX5_slabsOf_27 rfl (by decide) rfl ?_
          refine z_iinc (k := 1) (v := nI (z + 1)) (lv' := [(3, .int (nI (z + 1))), (2, .int (nI (r_sum (fun p => if r_slab r p c0 = true then 1 else 0) (z + 1)))), (0, .ref (base + 16)), (1, .int (nI c0))]) C dX5_slabsOf_28 rfl (nI_1 z) (by decide) rfl ?_
          refine z_goto (tgt := 4) C dX5_slabsOf_31 (by decide) ?_
          refine z_lv (lv' := [(3, .int (nI (z + 1))), (2, .int (nI (r_sum (fun p => if r_slab r p c0 = true then 1 else 0) (z + 1)))), (0, .ref (base + 16)), (1, .int (nI c0))]) [0, 1, 2, 3] rfl ?_
          exact ih (z + 1) (by omega) (by omega)
  exact loop 257 0 (by omega) (by omega)

set_option maxHeartbeats 4000000 in
set_option maxRecDepth 100000 in
theorem m_X5_liveIn (l : Launch) (G : z_G) (base : Nat) (xs : Nat → va_E) (r : r_T) (tl : List va_E) (hfo : ∀ p, r.2.1 1 p < 256) (c0 : Nat) (hc : c0 < 12) (hs : 1 ≤ r.2.1 7 c0) (hs2 : r.2.1 7 c0 < 65536) (ho : r.2.1 8 c0 ≤ 4) (hlv : ∀ p, p < 256 → r_slab r p c0 = true → r.2.1 4 p ≤ r_ob r c0) : z_M l G base yX5_liveIn cX5_liveIn 4 (some .int) 3 0 0 [.ref (base + 16), .int (nI c0)] (hpM G base xs r tl) (fun v hp' => v = some (.int (nI (r_sum (fun p => if r_slab r p c0 = true then r_ob r c0 - r.2.1 4 p else 0) 256))) ∧ hp' = hpM G base xs r tl) := by
  refine z_M.of (lv0 := [(0, .ref (base + 16)), (1, .int (nI c0))]) (by decide) (Nat.le_of_ble_eq_true rfl) rfl ?_
  intro p e s m below meth c hmn hrt C
  refine z_iconst (v := 0) C dX5_liveIn_0 (by decide) ?_
  refine z_casti (y := nI 0) (rfl) ?_
  refine z_istore_n (lv' := [(2, .int (nI 0)), (0, .ref (base + 16)), (1, .int (nI c0))]) C dX5_liveIn_1 rfl (by decide) rfl ?_
  refine z_iconst (v := 0) C dX5_liveIn_2 (by decide) ?_
  refine z_casti (y := nI 0) (rfl) ?_
  refine z_istore_n (lv' := [(3, .int (nI 0)), (2, .int (nI 0)), (0, .ref (base + 16)), (1, .int (nI c0))]) C dX5_liveIn_3 rfl (by decide) rfl ?_
  refine z_lv (lv' := [(3, .int (nI 0)), (2, .int (nI 0)), (0, .ref (base + 16)), (1, .int (nI c0))]) [0, 1, 2, 3] rfl ?_
  have loop : ∀ (n : Nat) (z : Nat), (z ≤ 256) → (257 ≤ n + z) → z_R p l e (z_rm 3 0 0) s m ([Value.ref (base + 16), .int (nI c0)] : List Value).toArray below meth c (MQ below (z_Qc G base (fun v hp' => v = some (.int (nI (r_sum (fun p => if r_slab r p c0 = true then r_ob r c0 - r.2.1 4 p else 0) 256))) ∧ hp' = hpM G base xs r tl)) ([Value.ref (base + 16), .int (nI c0)] : List Value).toArray s 0 0 (fun z => base ≤ z)) G base 4 0 0 4 [(3, .int (nI z)), (2, .int (nI (r_sum (fun p => if r_slab r p c0 = true then r_ob r c0 - r.2.1 4 p else 0) z))), (0, .ref (base + 16)), (1, .int (nI c0))] [] (hpM G base xs r tl) := by
    intro n
    induction n with
    | zero => intro z hz hn0; exact absurd hn0 (by omega)
    | succ n ih =>
      intro z hz hn0
      refine z_iload_n C dX5_liveIn_4 rfl 0 rfl ?_
      refine z_sipush (v := 256) C dX5_liveIn_5 (by decide) ?_
      refine z_icmp_ge (tgt := 38) C dX5_liveIn_8 (by decide) (fun h8 => ?_) (fun h8 => ?_)
      · skip
        have ze : z = 256 := by
          rcases Nat.lt_or_ge z 256 with q9 | q9
          · exact absurd h8 (nI_ge q9 (by decide))
          · omega
        refine z_iload_n C dX5_liveIn_38 rfl 1 rfl ?_
        exact z_iret C hrt rfl dX5_liveIn_39 (by decide) (by decide) (⟨by rw [ze], rfl⟩)
      · skip
        have zl : z < 256 := by
          rcases Nat.lt_or_ge z 256 with q9 | q9
          · exact q9
          · exact absurd (nI_le (a := 256) (b := z) q9 (by omega)) h8
        refine z_aload_n C dX5_liveIn_11 rfl 2 rfl ?_
        refine z_iload_n C dX5_liveIn_12 rfl 0 rfl ?_
        refine z_iload_n C dX5_liveIn_13 rfl 3 rfl ?_
        refine z_callV (rest := []) C (m_X5_isSlab l G base xs r tl hfo z c0 (by omega)) ml_X5_119 kw_X5_isSlab rfl rfl rfl rfl (by simp [Value.category]) dX5_liveIn_14 (by decide) (by decide) (by decide) (by decide) ?_
        rintro _ _ ⟨rfl, rfl⟩
        refine z_st (st' := [.int ((bI (r_slab r z c0)))]) rfl ?_
        refine z_if_eq (tgt := 30) C dX5_liveIn_17 (by decide) (fun h17 => ?_) (fun h17 => ?_)
        · skip
          refine z_iload_n C dX5_liveIn_30 rfl 1 rfl ?_
          refine z_casti (y := nI (r_sum (fun p => if r_slab r p c0 = true then r_ob r c0 - r.2.1 4 p else 0) (z + 1))) (by show _ = nI (r_sum (fun p => if r_slab r p c0 = true then r_ob r c0 - r.2.1 4 p else 0) z + (fun p => if r_slab r p c0 = true then r_ob r c0 - r.2.1 4 p else 0) z); first | (rw [show (fun p => if r_slab r p c0 = true then r_ob r c0 - r.2.1 4 p else 0) z = 0 from if_neg (by rw [bI_ff h17]; exact Bool.false_ne_true)]; rfl) | (rw [show (fun p => if r_slab r p c0 = true then r_ob r c0 - r.2.1 4 p else 0) z = r_ob r c0 - r.2.1 4 z from if_pos (bI_nt h17)]; exact nI_add _ _)) ?_
          refine z_istore_n (lv' := [(2, .int (nI (r_sum (fun p => if r_slab r p c0 = true then r_ob r c0 - r.2.1 4 p else 0) (z + 1)))), (3, .int (nI z)), (0, .ref (base + 16)), (1, .int (nI c0))]) C dX5_liveIn_31 rfl (by decide) rfl ?_
          refine z_iinc (k := 1) (v := nI (z + 1)) (lv' := [(3, .int (nI (z + 1))), (2, .int (nI (r_sum (fun p => if r_slab r p c0 = true then r_ob r c0 - r.2.1 4 p else 0) (z + 1)))), (0, .ref (base + 16)), (1, .int (nI c0))]) C dX5_liveIn_32 rfl (nI_1 z) (by decide) rfl ?_
          refine z_goto (tgt := 4) C dX5_liveIn_35 (by decide) ?_
          refine z_lv (lv' := [(3, .int (nI (z + 1))), (2, .int (nI (r_sum (fun p => if r_slab r p c0 = true then r_ob r c0 - r.2.1 4 p else 0) (z + 1)))), (0, .ref (base + 16)), (1, .int (nI c0))]) [0, 1, 2, 3] rfl ?_
          exact ih (z + 1) (by omega) (by omega)
        · skip
          refine z_iload_n C dX5_liveIn_20 rfl 1 rfl ?_
          refine z_aload_n C dX5_liveIn_21 rfl 2 rfl ?_
          refine z_iload_n C dX5_liveIn_22 rfl 0 rfl ?_
          refine z_callV (rest := [.int (nI (r_sum (fun p => if r_slab r p c0 = true then r_ob r c0 - r.2.1 4 p else 0) z))]) C (m_X5_liveOf l G base xs r tl z c0 zl (of_decide_eq_true (bI_nt h17)).2.2 hc hs hs2 ho (hlv z zl (bI_nt h17))) ml_X5_122 kw_X5_liveOf rfl rfl rfl rfl (by simp [Value.category]) dX5_liveIn_23 (by decide) (by decide) (by decide) (by decide) ?_
          rintro _ _ ⟨rfl, rfl⟩
          refine z_st (st' := [.int (nI (r_ob r c0 - r.2.1 4 z)), .int (nI (r_sum (fun p => if r_slab r p c0 = true then r_ob r c0 - r.2.1 4 p else 0) z))]) rfl ?_
          refine z_iadd C dX5_liveIn_26 ?_
          refine z_goto (tgt := 31) C dX5_liveIn_27 (by decide) ?_
          refine z_casti (y := nI (r_sum (fun p => if r_slab r p c0 = true then r_ob r c0 - r.2.1 4 p else 0) (z + 1))) (by show _ = nI (r_sum (fun p => if r_slab r p c0 = true then r_ob r c0 - r.2.1 4 p else 0) z + (fun p => if r_slab r p c0 = true then r_ob r c0 - r.2.1 4 p else 0) z); first | (rw [show (fun p => if r_slab r p c0 = true then r_ob r c0 - r.2.1 4 p else 0) z = 0 from if_neg (by rw [bI_ff h17]; exact Bool.false_ne_true)]; rfl) | (rw [show (fun p => if r_slab r p c0 = true then r_ob r c0 - r.2.1 4 p else 0) z = r_ob r c0 - r.2.1 4 z from if_pos (bI_nt h17)]; exact nI_add _ _)) ?_
          refine z_istore_n (lv' := [(2, .int (nI (r_sum (fun p => if r_slab r p c0 = true then r_ob r c0 - r.2.1 4 p else 0) (z + 1)))), (3, .int (nI z)), (0, .ref (base + 16)), (1, .int (nI c0))]) C dX5_liveIn_31 rfl (by decide) rfl ?_
          refine z_iinc (k := 1) (v := nI (z + 1)) (lv' := [(3, .int (nI (z + 1))), (2, .int (nI (r_sum (fun p => if r_slab r p c0 = true then r_ob r c0 - r.2.1 4 p else 0) (z + 1)))), (0, .ref (base + 16)), (1, .int (nI c0))]) C dX5_liveIn_32 rfl (nI_1 z) (by decide) rfl ?_
          refine z_goto (tgt := 4) C dX5_liveIn_35 (by decide) ?_
          refine z_lv (lv' := [(3, .int (nI (z + 1))), (2, .int (nI (r_sum (fun p => if r_slab r p c0 = true then r_ob r c0 - r.2.1 4 p else 0) (z + 1)))), (0, .ref (base + 16)), (1, .int (nI c0))]) [0, 1, 2, 3] rfl ?_
          exact ih (z + 1) (by omega) (by omega)
  exact loop 257 0 (by omega) (by omega)

set_option maxHeartbeats 4000000 in
set_option maxRecDepth 100000 in
theorem m_X5_isAddress (l : Launch) (G : z_G) (base : Nat) (hp : List va_E) (x : Int32) : z_M l G base yX5_isAddress cX5_isAddress 1 (some .boolean) 1 0 0 [.int (x)] hp (fun v hp' => v = some (.int (bI (decide (0 ≤ x ∧ x ≤ 16383)))) ∧ hp' = hp) := by
  refine z_M.of (lv0 := [(0, .int (x))]) (by decide) (Nat.le_of_ble_eq_true rfl) rfl ?_
  intro p e s m below meth c hmn hrt C
  refine z_iload_n C dX5_isAddress_0 rfl 0 rfl ?_
  refine z_iconst (v := 0) C dX5_isAddress_1 (by decide) ?_
  refine z_sipush (v := 16383) C dX5_isAddress_2 (by decide) ?_
  refine z_callS (rest := []) C (m_X5_in l G base _ (x) ((0 : Int32)) ((16383 : Int32))) ml_X5_62 kw_X5_in rfl rfl (by simp [Value.category]) dX5_isAddress_5 (by decide) (by decide) (by decide) (by decide) ?_
  rintro _ _ ⟨rfl, rfl⟩
  refine z_st (st' := [.int ((bI (decide ((0 : Int32) ≤ x ∧ x ≤ (16383 : Int32)))))]) rfl ?_
  exact z_iret C hrt (nar_b _) dX5_isAddress_8 (by decide) (by decide) (⟨rfl, rfl⟩)

set_option maxHeartbeats 4000000 in
set_option maxRecDepth 100000 in
theorem m_X5_read (l : Launch) (G : z_G) (base : Nat) (xs : Nat → va_E) (r : r_T) (tl : List va_E) (x : Int32) : z_M l G base yX5_read cX5_read 2 (some .int) 2 0 0 [.ref (base + 16), .int (x)] (hpM G base xs r tl) (fun v hp' => v = some (.int (r_rdA r (x))) ∧ hp' = hpM G base xs r tl) := by
  refine z_M.of (lv0 := [(0, .ref (base + 16)), (1, .int (x))]) (by decide) (Nat.le_of_ble_eq_true rfl) rfl ?_
  intro p e s m below meth c hmn hrt C
  refine z_iload_n C dX5_read_0 rfl 1 rfl ?_
  refine z_callS (rest := []) C (m_X5_isAddress l G base _ (x)) ml_X5_155 kw_X5_isAddress rfl rfl (by simp [Value.category]) dX5_read_1 (by decide) (by decide) (by decide) (by decide) ?_
  rintro _ _ ⟨rfl, rfl⟩
  refine z_st (st' := [.int ((bI (decide (0 ≤ x ∧ x ≤ 16383))))]) rfl ?_
  refine z_if_eq (tgt := 16) C dX5_read_4 (by decide) (fun h4 => ?_) (fun h4 => ?_)
  · skip
    refine z_iconst (v := -1) C dX5_read_16 (by decide) ?_
    exact z_iret C hrt rfl dX5_read_17 (by decide) (by decide) (by first | exact ⟨by unfold r_rdA; rw [if_neg (bI_eq h4)], rfl⟩ | exact ⟨by unfold r_rdA; rw [if_pos hxx, hca], rfl⟩)
  · skip
    have hxx := bI_ne h4
    obtain ⟨a, ha, rfl⟩ := in_of (M := 16383) (by decide) hxx
    have hca : (nI a).toNatClampNeg = a := nI_clamp (by omega)
    refine z_aload_n C dX5_read_7 rfl 0 rfl ?_
    refine z_get C fl_X5_7 dX5_read_8 rfl rfl ?_
    refine z_iload_n C dX5_read_11 rfl 1 rfl ?_
    refine z_ialdK C dX5_read_12 rfl (by omega) (by decide) ?_
    refine z_goto (tgt := 17) C dX5_read_13 (by decide) ?_
    exact z_iret C hrt rfl dX5_read_17 (by decide) (by decide) (by first | exact ⟨by unfold r_rdA; rw [if_neg (bI_eq h4)], rfl⟩ | exact ⟨by unfold r_rdA; rw [if_pos hxx, hca], rfl⟩)

set_option maxHeartbeats 4000000 in
set_option maxRecDepth 100000 in
theorem m_X5_write (l : Launch) (G : z_G) (base : Nat) (xs : Nat → va_E) (r : r_T) (tl : List va_E) (x y : Int32) : z_M l G base yX5_write cX5_write 4 (some .int) 2 0 0 [.ref (base + 16), .int (x), .int (y)] (hpM G base xs r tl) (fun v hp' => v = some (.int (r_rdA r (x))) ∧ hp' = hpM G base xs (r_wrS r (x) (y)) tl) := by
  refine z_M.of (lv0 := [(0, .ref (base + 16)), (1, .int (x)), (2, .int (y))]) (by decide) (Nat.le_of_ble_eq_true rfl) rfl ?_
  intro p e s m below meth c hmn hrt C
  refine z_iload_n C dX5_write_0 rfl 1 rfl ?_
  refine z_callS (rest := []) C (m_X5_isAddress l G base _ (x)) ml_X5_155 kw_X5_isAddress rfl rfl (by simp [Value.category]) dX5_write_1 (by decide) (by decide) (by decide) (by decide) ?_
  rintro _ _ ⟨rfl, rfl⟩
  refine z_st (st' := [.int ((bI (decide (0 ≤ x ∧ x ≤ 16383))))]) rfl ?_
  refine z_if_ne (tgt := 9) C dX5_write_4 (by decide) (fun h4 => ?_) (fun h4 => ?_)
  · skip
    have hxx := bI_ne h4
    obtain ⟨a, ha, rfl⟩ := in_of (M := 16383) (by decide) hxx
    have hca : (nI a).toNatClampNeg = a := nI_clamp (by omega)
    refine z_aload_n C dX5_write_9 rfl 0 rfl ?_
    refine z_get C fl_X5_7 dX5_write_10 rfl rfl ?_
    refine z_iload_n C dX5_write_13 rfl 1 rfl ?_
    refine z_ialdK C dX5_write_14 rfl (by omega) (by decide) ?_
    refine z_istore_n (lv' := [(3, .int (nI (((r.2.1 0)) a))), (0, .ref (base + 16)), (1, .int (nI a)), (2, .int (y))]) C dX5_write_15 rfl (by decide) rfl ?_
    refine z_aload_n C dX5_write_16 rfl 1 rfl ?_
    refine z_get C fl_X5_7 dX5_write_17 rfl rfl ?_
    refine z_iload_n C dX5_write_20 rfl 2 rfl ?_
    refine z_iload_n C dX5_write_21 rfl 3 rfl ?_
    refine z_sipush (v := 255) C dX5_write_22 (by decide) ?_
    refine z_iand C dX5_write_25 ?_
    refine z_casti (y := nI (y.toBitVec.toNat % 256)) (pk_and y 8 (by decide)) ?_
    refine z_iastK C dX5_write_26 rfl (by omega) (by decide) ?_
    refine z_iload_n C dX5_write_27 rfl 0 rfl ?_
    exact z_iret C hrt rfl dX5_write_28 (by decide) (by decide) (by first | exact ⟨by unfold r_rdA; rw [if_neg (bI_eq h4)], by unfold r_wrS; rw [if_neg (bI_eq h4)]⟩ | exact ⟨by unfold r_rdA; rw [if_pos hxx, hca], by unfold r_wrS; rw [if_pos hxx, hca]; rfl⟩)
  · skip
    refine z_iconst (v := -1) C dX5_write_7 (by decide) ?_
    exact z_iret C hrt rfl dX5_write_8 (by decide) (by decide) (by first | exact ⟨by unfold r_rdA; rw [if_neg (bI_eq h4)], by unfold r_wrS; rw [if_neg (bI_eq h4)]⟩ | exact ⟨by unfold r_rdA; rw [if_pos hxx, hca], by unfold r_wrS; rw [if_pos hxx, hca]; rfl⟩)

set_option maxHeartbeats 4000000 in
set_option maxRecDepth 100000 in
theorem m_X5_arm (l : Launch) (G : z_G) (base : Nat) (xs : Nat → va_E) (r : r_T) (tl : List va_E) (x : Int32) : z_M l G base yX5_arm cX5_arm 2 (some .boolean) 1 0 0 [.ref (base + 16), .int (x)] (hpM G base xs r tl) (fun v hp' => v = some (.int (bI (decide (0 ≤ x ∧ x ≤ 100)))) ∧ hp' = hpM G base xs (r_armS r (x)) tl) := by
  refine z_M.of (lv0 := [(0, .ref (base + 16)), (1, .int (x))]) (by decide) (Nat.le_of_ble_eq_true rfl) rfl ?_
  intro p e s m below meth c hmn hrt C
  refine z_iload_n C dX5_arm_0 rfl 1 rfl ?_
  refine z_iconst (v := 0) C dX5_arm_1 (by decide) ?_
  refine z_bipush (v := 100) C dX5_arm_2 (by decide) ?_
  refine z_callS (rest := []) C (m_X5_in l G base _ (x) ((0 : Int32)) ((100 : Int32))) ml_X5_62 kw_X5_in rfl rfl (by simp [Value.category]) dX5_arm_4 (by decide) (by decide) (by decide) (by decide) ?_
  rintro _ _ ⟨rfl, rfl⟩
  refine z_st (st' := [.int ((bI (decide ((0 : Int32) ≤ x ∧ x ≤ (100 : Int32)))))]) rfl ?_
  refine z_if_ne (tgt := 12) C dX5_arm_7 (by decide) (fun h7 => ?_) (fun h7 => ?_)
  · skip
    refine z_aload_n C dX5_arm_12 rfl 0 rfl ?_
    refine z_iload_n C dX5_arm_13 rfl 1 rfl ?_
    refine z_put C fl_X5_50 fp_X5 rfl dX5_arm_14 rfl (by simp) rfl rfl ?_
    refine z_iconst (v := 1) C dX5_arm_17 (by decide) ?_
    exact z_iret C hrt rfl dX5_arm_18 (by decide) (by decide) (by first | exact ⟨by rw [← bI_f (bI_eq h7)], by unfold r_armS; rw [if_neg (bI_eq h7)]⟩ | exact ⟨by rw [← bI_t (bI_ne h7)], by unfold r_armS; rw [if_pos (bI_ne h7)]; rfl⟩)
  · skip
    refine z_iconst (v := 0) C dX5_arm_10 (by decide) ?_
    exact z_iret C hrt rfl dX5_arm_11 (by decide) (by decide) (by first | exact ⟨by rw [← bI_f (bI_eq h7)], by unfold r_armS; rw [if_neg (bI_eq h7)]⟩ | exact ⟨by rw [← bI_t (bI_ne h7)], by unfold r_armS; rw [if_pos (bI_ne h7)]; rfl⟩)

set_option maxHeartbeats 4000000 in
set_option maxRecDepth 100000 in
theorem m_X5_block (l : Launch) (G : z_G) (base : Nat) (xs : Nat → va_E) (r : r_T) (tl : List va_E) (x : Int32) : z_M l G base yX5_block cX5_block 2 (some .int) 1 0 0 [.ref (base + 16), .int (x)] (hpM G base xs r tl) (fun v hp' => v = some (.int (oI (r_bk r (x)))) ∧ hp' = hpM G base xs r tl) := by
  refine z_M.of (lv0 := [(0, .ref (base + 16)), (1, .int (x))]) (by decide) (Nat.le_of_ble_eq_true rfl) rfl ?_
  intro p e s m below meth c hmn hrt C
  refine z_aload_n C dX5_block_0 rfl 0 rfl ?_
  refine z_get C fl_X5_58 dX5_block_1 rfl rfl ?_
  refine z_if_eq (tgt := 36) C dX5_block_4 (by decide) (fun h4 => ?_) (fun h4 => ?_)
  · skip
    refine z_iconst (v := -1) C dX5_block_36 (by decide) ?_
    exact z_iret C hrt rfl dX5_block_37 (by decide) (by decide) (by first | exact ⟨by rw [show r_bk r x = none from (by unfold r_bk; rw [if_neg (by first | exact fun q => q.1 h4 | exact fun q => bI_eq h15 q.2.1 | exact fun q => q.2.2 (by rw [hcz]; exact h24))])]; rfl, rfl⟩ | exact ⟨by rw [show r_bk r (nI z) = none from (by unfold r_bk; rw [if_neg (by first | exact fun q => q.1 h4 | exact fun q => bI_eq h15 q.2.1 | exact fun q => q.2.2 (by rw [hcz]; exact h24))])]; rfl, rfl⟩ | exact ⟨by unfold r_bk; rw [if_pos ⟨h4, hxx, by rw [hcz]; exact h24⟩, hcz]; rfl, rfl⟩)
  · skip
    refine z_iload_n C dX5_block_7 rfl 1 rfl ?_
    refine z_iconst (v := 0) C dX5_block_8 (by decide) ?_
    refine z_sipush (v := 255) C dX5_block_9 (by decide) ?_
    refine z_callS (rest := []) C (m_X5_in l G base _ (x) ((0 : Int32)) ((255 : Int32))) ml_X5_62 kw_X5_in rfl rfl (by simp [Value.category]) dX5_block_12 (by decide) (by decide) (by decide) (by decide) ?_
    rintro _ _ ⟨rfl, rfl⟩
    refine z_st (st' := [.int ((bI (decide ((0 : Int32) ≤ x ∧ x ≤ (255 : Int32)))))]) rfl ?_
    refine z_if_eq (tgt := 36) C dX5_block_15 (by decide) (fun h15 => ?_) (fun h15 => ?_)
    · skip
      refine z_iconst (v := -1) C dX5_block_36 (by decide) ?_
      exact z_iret C hrt rfl dX5_block_37 (by decide) (by decide) (by first | exact ⟨by rw [show r_bk r x = none from (by unfold r_bk; rw [if_neg (by first | exact fun q => q.1 h4 | exact fun q => bI_eq h15 q.2.1 | exact fun q => q.2.2 (by rw [hcz]; exact h24))])]; rfl, rfl⟩ | exact ⟨by rw [show r_bk r (nI z) = none from (by unfold r_bk; rw [if_neg (by first | exact fun q => q.1 h4 | exact fun q => bI_eq h15 q.2.1 | exact fun q => q.2.2 (by rw [hcz]; exact h24))])]; rfl, rfl⟩ | exact ⟨by unfold r_bk; rw [if_pos ⟨h4, hxx, by rw [hcz]; exact h24⟩, hcz]; rfl, rfl⟩)
    · skip
      have hxx := bI_ne h15
      obtain ⟨z, hz, rfl⟩ := in_of (M := 255) (by decide) hxx
      have hcz : (nI z).toNatClampNeg = z := nI_clamp (by omega)
      refine z_aload_n C dX5_block_18 rfl 0 rfl ?_
      refine z_get C fl_X5_13 dX5_block_19 rfl rfl ?_
      refine z_iload_n C dX5_block_22 rfl 1 rfl ?_
      refine z_zaldN C dX5_block_23 rfl (by omega) (by decide) ?_
      refine z_if_eq (tgt := 36) C dX5_block_24 (by decide) (fun h24 => ?_) (fun h24 => ?_)
      · skip
        refine z_iconst (v := -1) C dX5_block_36 (by decide) ?_
        exact z_iret C hrt rfl dX5_block_37 (by decide) (by decide) (by first | exact ⟨by rw [show r_bk r x = none from (by unfold r_bk; rw [if_neg (by first | exact fun q => q.1 h4 | exact fun q => bI_eq h15 q.2.1 | exact fun q => q.2.2 (by rw [hcz]; exact h24))])]; rfl, rfl⟩ | exact ⟨by rw [show r_bk r (nI z) = none from (by unfold r_bk; rw [if_neg (by first | exact fun q => q.1 h4 | exact fun q => bI_eq h15 q.2.1 | exact fun q => q.2.2 (by rw [hcz]; exact h24))])]; rfl, rfl⟩ | exact ⟨by unfold r_bk; rw [if_pos ⟨h4, hxx, by rw [hcz]; exact h24⟩, hcz]; rfl, rfl⟩)
      · skip
        refine z_aload_n C dX5_block_27 rfl 0 rfl ?_
        refine z_get C fl_X5_17 dX5_block_28 rfl rfl ?_
        refine z_iload_n C dX5_block_31 rfl 1 rfl ?_
        refine z_ialdK C dX5_block_32 rfl (by omega) (by decide) ?_
        refine z_goto (tgt := 37) C dX5_block_33 (by decide) ?_
        exact z_iret C hrt rfl dX5_block_37 (by decide) (by decide) (by first | exact ⟨by rw [show r_bk r x = none from (by unfold r_bk; rw [if_neg (by first | exact fun q => q.1 h4 | exact fun q => bI_eq h15 q.2.1 | exact fun q => q.2.2 (by rw [hcz]; exact h24))])]; rfl, rfl⟩ | exact ⟨by rw [show r_bk r (nI z) = none from (by unfold r_bk; rw [if_neg (by first | exact fun q => q.1 h4 | exact fun q => bI_eq h15 q.2.1 | exact fun q => q.2.2 (by rw [hcz]; exact h24))])]; rfl, rfl⟩ | exact ⟨by unfold r_bk; rw [if_pos ⟨h4, hxx, by rw [hcz]; exact h24⟩, hcz]; rfl, rfl⟩)

set_option maxHeartbeats 4000000 in
set_option maxRecDepth 100000 in
theorem m_X5_order (l : Launch) (G : z_G) (base : Nat) (xs : Nat → va_E) (r : r_T) (tl : List va_E) (hfo : ∀ p, r.2.1 1 p < 256) (x : Int32) : z_M l G base yX5_order cX5_order 3 (some .int) 2 0 0 [.ref (base + 16), .int (x)] (hpM G base xs r tl) (fun v hp' => v = some (.int (r_orA r (x))) ∧ hp' = hpM G base xs r tl) := by
  refine z_M.of (lv0 := [(0, .ref (base + 16)), (1, .int (x))]) (by decide) (Nat.le_of_ble_eq_true rfl) rfl ?_
  intro p e s m below meth c hmn hrt C
  refine z_aload_n C dX5_order_0 rfl 0 rfl ?_
  refine z_iload_n C dX5_order_1 rfl 1 rfl ?_
  refine z_callV (rest := []) C (m_X5_block l G base xs r tl x) ml_X5_158 kw_X5_block rfl rfl rfl rfl (by simp [Value.category]) dX5_order_2 (by decide) (by decide) (by decide) (by decide) ?_
  rintro _ _ ⟨rfl, rfl⟩
  refine z_st (st' := [.int (oI (r_bk r x))]) rfl ?_
  rcases hbk : r_bk r x with _ | f
  · skip
    refine z_istore_n (lv' := [(2, .int ((-1 : Int32))), (0, .ref (base + 16)), (1, .int (x))]) C dX5_order_5 rfl (by decide) rfl ?_
    refine z_iload_n C dX5_order_6 rfl 0 rfl ?_
    refine z_if_ge (tgt := 14) C dX5_order_7 (by decide) (fun h7 => absurd h7 (by decide)) (fun h7 => ?_)
    refine z_iconst (v := -1) C dX5_order_10 (by decide) ?_
    refine z_goto (tgt := 20) C dX5_order_11 (by decide) ?_
    exact z_iret C hrt rfl dX5_order_20 (by decide) (by decide) (⟨by unfold r_orA; rw [hbk], rfl⟩)
  · skip
    have hf : f < 256 := by
      unfold r_bk at hbk
      split at hbk
      · cases hbk; exact hfo _
      · cases hbk
    refine z_istore_n (lv' := [(2, .int (nI f)), (0, .ref (base + 16)), (1, .int (x))]) C dX5_order_5 rfl (by decide) rfl ?_
    refine z_iload_n C dX5_order_6 rfl 0 rfl ?_
    refine z_if_ge (tgt := 14) C dX5_order_7 (by decide) (fun h7 => ?_) (fun h7 => absurd h7 (fun q => q (nI_pos' (by omega))))
    refine z_aload_n C dX5_order_14 rfl 1 rfl ?_
    refine z_get C fl_X5_20 dX5_order_15 rfl rfl ?_
    refine z_iload_n C dX5_order_18 rfl 0 rfl ?_
    refine z_ialdK C dX5_order_19 rfl (by omega) (by decide) ?_
    exact z_iret C hrt rfl dX5_order_20 (by decide) (by decide) (⟨by unfold r_orA; rw [hbk], rfl⟩)

set_option maxHeartbeats 4000000 in
set_option maxRecDepth 100000 in
theorem m_X5_ofPage (l : Launch) (G : z_G) (base : Nat) (xs : Nat → va_E) (r : r_T) (tl : List va_E) (hfo : ∀ p, r.2.1 1 p < 256) (x : Int32) : z_M l G base yX5_ofPage cX5_ofPage 3 (some .int) 1 0 0 [.ref (base + 16), .int (x)] (hpM G base xs r tl) (fun v hp' => v = some (.int (r_opA r (x))) ∧ hp' = hpM G base xs r tl) := by
  refine z_M.of (lv0 := [(0, .ref (base + 16)), (1, .int (x))]) (by decide) (Nat.le_of_ble_eq_true rfl) rfl ?_
  intro p e s m below meth c hmn hrt C
  refine z_iload_n C dX5_ofPage_0 rfl 1 rfl ?_
  refine z_iconst (v := 0) C dX5_ofPage_1 (by decide) ?_
  refine z_sipush (v := 255) C dX5_ofPage_2 (by decide) ?_
  refine z_callS (rest := []) C (m_X5_in l G base _ (x) ((0 : Int32)) ((255 : Int32))) ml_X5_62 kw_X5_in rfl rfl (by simp [Value.category]) dX5_ofPage_5 (by decide) (by decide) (by decide) (by decide) ?_
  rintro _ _ ⟨rfl, rfl⟩
  refine z_st (st' := [.int ((bI (decide ((0 : Int32) ≤ x ∧ x ≤ (255 : Int32)))))]) rfl ?_
  refine z_if_ne (tgt := 14) C dX5_ofPage_8 (by decide) (fun h8 => ?_) (fun h8 => ?_)
  · skip
    have hxx := bI_ne h8
    obtain ⟨z, hz, rfl⟩ := in_of (M := 255) (by decide) hxx
    have hcz : (nI z).toNatClampNeg = z := nI_clamp (by omega)
    refine z_aload_n C dX5_ofPage_14 rfl 0 rfl ?_
    refine z_get C fl_X5_58 dX5_ofPage_15 rfl rfl ?_
    refine z_if_eq (tgt := 30) C dX5_ofPage_18 (by decide) (fun h18 => ?_) (fun h18 => ?_)
    · skip
      refine z_iconst (v := -1) C dX5_ofPage_30 (by decide) ?_
      exact z_iret C hrt rfl dX5_ofPage_31 (by decide) (by decide) (⟨by unfold r_opA; rw [if_pos hxx, show r_bk r (nI z) = none from (by unfold r_bk; rw [if_neg (by first | exact fun q => q.1 h18 | exact fun q => bI_eq h8 q.2.1 | exact fun q => q.2.2 (by rw [hcz]; exact h27))])], rfl⟩)
    · skip
      refine z_aload_n C dX5_ofPage_21 rfl 0 rfl ?_
      refine z_get C fl_X5_13 dX5_ofPage_22 rfl rfl ?_
      refine z_iload_n C dX5_ofPage_25 rfl 1 rfl ?_
      refine z_zaldN C dX5_ofPage_26 rfl (by omega) (by decide) ?_
      refine z_if_ne (tgt := 32) C dX5_ofPage_27 (by decide) (fun h27 => ?_) (fun h27 => ?_)
      · skip
        refine z_aload_n C dX5_ofPage_32 rfl 0 rfl ?_
        refine z_get C fl_X5_17 dX5_ofPage_33 rfl rfl ?_
        refine z_iload_n C dX5_ofPage_36 rfl 1 rfl ?_
        refine z_ialdK C dX5_ofPage_37 rfl (by omega) (by decide) ?_
        have hf := hfo z
        have hbk : r_bk r (nI z) = some (r.2.1 1 z) := by unfold r_bk; rw [if_pos ⟨h18, hxx, by rw [hcz]; exact h27⟩, hcz]
        refine z_istore_n (lv' := [(2, .int (nI (((r.2.1 1)) z))), (0, .ref (base + 16)), (1, .int (nI z))]) C dX5_ofPage_38 rfl (by decide) rfl ?_
        refine z_aload_n C dX5_ofPage_39 rfl 1 rfl ?_
        refine z_get C fl_X5_23 dX5_ofPage_40 rfl rfl ?_
        refine z_iload_n C dX5_ofPage_43 rfl 0 rfl ?_
        refine z_zaldN C dX5_ofPage_44 rfl (by omega) (by decide) ?_
        refine z_if_ne (tgt := 52) C dX5_ofPage_45 (by decide) (fun h45 => ?_) (fun h45 => ?_)
        · skip
          refine z_aload_n C dX5_ofPage_52 rfl 1 rfl ?_
          refine z_get C fl_X5_26 dX5_ofPage_53 rfl rfl ?_
          refine z_iload_n C dX5_ofPage_56 rfl 0 rfl ?_
          refine z_ialdN C dX5_ofPage_57 rfl (by omega) (by decide) ?_
          refine z_if_ge (tgt := 65) C dX5_ofPage_58 (by decide) (fun h58 => ?_) (fun h58 => ?_)
          · skip
            refine z_iconst (v := 2) C dX5_ofPage_65 (by decide) ?_
            refine z_aload_n C dX5_ofPage_66 rfl 1 rfl ?_
            refine z_get C fl_X5_26 dX5_ofPage_67 rfl rfl ?_
            refine z_iload_n C dX5_ofPage_70 rfl 0 rfl ?_
            refine z_ialdN C dX5_ofPage_71 rfl (by omega) (by decide) ?_
            refine z_iadd C dX5_ofPage_72 ?_
            exact z_iret C hrt rfl dX5_ofPage_73 (by decide) (by decide) (⟨by unfold r_opA; rw [if_pos hxx, hbk]; dsimp only; first | rw [if_pos h45] | (rw [if_neg h45]; first | rw [if_pos h58] | rw [if_neg h58]), rfl⟩)
          · skip
            refine z_iconst (v := 1) C dX5_ofPage_61 (by decide) ?_
            refine z_goto (tgt := 73) C dX5_ofPage_62 (by decide) ?_
            exact z_iret C hrt rfl dX5_ofPage_73 (by decide) (by decide) (⟨by unfold r_opA; rw [if_pos hxx, hbk]; dsimp only; first | rw [if_pos h45] | (rw [if_neg h45]; first | rw [if_pos h58] | rw [if_neg h58]), rfl⟩)
        · skip
          refine z_iconst (v := 0) C dX5_ofPage_48 (by decide) ?_
          refine z_goto (tgt := 73) C dX5_ofPage_49 (by decide) ?_
          exact z_iret C hrt rfl dX5_ofPage_73 (by decide) (by decide) (⟨by unfold r_opA; rw [if_pos hxx, hbk]; dsimp only; first | rw [if_pos h45] | (rw [if_neg h45]; first | rw [if_pos h58] | rw [if_neg h58]), rfl⟩)
      · skip
        refine z_iconst (v := -1) C dX5_ofPage_30 (by decide) ?_
        exact z_iret C hrt rfl dX5_ofPage_31 (by decide) (by decide) (⟨by unfold r_opA; rw [if_pos hxx, show r_bk r (nI z) = none from (by unfold r_bk; rw [if_neg (by first | exact fun q => q.1 h18 | exact fun q => bI_eq h8 q.2.1 | exact fun q => q.2.2 (by rw [hcz]; exact h27))])], rfl⟩)
  · skip
    refine z_bipush (v := -2) C dX5_ofPage_11 (by decide) ?_
    exact z_iret C hrt rfl dX5_ofPage_13 (by decide) (by decide) (⟨by unfold r_opA; rw [if_neg (bI_eq h8)], rfl⟩)
end
section
set_option maxHeartbeats 4000000 in
set_option maxRecDepth 100000 in
theorem m_X5_slabAt (l : Launch) (G : z_G) (base : Nat) (xs : Nat → va_E) (r : r_T) (tl : List va_E) (hfo : ∀ p, r.2.1 1 p < 256) (x : Int32) : z_M l G base yX5_slabAt cX5_slabAt 4 (some .int) 0 0 0 [.ref (base + 16), .int (x)] (hpM G base xs r tl) (fun v hp' => v = some (.int (oI (r_sa r (x)))) ∧ hp' = hpM G base xs r tl) := by
  refine z_M.of (lv0 := [(0, .ref (base + 16)), (1, .int (x))]) (by decide) (Nat.le_of_ble_eq_true rfl) rfl ?_
  intro p e s m below meth c hmn hrt C
  refine z_iload_n C dX5_slabAt_0 rfl 1 rfl ?_
  refine z_bipush (v := 64) C dX5_slabAt_1 (by decide) ?_
  refine z_idiv C dX5_slabAt_3 (by decide) ?_
  refine z_topi (fun w2 ew2 => ?_)
  refine z_istore_n (lv' := [(2, .int (w2)), (0, .ref (base + 16)), (1, .int (x))]) C dX5_slabAt_4 rfl (by decide) rfl ?_
  refine z_aload_n C dX5_slabAt_5 rfl 1 rfl ?_
  refine z_get C fl_X5_58 dX5_slabAt_6 rfl rfl ?_
  refine z_if_eq (tgt := 32) C dX5_slabAt_9 (by decide) (fun h9 => ?_) (fun h9 => ?_)
  · skip
    refine z_iconst (v := -1) C dX5_slabAt_32 (by decide) ?_
    exact z_iret C hrt rfl dX5_slabAt_33 (by decide) (by decide) (by first | exact ⟨by rw [show r_sa r x = none from sa_out (fun q => q.1 h9)]; rfl, rfl⟩ | exact ⟨by rw [show r_sa r x = none from sa_out (fun q => absurd h13 (Int32.not_lt.mpr q.2.1.1))]; rfl, rfl⟩ | exact ⟨by rw [show r_sa r (nI a) = none from sa_out (fun q => hbig q.2.1)]; rfl, rfl⟩ | exact ⟨by rw [show r_sa r (nI a) = none from sa_out (fun q => q.2.2 (by rw [hcl]; exact h29))]; rfl, rfl⟩)
  · skip
    refine z_iload_n C dX5_slabAt_12 rfl 2 rfl ?_
    refine z_if_lt (tgt := 32) C dX5_slabAt_13 (by decide) (fun h13 => ?_) (fun h13 => ?_)
    · skip
      refine z_iconst (v := -1) C dX5_slabAt_32 (by decide) ?_
      exact z_iret C hrt rfl dX5_slabAt_33 (by decide) (by decide) (by first | exact ⟨by rw [show r_sa r x = none from sa_out (fun q => q.1 h9)]; rfl, rfl⟩ | exact ⟨by rw [show r_sa r x = none from sa_out (fun q => absurd h13 (Int32.not_lt.mpr q.2.1.1))]; rfl, rfl⟩ | exact ⟨by rw [show r_sa r (nI a) = none from sa_out (fun q => hbig q.2.1)]; rfl, rfl⟩ | exact ⟨by rw [show r_sa r (nI a) = none from sa_out (fun q => q.2.2 (by rw [hcl]; exact h29))]; rfl, rfl⟩)
    · skip
      obtain ⟨a, ha, rfl⟩ := nI_of h13
      have ew : w2 = nI (a / 64) := by rw [ew2]; exact pk_div ha (d := 64) (by decide) (by decide)
      subst ew
      have hcl : (nI a).toNatClampNeg = a := nI_clamp ha
      refine z_iload_n C dX5_slabAt_16 rfl 0 rfl ?_
      refine z_sipush (v := 256) C dX5_slabAt_17 (by decide) ?_
      refine z_icmp_ge (tgt := 32) C dX5_slabAt_20 (by decide) (fun h20 => ?_) (fun h20 => ?_)
      · skip
        have hbig : ¬ (0 ≤ nI a ∧ nI a ≤ 16383) := fun q => by
          have h1 := (nI_leI ha (by decide)).mp (show nI a ≤ nI 16383 from q.2)
          exact absurd h20 (nI_ge (b := 256) (by omega) (by decide))
        refine z_iconst (v := -1) C dX5_slabAt_32 (by decide) ?_
        exact z_iret C hrt rfl dX5_slabAt_33 (by decide) (by decide) (by first | exact ⟨by rw [show r_sa r x = none from sa_out (fun q => q.1 h9)]; rfl, rfl⟩ | exact ⟨by rw [show r_sa r x = none from sa_out (fun q => absurd h13 (Int32.not_lt.mpr q.2.1.1))]; rfl, rfl⟩ | exact ⟨by rw [show r_sa r (nI a) = none from sa_out (fun q => hbig q.2.1)]; rfl, rfl⟩ | exact ⟨by rw [show r_sa r (nI a) = none from sa_out (fun q => q.2.2 (by rw [hcl]; exact h29))]; rfl, rfl⟩)
      · skip
        have hdl : a / 64 < 256 := by
          rcases Nat.lt_or_ge (a / 64) 256 with q9 | q9
          · exact q9
          · exact absurd (nI_le (a := 256) q9 (by omega)) h20
        have hin : (0 : Int32) ≤ nI a ∧ nI a ≤ 16383 := in_nI (M := 16383) (by decide) (by omega)
        refine z_aload_n C dX5_slabAt_23 rfl 1 rfl ?_
        refine z_get C fl_X5_13 dX5_slabAt_24 rfl rfl ?_
        refine z_iload_n C dX5_slabAt_27 rfl 0 rfl ?_
        refine z_zaldN C dX5_slabAt_28 rfl (by omega) (by decide) ?_
        refine z_if_ne (tgt := 34) C dX5_slabAt_29 (by decide) (fun h29 => ?_) (fun h29 => ?_)
        · skip
          have hf := hfo (a / 64)
          refine z_aload_n C dX5_slabAt_34 rfl 1 rfl ?_
          refine z_get C fl_X5_17 dX5_slabAt_35 rfl rfl ?_
          refine z_iload_n C dX5_slabAt_38 rfl 0 rfl ?_
          refine z_ialdK C dX5_slabAt_39 rfl (by omega) (by decide) ?_
          refine z_istore_n (lv' := [(3, .int (nI (((r.2.1 1)) (a / 64)))), (2, .int (nI (a / 64))), (0, .ref (base + 16)), (1, .int (nI a))]) C dX5_slabAt_40 rfl (by decide) rfl ?_
          refine z_aload_n C dX5_slabAt_41 rfl 2 rfl ?_
          refine z_get C fl_X5_23 dX5_slabAt_42 rfl rfl ?_
          refine z_iload_n C dX5_slabAt_45 rfl 0 rfl ?_
          refine z_zaldN C dX5_slabAt_46 rfl (by omega) (by decide) ?_
          refine z_if_eq (tgt := 63) C dX5_slabAt_47 (by decide) (fun h47 => ?_) (fun h47 => ?_)
          · skip
            refine z_iconst (v := -1) C dX5_slabAt_63 (by decide) ?_
            exact z_iret C hrt rfl dX5_slabAt_64 (by decide) (by decide) (⟨by unfold r_sa; rw [if_pos ⟨h9, hin, by rw [hcl]; exact h29⟩, hcl]; first | (rw [if_neg (by first | exact fun q => q.1 h47 | exact fun q => absurd h56 (Int32.not_lt.mpr q.2))]; rfl) | (rw [if_pos ⟨h47, Int32.not_lt.mp h56⟩]; rfl), rfl⟩)
          · skip
            refine z_aload_n C dX5_slabAt_50 rfl 2 rfl ?_
            refine z_get C fl_X5_26 dX5_slabAt_51 rfl rfl ?_
            refine z_iload_n C dX5_slabAt_54 rfl 0 rfl ?_
            refine z_ialdN C dX5_slabAt_55 rfl (by omega) (by decide) ?_
            refine z_if_lt (tgt := 63) C dX5_slabAt_56 (by decide) (fun h56 => ?_) (fun h56 => ?_)
            · skip
              refine z_iconst (v := -1) C dX5_slabAt_63 (by decide) ?_
              exact z_iret C hrt rfl dX5_slabAt_64 (by decide) (by decide) (⟨by unfold r_sa; rw [if_pos ⟨h9, hin, by rw [hcl]; exact h29⟩, hcl]; first | (rw [if_neg (by first | exact fun q => q.1 h47 | exact fun q => absurd h56 (Int32.not_lt.mpr q.2))]; rfl) | (rw [if_pos ⟨h47, Int32.not_lt.mp h56⟩]; rfl), rfl⟩)
            · skip
              refine z_iload_n C dX5_slabAt_59 rfl 0 rfl ?_
              refine z_goto (tgt := 64) C dX5_slabAt_60 (by decide) ?_
              exact z_iret C hrt rfl dX5_slabAt_64 (by decide) (by decide) (⟨by unfold r_sa; rw [if_pos ⟨h9, hin, by rw [hcl]; exact h29⟩, hcl]; first | (rw [if_neg (by first | exact fun q => q.1 h47 | exact fun q => absurd h56 (Int32.not_lt.mpr q.2))]; rfl) | (rw [if_pos ⟨h47, Int32.not_lt.mp h56⟩]; rfl), rfl⟩)
        · skip
          refine z_iconst (v := -1) C dX5_slabAt_32 (by decide) ?_
          exact z_iret C hrt rfl dX5_slabAt_33 (by decide) (by decide) (by first | exact ⟨by rw [show r_sa r x = none from sa_out (fun q => q.1 h9)]; rfl, rfl⟩ | exact ⟨by rw [show r_sa r x = none from sa_out (fun q => absurd h13 (Int32.not_lt.mpr q.2.1.1))]; rfl, rfl⟩ | exact ⟨by rw [show r_sa r (nI a) = none from sa_out (fun q => hbig q.2.1)]; rfl, rfl⟩ | exact ⟨by rw [show r_sa r (nI a) = none from sa_out (fun q => q.2.2 (by rw [hcl]; exact h29))]; rfl, rfl⟩)

set_option maxHeartbeats 4000000 in
set_option maxRecDepth 100000 in
theorem m_X5_faultOfObject (l : Launch) (G : z_G) (base : Nat) (xs : Nat → va_E) (r : r_T) (tl : List va_E) (P a c0 : Nat) (hP : P < 256) (ha : 64 * P ≤ a) (ha2 : a < 16384) (hcz : r.2.2 2 P = nI c0) (hc : c0 < 12) (hs : 1 ≤ r.2.1 7 c0) (hs2 : r.2.1 7 c0 < 65536) (ho : r.2.1 8 c0 ≤ 4) (hn : r.2.1 4 P ≤ 64) (hrw : ∀ i, r.2.1 3 i < 65536) : z_M l G base yX5_faultOfObject cX5_faultOfObject 7 (some .int) 1 0 0 [.ref (base + 16), .int (nI P), .int (nI a)] (hpM G base xs r tl) (fun v hp' => v = some (.int (r_fob r P a c0)) ∧ hp' = hpM G base xs r tl) := by
  refine z_M.of (lv0 := [(0, .ref (base + 16)), (1, .int (nI P)), (2, .int (nI a))]) (by decide) (Nat.le_of_ble_eq_true rfl) rfl ?_
  intro p e s m below meth c hmn hrt C
  have hob : r_ob r c0 ≤ 64 * 2 ^ r.2.1 8 c0 := Nat.div_le_self _ _
  have hp2 := two_le (r.2.1 8 c0) (by omega)
  have hdv : (a - 64 * P) / r.2.1 7 c0 ≤ a - 64 * P := Nat.div_le_self _ _
  have hmd : (a - 64 * P) % r.2.1 7 c0 < r.2.1 7 c0 := Nat.mod_lt _ hs
  refine z_aload_n C dX5_faultOfObject_0 rfl 0 rfl ?_
  refine z_get C fl_X5_26 dX5_faultOfObject_1 rfl rfl ?_
  refine z_iload_n C dX5_faultOfObject_4 rfl 1 rfl ?_
  refine z_ialdN C dX5_faultOfObject_5 rfl (by omega) (by decide) ?_
  refine z_casti (y := nI c0) (hcz) ?_
  refine z_istore_n (lv' := [(3, .int (nI c0)), (0, .ref (base + 16)), (1, .int (nI P)), (2, .int (nI a))]) C dX5_faultOfObject_6 rfl (by decide) rfl ?_
  refine z_iload_n C dX5_faultOfObject_7 rfl 3 rfl ?_
  refine z_bipush (v := 64) C dX5_faultOfObject_8 (by decide) ?_
  refine z_iload_n C dX5_faultOfObject_10 rfl 2 rfl ?_
  refine z_imul C dX5_faultOfObject_11 ?_
  refine z_casti (y := nI (64 * P)) (pk_mul 64 P) ?_
  refine z_isub C dX5_faultOfObject_12 ?_
  refine z_casti (y := nI (a - 64 * P)) (pk_sub ha) ?_
  refine z_istore (lv' := [(4, .int (nI (a - 64 * P))), (3, .int (nI c0)), (0, .ref (base + 16)), (1, .int (nI P)), (2, .int (nI a))]) C dX5_faultOfObject_13 (by decide) rfl ?_
  refine z_iload C dX5_faultOfObject_15 0 rfl ?_
  refine z_aload_n C dX5_faultOfObject_17 rfl 2 rfl ?_
  refine z_get C fl_X5_41 dX5_faultOfObject_18 rfl rfl ?_
  refine z_iload_n C dX5_faultOfObject_21 rfl 1 rfl ?_
  refine z_ialdK C dX5_faultOfObject_22 rfl (by omega) (by decide) ?_
  refine z_idiv C dX5_faultOfObject_23 (nI_ne0 hs (by omega)) ?_
  refine z_casti (y := nI ((a - 64 * P) / r.2.1 7 c0)) (pk_div (by omega) hs (by omega)) ?_
  refine z_istore (lv' := [(5, .int (nI ((a - 64 * P) / r.2.1 7 c0))), (4, .int (nI (a - 64 * P))), (3, .int (nI c0)), (0, .ref (base + 16)), (1, .int (nI P)), (2, .int (nI a))]) C dX5_faultOfObject_24 (by decide) rfl ?_
  refine z_iload C dX5_faultOfObject_26 1 rfl ?_
  refine z_aload_n C dX5_faultOfObject_28 rfl 3 rfl ?_
  refine z_get C fl_X5_41 dX5_faultOfObject_29 rfl rfl ?_
  refine z_iload_n C dX5_faultOfObject_32 rfl 2 rfl ?_
  refine z_ialdK C dX5_faultOfObject_33 rfl (by omega) (by decide) ?_
  refine z_irem C dX5_faultOfObject_34 (nI_ne0 hs (by omega)) ?_
  refine z_casti (y := nI ((a - 64 * P) % r.2.1 7 c0)) (pk_rem (by omega) hs (by omega)) ?_
  refine z_if_ne (tgt := 48) C dX5_faultOfObject_35 (by decide) (fun h35 => ?_) (fun h35 => ?_)
  · skip
    refine z_bipush (v := -2) C dX5_faultOfObject_48 (by decide) ?_
    exact z_iret C hrt rfl dX5_faultOfObject_50 (by decide) (by decide) (⟨by unfold r_fob; rw [if_neg (by first | exact fun q => h35 (by rw [q.1]; rfl) | exact fun q => h45 (nI_lt q.2 (by omega)))], rfl⟩)
  · skip
    have hm0 : (a - 64 * P) % r.2.1 7 c0 = 0 := (nI_eq (b := 0) (by omega) (by decide)).mp h35
    refine z_iload C dX5_faultOfObject_38 0 rfl ?_
    refine z_aload_n C dX5_faultOfObject_40 rfl 3 rfl ?_
    refine z_iload_n C dX5_faultOfObject_41 rfl 2 rfl ?_
    refine z_callV (rest := [.int (nI ((a - 64 * P) / r.2.1 7 c0))]) C (m_X5_objectsOf l G base xs r tl c0 hc hs hs2 ho) ml_X5_113 kw_X5_objectsOf rfl rfl rfl rfl (by simp [Value.category]) dX5_faultOfObject_42 (by decide) (by decide) (by decide) (by decide) ?_
    rintro _ _ ⟨rfl, rfl⟩
    refine z_st (st' := [.int (nI (r_ob r c0)), .int (nI ((a - 64 * P) / r.2.1 7 c0))]) rfl ?_
    refine z_icmp_lt (tgt := 51) C dX5_faultOfObject_45 (by decide) (fun h45 => ?_) (fun h45 => ?_)
    · skip
      have hlt : (a - 64 * P) / r.2.1 7 c0 < r_ob r c0 := (nI_ltI (by omega) (by omega)).mp h45
      refine z_iconst (v := 0) C dX5_faultOfObject_51 (by decide) ?_
      refine z_casti (y := nI 0) (rfl) ?_
      refine z_istore (lv' := [(6, .int (nI 0)), (5, .int (nI ((a - 64 * P) / r.2.1 7 c0))), (4, .int (nI (a - 64 * P))), (3, .int (nI c0)), (0, .ref (base + 16)), (1, .int (nI P)), (2, .int (nI a))]) C dX5_faultOfObject_52 (by decide) rfl ?_
      refine z_lv (lv' := [(6, .int (nI 0)), (0, .ref (base + 16)), (1, .int (nI P)), (5, .int (nI ((a - 64 * P) / r.2.1 7 c0)))]) [0, 4, 5, 1] rfl ?_
      have loop : ∀ (n : Nat) (j : Nat), (j ≤ r.2.1 4 P) → (r.2.1 4 P + 1 ≤ n + j) → (r_has (r.2.1 3) (64 * P) ((a - 64 * P) / r.2.1 7 c0) (r.2.1 4 P - j) j = r_has (r.2.1 3) (64 * P) ((a - 64 * P) / r.2.1 7 c0) (r.2.1 4 P) 0) → z_R p l e (z_rm 1 0 0) s m ([Value.ref (base + 16), .int (nI P), .int (nI a)] : List Value).toArray below meth c (MQ below (z_Qc G base (fun v hp' => v = some (.int (r_fob r P a c0)) ∧ hp' = hpM G base xs r tl)) ([Value.ref (base + 16), .int (nI P), .int (nI a)] : List Value).toArray s 0 0 (fun z => base ≤ z)) G base 7 0 0 54 [(6, .int (nI j)), (0, .ref (base + 16)), (1, .int (nI P)), (5, .int (nI ((a - 64 * P) / r.2.1 7 c0)))] [] (hpM G base xs r tl) := by
        intro n
        induction n with
        | zero => intro j hj hn0 hv; exact absurd hn0 (by omega)
        | succ n ih =>
          intro j hj hn0 hv
          refine z_iload C dX5_faultOfObject_54 0 rfl ?_
          refine z_aload_n C dX5_faultOfObject_56 rfl 1 rfl ?_
          refine z_get C fl_X5_32 dX5_faultOfObject_57 rfl rfl ?_
          refine z_iload_n C dX5_faultOfObject_60 rfl 2 rfl ?_
          refine z_ialdK C dX5_faultOfObject_61 rfl (by omega) (by decide) ?_
          refine z_icmp_ge (tgt := 91) C dX5_faultOfObject_62 (by decide) (fun h62 => ?_) (fun h62 => ?_)
          · skip
            have hje : j = r.2.1 4 P := by
              rcases Nat.lt_or_ge j (r.2.1 4 P) with q9 | q9
              · exact absurd h62 (nI_ge q9 (by omega))
              · omega
            refine z_iconst (v := 0) C dX5_faultOfObject_91 (by decide) ?_
            exact z_iret C hrt rfl dX5_faultOfObject_92 (by decide) (by decide) (⟨by unfold r_fob; rw [if_pos ⟨hm0, hlt⟩, if_neg (by rw [← hv, hje, Nat.sub_self]; exact Bool.false_ne_true)], rfl⟩)
          · skip
            have hjl : j < r.2.1 4 P := by
              rcases Nat.lt_or_ge j (r.2.1 4 P) with q9 | q9
              · exact q9
              · exact absurd (nI_le q9 (by omega)) h62
            refine z_aload_n C dX5_faultOfObject_65 rfl 1 rfl ?_
            refine z_get C fl_X5_29 dX5_faultOfObject_66 rfl rfl ?_
            refine z_bipush (v := 64) C dX5_faultOfObject_69 (by decide) ?_
            refine z_iload_n C dX5_faultOfObject_71 rfl 2 rfl ?_
            refine z_imul C dX5_faultOfObject_72 ?_
            refine z_casti (y := nI (64 * P)) (pk_mul 64 P) ?_
            refine z_iload C dX5_faultOfObject_73 0 rfl ?_
            refine z_iadd C dX5_faultOfObject_75 ?_
            refine z_casti (y := nI (64 * P + j)) (nI_add _ _) ?_
            refine z_ialdK C dX5_faultOfObject_76 rfl (by omega) (by decide) ?_
            refine z_iload C dX5_faultOfObject_77 3 rfl ?_
            refine z_icmp_ne (tgt := 85) C dX5_faultOfObject_79 (by decide) (fun h79 => ?_) (fun h79 => ?_)
            · skip
              refine z_iinc (k := 0) (v := nI (j + 1)) (lv' := [(6, .int (nI (j + 1))), (0, .ref (base + 16)), (1, .int (nI P)), (5, .int (nI ((a - 64 * P) / r.2.1 7 c0)))]) C dX5_faultOfObject_85 rfl (nI_1 j) (by decide) rfl ?_
              refine z_goto (tgt := 54) C dX5_faultOfObject_88 (by decide) ?_
              refine z_lv (lv' := [(6, .int (nI (j + 1))), (0, .ref (base + 16)), (1, .int (nI P)), (5, .int (nI ((a - 64 * P) / r.2.1 7 c0)))]) [0, 1, 2, 3] rfl ?_
              exact ih (j + 1) (by omega) (by omega) (by rw [← hv, show r.2.1 4 P - j = (r.2.1 4 P - (j + 1)) + 1 by omega]; show _ = (decide _ || _); rw [decide_eq_false (fun q => h79 (by rw [q])), Bool.false_or])
            · skip
              refine z_bipush (v := -3) C dX5_faultOfObject_82 (by decide) ?_
              exact z_iret C hrt rfl dX5_faultOfObject_84 (by decide) (by decide) (⟨by unfold r_fob; rw [if_pos ⟨hm0, hlt⟩, if_pos (by rw [← hv, show r.2.1 4 P - j = (r.2.1 4 P - (j + 1)) + 1 by omega]; show (decide _ || _) = true; rw [decide_eq_true ((nI_eq (by have := hrw (64 * P + j); omega) (by omega)).mp h79), Bool.true_or])], rfl⟩)
      exact loop (r.2.1 4 P + 1) 0 (by omega) (by omega) rfl
    · skip
      refine z_bipush (v := -2) C dX5_faultOfObject_48 (by decide) ?_
      exact z_iret C hrt rfl dX5_faultOfObject_50 (by decide) (by decide) (⟨by unfold r_fob; rw [if_neg (by first | exact fun q => h35 (by rw [q.1]; rfl) | exact fun q => h45 (nI_lt q.2 (by omega)))], rfl⟩)

set_option maxHeartbeats 4000000 in
set_option maxRecDepth 100000 in
theorem m_X5_giveObject (l : Launch) (G : z_G) (base : Nat) (xs : Nat → va_E) (r : r_T) (tl : List va_E) (hfo : ∀ p, r.2.1 1 p < 256) (hoo : ∀ p, r.2.1 2 p ≤ 6) (P a c0 : Nat) (hP : P < 256) (ha : 64 * P ≤ a) (ha2 : a < 16384) (hcz : r.2.2 2 P = nI c0) (hc : c0 < 12) (hs : 1 ≤ r.2.1 7 c0) (hs2 : r.2.1 7 c0 < 65536) (ho : r.2.1 8 c0 ≤ 4) (hn : r.2.1 4 P + 1 ≤ r_ob r c0) (hob : r_ob r c0 ≤ 64) (hPa : P % 2 ^ r.2.1 2 P = 0) : z_M l G base yX5_giveObject cX5_giveObject 6 (some .int) 4 0 0 [.ref (base + 16), .int (nI P), .int (nI a)] (hpM G base xs r tl) (fun v hp' => v = some (.int (nI (r_ob r c0 - (r.2.1 4 P + 1)))) ∧ hp' = hpM G base xs (r_goS r P ((a - 64 * P) / r.2.1 7 c0) c0) tl) := by
  refine z_M.of (lv0 := [(0, .ref (base + 16)), (1, .int (nI P)), (2, .int (nI a))]) (by decide) (Nat.le_of_ble_eq_true rfl) rfl ?_
  intro p e s m below meth c hmn hrt C
  refine z_aload_n C dX5_giveObject_0 rfl 0 rfl ?_
  refine z_get C fl_X5_26 dX5_giveObject_1 rfl rfl ?_
  refine z_iload_n C dX5_giveObject_4 rfl 1 rfl ?_
  refine z_ialdN C dX5_giveObject_5 rfl (by omega) (by decide) ?_
  refine z_casti (y := nI c0) (hcz) ?_
  refine z_istore_n (lv' := [(3, .int (nI c0)), (0, .ref (base + 16)), (1, .int (nI P)), (2, .int (nI a))]) C dX5_giveObject_6 rfl (by decide) rfl ?_
  refine z_aload_n C dX5_giveObject_7 rfl 1 rfl ?_
  refine z_get C fl_X5_29 dX5_giveObject_8 rfl rfl ?_
  refine z_bipush (v := 64) C dX5_giveObject_11 (by decide) ?_
  refine z_iload_n C dX5_giveObject_13 rfl 2 rfl ?_
  refine z_imul C dX5_giveObject_14 ?_
  refine z_casti (y := nI (64 * P)) (pk_mul 64 P) ?_
  refine z_aload_n C dX5_giveObject_15 rfl 1 rfl ?_
  refine z_get C fl_X5_32 dX5_giveObject_16 rfl rfl ?_
  refine z_iload_n C dX5_giveObject_19 rfl 2 rfl ?_
  refine z_ialdK C dX5_giveObject_20 rfl (by omega) (by decide) ?_
  refine z_iadd C dX5_giveObject_21 ?_
  refine z_casti (y := nI (64 * P + r.2.1 4 P)) (nI_add _ _) ?_
  refine z_iload_n C dX5_giveObject_22 rfl 3 rfl ?_
  refine z_bipush (v := 64) C dX5_giveObject_23 (by decide) ?_
  refine z_iload_n C dX5_giveObject_25 rfl 2 rfl ?_
  refine z_imul C dX5_giveObject_26 ?_
  refine z_casti (y := nI (64 * P)) (pk_mul 64 P) ?_
  refine z_isub C dX5_giveObject_27 ?_
  refine z_casti (y := nI (a - 64 * P)) (pk_sub ha) ?_
  refine z_aload_n C dX5_giveObject_28 rfl 1 rfl ?_
  refine z_get C fl_X5_41 dX5_giveObject_29 rfl rfl ?_
  refine z_iload_n C dX5_giveObject_32 rfl 0 rfl ?_
  refine z_ialdK C dX5_giveObject_33 rfl (by omega) (by decide) ?_
  refine z_idiv C dX5_giveObject_34 (nI_ne0 hs (by omega)) ?_
  refine z_casti (y := nI ((a - 64 * P) / r.2.1 7 c0)) (pk_div (by omega) hs (by omega)) ?_
  refine z_iastK C dX5_giveObject_35 rfl (by omega) (by decide) ?_
  refine z_aload_n C dX5_giveObject_36 rfl 1 rfl ?_
  refine z_get C fl_X5_32 dX5_giveObject_37 rfl rfl ?_
  refine z_iload_n C dX5_giveObject_40 rfl 2 rfl ?_
  refine z_dup2 C dX5_giveObject_41 rfl rfl ?_
  refine z_ialdK C dX5_giveObject_42 rfl (by omega) (by decide) ?_
  refine z_iconst (v := 1) C dX5_giveObject_43 (by decide) ?_
  refine z_iadd C dX5_giveObject_44 ?_
  refine z_casti (y := nI (r.2.1 4 P + 1)) (nI_1 _) ?_
  refine z_iastK C dX5_giveObject_45 rfl (by omega) (by decide) ?_
  refine z_hp (hp' := hpM G base xs (r_go1 r P ((a - 64 * P) / r.2.1 7 c0)) tl) (rfl) ?_
  refine z_aload_n C dX5_giveObject_46 rfl 1 rfl ?_
  refine z_iload_n C dX5_giveObject_47 rfl 2 rfl ?_
  refine z_callV (rest := []) C (m_X5_liveOf l G base xs (r_go1 r P ((a - 64 * P) / r.2.1 7 c0)) tl P c0 hP hcz hc hs hs2 ho (by show va_up (r.2.1 4) P (r.2.1 4 P + 1) P ≤ r_ob r c0; rw [va_up_self]; exact hn)) ml_X5_122 kw_X5_liveOf rfl rfl rfl rfl (by simp [Value.category]) dX5_giveObject_48 (by decide) (by decide) (by decide) (by decide) ?_
  rintro _ _ ⟨rfl, rfl⟩
  rw [show r_ob (r_go1 r P ((a - 64 * P) / r.2.1 7 c0)) c0 - (r_go1 r P ((a - 64 * P) / r.2.1 7 c0)).2.1 4 P = r_ob r c0 - (r.2.1 4 P + 1) by show r_ob r c0 - va_up (r.2.1 4) P (r.2.1 4 P + 1) P = _; rw [va_up_self]]
  refine z_st (st' := [.int (nI (r_ob r c0 - (r.2.1 4 P + 1)))]) rfl ?_
  refine z_istore (lv' := [(4, .int (nI (r_ob r c0 - (r.2.1 4 P + 1)))), (3, .int (nI c0)), (0, .ref (base + 16)), (1, .int (nI P)), (2, .int (nI a))]) C dX5_giveObject_51 (by decide) rfl ?_
  refine z_iload C dX5_giveObject_53 0 rfl ?_
  refine z_if_ne (tgt := 77) C dX5_giveObject_55 (by decide) (fun h55 => ?_) (fun h55 => ?_)
  · skip
    have hl1 : ¬ r_ob r c0 - (r.2.1 4 P + 1) = 0 := fun q => h55 (by rw [q]; rfl)
    refine z_iload C dX5_giveObject_77 0 rfl ?_
    refine z_if_ne (tgt := 100) C dX5_giveObject_79 (by decide) (fun h79 => ?_) (fun h79 => absurd h79 (h55))
    refine z_iload C dX5_giveObject_100 0 rfl ?_
    exact z_iret C hrt rfl dX5_giveObject_102 (by decide) (by decide) (by first | exact ⟨rfl, by unfold r_goS; rw [if_neg hl1]⟩ | exact ⟨rfl, by unfold r_goS; rw [if_pos hl0, if_pos (show r.2.2 3 c0 < 0 from Int32.not_le.mp h64)]; rfl⟩)
  · skip
    have hl0 : r_ob r c0 - (r.2.1 4 P + 1) = 0 := (nI_eq (b := 0) (by omega) (by decide)).mp h55
    refine z_aload_n C dX5_giveObject_58 rfl 2 rfl ?_
    refine z_get C fl_X5_47 dX5_giveObject_59 rfl rfl ?_
    refine z_iload_n C dX5_giveObject_62 rfl 1 rfl ?_
    refine z_ialdN C dX5_giveObject_63 rfl (by omega) (by decide) ?_
    refine z_if_ge (tgt := 77) C dX5_giveObject_64 (by decide) (fun h64 => ?_) (fun h64 => ?_)
    · skip
      refine z_iload C dX5_giveObject_77 0 rfl ?_
      refine z_if_ne (tgt := 100) C dX5_giveObject_79 (by decide) (fun h79 => absurd h79 (fun q => q (by rw [hl0]; rfl))) (fun h79 => ?_)
      refine z_aload_n C dX5_giveObject_82 rfl 2 rfl ?_
      refine z_iload_n C dX5_giveObject_83 rfl 3 rfl ?_
      refine z_callV (rest := []) C (m_X5_giveBlock l G base xs (r_go1 r P ((a - 64 * P) / r.2.1 7 c0)) tl hfo hoo P hP hPa) ml_X5_107 kw_X5_giveBlock rfl rfl rfl rfl (by simp [Value.category]) dX5_giveObject_84 (by decide) (by decide) (by decide) (by decide) ?_
      rintro _ _ ⟨rfl, rfl⟩
      refine z_st (st' := [.int (nI (2 ^ r.2.1 2 P))]) rfl ?_
      have hp6 := hoo P
      have hp7 := two_le (r.2.1 2 P) (by omega)
      have hp8 := Nat.two_pow_pos (r.2.1 2 P)
      refine z_istore (lv' := [(5, .int (nI (2 ^ r.2.1 2 P))), (4, .int (nI (r_ob r c0 - (r.2.1 4 P + 1)))), (3, .int (nI c0)), (0, .ref (base + 16)), (1, .int (nI P)), (2, .int (nI a))]) C dX5_giveObject_87 (by decide) rfl ?_
      refine z_iload C dX5_giveObject_89 0 rfl ?_
      refine z_if_le (tgt := 98) C dX5_giveObject_91 (by decide) (fun h91 => absurd h91 (nI_nle hp8 (by omega))) (fun h91 => ?_)
      refine z_iconst (v := 0) C dX5_giveObject_94 (by decide) ?_
      refine z_goto (tgt := 99) C dX5_giveObject_95 (by decide) ?_
      exact z_iret C hrt rfl dX5_giveObject_99 (by decide) (by decide) (⟨by rw [hl0]; rfl, by unfold r_goS; rw [if_pos hl0, if_neg (show ¬ r.2.2 3 c0 < 0 from Int32.not_lt.mpr h64)]⟩)
    · skip
      refine z_aload_n C dX5_giveObject_67 rfl 2 rfl ?_
      refine z_get C fl_X5_47 dX5_giveObject_68 rfl rfl ?_
      refine z_iload_n C dX5_giveObject_71 rfl 1 rfl ?_
      refine z_iload_n C dX5_giveObject_72 rfl 3 rfl ?_
      refine z_iastN C dX5_giveObject_73 rfl (by omega) (by decide) ?_
      refine z_goto (tgt := 100) C dX5_giveObject_74 (by decide) ?_
      refine z_iload C dX5_giveObject_100 0 rfl ?_
      exact z_iret C hrt rfl dX5_giveObject_102 (by decide) (by decide) (by first | exact ⟨rfl, by unfold r_goS; rw [if_neg hl1]⟩ | exact ⟨rfl, by unfold r_goS; rw [if_pos hl0, if_pos (show r.2.2 3 c0 < 0 from Int32.not_le.mp h64)]; rfl⟩)

set_option maxHeartbeats 4000000 in
set_option maxRecDepth 100000 in
theorem m_X5_shrink (l : Launch) (G : z_G) (base : Nat) (xs : Nat → va_E) (r : r_T) (tl : List va_E) (hfo : ∀ p, r.2.1 1 p < 256) (hoo : ∀ p, r.2.1 2 p ≤ 6) (x : Int32) (nc : Nat) (hnc : r.1 1 = nI nc) (hnc2 : nc ≤ 12) (hem : ∀ c, c < nc → 0 ≤ r.2.2 3 c → ∃ P, P < 256 ∧ r.2.2 3 c = nI P ∧ P % 2 ^ r.2.1 2 P = 0) : z_M l G base yX5_shrink cX5_shrink 3 (some .int) 4 0 0 [.ref (base + 16), .int (x)] (hpM G base xs r tl) (fun v hp' => v = some (.int (r_shA r (x))) ∧ hp' = hpM G base xs (r_shS r (x)) tl) := by
  refine z_M.of (lv0 := [(0, .ref (base + 16)), (1, .int (x))]) (by decide) (Nat.le_of_ble_eq_true rfl) rfl ?_
  intro p e s m below meth c hmn hrt C
  refine z_aload_n C dX5_shrink_0 rfl 0 rfl ?_
  refine z_iload_n C dX5_shrink_1 rfl 1 rfl ?_
  refine z_callV (rest := []) C (m_X5_isCache l G base xs r tl (x)) ml_X5_116 kw_X5_isCache rfl rfl rfl rfl (by simp [Value.category]) dX5_shrink_2 (by decide) (by decide) (by decide) (by decide) ?_
  rintro _ _ ⟨rfl, rfl⟩
  refine z_st (st' := [.int ((bI (r_isc r (x))))]) rfl ?_
  refine z_if_ne (tgt := 10) C dX5_shrink_5 (by decide) (fun h5 => ?_) (fun h5 => ?_)
  · skip
    have hic := bI_nt h5
    obtain ⟨c0, hc0, rfl⟩ := r_isc_true hnc hnc2 hic
    have hcc : (nI c0).toNatClampNeg = c0 := nI_clamp (by omega)
    refine z_aload_n C dX5_shrink_10 rfl 0 rfl ?_
    refine z_get C fl_X5_47 dX5_shrink_11 rfl rfl ?_
    refine z_iload_n C dX5_shrink_14 rfl 1 rfl ?_
    refine z_ialdN C dX5_shrink_15 rfl (by omega) (by decide) ?_
    refine z_topi (fun w3 ew3 => ?_)
    refine z_istore_n (lv' := [(2, .int (w3)), (0, .ref (base + 16)), (1, .int (nI c0))]) C dX5_shrink_16 rfl (by decide) rfl ?_
    refine z_aload_n C dX5_shrink_17 rfl 1 rfl ?_
    refine z_get C fl_X5_47 dX5_shrink_18 rfl rfl ?_
    refine z_iload_n C dX5_shrink_21 rfl 2 rfl ?_
    refine z_iconst (v := -1) C dX5_shrink_22 (by decide) ?_
    refine z_iastN C dX5_shrink_23 rfl (by omega) (by decide) ?_
    refine z_hp (hp' := hpM G base xs (r.1, r.2.1, va_up r.2.2 3 (upd (r.2.2 3) c0 (-1))) tl) (rfl) ?_
    by_cases hneg : 0 ≤ r.2.2 3 c0
    · skip
      obtain ⟨P, hP, heP, hPa⟩ := hem c0 hc0 hneg
      have ew3 : w3 = nI P := by rw [ew3]; exact heP
      subst ew3
      refine z_iload_n C dX5_shrink_24 rfl 0 rfl ?_
      refine z_if_ge (tgt := 32) C dX5_shrink_25 (by decide) (fun h25 => ?_) (fun h25 => absurd h25 (fun q => q (nI_pos' (by omega))))
      refine z_aload_n C dX5_shrink_32 rfl 1 rfl ?_
      refine z_iload_n C dX5_shrink_33 rfl 0 rfl ?_
      refine z_callV (rest := []) C (m_X5_giveBlock l G base xs (r.1, r.2.1, va_up r.2.2 3 (upd (r.2.2 3) c0 (-1))) tl hfo hoo P hP hPa) ml_X5_107 kw_X5_giveBlock rfl rfl rfl rfl (by simp [Value.category]) dX5_shrink_34 (by decide) (by decide) (by decide) (by decide) ?_
      rintro _ _ ⟨rfl, rfl⟩
      refine z_st (st' := [.int (nI (2 ^ r.2.1 2 P))]) rfl ?_
      exact z_iret C hrt rfl dX5_shrink_37 (by decide) (by decide) (by first | exact ⟨by unfold r_shA; rw [if_pos hic, hcc, if_pos hneg, heP, cl_nI hP], by unfold r_shS; rw [if_pos hic, hcc, if_pos hneg, heP, cl_nI hP]⟩ | exact ⟨by rw [ew3] at hneg; unfold r_shA; rw [if_pos hic, hcc, if_neg hneg], by rw [ew3] at hneg; unfold r_shS; rw [if_pos hic, hcc, if_neg hneg]⟩)
    · skip
      have hneg : ¬ 0 ≤ w3 := by rw [ew3]; exact hneg
      refine z_iload_n C dX5_shrink_24 rfl 0 rfl ?_
      refine z_if_ge (tgt := 32) C dX5_shrink_25 (by decide) (fun h25 => absurd h25 (hneg)) (fun h25 => ?_)
      refine z_iconst (v := 0) C dX5_shrink_28 (by decide) ?_
      refine z_goto (tgt := 37) C dX5_shrink_29 (by decide) ?_
      exact z_iret C hrt rfl dX5_shrink_37 (by decide) (by decide) (by first | exact ⟨by unfold r_shA; rw [if_pos hic, hcc, if_pos hneg, heP, cl_nI hP], by unfold r_shS; rw [if_pos hic, hcc, if_pos hneg, heP, cl_nI hP]⟩ | exact ⟨by rw [ew3] at hneg; unfold r_shA; rw [if_pos hic, hcc, if_neg hneg], by rw [ew3] at hneg; unfold r_shS; rw [if_pos hic, hcc, if_neg hneg]⟩)
  · skip
    refine z_iconst (v := -1) C dX5_shrink_8 (by decide) ?_
    exact z_iret C hrt rfl dX5_shrink_9 (by decide) (by decide) (⟨by unfold r_shA; rw [if_neg (by rw [bI_ff h5]; exact Bool.false_ne_true)], by unfold r_shS; rw [if_neg (by rw [bI_ff h5]; exact Bool.false_ne_true)]⟩)

set_option maxHeartbeats 4000000 in
set_option maxRecDepth 100000 in
theorem m_X5_classOf (l : Launch) (G : z_G) (base : Nat) (hp : List va_E) (b : Nat) (hb : 1 ≤ b) (hb2 : b ≤ 4096) : z_M l G base yX5_classOf cX5_classOf 3 (some .int) 0 0 0 [.int (nI b)] hp (fun v hp' => v = some (.int (nI (k_cls b))) ∧ hp' = hp) := by
  refine z_M.of (lv0 := [(0, .int (nI b))]) (by decide) (Nat.le_of_ble_eq_true rfl) rfl ?_
  intro p e s m below meth c hmn hrt C
  refine z_iconst (v := 0) C dX5_classOf_0 (by decide) ?_
  refine z_casti (y := nI 0) (rfl) ?_
  refine z_istore_n (lv' := [(1, .int (nI 0)), (0, .int (nI b))]) C dX5_classOf_1 rfl (by decide) rfl ?_
  refine z_lv (lv' := [(1, .int (nI 0)), (0, .int (nI b))]) [0, 1] rfl ?_
  have loop : ∀ (n : Nat) (j : Nat), (j ≤ 6) → (7 ≤ n + j) → (k_c1 b (6 - j) j = k_c1 b 6 0) → z_R p l e (z_rm 0 0 0) s m ([Value.int (nI b)] : List Value).toArray below meth c (MQ below (z_Qc G base (fun v hp' => v = some (.int (nI (k_cls b))) ∧ hp' = hp)) ([Value.int (nI b)] : List Value).toArray s 0 0 (fun z => base ≤ z)) G base 3 0 0 2 [(1, .int (nI j)), (0, .int (nI b))] [] hp := by
    intro n
    induction n with
    | zero => intro j hj hn0 hv; exact absurd hn0 (by omega)
    | succ n ih =>
      intro j hj hn0 hv
      refine z_iload_n C dX5_classOf_2 rfl 0 rfl ?_
      refine z_bipush (v := 6) C dX5_classOf_3 (by decide) ?_
      refine z_icmp_ge (tgt := 22) C dX5_classOf_5 (by decide) (fun h5 => ?_) (fun h5 => ?_)
      · skip
        have hend : ¬ (j < 6 ∧ 8 * 2 ^ j < b) := fun q => absurd h5 (nI_ge q.1 (by decide))
        have hje : k_c1 b 6 0 = j := by rw [← hv]; exact k_c1_end hend
        refine z_iload_n C dX5_classOf_22 rfl 0 rfl ?_
        refine z_bipush (v := 6) C dX5_classOf_23 (by decide) ?_
        refine z_icmp_ge (tgt := 37) C dX5_classOf_25 (by decide) (fun h25 => ?_) (fun h25 => ?_)
        · skip
          refine z_iconst (v := 0) C dX5_classOf_37 (by decide) ?_
          refine z_casti (y := nI 0) (rfl) ?_
          refine z_istore_n (lv' := [(2, .int (nI 0)), (1, .int (nI j)), (0, .int (nI b))]) C dX5_classOf_38 rfl (by decide) rfl ?_
          refine z_lv (lv' := [(2, .int (nI 0)), (0, .int (nI b))]) [0, 2] rfl ?_
          have loop2 : ∀ (n : Nat) (j2 : Nat), (j2 ≤ 6) → (7 ≤ n + j2) → (k_c2 b (6 - j2) j2 = k_c2 b 6 0) → z_R p l e (z_rm 0 0 0) s m ([Value.int (nI b)] : List Value).toArray below meth c (MQ below (z_Qc G base (fun v hp' => v = some (.int (nI (k_cls b))) ∧ hp' = hp)) ([Value.int (nI b)] : List Value).toArray s 0 0 (fun z => base ≤ z)) G base 3 0 0 39 [(2, .int (nI j2)), (0, .int (nI b))] [] hp := by
            intro n
            induction n with
            | zero => intro j2 hj2 hn0 hv2; exact absurd hn0 (by omega)
            | succ n ih =>
              intro j2 hj2 hn0 hv2
              have ih2 := ih
              have hj26 : 64 * 2 ^ j2 < b → j2 < 6 := fun q => by
                rcases Nat.lt_or_ge j2 6 with q9 | q9
                · exact q9
                · rw [show j2 = 6 by omega] at q; omega
              refine z_bipush (v := 64) C dX5_classOf_39 (by decide) ?_
              refine z_iload_n C dX5_classOf_41 rfl 0 rfl ?_
              refine z_ishl C dX5_classOf_42 ?_
              refine z_casti (y := nI (64 * 2 ^ j2)) (nI_64 _ (by omega)) ?_
              refine z_iload_n C dX5_classOf_43 rfl 1 rfl ?_
              refine z_icmp_ge (tgt := 53) C dX5_classOf_44 (by decide) (fun h44 => ?_) (fun h44 => ?_)
              · skip
                have hend2 : ¬ 64 * 2 ^ j2 < b := fun q => absurd h44 (nI_ge q (by omega))
                refine z_bipush (v := 6) C dX5_classOf_53 (by decide) ?_
                refine z_iload_n C dX5_classOf_55 rfl 0 rfl ?_
                refine z_iadd C dX5_classOf_56 ?_
                refine z_casti (y := nI (6 + j2)) (nI_add 6 _) ?_
                exact z_iret C hrt rfl dX5_classOf_57 (by decide) (by decide) (⟨by unfold k_cls; rw [hje, if_neg (by first | exact fun q => absurd h25 (nI_ge q.1 (by decide)) | exact fun q => absurd h32 (nI_nlt q.2 (by decide))), ← hv2, k_c2_end hend2], rfl⟩)
              · skip
                have hlt2 : 64 * 2 ^ j2 < b := (nI_ltI (by have := k_64 j2 (by omega); omega) (by omega)).mp (Int32.not_le.mp h44)
                have hj6b := hj26 hlt2
                refine z_iinc (k := 0) (v := nI (j2 + 1)) (lv' := [(2, .int (nI (j2 + 1))), (0, .int (nI b))]) C dX5_classOf_47 rfl (nI_1 j2) (by decide) rfl ?_
                refine z_goto (tgt := 39) C dX5_classOf_50 (by decide) ?_
                refine z_lv (lv' := [(2, .int (nI (j2 + 1))), (0, .int (nI b))]) [0, 1] rfl ?_
                exact ih2 (j2 + 1) (by omega) (by omega) (by rw [← hv2]; exact (k_c2_go hj26 hlt2).symm)
          exact loop2 7 0 (by omega) (by omega) rfl
        · skip
          refine z_iload_n C dX5_classOf_28 rfl 1 rfl ?_
          refine z_sipush (v := 256) C dX5_classOf_29 (by decide) ?_
          refine z_icmp_gt (tgt := 37) C dX5_classOf_32 (by decide) (fun h32 => ?_) (fun h32 => ?_)
          · skip
            refine z_iconst (v := 0) C dX5_classOf_37 (by decide) ?_
            refine z_casti (y := nI 0) (rfl) ?_
            refine z_istore_n (lv' := [(2, .int (nI 0)), (1, .int (nI j)), (0, .int (nI b))]) C dX5_classOf_38 rfl (by decide) rfl ?_
            refine z_lv (lv' := [(2, .int (nI 0)), (0, .int (nI b))]) [0, 2] rfl ?_
            have loop2 : ∀ (n : Nat) (j2 : Nat), (j2 ≤ 6) → (7 ≤ n + j2) → (k_c2 b (6 - j2) j2 = k_c2 b 6 0) → z_R p l e (z_rm 0 0 0) s m ([Value.int (nI b)] : List Value).toArray below meth c (MQ below (z_Qc G base (fun v hp' => v = some (.int (nI (k_cls b))) ∧ hp' = hp)) ([Value.int (nI b)] : List Value).toArray s 0 0 (fun z => base ≤ z)) G base 3 0 0 39 [(2, .int (nI j2)), (0, .int (nI b))] [] hp := by
              intro n
              induction n with
              | zero => intro j2 hj2 hn0 hv2; exact absurd hn0 (by omega)
              | succ n ih =>
                intro j2 hj2 hn0 hv2
                have ih2 := ih
                have hj26 : 64 * 2 ^ j2 < b → j2 < 6 := fun q => by
                  rcases Nat.lt_or_ge j2 6 with q9 | q9
                  · exact q9
                  · rw [show j2 = 6 by omega] at q; omega
                refine z_bipush (v := 64) C dX5_classOf_39 (by decide) ?_
                refine z_iload_n C dX5_classOf_41 rfl 0 rfl ?_
                refine z_ishl C dX5_classOf_42 ?_
                refine z_casti (y := nI (64 * 2 ^ j2)) (nI_64 _ (by omega)) ?_
                refine z_iload_n C dX5_classOf_43 rfl 1 rfl ?_
                refine z_icmp_ge (tgt := 53) C dX5_classOf_44 (by decide) (fun h44 => ?_) (fun h44 => ?_)
                · skip
                  have hend2 : ¬ 64 * 2 ^ j2 < b := fun q => absurd h44 (nI_ge q (by omega))
                  refine z_bipush (v := 6) C dX5_classOf_53 (by decide) ?_
                  refine z_iload_n C dX5_classOf_55 rfl 0 rfl ?_
                  refine z_iadd C dX5_classOf_56 ?_
                  refine z_casti (y := nI (6 + j2)) (nI_add 6 _) ?_
                  exact z_iret C hrt rfl dX5_classOf_57 (by decide) (by decide) (⟨by unfold k_cls; rw [hje, if_neg (by first | exact fun q => absurd h25 (nI_ge q.1 (by decide)) | exact fun q => absurd h32 (nI_nlt q.2 (by decide))), ← hv2, k_c2_end hend2], rfl⟩)
                · skip
                  have hlt2 : 64 * 2 ^ j2 < b := (nI_ltI (by have := k_64 j2 (by omega); omega) (by omega)).mp (Int32.not_le.mp h44)
                  have hj6b := hj26 hlt2
                  refine z_iinc (k := 0) (v := nI (j2 + 1)) (lv' := [(2, .int (nI (j2 + 1))), (0, .int (nI b))]) C dX5_classOf_47 rfl (nI_1 j2) (by decide) rfl ?_
                  refine z_goto (tgt := 39) C dX5_classOf_50 (by decide) ?_
                  refine z_lv (lv' := [(2, .int (nI (j2 + 1))), (0, .int (nI b))]) [0, 1] rfl ?_
                  exact ih2 (j2 + 1) (by omega) (by omega) (by rw [← hv2]; exact (k_c2_go hj26 hlt2).symm)
            exact loop2 7 0 (by omega) (by omega) rfl
          · skip
            refine z_iload_n C dX5_classOf_35 rfl 0 rfl ?_
            exact z_iret C hrt rfl dX5_classOf_36 (by decide) (by decide) (⟨by unfold k_cls; rw [hje, if_pos ⟨by rcases Nat.lt_or_ge j 6 with q9 | q9; exact q9; exact absurd (nI_le (a := 6) (b := j) q9 (by omega)) h25, by rcases Nat.lt_or_ge 256 b with q9 | q9; exact absurd (nI_lt (a := 256) q9 (by omega)) h32; exact q9⟩], rfl⟩)
      · skip
        have hj6 : j < 6 := by
          rcases Nat.lt_or_ge j 6 with q9 | q9
          · exact q9
          · exact absurd (nI_le (a := 6) (b := j) q9 (by omega)) h5
        refine z_bipush (v := 8) C dX5_classOf_8 (by decide) ?_
        refine z_iload_n C dX5_classOf_10 rfl 0 rfl ?_
        refine z_ishl C dX5_classOf_11 ?_
        refine z_casti (y := nI (8 * 2 ^ j)) (nI_8 _ (by omega)) ?_
        refine z_iload_n C dX5_classOf_12 rfl 1 rfl ?_
        refine z_icmp_ge (tgt := 22) C dX5_classOf_13 (by decide) (fun h13 => ?_) (fun h13 => ?_)
        · skip
          have hend : ¬ (j < 6 ∧ 8 * 2 ^ j < b) := fun q => absurd h13 (nI_ge q.2 (by omega))
          have hje : k_c1 b 6 0 = j := by rw [← hv]; exact k_c1_end hend
          refine z_iload_n C dX5_classOf_22 rfl 0 rfl ?_
          refine z_bipush (v := 6) C dX5_classOf_23 (by decide) ?_
          refine z_icmp_ge (tgt := 37) C dX5_classOf_25 (by decide) (fun h25 => ?_) (fun h25 => ?_)
          · skip
            refine z_iconst (v := 0) C dX5_classOf_37 (by decide) ?_
            refine z_casti (y := nI 0) (rfl) ?_
            refine z_istore_n (lv' := [(2, .int (nI 0)), (1, .int (nI j)), (0, .int (nI b))]) C dX5_classOf_38 rfl (by decide) rfl ?_
            refine z_lv (lv' := [(2, .int (nI 0)), (0, .int (nI b))]) [0, 2] rfl ?_
            have loop2 : ∀ (n : Nat) (j2 : Nat), (j2 ≤ 6) → (7 ≤ n + j2) → (k_c2 b (6 - j2) j2 = k_c2 b 6 0) → z_R p l e (z_rm 0 0 0) s m ([Value.int (nI b)] : List Value).toArray below meth c (MQ below (z_Qc G base (fun v hp' => v = some (.int (nI (k_cls b))) ∧ hp' = hp)) ([Value.int (nI b)] : List Value).toArray s 0 0 (fun z => base ≤ z)) G base 3 0 0 39 [(2, .int (nI j2)), (0, .int (nI b))] [] hp := by
              intro n
              induction n with
              | zero => intro j2 hj2 hn0 hv2; exact absurd hn0 (by omega)
              | succ n ih =>
                intro j2 hj2 hn0 hv2
                have ih2 := ih
                have hj26 : 64 * 2 ^ j2 < b → j2 < 6 := fun q => by
                  rcases Nat.lt_or_ge j2 6 with q9 | q9
                  · exact q9
                  · rw [show j2 = 6 by omega] at q; omega
                refine z_bipush (v := 64) C dX5_classOf_39 (by decide) ?_
                refine z_iload_n C dX5_classOf_41 rfl 0 rfl ?_
                refine z_ishl C dX5_classOf_42 ?_
                refine z_casti (y := nI (64 * 2 ^ j2)) (nI_64 _ (by omega)) ?_
                refine z_iload_n C dX5_classOf_43 rfl 1 rfl ?_
                refine z_icmp_ge (tgt := 53) C dX5_classOf_44 (by decide) (fun h44 => ?_) (fun h44 => ?_)
                · skip
                  have hend2 : ¬ 64 * 2 ^ j2 < b := fun q => absurd h44 (nI_ge q (by omega))
                  refine z_bipush (v := 6) C dX5_classOf_53 (by decide) ?_
                  refine z_iload_n C dX5_classOf_55 rfl 0 rfl ?_
                  refine z_iadd C dX5_classOf_56 ?_
                  refine z_casti (y := nI (6 + j2)) (nI_add 6 _) ?_
                  exact z_iret C hrt rfl dX5_classOf_57 (by decide) (by decide) (⟨by unfold k_cls; rw [hje, if_neg (by first | exact fun q => absurd h25 (nI_ge q.1 (by decide)) | exact fun q => absurd h32 (nI_nlt q.2 (by decide))), ← hv2, k_c2_end hend2], rfl⟩)
                · skip
                  have hlt2 : 64 * 2 ^ j2 < b := (nI_ltI (by have := k_64 j2 (by omega); omega) (by omega)).mp (Int32.not_le.mp h44)
                  have hj6b := hj26 hlt2
                  refine z_iinc (k := 0) (v := nI (j2 + 1)) (lv' := [(2, .int (nI (j2 + 1))), (0, .int (nI b))]) C dX5_classOf_47 rfl (nI_1 j2) (by decide) rfl ?_
                  refine z_goto (tgt := 39) C dX5_classOf_50 (by decide) ?_
                  refine z_lv (lv' := [(2, .int (nI (j2 + 1))), (0, .int (nI b))]) [0, 1] rfl ?_
                  exact ih2 (j2 + 1) (by omega) (by omega) (by rw [← hv2]; exact (k_c2_go hj26 hlt2).symm)
            exact loop2 7 0 (by omega) (by omega) rfl
          · skip
            refine z_iload_n C dX5_classOf_28 rfl 1 rfl ?_
            refine z_sipush (v := 256) C dX5_classOf_29 (by decide) ?_
            refine z_icmp_gt (tgt := 37) C dX5_classOf_32 (by decide) (fun h32 => ?_) (fun h32 => ?_)
            · skip
              refine z_iconst (v := 0) C dX5_classOf_37 (by decide) ?_
              refine z_casti (y := nI 0) (rfl) ?_
              refine z_istore_n (lv' := [(2, .int (nI 0)), (1, .int (nI j)), (0, .int (nI b))]) C dX5_classOf_38 rfl (by decide) rfl ?_
              refine z_lv (lv' := [(2, .int (nI 0)), (0, .int (nI b))]) [0, 2] rfl ?_
              have loop2 : ∀ (n : Nat) (j2 : Nat), (j2 ≤ 6) → (7 ≤ n + j2) → (k_c2 b (6 - j2) j2 = k_c2 b 6 0) → z_R p l e (z_rm 0 0 0) s m ([Value.int (nI b)] : List Value).toArray below meth c (MQ below (z_Qc G base (fun v hp' => v = some (.int (nI (k_cls b))) ∧ hp' = hp)) ([Value.int (nI b)] : List Value).toArray s 0 0 (fun z => base ≤ z)) G base 3 0 0 39 [(2, .int (nI j2)), (0, .int (nI b))] [] hp := by
                intro n
                induction n with
                | zero => intro j2 hj2 hn0 hv2; exact absurd hn0 (by omega)
                | succ n ih =>
                  intro j2 hj2 hn0 hv2
                  have ih2 := ih
                  have hj26 : 64 * 2 ^ j2 < b → j2 < 6 := fun q => by
                    rcases Nat.lt_or_ge j2 6 with q9 | q9
                    · exact q9
                    · rw [show j2 = 6 by omega] at q; omega
                  refine z_bipush (v := 64) C dX5_classOf_39 (by decide) ?_
                  refine z_iload_n C dX5_classOf_41 rfl 0 rfl ?_
                  refine z_ishl C dX5_classOf_42 ?_
                  refine z_casti (y := nI (64 * 2 ^ j2)) (nI_64 _ (by omega)) ?_
                  refine z_iload_n C dX5_classOf_43 rfl 1 rfl ?_
                  refine z_icmp_ge (tgt := 53) C dX5_classOf_44 (by decide) (fun h44 => ?_) (fun h44 => ?_)
                  · skip
                    have hend2 : ¬ 64 * 2 ^ j2 < b := fun q => absurd h44 (nI_ge q (by omega))
                    refine z_bipush (v := 6) C dX5_classOf_53 (by decide) ?_
                    refine z_iload_n C dX5_classOf_55 rfl 0 rfl ?_
                    refine z_iadd C dX5_classOf_56 ?_
                    refine z_casti (y := nI (6 + j2)) (nI_add 6 _) ?_
                    exact z_iret C hrt rfl dX5_classOf_57 (by decide) (by decide) (⟨by unfold k_cls; rw [hje, if_neg (by first | exact fun q => absurd h25 (nI_ge q.1 (by decide)) | exact fun q => absurd h32 (nI_nlt q.2 (by decide))), ← hv2, k_c2_end hend2], rfl⟩)
                  · skip
                    have hlt2 : 64 * 2 ^ j2 < b := (nI_ltI (by have := k_64 j2 (by omega); omega) (by omega)).mp (Int32.not_le.mp h44)
                    have hj6b := hj26 hlt2
                    refine z_iinc (k := 0) (v := nI (j2 + 1)) (lv' := [(2, .int (nI (j2 + 1))), (0, .int (nI b))]) C dX5_classOf_47 rfl (nI_1 j2) (by decide) rfl ?_
                    refine z_goto (tgt := 39) C dX5_classOf_50 (by decide) ?_
                    refine z_lv (lv' := [(2, .int (nI (j2 + 1))), (0, .int (nI b))]) [0, 1] rfl ?_
                    exact ih2 (j2 + 1) (by omega) (by omega) (by rw [← hv2]; exact (k_c2_go hj26 hlt2).symm)
              exact loop2 7 0 (by omega) (by omega) rfl
            · skip
              refine z_iload_n C dX5_classOf_35 rfl 0 rfl ?_
              exact z_iret C hrt rfl dX5_classOf_36 (by decide) (by decide) (⟨by unfold k_cls; rw [hje, if_pos ⟨by rcases Nat.lt_or_ge j 6 with q9 | q9; exact q9; exact absurd (nI_le (a := 6) (b := j) q9 (by omega)) h25, by rcases Nat.lt_or_ge 256 b with q9 | q9; exact absurd (nI_lt (a := 256) q9 (by omega)) h32; exact q9⟩], rfl⟩)
        · skip
          refine z_iinc (k := 0) (v := nI (j + 1)) (lv' := [(1, .int (nI (j + 1))), (0, .int (nI b))]) C dX5_classOf_16 rfl (nI_1 j) (by decide) rfl ?_
          refine z_goto (tgt := 2) C dX5_classOf_19 (by decide) ?_
          refine z_lv (lv' := [(1, .int (nI (j + 1))), (0, .int (nI b))]) [0, 1] rfl ?_
          exact ih (j + 1) (by omega) (by omega) (by rw [← hv]; exact (k_c1_go hj6 ((nI_ltI (by have := k_8 j (by omega); omega) (by omega)).mp (Int32.not_le.mp h13))).symm)
  exact loop 7 0 (by omega) (by omega) rfl

set_option maxHeartbeats 4000000 in
set_option maxRecDepth 100000 in
theorem m_X5_bytesOf (l : Launch) (G : z_G) (base : Nat) (hp : List va_E) (k : Nat) (hk : k ≤ 12) : z_M l G base yX5_bytesOf cX5_bytesOf 1 (some .int) 0 0 0 [.int (nI k)] hp (fun v hp' => v = some (.int (nI (k_bytes k))) ∧ hp' = hp) := by
  refine z_M.of (lv0 := [(0, .int (nI k))]) (by decide) (Nat.le_of_ble_eq_true rfl) rfl ?_
  intro p e s m below meth c hmn hrt C
  refine z_iload_n C dX5_bytesOf_0 rfl 0 rfl ?_
  refine z_bipush (v := 6) C dX5_bytesOf_1 (by decide) ?_
  refine z_icmp_ge (tgt := 13) C dX5_bytesOf_3 (by decide) (fun h3 => ?_) (fun h3 => ?_)
  · skip
    have hk6 : 6 ≤ k := (nI_leI (a := 6) (by decide) (by omega)).mp h3
    refine z_bipush (v := 64) C dX5_bytesOf_13 (by decide) ?_
    refine z_iload_n C dX5_bytesOf_15 rfl 0 rfl ?_
    refine z_bipush (v := 6) C dX5_bytesOf_16 (by decide) ?_
    refine z_isub C dX5_bytesOf_18 ?_
    refine z_casti (y := nI (k - 6)) (pk_sub (b := 6) hk6) ?_
    refine z_ishl C dX5_bytesOf_19 ?_
    refine z_casti (y := nI (k_bytes k)) (by unfold k_bytes; first | rw [if_pos hk6] | (rw [if_neg (by omega)]; exact nI_64 _ (by omega))) ?_
    exact z_iret C hrt rfl dX5_bytesOf_20 (by decide) (by decide) (⟨rfl, rfl⟩)
  · skip
    have hk6 : k < 6 := by
      rcases Nat.lt_or_ge k 6 with q9 | q9
      · exact q9
      · exact absurd (nI_le (a := 6) (b := k) q9 (by omega)) h3
    refine z_bipush (v := 8) C dX5_bytesOf_6 (by decide) ?_
    refine z_iload_n C dX5_bytesOf_8 rfl 0 rfl ?_
    refine z_ishl C dX5_bytesOf_9 ?_
    refine z_casti (y := nI (8 * 2 ^ k)) (nI_8 k (by omega)) ?_
    refine z_goto (tgt := 20) C dX5_bytesOf_10 (by decide) ?_
    refine z_casti (y := nI (k_bytes k)) (by unfold k_bytes; first | rw [if_pos hk6] | (rw [if_neg (by omega)]; exact nI_64 _ (by omega))) ?_
    exact z_iret C hrt rfl dX5_bytesOf_20 (by decide) (by decide) (⟨rfl, rfl⟩)
end
section
set_option maxHeartbeats 4000000 in
set_option maxRecDepth 100000 in
theorem m_X5_addCache (l : Launch) (G : z_G) (base : Nat) (xs : Nat → va_E) (r : r_T) (tl : List va_E) (nc b a : Nat) (hnc : r.1 1 = nI nc) (hnc2 : nc < 12) (hb : 1 ≤ b) (hb2 : b ≤ 1024) (ha : 1 ≤ a) (ha2 : a ≤ 64) : z_M l G base yX5_addCache cX5_addCache 4 (some .int) 0 0 0 [.ref (base + 16), .int (nI b), .int (nI a)] (hpM G base xs r tl) (fun v hp' => v = some (.int (nI nc)) ∧ hp' = hpM G base xs (r_ac r nc b a) tl) := by
  refine z_M.of (lv0 := [(0, .ref (base + 16)), (1, .int (nI b)), (2, .int (nI a))]) (by decide) (Nat.le_of_ble_eq_true rfl) rfl ?_
  intro p e s m below meth c hmn hrt C
  have hs1 := k_str_pos hb ha
  have hs2 := k_str_le (b := b) (a := a)
  refine z_aload_n C dX5_addCache_0 rfl 0 rfl ?_
  refine z_get C fl_X5_35 dX5_addCache_1 rfl rfl ?_
  refine z_aload_n C dX5_addCache_4 rfl 0 rfl ?_
  refine z_get C fl_X5_110 dX5_addCache_5 rfl rfl ?_
  refine z_casti (y := nI nc) (hnc) ?_
  refine z_iload_n C dX5_addCache_8 rfl 1 rfl ?_
  refine z_iastK C dX5_addCache_9 rfl (by omega) (by decide) ?_
  refine z_aload_n C dX5_addCache_10 rfl 0 rfl ?_
  refine z_get C fl_X5_38 dX5_addCache_11 rfl rfl ?_
  refine z_aload_n C dX5_addCache_14 rfl 0 rfl ?_
  refine z_get C fl_X5_110 dX5_addCache_15 rfl rfl ?_
  refine z_casti (y := nI nc) (hnc) ?_
  refine z_iload_n C dX5_addCache_18 rfl 2 rfl ?_
  refine z_iastK C dX5_addCache_19 rfl (by omega) (by decide) ?_
  refine z_aload_n C dX5_addCache_20 rfl 0 rfl ?_
  refine z_get C fl_X5_41 dX5_addCache_21 rfl rfl ?_
  refine z_aload_n C dX5_addCache_24 rfl 0 rfl ?_
  refine z_get C fl_X5_110 dX5_addCache_25 rfl rfl ?_
  refine z_casti (y := nI nc) (hnc) ?_
  refine z_iload_n C dX5_addCache_28 rfl 1 rfl ?_
  refine z_iload_n C dX5_addCache_29 rfl 2 rfl ?_
  refine z_iadd C dX5_addCache_30 ?_
  refine z_casti (y := nI (b + a)) (nI_add _ _) ?_
  refine z_iconst (v := 1) C dX5_addCache_31 (by decide) ?_
  refine z_isub C dX5_addCache_32 ?_
  refine z_casti (y := nI (b + a - 1)) (pk_sub (b := 1) (by omega)) ?_
  refine z_iload_n C dX5_addCache_33 rfl 2 rfl ?_
  refine z_idiv C dX5_addCache_34 (nI_ne0 ha (by omega)) ?_
  refine z_casti (y := nI ((b + a - 1) / a)) (pk_div (by omega) ha (by omega)) ?_
  refine z_iload_n C dX5_addCache_35 rfl 2 rfl ?_
  refine z_imul C dX5_addCache_36 ?_
  refine z_casti (y := nI (k_str b a)) (pk_mul _ _) ?_
  refine z_iastK C dX5_addCache_37 rfl (by omega) (by decide) ?_
  refine z_iconst (v := 0) C dX5_addCache_38 (by decide) ?_
  refine z_casti (y := nI 0) (rfl) ?_
  refine z_istore_n (lv' := [(3, .int (nI 0)), (0, .ref (base + 16)), (1, .int (nI b)), (2, .int (nI a))]) C dX5_addCache_39 rfl (by decide) rfl ?_
  refine z_lv (lv' := [(3, .int (nI 0)), (0, .ref (base + 16))]) [0, 1] rfl ?_
  have loop : ∀ (n : Nat) (j : Nat), (j ≤ 4) → (5 ≤ n + j) → (q_so (k_str b a) (4 - j) j = q_so (k_str b a) 4 0) → z_R p l e (z_rm 0 0 0) s m ([Value.ref (base + 16), .int (nI b), .int (nI a)] : List Value).toArray below meth c (MQ below (z_Qc G base (fun v hp' => v = some (.int (nI nc)) ∧ hp' = hpM G base xs (r_ac r nc b a) tl)) ([Value.ref (base + 16), .int (nI b), .int (nI a)] : List Value).toArray s 0 0 (fun z => base ≤ z)) G base 4 0 0 40 [(3, .int (nI j)), (0, .ref (base + 16))] [] (hpM G base xs (r.1, va_up (va_up (va_up r.2.1 5 (va_up (r.2.1 5) nc b)) 6 (va_up (r.2.1 6) nc a)) 7 (va_up (r.2.1 7) nc (k_str b a)), r.2.2) tl) := by
    intro n
    induction n with
    | zero => intro j hj hn0 hv; exact absurd hn0 (by omega)
    | succ n ih =>
      intro j hj hn0 hv
      have hdv : 64 * 2 ^ j / k_str b a ≤ 64 * 2 ^ j := Nat.div_le_self _ _
      have hp2 := two_le j (by omega)
      refine z_iload_n C dX5_addCache_40 rfl 0 rfl ?_
      refine z_iconst (v := 4) C dX5_addCache_41 (by decide) ?_
      refine z_icmp_ge (tgt := 69) C dX5_addCache_42 (by decide) (fun h42 => ?_) (fun h42 => ?_)
      · skip
        have hlt : ¬ (j < 4 ∧ 64 * 2 ^ j / k_str b a < 4) := fun z => absurd h42 (nI_ge z.1 (by decide))
        refine z_aload_n C dX5_addCache_69 rfl 1 rfl ?_
        refine z_get C fl_X5_44 dX5_addCache_70 rfl rfl ?_
        refine z_aload_n C dX5_addCache_73 rfl 1 rfl ?_
        refine z_get C fl_X5_110 dX5_addCache_74 rfl rfl ?_
        refine z_casti (y := nI nc) (hnc) ?_
        refine z_iload_n C dX5_addCache_77 rfl 0 rfl ?_
        refine z_iastK C dX5_addCache_78 rfl (by omega) (by decide) ?_
        refine z_aload_n C dX5_addCache_79 rfl 1 rfl ?_
        refine z_get C fl_X5_47 dX5_addCache_80 rfl rfl ?_
        refine z_aload_n C dX5_addCache_83 rfl 1 rfl ?_
        refine z_get C fl_X5_110 dX5_addCache_84 rfl rfl ?_
        refine z_casti (y := nI nc) (hnc) ?_
        refine z_iconst (v := -1) C dX5_addCache_87 (by decide) ?_
        refine z_iastN C dX5_addCache_88 rfl (by omega) (by decide) ?_
        refine z_aload_n C dX5_addCache_89 rfl 1 rfl ?_
        refine z_dup C dX5_addCache_90 rfl ?_
        refine z_get C fl_X5_110 dX5_addCache_91 rfl rfl ?_
        refine z_casti (y := nI nc) (hnc) ?_
        refine z_iconst (v := 1) C dX5_addCache_94 (by decide) ?_
        refine z_iadd C dX5_addCache_95 ?_
        refine z_casti (y := nI (nc + 1)) (nI_1 nc) ?_
        refine z_put C fl_X5_110 fp_X5 rfl dX5_addCache_96 rfl (by simp) rfl rfl ?_
        refine z_aload_n C dX5_addCache_99 rfl 1 rfl ?_
        refine z_get C fl_X5_110 dX5_addCache_100 rfl rfl ?_
        refine z_iconst (v := 1) C dX5_addCache_103 (by decide) ?_
        refine z_isub C dX5_addCache_104 ?_
        refine z_casti (y := nI nc) (nI_pred nc) ?_
        exact z_iret C hrt rfl dX5_addCache_105 (by decide) (by decide) (⟨rfl, by unfold r_ac; rw [← hv, q_so_end hlt]; rfl⟩)
      · skip
        have hj4 : j < 4 := by
          rcases Nat.lt_or_ge j 4 with z | z
          · exact z
          · exact absurd (nI_le (a := 4) (b := j) z (by omega)) h42
        refine z_bipush (v := 64) C dX5_addCache_45 (by decide) ?_
        refine z_iload_n C dX5_addCache_47 rfl 0 rfl ?_
        refine z_ishl C dX5_addCache_48 ?_
        refine z_casti (y := nI (64 * 2 ^ j)) (nI_64 _ (by omega)) ?_
        refine z_aload_n C dX5_addCache_49 rfl 1 rfl ?_
        refine z_get C fl_X5_41 dX5_addCache_50 rfl rfl ?_
        refine z_aload_n C dX5_addCache_53 rfl 1 rfl ?_
        refine z_get C fl_X5_110 dX5_addCache_54 rfl rfl ?_
        refine z_casti (y := nI nc) (hnc) ?_
        refine z_ialdK C dX5_addCache_57 rfl (by omega) (by decide) ?_
        refine z_casti (y := nI (k_str b a)) (by show nI (va_up (r.2.1 7) nc (k_str b a) nc) = _; rw [va_up_self]) ?_
        refine z_idiv C dX5_addCache_58 (nI_ne0 hs1 (by omega)) ?_
        refine z_casti (y := nI (64 * 2 ^ j / k_str b a)) (pk_div (by omega) hs1 (by omega)) ?_
        refine z_iconst (v := 4) C dX5_addCache_59 (by decide) ?_
        refine z_icmp_ge (tgt := 69) C dX5_addCache_60 (by decide) (fun h60 => ?_) (fun h60 => ?_)
        · skip
          have hlt : ¬ (j < 4 ∧ 64 * 2 ^ j / k_str b a < 4) := fun z => absurd h60 (nI_ge z.2 (by decide))
          refine z_aload_n C dX5_addCache_69 rfl 1 rfl ?_
          refine z_get C fl_X5_44 dX5_addCache_70 rfl rfl ?_
          refine z_aload_n C dX5_addCache_73 rfl 1 rfl ?_
          refine z_get C fl_X5_110 dX5_addCache_74 rfl rfl ?_
          refine z_casti (y := nI nc) (hnc) ?_
          refine z_iload_n C dX5_addCache_77 rfl 0 rfl ?_
          refine z_iastK C dX5_addCache_78 rfl (by omega) (by decide) ?_
          refine z_aload_n C dX5_addCache_79 rfl 1 rfl ?_
          refine z_get C fl_X5_47 dX5_addCache_80 rfl rfl ?_
          refine z_aload_n C dX5_addCache_83 rfl 1 rfl ?_
          refine z_get C fl_X5_110 dX5_addCache_84 rfl rfl ?_
          refine z_casti (y := nI nc) (hnc) ?_
          refine z_iconst (v := -1) C dX5_addCache_87 (by decide) ?_
          refine z_iastN C dX5_addCache_88 rfl (by omega) (by decide) ?_
          refine z_aload_n C dX5_addCache_89 rfl 1 rfl ?_
          refine z_dup C dX5_addCache_90 rfl ?_
          refine z_get C fl_X5_110 dX5_addCache_91 rfl rfl ?_
          refine z_casti (y := nI nc) (hnc) ?_
          refine z_iconst (v := 1) C dX5_addCache_94 (by decide) ?_
          refine z_iadd C dX5_addCache_95 ?_
          refine z_casti (y := nI (nc + 1)) (nI_1 nc) ?_
          refine z_put C fl_X5_110 fp_X5 rfl dX5_addCache_96 rfl (by simp) rfl rfl ?_
          refine z_aload_n C dX5_addCache_99 rfl 1 rfl ?_
          refine z_get C fl_X5_110 dX5_addCache_100 rfl rfl ?_
          refine z_iconst (v := 1) C dX5_addCache_103 (by decide) ?_
          refine z_isub C dX5_addCache_104 ?_
          refine z_casti (y := nI nc) (nI_pred nc) ?_
          exact z_iret C hrt rfl dX5_addCache_105 (by decide) (by decide) (⟨rfl, by unfold r_ac; rw [← hv, q_so_end hlt]; rfl⟩)
        · skip
          have hlt : 64 * 2 ^ j / k_str b a < 4 := by
            rcases Nat.lt_or_ge (64 * 2 ^ j / k_str b a) 4 with z | z
            · exact z
            · exact absurd (nI_le (a := 4) z (by omega)) h60
          refine z_iinc (k := 0) (v := nI (j + 1)) (lv' := [(3, .int (nI (j + 1))), (0, .ref (base + 16))]) C dX5_addCache_63 rfl (nI_1 j) (by decide) rfl ?_
          refine z_goto (tgt := 40) C dX5_addCache_66 (by decide) ?_
          refine z_lv (lv' := [(3, .int (nI (j + 1))), (0, .ref (base + 16))]) [0, 1] rfl ?_
          exact ih (j + 1) (by omega) (by omega) (by rw [← hv]; exact (q_so_go hj4 hlt).symm)
  refine z_hp (hp' := hpM G base xs (r.1, va_up (va_up (va_up r.2.1 5 (va_up (r.2.1 5) nc b)) 6 (va_up (r.2.1 6) nc a)) 7 (va_up (r.2.1 7) nc (k_str b a)), r.2.2) tl) rfl ?_
  exact loop 5 0 (by omega) (by omega) rfl

set_option maxHeartbeats 4000000 in
set_option maxRecDepth 100000 in
theorem m_X5_cache (l : Launch) (G : z_G) (base : Nat) (xs : Nat → va_E) (r : r_T) (tl : List va_E) (x y : Int32) (nc : Nat) (hnc : r.1 1 = nI nc) (hnc2 : nc ≤ 12) : z_M l G base yX5_cache cX5_cache 4 (some .int) 1 0 0 [.ref (base + 16), .int (x), .int (y)] (hpM G base xs r tl) (fun v hp' => v = some (.int (r_chA r (x) (y))) ∧ hp' = hpM G base xs (r_chS r (x) (y)) tl) := by
  refine z_M.of (lv0 := [(0, .ref (base + 16)), (1, .int (x)), (2, .int (y))]) (by decide) (Nat.le_of_ble_eq_true rfl) rfl ?_
  intro p e s m below meth c hmn hrt C
  refine z_aload_n C dX5_cache_0 rfl 0 rfl ?_
  refine z_get C fl_X5_58 dX5_cache_1 rfl rfl ?_
  refine z_if_eq (tgt := 49) C dX5_cache_4 (by decide) (fun h4 => ?_) (fun h4 => ?_)
  · skip
    refine z_iconst (v := 0) C dX5_cache_49 (by decide) ?_
    refine z_istore_n (lv' := [(3, .int ((0 : Int32))), (0, .ref (base + 16)), (1, .int (x)), (2, .int (y))]) C dX5_cache_50 rfl (by decide) rfl ?_
    refine z_iload_n C dX5_cache_51 rfl 0 rfl ?_
    refine z_if_eq (tgt := 64) C dX5_cache_52 (by decide) (fun h52 => ?_) (fun h52 => absurd h52 (by decide))
    refine z_iconst (v := -1) C dX5_cache_64 (by decide) ?_
    exact z_iret C hrt rfl dX5_cache_65 (by decide) (by decide) (by first | exact ⟨by unfold r_chA; rw [if_neg (by rw [show r_chB r x y = false from decide_eq_false (by first | exact fun q => q.1 h4 | exact fun q => bI_eq h15 q.2.1 | exact fun q => bI_eq h25 q.2.2.1 | exact fun q => h33 q.2.2.2.1 | exact fun q => absurd h42 (Int32.not_le.mpr q.2.2.2.2))]; exact Bool.false_ne_true)], by unfold r_chS; rw [if_neg (by rw [show r_chB r x y = false from decide_eq_false (by first | exact fun q => q.1 h4 | exact fun q => bI_eq h15 q.2.1 | exact fun q => bI_eq h25 q.2.2.1 | exact fun q => h33 q.2.2.2.1 | exact fun q => absurd h42 (Int32.not_le.mpr q.2.2.2.2))]; exact Bool.false_ne_true)]⟩ | exact ⟨by unfold r_chA; rw [if_pos hB, hnc], by unfold r_chS; rw [if_pos hB, hnc, nI_clamp (by omega), nI_clamp (by omega), nI_clamp (by omega)]⟩)
  · skip
    refine z_iload_n C dX5_cache_7 rfl 1 rfl ?_
    refine z_iconst (v := 1) C dX5_cache_8 (by decide) ?_
    refine z_sipush (v := 1024) C dX5_cache_9 (by decide) ?_
    refine z_callS (rest := []) C (m_X5_in l G base _ (x) ((1 : Int32)) ((1024 : Int32))) ml_X5_62 kw_X5_in rfl rfl (by simp [Value.category]) dX5_cache_12 (by decide) (by decide) (by decide) (by decide) ?_
    rintro _ _ ⟨rfl, rfl⟩
    refine z_st (st' := [.int ((bI (decide ((1 : Int32) ≤ x ∧ x ≤ (1024 : Int32)))))]) rfl ?_
    refine z_if_eq (tgt := 49) C dX5_cache_15 (by decide) (fun h15 => ?_) (fun h15 => ?_)
    · skip
      refine z_iconst (v := 0) C dX5_cache_49 (by decide) ?_
      refine z_istore_n (lv' := [(3, .int ((0 : Int32))), (0, .ref (base + 16)), (1, .int (x)), (2, .int (y))]) C dX5_cache_50 rfl (by decide) rfl ?_
      refine z_iload_n C dX5_cache_51 rfl 0 rfl ?_
      refine z_if_eq (tgt := 64) C dX5_cache_52 (by decide) (fun h52 => ?_) (fun h52 => absurd h52 (by decide))
      refine z_iconst (v := -1) C dX5_cache_64 (by decide) ?_
      exact z_iret C hrt rfl dX5_cache_65 (by decide) (by decide) (by first | exact ⟨by unfold r_chA; rw [if_neg (by rw [show r_chB r x y = false from decide_eq_false (by first | exact fun q => q.1 h4 | exact fun q => bI_eq h15 q.2.1 | exact fun q => bI_eq h25 q.2.2.1 | exact fun q => h33 q.2.2.2.1 | exact fun q => absurd h42 (Int32.not_le.mpr q.2.2.2.2))]; exact Bool.false_ne_true)], by unfold r_chS; rw [if_neg (by rw [show r_chB r x y = false from decide_eq_false (by first | exact fun q => q.1 h4 | exact fun q => bI_eq h15 q.2.1 | exact fun q => bI_eq h25 q.2.2.1 | exact fun q => h33 q.2.2.2.1 | exact fun q => absurd h42 (Int32.not_le.mpr q.2.2.2.2))]; exact Bool.false_ne_true)]⟩ | exact ⟨by unfold r_chA; rw [if_pos hB, hnc], by unfold r_chS; rw [if_pos hB, hnc, nI_clamp (by omega), nI_clamp (by omega), nI_clamp (by omega)]⟩)
    · skip
      refine z_iload_n C dX5_cache_18 rfl 2 rfl ?_
      refine z_iconst (v := 1) C dX5_cache_19 (by decide) ?_
      refine z_bipush (v := 64) C dX5_cache_20 (by decide) ?_
      refine z_callS (rest := []) C (m_X5_in l G base _ (y) ((1 : Int32)) ((64 : Int32))) ml_X5_62 kw_X5_in rfl rfl (by simp [Value.category]) dX5_cache_22 (by decide) (by decide) (by decide) (by decide) ?_
      rintro _ _ ⟨rfl, rfl⟩
      refine z_st (st' := [.int ((bI (decide ((1 : Int32) ≤ y ∧ y ≤ (64 : Int32)))))]) rfl ?_
      refine z_if_eq (tgt := 49) C dX5_cache_25 (by decide) (fun h25 => ?_) (fun h25 => ?_)
      · skip
        refine z_iconst (v := 0) C dX5_cache_49 (by decide) ?_
        refine z_istore_n (lv' := [(3, .int ((0 : Int32))), (0, .ref (base + 16)), (1, .int (x)), (2, .int (y))]) C dX5_cache_50 rfl (by decide) rfl ?_
        refine z_iload_n C dX5_cache_51 rfl 0 rfl ?_
        refine z_if_eq (tgt := 64) C dX5_cache_52 (by decide) (fun h52 => ?_) (fun h52 => absurd h52 (by decide))
        refine z_iconst (v := -1) C dX5_cache_64 (by decide) ?_
        exact z_iret C hrt rfl dX5_cache_65 (by decide) (by decide) (by first | exact ⟨by unfold r_chA; rw [if_neg (by rw [show r_chB r x y = false from decide_eq_false (by first | exact fun q => q.1 h4 | exact fun q => bI_eq h15 q.2.1 | exact fun q => bI_eq h25 q.2.2.1 | exact fun q => h33 q.2.2.2.1 | exact fun q => absurd h42 (Int32.not_le.mpr q.2.2.2.2))]; exact Bool.false_ne_true)], by unfold r_chS; rw [if_neg (by rw [show r_chB r x y = false from decide_eq_false (by first | exact fun q => q.1 h4 | exact fun q => bI_eq h15 q.2.1 | exact fun q => bI_eq h25 q.2.2.1 | exact fun q => h33 q.2.2.2.1 | exact fun q => absurd h42 (Int32.not_le.mpr q.2.2.2.2))]; exact Bool.false_ne_true)]⟩ | exact ⟨by unfold r_chA; rw [if_pos hB, hnc], by unfold r_chS; rw [if_pos hB, hnc, nI_clamp (by omega), nI_clamp (by omega), nI_clamp (by omega)]⟩)
      · skip
        refine z_iload_n C dX5_cache_28 rfl 2 rfl ?_
        refine z_iload_n C dX5_cache_29 rfl 2 rfl ?_
        refine z_iconst (v := 1) C dX5_cache_30 (by decide) ?_
        refine z_isub C dX5_cache_31 ?_
        refine z_iand C dX5_cache_32 ?_
        refine z_if_ne (tgt := 49) C dX5_cache_33 (by decide) (fun h33 => ?_) (fun h33 => ?_)
        · skip
          refine z_iconst (v := 0) C dX5_cache_49 (by decide) ?_
          refine z_istore_n (lv' := [(3, .int ((0 : Int32))), (0, .ref (base + 16)), (1, .int (x)), (2, .int (y))]) C dX5_cache_50 rfl (by decide) rfl ?_
          refine z_iload_n C dX5_cache_51 rfl 0 rfl ?_
          refine z_if_eq (tgt := 64) C dX5_cache_52 (by decide) (fun h52 => ?_) (fun h52 => absurd h52 (by decide))
          refine z_iconst (v := -1) C dX5_cache_64 (by decide) ?_
          exact z_iret C hrt rfl dX5_cache_65 (by decide) (by decide) (by first | exact ⟨by unfold r_chA; rw [if_neg (by rw [show r_chB r x y = false from decide_eq_false (by first | exact fun q => q.1 h4 | exact fun q => bI_eq h15 q.2.1 | exact fun q => bI_eq h25 q.2.2.1 | exact fun q => h33 q.2.2.2.1 | exact fun q => absurd h42 (Int32.not_le.mpr q.2.2.2.2))]; exact Bool.false_ne_true)], by unfold r_chS; rw [if_neg (by rw [show r_chB r x y = false from decide_eq_false (by first | exact fun q => q.1 h4 | exact fun q => bI_eq h15 q.2.1 | exact fun q => bI_eq h25 q.2.2.1 | exact fun q => h33 q.2.2.2.1 | exact fun q => absurd h42 (Int32.not_le.mpr q.2.2.2.2))]; exact Bool.false_ne_true)]⟩ | exact ⟨by unfold r_chA; rw [if_pos hB, hnc], by unfold r_chS; rw [if_pos hB, hnc, nI_clamp (by omega), nI_clamp (by omega), nI_clamp (by omega)]⟩)
        · skip
          refine z_aload_n C dX5_cache_36 rfl 0 rfl ?_
          refine z_get C fl_X5_110 dX5_cache_37 rfl rfl ?_
          refine z_bipush (v := 12) C dX5_cache_40 (by decide) ?_
          refine z_icmp_ge (tgt := 49) C dX5_cache_42 (by decide) (fun h42 => ?_) (fun h42 => ?_)
          · skip
            refine z_iconst (v := 0) C dX5_cache_49 (by decide) ?_
            refine z_istore_n (lv' := [(3, .int ((0 : Int32))), (0, .ref (base + 16)), (1, .int (x)), (2, .int (y))]) C dX5_cache_50 rfl (by decide) rfl ?_
            refine z_iload_n C dX5_cache_51 rfl 0 rfl ?_
            refine z_if_eq (tgt := 64) C dX5_cache_52 (by decide) (fun h52 => ?_) (fun h52 => absurd h52 (by decide))
            refine z_iconst (v := -1) C dX5_cache_64 (by decide) ?_
            exact z_iret C hrt rfl dX5_cache_65 (by decide) (by decide) (by first | exact ⟨by unfold r_chA; rw [if_neg (by rw [show r_chB r x y = false from decide_eq_false (by first | exact fun q => q.1 h4 | exact fun q => bI_eq h15 q.2.1 | exact fun q => bI_eq h25 q.2.2.1 | exact fun q => h33 q.2.2.2.1 | exact fun q => absurd h42 (Int32.not_le.mpr q.2.2.2.2))]; exact Bool.false_ne_true)], by unfold r_chS; rw [if_neg (by rw [show r_chB r x y = false from decide_eq_false (by first | exact fun q => q.1 h4 | exact fun q => bI_eq h15 q.2.1 | exact fun q => bI_eq h25 q.2.2.1 | exact fun q => h33 q.2.2.2.1 | exact fun q => absurd h42 (Int32.not_le.mpr q.2.2.2.2))]; exact Bool.false_ne_true)]⟩ | exact ⟨by unfold r_chA; rw [if_pos hB, hnc], by unfold r_chS; rw [if_pos hB, hnc, nI_clamp (by omega), nI_clamp (by omega), nI_clamp (by omega)]⟩)
          · skip
            have hB : r_chB r x y = true := decide_eq_true ⟨h4, bI_ne h15, bI_ne h25, h33, Int32.not_le.mp h42⟩
            obtain ⟨b, hb, hb2, rfl⟩ := in1_of (M := 1024) (by decide) (bI_ne h15)
            obtain ⟨a, ha, ha2, rfl⟩ := in1_of (M := 64) (by decide) (bI_ne h25)
            have hnc3 : nc < 12 := (nI_ltI (by omega) (by decide)).mp (by rw [← hnc]; exact Int32.not_le.mp h42)
            refine z_iconst (v := 1) C dX5_cache_45 (by decide) ?_
            refine z_goto (tgt := 50) C dX5_cache_46 (by decide) ?_
            refine z_istore_n (lv' := [(3, .int ((1 : Int32))), (0, .ref (base + 16)), (1, .int (nI b)), (2, .int (nI a))]) C dX5_cache_50 rfl (by decide) rfl ?_
            refine z_iload_n C dX5_cache_51 rfl 0 rfl ?_
            refine z_if_eq (tgt := 64) C dX5_cache_52 (by decide) (fun h52 => absurd h52 (by decide)) (fun h52 => ?_)
            refine z_aload_n C dX5_cache_55 rfl 1 rfl ?_
            refine z_iload_n C dX5_cache_56 rfl 2 rfl ?_
            refine z_iload_n C dX5_cache_57 rfl 3 rfl ?_
            refine z_callV (rest := []) C (m_X5_addCache l G base xs r tl nc b a hnc hnc3 hb hb2 ha ha2) ml_X5_54 kw_X5_addCache rfl rfl rfl rfl (by simp [Value.category]) dX5_cache_58 (by decide) (by decide) (by decide) (by decide) ?_
            rintro _ _ ⟨rfl, rfl⟩
            refine z_st (st' := [.int (nI nc)]) rfl ?_
            refine z_goto (tgt := 65) C dX5_cache_61 (by decide) ?_
            exact z_iret C hrt rfl dX5_cache_65 (by decide) (by decide) (by first | exact ⟨by unfold r_chA; rw [if_neg (by rw [show r_chB r x y = false from decide_eq_false (by first | exact fun q => q.1 h4 | exact fun q => bI_eq h15 q.2.1 | exact fun q => bI_eq h25 q.2.2.1 | exact fun q => h33 q.2.2.2.1 | exact fun q => absurd h42 (Int32.not_le.mpr q.2.2.2.2))]; exact Bool.false_ne_true)], by unfold r_chS; rw [if_neg (by rw [show r_chB r x y = false from decide_eq_false (by first | exact fun q => q.1 h4 | exact fun q => bI_eq h15 q.2.1 | exact fun q => bI_eq h25 q.2.2.1 | exact fun q => h33 q.2.2.2.1 | exact fun q => absurd h42 (Int32.not_le.mpr q.2.2.2.2))]; exact Bool.false_ne_true)]⟩ | exact ⟨by unfold r_chA; rw [if_pos hB, hnc], by unfold r_chS; rw [if_pos hB, hnc, nI_clamp (by omega), nI_clamp (by omega), nI_clamp (by omega)]⟩)

set_option maxHeartbeats 4000000 in
set_option maxRecDepth 100000 in
theorem m_X5_newSlab (l : Launch) (G : z_G) (base : Nat) (xs : Nat → va_E) (r : r_T) (tl : List va_E) (hfo : ∀ p, r.2.1 1 p < 256) (hoo : ∀ p, r.2.1 2 p ≤ 6) (hal : ∀ p, p < 256 → r_free r p = true → p + 2 ^ r.2.1 2 p ≤ 256) (c0 : Nat) (hc : c0 < 12) (hs : 1 ≤ r.2.1 7 c0) (hs2 : r.2.1 7 c0 < 65536) (ho : r.2.1 8 c0 ≤ 4) (hob : r_ob r c0 ≤ 64) : z_M l G base yX5_newSlab cX5_newSlab 5 (some .int) 5 0 0 [.ref (base + 16), .int (nI c0)] (hpM G base xs r tl) (fun v hp' => v = some (.int (oI (r_tk r (r.2.1 8 c0)))) ∧ hp' = hpM G base xs (r_nsS r c0) tl) := by
  refine z_M.of (lv0 := [(0, .ref (base + 16)), (1, .int (nI c0))]) (by decide) (Nat.le_of_ble_eq_true rfl) rfl ?_
  intro p e s m below meth c hmn hrt C
  have e7 : (r_tks r (r.2.1 8 c0)).2.1 7 = r.2.1 7 := (r_tks_na (by decide) (by decide)).1
  have e8 : (r_tks r (r.2.1 8 c0)).2.1 8 = r.2.1 8 := (r_tks_na (by decide) (by decide)).1
  refine z_aload_n C dX5_newSlab_0 rfl 0 rfl ?_
  refine z_aload_n C dX5_newSlab_1 rfl 0 rfl ?_
  refine z_get C fl_X5_44 dX5_newSlab_2 rfl rfl ?_
  refine z_iload_n C dX5_newSlab_5 rfl 1 rfl ?_
  refine z_ialdK C dX5_newSlab_6 rfl (by omega) (by decide) ?_
  refine z_callV (rest := []) C (m_X5_takeBlock l G base xs r tl hfo hoo hal (r.2.1 8 c0) (by omega)) ml_X5_100 kw_X5_takeBlock rfl rfl rfl rfl (by simp [Value.category]) dX5_newSlab_7 (by decide) (by decide) (by decide) (by decide) ?_
  rintro _ _ ⟨rfl, rfl⟩
  refine z_st (st' := [.int (oI (r_tk r (r.2.1 8 c0)))]) rfl ?_
  rcases opt_cases (r_tk r (r.2.1 8 c0)) with htk | ⟨P, htk⟩
  · skip
    refine z_casti (y := -1) (by rw [htk]; rfl) ?_
    refine z_istore_n (lv' := [(2, .int ((-1 : Int32))), (0, .ref (base + 16)), (1, .int (nI c0))]) C dX5_newSlab_10 rfl (by decide) rfl ?_
    refine z_iload_n C dX5_newSlab_11 rfl 0 rfl ?_
    refine z_if_lt (tgt := 68) C dX5_newSlab_12 (by decide) (fun h12 => ?_) (fun h12 => absurd h12 (by decide))
    refine z_iload_n C dX5_newSlab_68 rfl 0 rfl ?_
    exact z_iret C hrt rfl dX5_newSlab_69 (by decide) (by decide) (⟨by rw [htk]; rfl, by unfold r_nsS; rw [htk]⟩)
  · skip
    refine z_casti (y := nI P) (by rw [htk]; rfl) ?_
    have hP : P < 256 := r_tk_lt htk
    refine z_istore_n (lv' := [(2, .int (nI P)), (0, .ref (base + 16)), (1, .int (nI c0))]) C dX5_newSlab_10 rfl (by decide) rfl ?_
    refine z_iload_n C dX5_newSlab_11 rfl 0 rfl ?_
    refine z_if_lt (tgt := 68) C dX5_newSlab_12 (by decide) (fun h12 => absurd h12 (nI_pos (by omega))) (fun h12 => ?_)
    refine z_aload_n C dX5_newSlab_15 rfl 1 rfl ?_
    refine z_get C fl_X5_26 dX5_newSlab_16 rfl rfl ?_
    refine z_iload_n C dX5_newSlab_19 rfl 0 rfl ?_
    refine z_iload_n C dX5_newSlab_20 rfl 2 rfl ?_
    refine z_iastN C dX5_newSlab_21 rfl (by omega) (by decide) ?_
    refine z_hp (hp' := hpM G base xs ((r_tks r (r.2.1 8 c0)).1, (r_tks r (r.2.1 8 c0)).2.1, va_up (r_tks r (r.2.1 8 c0)).2.2 2 (upd ((r_tks r (r.2.1 8 c0)).2.2 2) P (nI c0))) tl) (rfl) ?_
    refine z_aload_n C dX5_newSlab_22 rfl 1 rfl ?_
    refine z_iload_n C dX5_newSlab_23 rfl 2 rfl ?_
    refine z_callV (rest := []) C (m_X5_objectsOf l G base xs ((r_tks r (r.2.1 8 c0)).1, (r_tks r (r.2.1 8 c0)).2.1, va_up (r_tks r (r.2.1 8 c0)).2.2 2 (upd ((r_tks r (r.2.1 8 c0)).2.2 2) P (nI c0))) tl c0 hc (by show 1 ≤ (r_tks r (r.2.1 8 c0)).2.1 7 c0; rw [e7]; exact hs) (by show (r_tks r (r.2.1 8 c0)).2.1 7 c0 < 65536; rw [e7]; exact hs2) (by show (r_tks r (r.2.1 8 c0)).2.1 8 c0 ≤ 4; rw [e8]; exact ho)) ml_X5_113 kw_X5_objectsOf rfl rfl rfl rfl (by simp [Value.category]) dX5_newSlab_24 (by decide) (by decide) (by decide) (by decide) ?_
    rintro _ _ ⟨rfl, rfl⟩
    rw [show r_ob ((r_tks r (r.2.1 8 c0)).1, (r_tks r (r.2.1 8 c0)).2.1, va_up (r_tks r (r.2.1 8 c0)).2.2 2 (upd ((r_tks r (r.2.1 8 c0)).2.2 2) P (nI c0))) c0 = r_ob r c0 by show 64 * 2 ^ (r_tks r (r.2.1 8 c0)).2.1 8 c0 / (r_tks r (r.2.1 8 c0)).2.1 7 c0 = _; rw [e7, e8]; rfl]
    refine z_st (st' := [.int (nI (r_ob r c0))]) rfl ?_
    refine z_istore_n (lv' := [(3, .int (nI (r_ob r c0))), (2, .int (nI P)), (0, .ref (base + 16)), (1, .int (nI c0))]) C dX5_newSlab_27 rfl (by decide) rfl ?_
    refine z_iconst (v := 0) C dX5_newSlab_28 (by decide) ?_
    refine z_casti (y := nI 0) (rfl) ?_
    refine z_istore (lv' := [(4, .int (nI 0)), (3, .int (nI (r_ob r c0))), (2, .int (nI P)), (0, .ref (base + 16)), (1, .int (nI c0))]) C dX5_newSlab_29 (by decide) rfl ?_
    refine z_lv (lv' := [(4, .int (nI 0)), (0, .ref (base + 16)), (2, .int (nI P)), (3, .int (nI (r_ob r c0)))]) [0, 3, 2, 1] rfl ?_
    have loop : ∀ (n : Nat) (j : Nat) (f : Nat → Nat), (j ≤ r_ob r c0) → (r_ob r c0 + 1 ≤ n + j) → (r_rowf (64 * P) (r_ob r c0) (r_ob r c0 - j) j f = r_rowf (64 * P) (r_ob r c0) (r_ob r c0) 0 ((r_tks r (r.2.1 8 c0)).2.1 3)) → z_R p l e (z_rm 5 0 0) s m ([Value.ref (base + 16), .int (nI c0)] : List Value).toArray below meth c (MQ below (z_Qc G base (fun v hp' => v = some (.int (oI (r_tk r (r.2.1 8 c0)))) ∧ hp' = hpM G base xs (r_nsS r c0) tl)) ([Value.ref (base + 16), .int (nI c0)] : List Value).toArray s 0 0 (fun z => base ≤ z)) G base 5 0 0 31 [(4, .int (nI j)), (0, .ref (base + 16)), (2, .int (nI P)), (3, .int (nI (r_ob r c0)))] [] (hpM G base xs ((r_tks r (r.2.1 8 c0)).1, va_up (r_tks r (r.2.1 8 c0)).2.1 3 f, va_up (r_tks r (r.2.1 8 c0)).2.2 2 (upd ((r_tks r (r.2.1 8 c0)).2.2 2) P (nI c0))) tl) := by
      intro n
      induction n with
      | zero => intro j f hj hn0 hv; exact absurd hn0 (by omega)
      | succ n ih =>
        intro j f hj hn0 hv
        refine z_iload C dX5_newSlab_31 0 rfl ?_
        refine z_iload_n C dX5_newSlab_33 rfl 3 rfl ?_
        refine z_icmp_ge (tgt := 61) C dX5_newSlab_34 (by decide) (fun h34 => ?_) (fun h34 => ?_)
        · skip
          have hje : j = r_ob r c0 := by
            rcases Nat.lt_or_ge j (r_ob r c0) with q9 | q9
            · exact absurd h34 (nI_ge q9 (by omega))
            · omega
          refine z_aload_n C dX5_newSlab_61 rfl 1 rfl ?_
          refine z_get C fl_X5_32 dX5_newSlab_62 rfl rfl ?_
          refine z_iload_n C dX5_newSlab_65 rfl 2 rfl ?_
          refine z_iload_n C dX5_newSlab_66 rfl 3 rfl ?_
          refine z_iastK C dX5_newSlab_67 rfl (by omega) (by decide) ?_
          refine z_iload_n C dX5_newSlab_68 rfl 2 rfl ?_
          exact z_iret C hrt rfl dX5_newSlab_69 (by decide) (by decide) (⟨by rw [htk]; rfl, by unfold r_nsS; rw [htk]; show _ = hpM G base xs (r_ns1 _ _ _ _) tl; unfold r_ns1; rw [← hv, hje, Nat.sub_self]; rfl⟩)
        · skip
          have hjl : j < r_ob r c0 := by
            rcases Nat.lt_or_ge j (r_ob r c0) with q9 | q9
            · exact q9
            · exact absurd (nI_le q9 (by omega)) h34
          refine z_aload_n C dX5_newSlab_37 rfl 1 rfl ?_
          refine z_get C fl_X5_29 dX5_newSlab_38 rfl rfl ?_
          refine z_bipush (v := 64) C dX5_newSlab_41 (by decide) ?_
          refine z_iload_n C dX5_newSlab_43 rfl 2 rfl ?_
          refine z_imul C dX5_newSlab_44 ?_
          refine z_casti (y := nI (64 * P)) (pk_mul 64 P) ?_
          refine z_iload C dX5_newSlab_45 0 rfl ?_
          refine z_iadd C dX5_newSlab_47 ?_
          refine z_casti (y := nI (64 * P + j)) (nI_add _ _) ?_
          refine z_iload_n C dX5_newSlab_48 rfl 3 rfl ?_
          refine z_iconst (v := 1) C dX5_newSlab_49 (by decide) ?_
          refine z_isub C dX5_newSlab_50 ?_
          refine z_casti (y := nI (r_ob r c0 - 1)) (pk_sub (b := 1) (by omega)) ?_
          refine z_iload C dX5_newSlab_51 0 rfl ?_
          refine z_isub C dX5_newSlab_53 ?_
          refine z_casti (y := nI (r_ob r c0 - 1 - j)) (pk_sub (by omega)) ?_
          refine z_iastK C dX5_newSlab_54 rfl (by omega) (by decide) ?_
          refine z_iinc (k := 0) (v := nI (j + 1)) (lv' := [(4, .int (nI (j + 1))), (0, .ref (base + 16)), (2, .int (nI P)), (3, .int (nI (r_ob r c0)))]) C dX5_newSlab_55 rfl (nI_1 j) (by decide) rfl ?_
          refine z_goto (tgt := 31) C dX5_newSlab_58 (by decide) ?_
          refine z_lv (lv' := [(4, .int (nI (j + 1))), (0, .ref (base + 16)), (2, .int (nI P)), (3, .int (nI (r_ob r c0)))]) [0, 1, 2, 3] rfl ?_
          refine z_hp (hp' := hpM G base xs ((r_tks r (r.2.1 8 c0)).1, va_up (r_tks r (r.2.1 8 c0)).2.1 3 (va_up f (64 * P + j) (r_ob r c0 - 1 - j)), va_up (r_tks r (r.2.1 8 c0)).2.2 2 (upd ((r_tks r (r.2.1 8 c0)).2.2 2) P (nI c0))) tl) rfl ?_
          exact ih (j + 1) _ (by omega) (by omega) (by rw [← hv, show r_ob r c0 - j = (r_ob r c0 - (j + 1)) + 1 by omega]; rfl)
    refine z_hp (hp' := hpM G base xs ((r_tks r (r.2.1 8 c0)).1, va_up (r_tks r (r.2.1 8 c0)).2.1 3 ((r_tks r (r.2.1 8 c0)).2.1 3), va_up (r_tks r (r.2.1 8 c0)).2.2 2 (upd ((r_tks r (r.2.1 8 c0)).2.2 2) P (nI c0))) tl) rfl ?_
    exact loop (r_ob r c0 + 1) 0 _ (by omega) (by omega) rfl

set_option maxHeartbeats 4000000 in
set_option maxRecDepth 100000 in
theorem m_X5_take (l : Launch) (G : z_G) (base : Nat) (xs : Nat → va_E) (r : r_T) (tl : List va_E) (hfo : ∀ p, r.2.1 1 p < 256) (hoo : ∀ p, r.2.1 2 p ≤ 6) (hal : ∀ p, p < 256 → r_free r p = true → p + 2 ^ r.2.1 2 p ≤ 256) (c0 : Nat) (hc : c0 < 12) (hs : 1 ≤ r.2.1 7 c0) (hs2 : r.2.1 7 c0 < 65536) (ho : r.2.1 8 c0 ≤ 4) (hob : r_ob r c0 ≤ 64) (hst : ¬ r.1 0 = 0) (hic : r_isc r (nI c0) = true) (hn : ∀ p, r.2.1 4 p ≤ 64) (hlv : ∀ p, p < 256 → r_slab r p c0 = true → r.2.1 4 p ≤ r_ob r c0) (hem : 0 ≤ r.2.2 3 c0 → ∃ P, P < 256 ∧ r.2.2 3 c0 = nI P ∧ 1 ≤ r.2.1 4 P) (hob1 : 1 ≤ r_ob r c0) : z_M l G base yX5_take cX5_take 4 (some .int) 6 0 0 [.ref (base + 16), .int (nI c0)] (hpM G base xs r tl) (fun v hp' => v = some (.int (oI (r_toO r c0))) ∧ hp' = hpM G base xs (r_toS r c0) tl) := by
  refine z_M.of (lv0 := [(0, .ref (base + 16)), (1, .int (nI c0))]) (by decide) (Nat.le_of_ble_eq_true rfl) rfl ?_
  intro p e s m below meth c hmn hrt C
  have fin : ∀ (P : Nat) (t : r_T), (r_toP r c0 = some P) → (r_to1 r c0 = t) → (P < 256) → (1 ≤ t.2.1 4 P) → (t.2.1 4 P ≤ 64) → (t.2.1 7 = r.2.1 7) → z_R p l e (z_rm 6 0 0) s m ([Value.ref (base + 16), .int (nI c0)] : List Value).toArray below meth c (MQ below (z_Qc G base (fun v hp' => v = some (.int (oI (r_toO r c0))) ∧ hp' = hpM G base xs (r_toS r c0) tl)) ([Value.ref (base + 16), .int (nI c0)] : List Value).toArray s 0 0 (fun z => base ≤ z)) G base 4 0 0 112 [(2, .int (nI P)), (0, .ref (base + 16)), (1, .int (nI c0))] [] (hpM G base xs t tl) := by
    intro P t htP ht1 hP hn1 hn2 e7
    refine z_aload_n C dX5_take_112 rfl 1 rfl ?_
    refine z_get C fl_X5_32 dX5_take_113 rfl rfl ?_
    refine z_iload_n C dX5_take_116 rfl 0 rfl ?_
    refine z_dup2 C dX5_take_117 rfl rfl ?_
    refine z_ialdK C dX5_take_118 rfl (by omega) (by decide) ?_
    refine z_iconst (v := 1) C dX5_take_119 (by decide) ?_
    refine z_isub C dX5_take_120 ?_
    refine z_casti (y := nI (t.2.1 4 P - 1)) (pk_sub (b := 1) hn1) ?_
    refine z_iastK C dX5_take_121 rfl (by omega) (by decide) ?_
    refine z_bipush (v := 64) C dX5_take_122 (by decide) ?_
    refine z_iload_n C dX5_take_124 rfl 0 rfl ?_
    refine z_imul C dX5_take_125 ?_
    refine z_casti (y := nI (64 * P)) (pk_mul 64 P) ?_
    refine z_aload_n C dX5_take_126 rfl 1 rfl ?_
    refine z_get C fl_X5_41 dX5_take_127 rfl rfl ?_
    refine z_iload_n C dX5_take_130 rfl 2 rfl ?_
    refine z_ialdK C dX5_take_131 rfl (by omega) (by decide) ?_
    refine z_aload_n C dX5_take_132 rfl 1 rfl ?_
    refine z_get C fl_X5_29 dX5_take_133 rfl rfl ?_
    refine z_bipush (v := 64) C dX5_take_136 (by decide) ?_
    refine z_iload_n C dX5_take_138 rfl 0 rfl ?_
    refine z_imul C dX5_take_139 ?_
    refine z_casti (y := nI (64 * P)) (pk_mul 64 P) ?_
    refine z_aload_n C dX5_take_140 rfl 1 rfl ?_
    refine z_get C fl_X5_32 dX5_take_141 rfl rfl ?_
    refine z_iload_n C dX5_take_144 rfl 0 rfl ?_
    refine z_ialdK C dX5_take_145 rfl (by omega) (by decide) ?_
    refine z_casti (y := nI (t.2.1 4 P - 1)) (by rw [va_up_self]) ?_
    refine z_iadd C dX5_take_146 ?_
    refine z_casti (y := nI (64 * P + (t.2.1 4 P - 1))) (nI_add _ _) ?_
    refine z_ialdK C dX5_take_147 rfl (by omega) (by decide) ?_
    refine z_imul C dX5_take_148 ?_
    refine z_casti (y := nI (t.2.1 7 c0 * t.2.1 3 (64 * P + (t.2.1 4 P - 1)))) (pk_mul _ _) ?_
    refine z_iadd C dX5_take_149 ?_
    refine z_casti (y := nI (64 * P + t.2.1 7 c0 * t.2.1 3 (64 * P + (t.2.1 4 P - 1)))) (nI_add _ _) ?_
    exact z_iret C hrt rfl dX5_take_150 (by decide) (by decide) (⟨by unfold r_toO; rw [htP, ht1, e7]; rfl, by unfold r_toS; rw [htP, ht1]; rfl⟩)
  refine z_aload_n C dX5_take_0 rfl 0 rfl ?_
  refine z_get C fl_X5_58 dX5_take_1 rfl rfl ?_
  refine z_if_eq (tgt := 15) C dX5_take_4 (by decide) (fun h4 => absurd h4 (hst)) (fun h4 => ?_)
  refine z_aload_n C dX5_take_7 rfl 0 rfl ?_
  refine z_iload_n C dX5_take_8 rfl 1 rfl ?_
  refine z_callV (rest := []) C (m_X5_isCache l G base xs r tl (nI c0)) ml_X5_116 kw_X5_isCache rfl rfl rfl rfl (by simp [Value.category]) dX5_take_9 (by decide) (by decide) (by decide) (by decide) ?_
  rintro _ _ ⟨rfl, rfl⟩
  refine z_st (st' := [.int ((bI (r_isc r (nI c0))))]) rfl ?_
  refine z_if_ne (tgt := 17) C dX5_take_12 (by decide) (fun h12 => ?_) (fun h12 => absurd h12 (fun q => by rw [bI_ff q] at hic; exact Bool.noConfusion hic))
  refine z_iconst (v := -1) C dX5_take_17 (by decide) ?_
  refine z_casti (y := oI none) (rfl) ?_
  refine z_istore_n (lv' := [(2, .int (oI none)), (0, .ref (base + 16)), (1, .int (nI c0))]) C dX5_take_18 rfl (by decide) rfl ?_
  refine z_sipush (v := 255) C dX5_take_19 (by decide) ?_
  refine z_casti (y := (nI 256 - 1)) (by decide) ?_
  refine z_istore_n (lv' := [(3, .int ((nI 256 - 1))), (2, .int (oI none)), (0, .ref (base + 16)), (1, .int (nI c0))]) C dX5_take_22 rfl (by decide) rfl ?_
  refine z_lv (lv' := [(3, .int ((nI 256 - 1))), (2, .int (oI none)), (0, .ref (base + 16)), (1, .int (nI c0))]) [0, 1, 2, 3] rfl ?_
  have loop : ∀ (n : Nat) (y : Nat) (b : Option Nat), (y ≤ 256) → (y + 1 ≤ n) → (r_low (fun p => decide (r_slab r p c0 = true ∧ 0 < r.2.1 4 p ∧ 0 < r_ob r c0 - r.2.1 4 p)) y b = r_part r c0) → z_R p l e (z_rm 6 0 0) s m ([Value.ref (base + 16), .int (nI c0)] : List Value).toArray below meth c (MQ below (z_Qc G base (fun v hp' => v = some (.int (oI (r_toO r c0))) ∧ hp' = hpM G base xs (r_toS r c0) tl)) ([Value.ref (base + 16), .int (nI c0)] : List Value).toArray s 0 0 (fun z => base ≤ z)) G base 4 0 0 23 [(3, .int ((nI y - 1))), (2, .int (oI b)), (0, .ref (base + 16)), (1, .int (nI c0))] [] (hpM G base xs r tl) := by
    intro n
    induction n with
    | zero => intro y b hy hn0 hv; exact absurd hn0 (by omega)
    | succ n ih =>
      intro y b hy hn0 hv
      refine z_iload_n C dX5_take_23 rfl 0 rfl ?_
      refine z_if_lt (tgt := 65) C dX5_take_24 (by decide) (fun h24 => ?_) (fun h24 => ?_)
      · skip
        have hy0 : y = 0 := by
          rcases Nat.eq_zero_or_pos y with q9 | q9
          · exact q9
          · exact absurd h24 (by rw [show nI y - 1 = nI (y - 1) from pk_sub (b := 1) q9]; exact nI_pos (by omega))
        subst hy0
        have hb0 : b = r_part r c0 := hv
        rcases opt_cases (r_part r c0) with hpt | ⟨P, hpt⟩
        · skip
          refine z_lvq (lv' := [(3, .int (nI 0 - 1)), (2, .int (-1)), (0, .ref (base + 16)), (1, .int (nI c0))]) (by rw [hb0, hpt]; rfl) ?_
          refine z_iload_n C dX5_take_65 rfl 1 rfl ?_
          refine z_if_ge (tgt := 92) C dX5_take_66 (by decide) (fun h66 => absurd h66 (by decide)) (fun h66 => ?_)
          refine z_aload_n C dX5_take_69 rfl 2 rfl ?_
          refine z_get C fl_X5_47 dX5_take_70 rfl rfl ?_
          refine z_iload_n C dX5_take_73 rfl 3 rfl ?_
          refine z_ialdN C dX5_take_74 rfl (by omega) (by decide) ?_
          refine z_if_lt (tgt := 92) C dX5_take_75 (by decide) (fun h75 => ?_) (fun h75 => ?_)
          · skip
            have hne : ¬ 0 ≤ r.2.2 3 c0 := Int32.not_le.mpr h75
            refine z_iload_n C dX5_take_92 rfl 1 rfl ?_
            refine z_if_ge (tgt := 104) C dX5_take_93 (by decide) (fun h93 => absurd h93 (by decide)) (fun h93 => ?_)
            refine z_aload_n C dX5_take_96 rfl 2 rfl ?_
            refine z_iload_n C dX5_take_97 rfl 3 rfl ?_
            refine z_callV (rest := []) C (m_X5_newSlab l G base xs r tl hfo hoo hal c0 hc hs hs2 ho hob) ml_X5_125 kw_X5_newSlab rfl rfl rfl rfl (by simp [Value.category]) dX5_take_98 (by decide) (by decide) (by decide) (by decide) ?_
            rintro _ _ ⟨rfl, rfl⟩
            refine z_st (st' := [.int (oI (r_tk r (r.2.1 8 c0)))]) rfl ?_
            refine z_goto (tgt := 105) C dX5_take_101 (by decide) ?_
            rcases opt_cases (r_tk r (r.2.1 8 c0)) with htk | ⟨P, htk⟩
            · skip
              refine z_casti (y := -1) (by rw [htk]; rfl) ?_
              refine z_istore_n (lv' := [(2, .int ((-1 : Int32))), (3, .int ((nI 0 - 1))), (0, .ref (base + 16)), (1, .int (nI c0))]) C dX5_take_105 rfl (by decide) rfl ?_
              refine z_iload_n C dX5_take_106 rfl 0 rfl ?_
              refine z_if_ge (tgt := 112) C dX5_take_107 (by decide) (fun h107 => absurd h107 (by decide)) (fun h107 => ?_)
              refine z_iconst (v := -1) C dX5_take_110 (by decide) ?_
              exact z_iret C hrt rfl dX5_take_111 (by decide) (by decide) (⟨by unfold r_toO; rw [r_toP_n hpt hne, htk]; rfl, by unfold r_toS; rw [r_toP_n hpt hne, htk]; show _ = hpM G base xs (r_to1 r c0) tl; unfold r_to1; rw [hpt]; show _ = hpM G base xs (if _ then _ else _) tl; rw [if_neg hne]⟩)
            · skip
              refine z_casti (y := nI P) (by rw [htk]; rfl) ?_
              have hP : P < 256 := r_tk_lt htk
              refine z_istore_n (lv' := [(2, .int (nI P)), (3, .int ((nI 0 - 1))), (0, .ref (base + 16)), (1, .int (nI c0))]) C dX5_take_105 rfl (by decide) rfl ?_
              refine z_iload_n C dX5_take_106 rfl 0 rfl ?_
              refine z_if_ge (tgt := 112) C dX5_take_107 (by decide) (fun h107 => ?_) (fun h107 => absurd h107 (fun q => q (nI_pos' (by omega))))
              refine z_lv (lv' := [(2, .int (nI P)), (0, .ref (base + 16)), (1, .int (nI c0))]) [0, 2, 3] rfl ?_
              exact fin P (r_nsS r c0) (by rw [r_toP_n hpt hne]; exact htk) (by unfold r_to1; rw [hpt]; exact if_neg hne) hP (by rw [r_nsS_4 htk]; exact hob1) (by rw [r_nsS_4 htk]; exact hob) (r_nsS_7 r c0)
          · skip
            have hne : 0 ≤ r.2.2 3 c0 := Int32.not_lt.mp h75
            obtain ⟨P, hP, heP, hn1⟩ := hem hne
            refine z_aload_n C dX5_take_78 rfl 2 rfl ?_
            refine z_get C fl_X5_47 dX5_take_79 rfl rfl ?_
            refine z_iload_n C dX5_take_82 rfl 3 rfl ?_
            refine z_ialdN C dX5_take_83 rfl (by omega) (by decide) ?_
            refine z_casti (y := nI P) (heP) ?_
            refine z_istore_n (lv' := [(2, .int (nI P)), (3, .int ((nI 0 - 1))), (0, .ref (base + 16)), (1, .int (nI c0))]) C dX5_take_84 rfl (by decide) rfl ?_
            refine z_aload_n C dX5_take_85 rfl 2 rfl ?_
            refine z_get C fl_X5_47 dX5_take_86 rfl rfl ?_
            refine z_iload_n C dX5_take_89 rfl 3 rfl ?_
            refine z_iconst (v := -1) C dX5_take_90 (by decide) ?_
            refine z_iastN C dX5_take_91 rfl (by omega) (by decide) ?_
            refine z_iload_n C dX5_take_92 rfl 0 rfl ?_
            refine z_if_ge (tgt := 104) C dX5_take_93 (by decide) (fun h93 => ?_) (fun h93 => absurd h93 (fun q => q (nI_pos' (by omega))))
            refine z_iload_n C dX5_take_104 rfl 0 rfl ?_
            refine z_istore_n (lv' := [(2, .int (nI P)), (3, .int ((nI 0 - 1))), (0, .ref (base + 16)), (1, .int (nI c0))]) C dX5_take_105 rfl (by decide) rfl ?_
            refine z_iload_n C dX5_take_106 rfl 0 rfl ?_
            refine z_if_ge (tgt := 112) C dX5_take_107 (by decide) (fun h107 => ?_) (fun h107 => absurd h107 (fun q => q (nI_pos' (by omega))))
            refine z_lv (lv' := [(2, .int (nI P)), (0, .ref (base + 16)), (1, .int (nI c0))]) [0, 2, 3] rfl ?_
            refine z_hp (hp' := hpM G base xs (r.1, r.2.1, va_up r.2.2 3 (upd (r.2.2 3) c0 (-1))) tl) rfl ?_
            exact fin P (r.1, r.2.1, va_up r.2.2 3 (upd (r.2.2 3) c0 (-1))) (by unfold r_toP; rw [hpt]; show (if _ then _ else _) = _; rw [if_pos hne, heP, cl_nI hP]) (by unfold r_to1; rw [hpt]; exact if_pos hne) hP hn1 (hn P) rfl
        · skip
          refine z_lvq (lv' := [(3, .int (nI 0 - 1)), (2, .int (nI P)), (0, .ref (base + 16)), (1, .int (nI c0))]) (by rw [hb0, hpt]; rfl) ?_
          have hPs := r_part_some hpt
          refine z_iload_n C dX5_take_65 rfl 1 rfl ?_
          refine z_if_ge (tgt := 92) C dX5_take_66 (by decide) (fun h66 => ?_) (fun h66 => absurd h66 (fun q => q (nI_pos' (by omega))))
          refine z_iload_n C dX5_take_92 rfl 1 rfl ?_
          refine z_if_ge (tgt := 104) C dX5_take_93 (by decide) (fun h93 => ?_) (fun h93 => absurd h93 (fun q => q (nI_pos' (by omega))))
          refine z_iload_n C dX5_take_104 rfl 1 rfl ?_
          refine z_istore_n (lv' := [(2, .int (nI P)), (3, .int ((nI 0 - 1))), (0, .ref (base + 16)), (1, .int (nI c0))]) C dX5_take_105 rfl (by decide) rfl ?_
          refine z_iload_n C dX5_take_106 rfl 0 rfl ?_
          refine z_if_ge (tgt := 112) C dX5_take_107 (by decide) (fun h107 => ?_) (fun h107 => absurd h107 (fun q => q (nI_pos' (by omega))))
          refine z_lv (lv' := [(2, .int (nI P)), (0, .ref (base + 16)), (1, .int (nI c0))]) [0, 2, 3] rfl ?_
          exact fin P r (by unfold r_toP; rw [hpt]) (by unfold r_to1; rw [hpt]) hPs.1 hPs.2.2.1 (hn P) rfl
      · skip
        obtain ⟨y1, rfl⟩ : ∃ y1, y = y1 + 1 := by
          cases y with
          | zero => exact absurd (by decide) h24
          | succ y1 => exact ⟨y1, rfl⟩
        refine z_lvq (lv' := [(3, .int (nI y1)), (2, .int (oI b)), (0, .ref (base + 16)), (1, .int (nI c0))]) (by rw [show nI (y1 + 1) - 1 = nI y1 from nI_pred _]) ?_
        refine z_aload_n C dX5_take_27 rfl 2 rfl ?_
        refine z_iload_n C dX5_take_28 rfl 0 rfl ?_
        refine z_iload_n C dX5_take_29 rfl 3 rfl ?_
        refine z_callV (rest := []) C (m_X5_isSlab l G base xs r tl hfo y1 c0 (by omega)) ml_X5_119 kw_X5_isSlab rfl rfl rfl rfl (by simp [Value.category]) dX5_take_30 (by decide) (by decide) (by decide) (by decide) ?_
        rintro _ _ ⟨rfl, rfl⟩
        refine z_st (st' := [.int ((bI (r_slab r y1 c0)))]) rfl ?_
        refine z_if_eq (tgt := 57) C dX5_take_33 (by decide) (fun h33 => ?_) (fun h33 => ?_)
        · skip
          refine z_iload_n C dX5_take_57 rfl 1 rfl ?_
          refine z_casti (y := oI (if decide (r_slab r y1 c0 = true ∧ 0 < r.2.1 4 y1 ∧ 0 < r_ob r c0 - r.2.1 4 y1) then some y1 else b)) (by first | (rw [if_pos (decide_eq_true ⟨bI_nt h33, nI_gt0 (by have := hn y1; omega) h42, nI_gt0 (by omega) h50⟩)]; rfl) | rw [if_neg (by rw [decide_eq_true_iff]; first | (rw [bI_ff h33]; exact fun q => Bool.noConfusion q.1) | exact fun q => absurd h42 (nI_nle q.2.1 (by have := hn y1; omega)) | exact fun q => absurd h50 (nI_nle q.2.2 (by omega)))]) ?_
          refine z_istore_n (lv' := [(2, .int (oI (if decide (r_slab r y1 c0 = true ∧ 0 < r.2.1 4 y1 ∧ 0 < r_ob r c0 - r.2.1 4 y1) then some y1 else b))), (3, .int (nI y1)), (0, .ref (base + 16)), (1, .int (nI c0))]) C dX5_take_58 rfl (by decide) rfl ?_
          refine z_iinc (k := 1) (v := (nI y1 - 1)) (lv' := [(3, .int ((nI y1 - 1))), (2, .int (oI (if decide (r_slab r y1 c0 = true ∧ 0 < r.2.1 4 y1 ∧ 0 < r_ob r c0 - r.2.1 4 y1) then some y1 else b))), (0, .ref (base + 16)), (1, .int (nI c0))]) C dX5_take_59 rfl (add_m1 _) (by decide) rfl ?_
          refine z_goto (tgt := 23) C dX5_take_62 (by decide) ?_
          refine z_lv (lv' := [(3, .int ((nI y1 - 1))), (2, .int (oI (if decide (r_slab r y1 c0 = true ∧ 0 < r.2.1 4 y1 ∧ 0 < r_ob r c0 - r.2.1 4 y1) then some y1 else b))), (0, .ref (base + 16)), (1, .int (nI c0))]) [0, 1, 2, 3] rfl ?_
          exact ih y1 _ (by omega) (by omega) (by rw [← hv]; rfl)
        · skip
          refine z_aload_n C dX5_take_36 rfl 2 rfl ?_
          refine z_get C fl_X5_32 dX5_take_37 rfl rfl ?_
          refine z_iload_n C dX5_take_40 rfl 0 rfl ?_
          refine z_ialdK C dX5_take_41 rfl (by omega) (by decide) ?_
          refine z_if_le (tgt := 57) C dX5_take_42 (by decide) (fun h42 => ?_) (fun h42 => ?_)
          · skip
            refine z_iload_n C dX5_take_57 rfl 1 rfl ?_
            refine z_casti (y := oI (if decide (r_slab r y1 c0 = true ∧ 0 < r.2.1 4 y1 ∧ 0 < r_ob r c0 - r.2.1 4 y1) then some y1 else b)) (by first | (rw [if_pos (decide_eq_true ⟨bI_nt h33, nI_gt0 (by have := hn y1; omega) h42, nI_gt0 (by omega) h50⟩)]; rfl) | rw [if_neg (by rw [decide_eq_true_iff]; first | (rw [bI_ff h33]; exact fun q => Bool.noConfusion q.1) | exact fun q => absurd h42 (nI_nle q.2.1 (by have := hn y1; omega)) | exact fun q => absurd h50 (nI_nle q.2.2 (by omega)))]) ?_
            refine z_istore_n (lv' := [(2, .int (oI (if decide (r_slab r y1 c0 = true ∧ 0 < r.2.1 4 y1 ∧ 0 < r_ob r c0 - r.2.1 4 y1) then some y1 else b))), (3, .int (nI y1)), (0, .ref (base + 16)), (1, .int (nI c0))]) C dX5_take_58 rfl (by decide) rfl ?_
            refine z_iinc (k := 1) (v := (nI y1 - 1)) (lv' := [(3, .int ((nI y1 - 1))), (2, .int (oI (if decide (r_slab r y1 c0 = true ∧ 0 < r.2.1 4 y1 ∧ 0 < r_ob r c0 - r.2.1 4 y1) then some y1 else b))), (0, .ref (base + 16)), (1, .int (nI c0))]) C dX5_take_59 rfl (add_m1 _) (by decide) rfl ?_
            refine z_goto (tgt := 23) C dX5_take_62 (by decide) ?_
            refine z_lv (lv' := [(3, .int ((nI y1 - 1))), (2, .int (oI (if decide (r_slab r y1 c0 = true ∧ 0 < r.2.1 4 y1 ∧ 0 < r_ob r c0 - r.2.1 4 y1) then some y1 else b))), (0, .ref (base + 16)), (1, .int (nI c0))]) [0, 1, 2, 3] rfl ?_
            exact ih y1 _ (by omega) (by omega) (by rw [← hv]; rfl)
          · skip
            refine z_aload_n C dX5_take_45 rfl 2 rfl ?_
            refine z_iload_n C dX5_take_46 rfl 0 rfl ?_
            refine z_callV (rest := []) C (m_X5_liveOf l G base xs r tl y1 c0 (by omega) (of_decide_eq_true (bI_nt h33)).2.2 hc hs hs2 ho (hlv y1 (by omega) (bI_nt h33))) ml_X5_122 kw_X5_liveOf rfl rfl rfl rfl (by simp [Value.category]) dX5_take_47 (by decide) (by decide) (by decide) (by decide) ?_
            rintro _ _ ⟨rfl, rfl⟩
            refine z_st (st' := [.int (nI (r_ob r c0 - r.2.1 4 y1))]) rfl ?_
            refine z_if_le (tgt := 57) C dX5_take_50 (by decide) (fun h50 => ?_) (fun h50 => ?_)
            · skip
              refine z_iload_n C dX5_take_57 rfl 1 rfl ?_
              refine z_casti (y := oI (if decide (r_slab r y1 c0 = true ∧ 0 < r.2.1 4 y1 ∧ 0 < r_ob r c0 - r.2.1 4 y1) then some y1 else b)) (by first | (rw [if_pos (decide_eq_true ⟨bI_nt h33, nI_gt0 (by have := hn y1; omega) h42, nI_gt0 (by omega) h50⟩)]; rfl) | rw [if_neg (by rw [decide_eq_true_iff]; first | (rw [bI_ff h33]; exact fun q => Bool.noConfusion q.1) | exact fun q => absurd h42 (nI_nle q.2.1 (by have := hn y1; omega)) | exact fun q => absurd h50 (nI_nle q.2.2 (by omega)))]) ?_
              refine z_istore_n (lv' := [(2, .int (oI (if decide (r_slab r y1 c0 = true ∧ 0 < r.2.1 4 y1 ∧ 0 < r_ob r c0 - r.2.1 4 y1) then some y1 else b))), (3, .int (nI y1)), (0, .ref (base + 16)), (1, .int (nI c0))]) C dX5_take_58 rfl (by decide) rfl ?_
              refine z_iinc (k := 1) (v := (nI y1 - 1)) (lv' := [(3, .int ((nI y1 - 1))), (2, .int (oI (if decide (r_slab r y1 c0 = true ∧ 0 < r.2.1 4 y1 ∧ 0 < r_ob r c0 - r.2.1 4 y1) then some y1 else b))), (0, .ref (base + 16)), (1, .int (nI c0))]) C dX5_take_59 rfl (add_m1 _) (by decide) rfl ?_
              refine z_goto (tgt := 23) C dX5_take_62 (by decide) ?_
              refine z_lv (lv' := [(3, .int ((nI y1 - 1))), (2, .int (oI (if decide (r_slab r y1 c0 = true ∧ 0 < r.2.1 4 y1 ∧ 0 < r_ob r c0 - r.2.1 4 y1) then some y1 else b))), (0, .ref (base + 16)), (1, .int (nI c0))]) [0, 1, 2, 3] rfl ?_
              exact ih y1 _ (by omega) (by omega) (by rw [← hv]; rfl)
            · skip
              refine z_iload_n C dX5_take_53 rfl 0 rfl ?_
              refine z_goto (tgt := 58) C dX5_take_54 (by decide) ?_
              refine z_casti (y := oI (if decide (r_slab r y1 c0 = true ∧ 0 < r.2.1 4 y1 ∧ 0 < r_ob r c0 - r.2.1 4 y1) then some y1 else b)) (by first | (rw [if_pos (decide_eq_true ⟨bI_nt h33, nI_gt0 (by have := hn y1; omega) h42, nI_gt0 (by omega) h50⟩)]; rfl) | rw [if_neg (by rw [decide_eq_true_iff]; first | (rw [bI_ff h33]; exact fun q => Bool.noConfusion q.1) | exact fun q => absurd h42 (nI_nle q.2.1 (by have := hn y1; omega)) | exact fun q => absurd h50 (nI_nle q.2.2 (by omega)))]) ?_
              refine z_istore_n (lv' := [(2, .int (oI (if decide (r_slab r y1 c0 = true ∧ 0 < r.2.1 4 y1 ∧ 0 < r_ob r c0 - r.2.1 4 y1) then some y1 else b))), (3, .int (nI y1)), (0, .ref (base + 16)), (1, .int (nI c0))]) C dX5_take_58 rfl (by decide) rfl ?_
              refine z_iinc (k := 1) (v := (nI y1 - 1)) (lv' := [(3, .int ((nI y1 - 1))), (2, .int (oI (if decide (r_slab r y1 c0 = true ∧ 0 < r.2.1 4 y1 ∧ 0 < r_ob r c0 - r.2.1 4 y1) then some y1 else b))), (0, .ref (base + 16)), (1, .int (nI c0))]) C dX5_take_59 rfl (add_m1 _) (by decide) rfl ?_
              refine z_goto (tgt := 23) C dX5_take_62 (by decide) ?_
              refine z_lv (lv' := [(3, .int ((nI y1 - 1))), (2, .int (oI (if decide (r_slab r y1 c0 = true ∧ 0 < r.2.1 4 y1 ∧ 0 < r_ob r c0 - r.2.1 4 y1) then some y1 else b))), (0, .ref (base + 16)), (1, .int (nI c0))]) [0, 1, 2, 3] rfl ?_
              exact ih y1 _ (by omega) (by omega) (by rw [← hv]; rfl)
  exact loop 257 256 none (by omega) (by omega) rfl
end
section
set_option maxHeartbeats 4000000 in
set_option maxRecDepth 100000 in
theorem m_X5_take_out (l : Launch) (G : z_G) (base : Nat) (xs : Nat → va_E) (r : r_T) (tl : List va_E) (x : Int32) (hx : ¬ (¬ r.1 0 = 0 ∧ r_isc r x = true)) : z_M l G base yX5_take cX5_take 4 (some .int) 6 0 0 [.ref (base + 16), .int (x)] (hpM G base xs r tl) (fun v hp' => v = some (.int (-1)) ∧ hp' = hpM G base xs r tl) := by
  refine z_M.of (lv0 := [(0, .ref (base + 16)), (1, .int (x))]) (by decide) (Nat.le_of_ble_eq_true rfl) rfl ?_
  intro p e s m below meth c hmn hrt C
  refine z_aload_n C dX5_take_0 rfl 0 rfl ?_
  refine z_get C fl_X5_58 dX5_take_1 rfl rfl ?_
  refine z_if_eq (tgt := 15) C dX5_take_4 (by decide) (fun h4 => ?_) (fun h4 => ?_)
  · skip
    refine z_iconst (v := -1) C dX5_take_15 (by decide) ?_
    exact z_iret C hrt rfl dX5_take_16 (by decide) (by decide) (⟨rfl, rfl⟩)
  · skip
    refine z_aload_n C dX5_take_7 rfl 0 rfl ?_
    refine z_iload_n C dX5_take_8 rfl 1 rfl ?_
    refine z_callV (rest := []) C (m_X5_isCache l G base xs r tl (x)) ml_X5_116 kw_X5_isCache rfl rfl rfl rfl (by simp [Value.category]) dX5_take_9 (by decide) (by decide) (by decide) (by decide) ?_
    rintro _ _ ⟨rfl, rfl⟩
    refine z_st (st' := [.int ((bI (r_isc r x)))]) rfl ?_
    refine z_if_ne (tgt := 17) C dX5_take_12 (by decide) (fun h12 => absurd h12 (fun q => hx ⟨h4, bI_nt q⟩)) (fun h12 => ?_)
    refine z_iconst (v := -1) C dX5_take_15 (by decide) ?_
    exact z_iret C hrt rfl dX5_take_16 (by decide) (by decide) (⟨rfl, rfl⟩)

set_option maxHeartbeats 4000000 in
set_option maxRecDepth 100000 in
theorem m_X5_give (l : Launch) (G : z_G) (base : Nat) (xs : Nat → va_E) (r : r_T) (tl : List va_E) (nc : Nat) (hw : r_wf r nc) (x y : Int32) : z_M l G base yX5_give cX5_give 5 (some .int) 5 0 0 [.ref (base + 16), .int (x), .int (y)] (hpM G base xs r tl) (fun v hp' => v = some (.int (r_gvA r (x) (y))) ∧ hp' = hpM G base xs (r_gvT r (x) (y)) tl) := by
  refine z_M.of (lv0 := [(0, .ref (base + 16)), (1, .int (x)), (2, .int (y))]) (by decide) (Nat.le_of_ble_eq_true rfl) rfl ?_
  intro p e s m below meth c hmn hrt C
  refine z_aload_n C dX5_give_0 rfl 0 rfl ?_
  refine z_iload_n C dX5_give_1 rfl 2 rfl ?_
  refine z_callV (rest := []) C (m_X5_slabAt l G base xs r tl hw.1.1 (y)) ml_X5_128 kw_X5_slabAt rfl rfl rfl rfl (by simp [Value.category]) dX5_give_2 (by decide) (by decide) (by decide) (by decide) ?_
  rintro _ _ ⟨rfl, rfl⟩
  refine z_st (st' := [.int (oI (r_sa r (y)))]) rfl ?_
  rcases opt_cases (r_sa r (y)) with hsa | ⟨P, hsa⟩
  · skip
    refine z_casti (y := -1) (by rw [hsa]; rfl) ?_
    refine z_istore_n (lv' := [(3, .int ((-1 : Int32))), (0, .ref (base + 16)), (1, .int (x)), (2, .int (y))]) C dX5_give_5 rfl (by decide) rfl ?_
    refine z_aload_n C dX5_give_6 rfl 1 rfl ?_
    refine z_iload_n C dX5_give_7 rfl 2 rfl ?_
    refine z_callV (rest := []) C (m_X5_isCache l G base xs r tl (x)) ml_X5_116 kw_X5_isCache rfl rfl rfl rfl (by simp [Value.category]) dX5_give_8 (by decide) (by decide) (by decide) (by decide) ?_
    rintro _ _ ⟨rfl, rfl⟩
    refine z_st (st' := [.int ((bI (r_isc r x)))]) rfl ?_
    refine z_if_eq (tgt := 28) C dX5_give_11 (by decide) (fun h11 => ?_) (fun h11 => ?_)
    · skip
      refine z_bipush (v := -2) C dX5_give_28 (by decide) ?_
      exact z_iret C hrt rfl dX5_give_30 (by decide) (by decide) (⟨by unfold r_gvA; rw [(show r_gvI r x y = none by unfold r_gvI; rw [hsa])], by unfold r_gvT; rw [(show r_gvI r x y = none by unfold r_gvI; rw [hsa])]⟩)
    · skip
      refine z_iload_n C dX5_give_14 rfl 0 rfl ?_
      refine z_if_lt (tgt := 28) C dX5_give_15 (by decide) (fun h15 => ?_) (fun h15 => absurd h15 (by decide))
      refine z_bipush (v := -2) C dX5_give_28 (by decide) ?_
      exact z_iret C hrt rfl dX5_give_30 (by decide) (by decide) (⟨by unfold r_gvA; rw [(show r_gvI r x y = none by unfold r_gvI; rw [hsa])], by unfold r_gvT; rw [(show r_gvI r x y = none by unfold r_gvI; rw [hsa])]⟩)
  · skip
    refine z_casti (y := nI P) (by rw [hsa]; rfl) ?_
    obtain ⟨a, ha, rfl, hst, hus, hPe, htk, hcc⟩ := r_sa_some hsa
    obtain ⟨hP, hPf, hPa, c0, hc0, hcP, hfull⟩ := hw.2.2.2.2.1 a P ha hsa
    have hc12 := hw.2.2.1.2.2
    obtain ⟨hs1, hs2, hs3, hs4, hs5⟩ := hw.2.1 c0 hc0
    refine z_istore_n (lv' := [(3, .int (nI P)), (0, .ref (base + 16)), (1, .int (x)), (2, .int (nI a))]) C dX5_give_5 rfl (by decide) rfl ?_
    refine z_aload_n C dX5_give_6 rfl 1 rfl ?_
    refine z_iload_n C dX5_give_7 rfl 2 rfl ?_
    refine z_callV (rest := []) C (m_X5_isCache l G base xs r tl (x)) ml_X5_116 kw_X5_isCache rfl rfl rfl rfl (by simp [Value.category]) dX5_give_8 (by decide) (by decide) (by decide) (by decide) ?_
    rintro _ _ ⟨rfl, rfl⟩
    refine z_st (st' := [.int ((bI (r_isc r x)))]) rfl ?_
    refine z_if_eq (tgt := 28) C dX5_give_11 (by decide) (fun h11 => ?_) (fun h11 => ?_)
    · skip
      refine z_bipush (v := -2) C dX5_give_28 (by decide) ?_
      exact z_iret C hrt rfl dX5_give_30 (by decide) (by decide) (⟨by unfold r_gvA; rw [(show r_gvI r x (nI a) = none by unfold r_gvI; rw [hsa]; show (if _ then _ else _) = _; rw [if_neg (by first | (rw [bI_ff h11]; exact fun q => Bool.noConfusion q.1) | exact fun q => h25 q.2)])], by unfold r_gvT; rw [(show r_gvI r x (nI a) = none by unfold r_gvI; rw [hsa]; show (if _ then _ else _) = _; rw [if_neg (by first | (rw [bI_ff h11]; exact fun q => Bool.noConfusion q.1) | exact fun q => h25 q.2)])]⟩)
    · skip
      refine z_iload_n C dX5_give_14 rfl 0 rfl ?_
      refine z_if_lt (tgt := 28) C dX5_give_15 (by decide) (fun h15 => absurd h15 (nI_pos (by omega))) (fun h15 => ?_)
      refine z_aload_n C dX5_give_18 rfl 1 rfl ?_
      refine z_get C fl_X5_26 dX5_give_19 rfl rfl ?_
      refine z_iload_n C dX5_give_22 rfl 0 rfl ?_
      refine z_ialdN C dX5_give_23 rfl (by omega) (by decide) ?_
      refine z_iload_n C dX5_give_24 rfl 2 rfl ?_
      refine z_icmp_eq (tgt := 31) C dX5_give_25 (by decide) (fun h25 => ?_) (fun h25 => ?_)
      · skip
        have hxc : nI c0 = x := by rw [← hcP]; exact h25
        subst hxc
        have hgI : r_gvI r (nI c0) (nI a) = some (P, a, c0) := by unfold r_gvI; rw [hsa]; show (if _ then _ else _) = _; rw [if_pos ⟨bI_nt h11, hcP⟩, nI_clamp (by omega), nI_clamp (by omega)]
        refine z_aload_n C dX5_give_31 rfl 1 rfl ?_
        refine z_iload_n C dX5_give_32 rfl 0 rfl ?_
        refine z_iload_n C dX5_give_33 rfl 3 rfl ?_
        refine z_callV (rest := []) C (m_X5_faultOfObject l G base xs r tl P a c0 hP hPa ha hcP (by omega) hs1 hs2 hs3 (hw.1.2.2.2 P) hw.1.2.2.1) ml_X5_131 kw_X5_faultOfObject rfl rfl rfl rfl (by simp [Value.category]) dX5_give_34 (by decide) (by decide) (by decide) (by decide) ?_
        rintro _ _ ⟨rfl, rfl⟩
        refine z_st (st' := [.int (r_fob r P a c0)]) rfl ?_
        rcases r_fob_cases r P a c0 with h9 | h9 | h9
        · skip
          refine z_casti h9 ?_
          refine z_istore (lv' := [(4, .int ((-2 : Int32))), (3, .int (nI P)), (0, .ref (base + 16)), (1, .int (nI c0)), (2, .int (nI a))]) C dX5_give_37 (by decide) rfl ?_
          refine z_iload C dX5_give_39 0 rfl ?_
          refine z_if_ge (tgt := 49) C dX5_give_41 (by decide) (fun h41 => absurd h41 (by decide)) (fun h41 => ?_)
          refine z_iload C dX5_give_44 0 rfl ?_
          refine z_goto (tgt := 55) C dX5_give_46 (by decide) ?_
          exact z_iret C hrt rfl dX5_give_55 (by decide) (by decide) (⟨by unfold r_gvA; rw [hgI]; show _ = some (Value.int (if _ then _ else _)); first | rw [if_neg (by rw [h9]; decide), h9] | rw [if_pos h9], by unfold r_gvT; rw [hgI]; show _ = hpM G base xs (if _ then _ else _) tl; first | rw [if_neg (by rw [h9]; decide)] | rw [if_pos h9]⟩)
        · skip
          refine z_casti h9 ?_
          refine z_istore (lv' := [(4, .int ((-3 : Int32))), (3, .int (nI P)), (0, .ref (base + 16)), (1, .int (nI c0)), (2, .int (nI a))]) C dX5_give_37 (by decide) rfl ?_
          refine z_iload C dX5_give_39 0 rfl ?_
          refine z_if_ge (tgt := 49) C dX5_give_41 (by decide) (fun h41 => absurd h41 (by decide)) (fun h41 => ?_)
          refine z_iload C dX5_give_44 0 rfl ?_
          refine z_goto (tgt := 55) C dX5_give_46 (by decide) ?_
          exact z_iret C hrt rfl dX5_give_55 (by decide) (by decide) (⟨by unfold r_gvA; rw [hgI]; show _ = some (Value.int (if _ then _ else _)); first | rw [if_neg (by rw [h9]; decide), h9] | rw [if_pos h9], by unfold r_gvT; rw [hgI]; show _ = hpM G base xs (if _ then _ else _) tl; first | rw [if_neg (by rw [h9]; decide)] | rw [if_pos h9]⟩)
        · skip
          refine z_casti h9 ?_
          refine z_istore (lv' := [(4, .int ((0 : Int32))), (3, .int (nI P)), (0, .ref (base + 16)), (1, .int (nI c0)), (2, .int (nI a))]) C dX5_give_37 (by decide) rfl ?_
          refine z_iload C dX5_give_39 0 rfl ?_
          refine z_if_ge (tgt := 49) C dX5_give_41 (by decide) (fun h41 => ?_) (fun h41 => absurd h41 (by decide))
          refine z_aload_n C dX5_give_49 rfl 2 rfl ?_
          refine z_iload_n C dX5_give_50 rfl 1 rfl ?_
          refine z_iload_n C dX5_give_51 rfl 4 rfl ?_
          refine z_callV (rest := []) C (m_X5_giveObject l G base xs r tl hw.1.1 hw.1.2.1 P a c0 hP hPa ha hcP (by omega) hs1 hs2 hs3 (hfull h9) hs5 (hw.2.2.2.1 P hP hPf)) ml_X5_134 kw_X5_giveObject rfl rfl rfl rfl (by simp [Value.category]) dX5_give_52 (by decide) (by decide) (by decide) (by decide) ?_
          rintro _ _ ⟨rfl, rfl⟩
          refine z_st (st' := [.int (nI (r_ob r c0 - (r.2.1 4 P + 1)))]) rfl ?_
          exact z_iret C hrt rfl dX5_give_55 (by decide) (by decide) (⟨by unfold r_gvA; rw [hgI]; show _ = some (Value.int (if _ then _ else _)); first | rw [if_neg (by rw [h9]; decide), h9] | rw [if_pos h9], by unfold r_gvT; rw [hgI]; show _ = hpM G base xs (if _ then _ else _) tl; first | rw [if_neg (by rw [h9]; decide)] | rw [if_pos h9]⟩)
      · skip
        refine z_bipush (v := -2) C dX5_give_28 (by decide) ?_
        exact z_iret C hrt rfl dX5_give_30 (by decide) (by decide) (⟨by unfold r_gvA; rw [(show r_gvI r x (nI a) = none by unfold r_gvI; rw [hsa]; show (if _ then _ else _) = _; rw [if_neg (by first | (rw [bI_ff h11]; exact fun q => Bool.noConfusion q.1) | exact fun q => h25 q.2)])], by unfold r_gvT; rw [(show r_gvI r x (nI a) = none by unfold r_gvI; rw [hsa]; show (if _ then _ else _) = _; rw [if_neg (by first | (rw [bI_ff h11]; exact fun q => Bool.noConfusion q.1) | exact fun q => h25 q.2)])]⟩)
end
