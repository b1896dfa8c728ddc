section
-- ===== PART A: goes FIRST, ahead of the names: the tables' words, and 'selects' of the private methods out of them =====
/-- a private method of a class that the tables say can be made, by its rows of tables_1 -/
def lw_okq (q : MethodName × Nat) : Prop := (q.1.cls ≠ "java/lang/invoke/MethodHandle" ∧ q.1.cls ≠ "java/lang/invoke/VarHandle") ∧ Cond.instantiable q.1.cls q.2 ∈ tables_1 ∧ Cond.privateMethod q.1 ∈ tables_1 ∧ Cond.instanceMethod q.1 ∈ tables_1
theorem lw_p0 : lw_okq (⟨"PitPact$Water", "addBasin", "(I)V"⟩, 13) := ⟨⟨by decide +kernel, by decide +kernel⟩, List.mem_of_getElem? (i := 152) (by decide +kernel), List.mem_of_getElem? (i := 383) (by decide +kernel), List.mem_of_getElem? (i := 384) (by decide +kernel)⟩
theorem lw_p1 : lw_okq (⟨"PitPact", "isPit", "(I)Z"⟩, 15) := ⟨⟨by decide +kernel, by decide +kernel⟩, List.mem_of_getElem? (i := 17) (by decide +kernel), List.mem_of_getElem? (i := 391) (by decide +kernel), List.mem_of_getElem? (i := 392) (by decide +kernel)⟩
theorem lw_p2 : lw_okq (⟨"PitPact", "menAt", "(I)I"⟩, 15) := ⟨⟨by decide +kernel, by decide +kernel⟩, List.mem_of_getElem? (i := 17) (by decide +kernel), List.mem_of_getElem? (i := 398) (by decide +kernel), List.mem_of_getElem? (i := 399) (by decide +kernel)⟩
theorem lw_p3 : lw_okq (⟨"PitPact", "isMan", "(I)Z"⟩, 15) := ⟨⟨by decide +kernel, by decide +kernel⟩, List.mem_of_getElem? (i := 17) (by decide +kernel), List.mem_of_getElem? (i := 451) (by decide +kernel), List.mem_of_getElem? (i := 452) (by decide +kernel)⟩
theorem lw_p4 : lw_okq (⟨"PitPact$Man", "quit", "(I)V"⟩, 7) := ⟨⟨by decide +kernel, by decide +kernel⟩, List.mem_of_getElem? (i := 408) (by decide +kernel), List.mem_of_getElem? (i := 459) (by decide +kernel), List.mem_of_getElem? (i := 460) (by decide +kernel)⟩
theorem lw_p5 : lw_okq (⟨"PitPact$Man", "growOlder", "(I)Z"⟩, 7) := ⟨⟨by decide +kernel, by decide +kernel⟩, List.mem_of_getElem? (i := 408) (by decide +kernel), List.mem_of_getElem? (i := 479) (by decide +kernel), List.mem_of_getElem? (i := 480) (by decide +kernel)⟩
theorem lw_p6 : lw_okq (⟨"PitPact$Text", "add", "(I)Z"⟩, 2) := ⟨⟨by decide +kernel, by decide +kernel⟩, List.mem_of_getElem? (i := 35) (by decide +kernel), List.mem_of_getElem? (i := 491) (by decide +kernel), List.mem_of_getElem? (i := 492) (by decide +kernel)⟩
theorem lw_p7 : lw_okq (⟨"PitPact$Text", "firstFault", "()I"⟩, 2) := ⟨⟨by decide +kernel, by decide +kernel⟩, List.mem_of_getElem? (i := 35) (by decide +kernel), List.mem_of_getElem? (i := 503) (by decide +kernel), List.mem_of_getElem? (i := 504) (by decide +kernel)⟩
theorem lw_p8 : lw_okq (⟨"PitPact$Text", "copyFrom", "(LPitPact$Text;)V"⟩, 2) := ⟨⟨by decide +kernel, by decide +kernel⟩, List.mem_of_getElem? (i := 35) (by decide +kernel), List.mem_of_getElem? (i := 520) (by decide +kernel), List.mem_of_getElem? (i := 521) (by decide +kernel)⟩
theorem lw_p9 : lw_okq (⟨"PitPact", "wayToWork", "(LPitPact$Man;)I"⟩, 15) := ⟨⟨by decide +kernel, by decide +kernel⟩, List.mem_of_getElem? (i := 17) (by decide +kernel), List.mem_of_getElem? (i := 532) (by decide +kernel), List.mem_of_getElem? (i := 533) (by decide +kernel)⟩
theorem lw_p10 : lw_okq (⟨"PitPact", "wayTo", "(ILPitPact$Man;)I"⟩, 15) := ⟨⟨by decide +kernel, by decide +kernel⟩, List.mem_of_getElem? (i := 17) (by decide +kernel), List.mem_of_getElem? (i := 536) (by decide +kernel), List.mem_of_getElem? (i := 537) (by decide +kernel)⟩
theorem lw_p11 : lw_okq (⟨"PitPact$Place", "farFrom", "(LPitPact$Place;)I"⟩, 2) := ⟨⟨by decide +kernel, by decide +kernel⟩, List.mem_of_getElem? (i := 262) (by decide +kernel), List.mem_of_getElem? (i := 540) (by decide +kernel), List.mem_of_getElem? (i := 541) (by decide +kernel)⟩
theorem lw_p12 : lw_okq (⟨"PitPact$Pile", "result", "(LPitPact$Text;LPitPact$Man;I)I"⟩, 2) := ⟨⟨by decide +kernel, by decide +kernel⟩, List.mem_of_getElem? (i := 53) (by decide +kernel), List.mem_of_getElem? (i := 547) (by decide +kernel), List.mem_of_getElem? (i := 548) (by decide +kernel)⟩
theorem lw_p13 : lw_okq (⟨"PitPact$Pile", "step", "(ILPitPact$Man;II)V"⟩, 2) := ⟨⟨by decide +kernel, by decide +kernel⟩, List.mem_of_getElem? (i := 53) (by decide +kernel), List.mem_of_getElem? (i := 552) (by decide +kernel), List.mem_of_getElem? (i := 553) (by decide +kernel)⟩
theorem lw_p14 : lw_okq (⟨"PitPact$Pile", "lay", "(J)V"⟩, 2) := ⟨⟨by decide +kernel, by decide +kernel⟩, List.mem_of_getElem? (i := 53) (by decide +kernel), List.mem_of_getElem? (i := 556) (by decide +kernel), List.mem_of_getElem? (i := 557) (by decide +kernel)⟩
theorem lw_p15 : lw_okq (⟨"PitPact$Pile", "take", "()I"⟩, 2) := ⟨⟨by decide +kernel, by decide +kernel⟩, List.mem_of_getElem? (i := 53) (by decide +kernel), List.mem_of_getElem? (i := 569) (by decide +kernel), List.mem_of_getElem? (i := 570) (by decide +kernel)⟩
def lw_privs_1 : List (MethodName × Nat) := [(⟨"PitPact$Water", "addBasin", "(I)V"⟩, 13), (⟨"PitPact", "isPit", "(I)Z"⟩, 15), (⟨"PitPact", "menAt", "(I)I"⟩, 15), (⟨"PitPact", "isMan", "(I)Z"⟩, 15), (⟨"PitPact$Man", "quit", "(I)V"⟩, 7), (⟨"PitPact$Man", "growOlder", "(I)Z"⟩, 7), (⟨"PitPact$Text", "add", "(I)Z"⟩, 2), (⟨"PitPact$Text", "firstFault", "()I"⟩, 2), (⟨"PitPact$Text", "copyFrom", "(LPitPact$Text;)V"⟩, 2), (⟨"PitPact", "wayToWork", "(LPitPact$Man;)I"⟩, 15), (⟨"PitPact", "wayTo", "(ILPitPact$Man;)I"⟩, 15), (⟨"PitPact$Place", "farFrom", "(LPitPact$Place;)I"⟩, 2), (⟨"PitPact$Pile", "result", "(LPitPact$Text;LPitPact$Man;I)I"⟩, 2), (⟨"PitPact$Pile", "step", "(ILPitPact$Man;II)V"⟩, 2), (⟨"PitPact$Pile", "lay", "(J)V"⟩, 2), (⟨"PitPact$Pile", "take", "()I"⟩, 2)]
theorem lw_r1 : ∀ q ∈ lw_privs_1, lw_okq q := List.forall_mem_cons.mpr ⟨lw_p0, List.forall_mem_cons.mpr ⟨lw_p1, List.forall_mem_cons.mpr ⟨lw_p2, List.forall_mem_cons.mpr ⟨lw_p3, List.forall_mem_cons.mpr ⟨lw_p4, List.forall_mem_cons.mpr ⟨lw_p5, List.forall_mem_cons.mpr ⟨lw_p6, List.forall_mem_cons.mpr ⟨lw_p7, List.forall_mem_cons.mpr ⟨lw_p8, List.forall_mem_cons.mpr ⟨lw_p9, List.forall_mem_cons.mpr ⟨lw_p10, List.forall_mem_cons.mpr ⟨lw_p11, List.forall_mem_cons.mpr ⟨lw_p12, List.forall_mem_cons.mpr ⟨lw_p13, List.forall_mem_cons.mpr ⟨lw_p14, List.forall_mem_cons.mpr ⟨lw_p15, fun _ h => absurd h List.not_mem_nil⟩⟩⟩⟩⟩⟩⟩⟩⟩⟩⟩⟩⟩⟩⟩⟩
theorem lw_p16 : lw_okq (⟨"PitPact$Pile", "join", "(I)V"⟩, 2) := ⟨⟨by decide +kernel, by decide +kernel⟩, List.mem_of_getElem? (i := 53) (by decide +kernel), List.mem_of_getElem? (i := 573) (by decide +kernel), List.mem_of_getElem? (i := 574) (by decide +kernel)⟩
theorem lw_p17 : lw_okq (⟨"PitPact", "workOutMove", "(I)Z"⟩, 15) := ⟨⟨by decide +kernel, by decide +kernel⟩, List.mem_of_getElem? (i := 17) (by decide +kernel), List.mem_of_getElem? (i := 581) (by decide +kernel), List.mem_of_getElem? (i := 582) (by decide +kernel)⟩
theorem lw_p18 : lw_okq (⟨"PitPact$Removal", "clear", "()V"⟩, 11) := ⟨⟨by decide +kernel, by decide +kernel⟩, List.mem_of_getElem? (i := 66) (by decide +kernel), List.mem_of_getElem? (i := 585) (by decide +kernel), List.mem_of_getElem? (i := 586) (by decide +kernel)⟩
theorem lw_p19 : lw_okq (⟨"PitPact$Removal", "addSlots", "(I[I)V"⟩, 11) := ⟨⟨by decide +kernel, by decide +kernel⟩, List.mem_of_getElem? (i := 66) (by decide +kernel), List.mem_of_getElem? (i := 589) (by decide +kernel), List.mem_of_getElem? (i := 590) (by decide +kernel)⟩
theorem lw_p20 : lw_okq (⟨"PitPact", "isTrue", "(ILPitPact$Man;)Z"⟩, 15) := ⟨⟨by decide +kernel, by decide +kernel⟩, List.mem_of_getElem? (i := 17) (by decide +kernel), List.mem_of_getElem? (i := 593) (by decide +kernel), List.mem_of_getElem? (i := 594) (by decide +kernel)⟩
theorem lw_p21 : lw_okq (⟨"PitPact$Removal", "addMan", "(I)Z"⟩, 11) := ⟨⟨by decide +kernel, by decide +kernel⟩, List.mem_of_getElem? (i := 66) (by decide +kernel), List.mem_of_getElem? (i := 597) (by decide +kernel), List.mem_of_getElem? (i := 598) (by decide +kernel)⟩
theorem lw_p22 : lw_okq (⟨"PitPact$Pairing", "bar", "(II)V"⟩, 8) := ⟨⟨by decide +kernel, by decide +kernel⟩, List.mem_of_getElem? (i := 72) (by decide +kernel), List.mem_of_getElem? (i := 601) (by decide +kernel), List.mem_of_getElem? (i := 602) (by decide +kernel)⟩
theorem lw_p23 : lw_okq (⟨"PitPact", "offerSlots", "(ILPitPact$Man;)V"⟩, 15) := ⟨⟨by decide +kernel, by decide +kernel⟩, List.mem_of_getElem? (i := 17) (by decide +kernel), List.mem_of_getElem? (i := 611) (by decide +kernel), List.mem_of_getElem? (i := 612) (by decide +kernel)⟩
theorem lw_p24 : lw_okq (⟨"PitPact$Removal", "offer", "(IIIZ)V"⟩, 11) := ⟨⟨by decide +kernel, by decide +kernel⟩, List.mem_of_getElem? (i := 66) (by decide +kernel), List.mem_of_getElem? (i := 615) (by decide +kernel), List.mem_of_getElem? (i := 616) (by decide +kernel)⟩
theorem lw_p25 : lw_okq (⟨"PitPact$Removal", "settle", "()V"⟩, 11) := ⟨⟨by decide +kernel, by decide +kernel⟩, List.mem_of_getElem? (i := 66) (by decide +kernel), List.mem_of_getElem? (i := 619) (by decide +kernel), List.mem_of_getElem? (i := 620) (by decide +kernel)⟩
theorem lw_p26 : lw_okq (⟨"PitPact$Pairing", "solve", "(II)V"⟩, 8) := ⟨⟨by decide +kernel, by decide +kernel⟩, List.mem_of_getElem? (i := 72) (by decide +kernel), List.mem_of_getElem? (i := 623) (by decide +kernel), List.mem_of_getElem? (i := 624) (by decide +kernel)⟩
theorem lw_p27 : lw_okq (⟨"PitPact$Pairing", "seat", "(I)V"⟩, 8) := ⟨⟨by decide +kernel, by decide +kernel⟩, List.mem_of_getElem? (i := 72) (by decide +kernel), List.mem_of_getElem? (i := 627) (by decide +kernel), List.mem_of_getElem? (i := 628) (by decide +kernel)⟩
theorem lw_p28 : lw_okq (⟨"PitPact$Pairing", "reachNext", "(I)I"⟩, 8) := ⟨⟨by decide +kernel, by decide +kernel⟩, List.mem_of_getElem? (i := 72) (by decide +kernel), List.mem_of_getElem? (i := 632) (by decide +kernel), List.mem_of_getElem? (i := 633) (by decide +kernel)⟩
theorem lw_p29 : lw_okq (⟨"PitPact$Pairing", "shiftWorths", "(J)V"⟩, 8) := ⟨⟨by decide +kernel, by decide +kernel⟩, List.mem_of_getElem? (i := 72) (by decide +kernel), List.mem_of_getElem? (i := 636) (by decide +kernel), List.mem_of_getElem? (i := 637) (by decide +kernel)⟩
theorem lw_p30 : lw_okq (⟨"PitPact$Pairing", "columnOf", "(I)I"⟩, 8) := ⟨⟨by decide +kernel, by decide +kernel⟩, List.mem_of_getElem? (i := 72) (by decide +kernel), List.mem_of_getElem? (i := 640) (by decide +kernel), List.mem_of_getElem? (i := 641) (by decide +kernel)⟩
theorem lw_p31 : lw_okq (⟨"PitPact$Removal", "newPitOf", "(I)I"⟩, 11) := ⟨⟨by decide +kernel, by decide +kernel⟩, List.mem_of_getElem? (i := 66) (by decide +kernel), List.mem_of_getElem? (i := 644) (by decide +kernel), List.mem_of_getElem? (i := 645) (by decide +kernel)⟩
def lw_privs_2 : List (MethodName × Nat) := [(⟨"PitPact$Pile", "join", "(I)V"⟩, 2), (⟨"PitPact", "workOutMove", "(I)Z"⟩, 15), (⟨"PitPact$Removal", "clear", "()V"⟩, 11), (⟨"PitPact$Removal", "addSlots", "(I[I)V"⟩, 11), (⟨"PitPact", "isTrue", "(ILPitPact$Man;)Z"⟩, 15), (⟨"PitPact$Removal", "addMan", "(I)Z"⟩, 11), (⟨"PitPact$Pairing", "bar", "(II)V"⟩, 8), (⟨"PitPact", "offerSlots", "(ILPitPact$Man;)V"⟩, 15), (⟨"PitPact$Removal", "offer", "(IIIZ)V"⟩, 11), (⟨"PitPact$Removal", "settle", "()V"⟩, 11), (⟨"PitPact$Pairing", "solve", "(II)V"⟩, 8), (⟨"PitPact$Pairing", "seat", "(I)V"⟩, 8), (⟨"PitPact$Pairing", "reachNext", "(I)I"⟩, 8), (⟨"PitPact$Pairing", "shiftWorths", "(J)V"⟩, 8), (⟨"PitPact$Pairing", "columnOf", "(I)I"⟩, 8), (⟨"PitPact$Removal", "newPitOf", "(I)I"⟩, 11)]
theorem lw_r2 : ∀ q ∈ lw_privs_2, lw_okq q := List.forall_mem_cons.mpr ⟨lw_p16, List.forall_mem_cons.mpr ⟨lw_p17, List.forall_mem_cons.mpr ⟨lw_p18, List.forall_mem_cons.mpr ⟨lw_p19, List.forall_mem_cons.mpr ⟨lw_p20, List.forall_mem_cons.mpr ⟨lw_p21, List.forall_mem_cons.mpr ⟨lw_p22, List.forall_mem_cons.mpr ⟨lw_p23, List.forall_mem_cons.mpr ⟨lw_p24, List.forall_mem_cons.mpr ⟨lw_p25, List.forall_mem_cons.mpr ⟨lw_p26, List.forall_mem_cons.mpr ⟨lw_p27, List.forall_mem_cons.mpr ⟨lw_p28, List.forall_mem_cons.mpr ⟨lw_p29, List.forall_mem_cons.mpr ⟨lw_p30, List.forall_mem_cons.mpr ⟨lw_p31, fun _ h => absurd h List.not_mem_nil⟩⟩⟩⟩⟩⟩⟩⟩⟩⟩⟩⟩⟩⟩⟩⟩
theorem lw_p32 : lw_okq (⟨"PitPact$Removal", "indexOf", "(I)I"⟩, 11) := ⟨⟨by decide +kernel, by decide +kernel⟩, List.mem_of_getElem? (i := 66) (by decide +kernel), List.mem_of_getElem? (i := 648) (by decide +kernel), List.mem_of_getElem? (i := 649) (by decide +kernel)⟩
theorem lw_p33 : lw_okq (⟨"PitPact", "carryOutMove", "(I)V"⟩, 15) := ⟨⟨by decide +kernel, by decide +kernel⟩, List.mem_of_getElem? (i := 17) (by decide +kernel), List.mem_of_getElem? (i := 656) (by decide +kernel), List.mem_of_getElem? (i := 657) (by decide +kernel)⟩
theorem lw_p34 : lw_okq (⟨"PitPact$Pit", "shut", "()V"⟩, 8) := ⟨⟨by decide +kernel, by decide +kernel⟩, List.mem_of_getElem? (i := 342) (by decide +kernel), List.mem_of_getElem? (i := 661) (by decide +kernel), List.mem_of_getElem? (i := 662) (by decide +kernel)⟩
theorem lw_p35 : lw_okq (⟨"PitPact$Water", "addWay", "(III)V"⟩, 13) := ⟨⟨by decide +kernel, by decide +kernel⟩, List.mem_of_getElem? (i := 152) (by decide +kernel), List.mem_of_getElem? (i := 677) (by decide +kernel), List.mem_of_getElem? (i := 678) (by decide +kernel)⟩
theorem lw_p36 : lw_okq (⟨"PitPact$Water", "passMonth", "()I"⟩, 13) := ⟨⟨by decide +kernel, by decide +kernel⟩, List.mem_of_getElem? (i := 152) (by decide +kernel), List.mem_of_getElem? (i := 685) (by decide +kernel), List.mem_of_getElem? (i := 686) (by decide +kernel)⟩
theorem lw_p37 : lw_okq (⟨"PitPact$Water", "runThrough", "(III)V"⟩, 13) := ⟨⟨by decide +kernel, by decide +kernel⟩, List.mem_of_getElem? (i := 152) (by decide +kernel), List.mem_of_getElem? (i := 689) (by decide +kernel), List.mem_of_getElem? (i := 690) (by decide +kernel)⟩
theorem lw_p38 : lw_okq (⟨"PitPact$Water", "drain", "(I)V"⟩, 13) := ⟨⟨by decide +kernel, by decide +kernel⟩, List.mem_of_getElem? (i := 152) (by decide +kernel), List.mem_of_getElem? (i := 696) (by decide +kernel), List.mem_of_getElem? (i := 697) (by decide +kernel)⟩
theorem lw_p39 : lw_okq (⟨"PitPact$Water", "copyFrom", "(LPitPact$Water;)V"⟩, 13) := ⟨⟨by decide +kernel, by decide +kernel⟩, List.mem_of_getElem? (i := 152) (by decide +kernel), List.mem_of_getElem? (i := 704) (by decide +kernel), List.mem_of_getElem? (i := 705) (by decide +kernel)⟩
theorem lw_p40 : lw_okq (⟨"PitPact$Plans", "prepare", "([LPitPact$Pit;I[I)V"⟩, 15) := ⟨⟨by decide +kernel, by decide +kernel⟩, List.mem_of_getElem? (i := 206) (by decide +kernel), List.mem_of_getElem? (i := 717) (by decide +kernel), List.mem_of_getElem? (i := 718) (by decide +kernel)⟩
theorem lw_p41 : lw_okq (⟨"PitPact$Plans", "fillCosts", "([ILPitPact$Pit;II)V"⟩, 15) := ⟨⟨by decide +kernel, by decide +kernel⟩, List.mem_of_getElem? (i := 206) (by decide +kernel), List.mem_of_getElem? (i := 721) (by decide +kernel), List.mem_of_getElem? (i := 722) (by decide +kernel)⟩
theorem lw_p42 : lw_okq (⟨"PitPact$Plans", "readDigits", "(I)Z"⟩, 15) := ⟨⟨by decide +kernel, by decide +kernel⟩, List.mem_of_getElem? (i := 206) (by decide +kernel), List.mem_of_getElem? (i := 726) (by decide +kernel), List.mem_of_getElem? (i := 727) (by decide +kernel)⟩
theorem lw_p43 : lw_okq (⟨"PitPact$Plans", "isKept", "()Z"⟩, 15) := ⟨⟨by decide +kernel, by decide +kernel⟩, List.mem_of_getElem? (i := 206) (by decide +kernel), List.mem_of_getElem? (i := 730) (by decide +kernel), List.mem_of_getElem? (i := 731) (by decide +kernel)⟩
theorem lw_p44 : lw_okq (⟨"PitPact$Plans", "startClosings", "()V"⟩, 15) := ⟨⟨by decide +kernel, by decide +kernel⟩, List.mem_of_getElem? (i := 206) (by decide +kernel), List.mem_of_getElem? (i := 734) (by decide +kernel), List.mem_of_getElem? (i := 735) (by decide +kernel)⟩
theorem lw_p45 : lw_okq (⟨"PitPact$Plans", "mayClose", "(II)Z"⟩, 15) := ⟨⟨by decide +kernel, by decide +kernel⟩, List.mem_of_getElem? (i := 206) (by decide +kernel), List.mem_of_getElem? (i := 738) (by decide +kernel), List.mem_of_getElem? (i := 739) (by decide +kernel)⟩
theorem lw_p46 : lw_okq (⟨"PitPact$Plans", "closesWithin", "(II)Z"⟩, 15) := ⟨⟨by decide +kernel, by decide +kernel⟩, List.mem_of_getElem? (i := 206) (by decide +kernel), List.mem_of_getElem? (i := 742) (by decide +kernel), List.mem_of_getElem? (i := 743) (by decide +kernel)⟩
theorem lw_p47 : lw_okq (⟨"PitPact$Plans", "closeFrom", "(II)V"⟩, 15) := ⟨⟨by decide +kernel, by decide +kernel⟩, List.mem_of_getElem? (i := 206) (by decide +kernel), List.mem_of_getElem? (i := 746) (by decide +kernel), List.mem_of_getElem? (i := 747) (by decide +kernel)⟩
def lw_privs_3 : List (MethodName × Nat) := [(⟨"PitPact$Removal", "indexOf", "(I)I"⟩, 11), (⟨"PitPact", "carryOutMove", "(I)V"⟩, 15), (⟨"PitPact$Pit", "shut", "()V"⟩, 8), (⟨"PitPact$Water", "addWay", "(III)V"⟩, 13), (⟨"PitPact$Water", "passMonth", "()I"⟩, 13), (⟨"PitPact$Water", "runThrough", "(III)V"⟩, 13), (⟨"PitPact$Water", "drain", "(I)V"⟩, 13), (⟨"PitPact$Water", "copyFrom", "(LPitPact$Water;)V"⟩, 13), (⟨"PitPact$Plans", "prepare", "([LPitPact$Pit;I[I)V"⟩, 15), (⟨"PitPact$Plans", "fillCosts", "([ILPitPact$Pit;II)V"⟩, 15), (⟨"PitPact$Plans", "readDigits", "(I)Z"⟩, 15), (⟨"PitPact$Plans", "isKept", "()Z"⟩, 15), (⟨"PitPact$Plans", "startClosings", "()V"⟩, 15), (⟨"PitPact$Plans", "mayClose", "(II)Z"⟩, 15), (⟨"PitPact$Plans", "closesWithin", "(II)Z"⟩, 15), (⟨"PitPact$Plans", "closeFrom", "(II)V"⟩, 15)]
theorem lw_r3 : ∀ q ∈ lw_privs_3, lw_okq q := List.forall_mem_cons.mpr ⟨lw_p32, List.forall_mem_cons.mpr ⟨lw_p33, List.forall_mem_cons.mpr ⟨lw_p34, List.forall_mem_cons.mpr ⟨lw_p35, List.forall_mem_cons.mpr ⟨lw_p36, List.forall_mem_cons.mpr ⟨lw_p37, List.forall_mem_cons.mpr ⟨lw_p38, List.forall_mem_cons.mpr ⟨lw_p39, List.forall_mem_cons.mpr ⟨lw_p40, List.forall_mem_cons.mpr ⟨lw_p41, List.forall_mem_cons.mpr ⟨lw_p42, List.forall_mem_cons.mpr ⟨lw_p43, List.forall_mem_cons.mpr ⟨lw_p44, List.forall_mem_cons.mpr ⟨lw_p45, List.forall_mem_cons.mpr ⟨lw_p46, List.forall_mem_cons.mpr ⟨lw_p47, fun _ h => absurd h List.not_mem_nil⟩⟩⟩⟩⟩⟩⟩⟩⟩⟩⟩⟩⟩⟩⟩⟩
theorem lw_p48 : lw_okq (⟨"PitPact$Plans", "worstRow", "()I"⟩, 15) := ⟨⟨by decide +kernel, by decide +kernel⟩, List.mem_of_getElem? (i := 206) (by decide +kernel), List.mem_of_getElem? (i := 750) (by decide +kernel), List.mem_of_getElem? (i := 751) (by decide +kernel)⟩
theorem lw_p49 : lw_okq (⟨"PitPact$Plans", "costByRow", "(I)I"⟩, 15) := ⟨⟨by decide +kernel, by decide +kernel⟩, List.mem_of_getElem? (i := 206) (by decide +kernel), List.mem_of_getElem? (i := 754) (by decide +kernel), List.mem_of_getElem? (i := 755) (by decide +kernel)⟩
theorem lw_p50 : lw_okq (⟨"PitPact$Plans", "findBest", "()Z"⟩, 15) := ⟨⟨by decide +kernel, by decide +kernel⟩, List.mem_of_getElem? (i := 206) (by decide +kernel), List.mem_of_getElem? (i := 763) (by decide +kernel), List.mem_of_getElem? (i := 764) (by decide +kernel)⟩
theorem lw_p51 : lw_okq (⟨"PitPact$Plans", "fillLeast", "()V"⟩, 15) := ⟨⟨by decide +kernel, by decide +kernel⟩, List.mem_of_getElem? (i := 206) (by decide +kernel), List.mem_of_getElem? (i := 768) (by decide +kernel), List.mem_of_getElem? (i := 769) (by decide +kernel)⟩
theorem lw_p52 : lw_okq (⟨"PitPact$Plans", "lastChoice", "(I)I"⟩, 15) := ⟨⟨by decide +kernel, by decide +kernel⟩, List.mem_of_getElem? (i := 206) (by decide +kernel), List.mem_of_getElem? (i := 772) (by decide +kernel), List.mem_of_getElem? (i := 773) (by decide +kernel)⟩
theorem lw_p53 : lw_okq (⟨"PitPact$Plans", "choose", "(I)V"⟩, 15) := ⟨⟨by decide +kernel, by decide +kernel⟩, List.mem_of_getElem? (i := 206) (by decide +kernel), List.mem_of_getElem? (i := 777) (by decide +kernel), List.mem_of_getElem? (i := 778) (by decide +kernel)⟩
theorem lw_p54 : lw_okq (⟨"PitPact$Plans", "keepAsBest", "()V"⟩, 15) := ⟨⟨by decide +kernel, by decide +kernel⟩, List.mem_of_getElem? (i := 206) (by decide +kernel), List.mem_of_getElem? (i := 781) (by decide +kernel), List.mem_of_getElem? (i := 782) (by decide +kernel)⟩
theorem lw_p55 : lw_okq (⟨"PitPact$Plans", "mayBeBetter", "(I)Z"⟩, 15) := ⟨⟨by decide +kernel, by decide +kernel⟩, List.mem_of_getElem? (i := 206) (by decide +kernel), List.mem_of_getElem? (i := 786) (by decide +kernel), List.mem_of_getElem? (i := 787) (by decide +kernel)⟩
theorem lw_p56 : lw_okq (⟨"PitPact$Plans", "openAgain", "(II)V"⟩, 15) := ⟨⟨by decide +kernel, by decide +kernel⟩, List.mem_of_getElem? (i := 206) (by decide +kernel), List.mem_of_getElem? (i := 790) (by decide +kernel), List.mem_of_getElem? (i := 791) (by decide +kernel)⟩
theorem lw_p57 : lw_okq (⟨"PitPact", "isHarm", "(I)Z"⟩, 15) := ⟨⟨by decide +kernel, by decide +kernel⟩, List.mem_of_getElem? (i := 17) (by decide +kernel), List.mem_of_getElem? (i := 829) (by decide +kernel), List.mem_of_getElem? (i := 830) (by decide +kernel)⟩
theorem lw_p58 : lw_okq (⟨"PitPact", "canBe", "(ILPitPact$Harm;)Z"⟩, 15) := ⟨⟨by decide +kernel, by decide +kernel⟩, List.mem_of_getElem? (i := 17) (by decide +kernel), List.mem_of_getElem? (i := 833) (by decide +kernel), List.mem_of_getElem? (i := 834) (by decide +kernel)⟩
theorem lw_p59 : lw_okq (⟨"PitPact", "partOf", "(LPitPact$Harm;I)I"⟩, 15) := ⟨⟨by decide +kernel, by decide +kernel⟩, List.mem_of_getElem? (i := 17) (by decide +kernel), List.mem_of_getElem? (i := 841) (by decide +kernel), List.mem_of_getElem? (i := 842) (by decide +kernel)⟩
theorem lw_p60 : lw_okq (⟨"PitPact", "workersOf", "(I)I"⟩, 15) := ⟨⟨by decide +kernel, by decide +kernel⟩, List.mem_of_getElem? (i := 17) (by decide +kernel), List.mem_of_getElem? (i := 852) (by decide +kernel), List.mem_of_getElem? (i := 853) (by decide +kernel)⟩
theorem lw_p61 : lw_okq (⟨"PitPact", "dwellersOf", "(I)I"⟩, 15) := ⟨⟨by decide +kernel, by decide +kernel⟩, List.mem_of_getElem? (i := 17) (by decide +kernel), List.mem_of_getElem? (i := 856) (by decide +kernel), List.mem_of_getElem? (i := 857) (by decide +kernel)⟩
theorem lw_p62 : lw_okq (⟨"PitPact", "pitsOf", "(I)I"⟩, 15) := ⟨⟨by decide +kernel, by decide +kernel⟩, List.mem_of_getElem? (i := 17) (by decide +kernel), List.mem_of_getElem? (i := 860) (by decide +kernel), List.mem_of_getElem? (i := 861) (by decide +kernel)⟩
theorem lw_p63 : lw_okq (⟨"PitPact", "menWhoAre", "(I)I"⟩, 15) := ⟨⟨by decide +kernel, by decide +kernel⟩, List.mem_of_getElem? (i := 17) (by decide +kernel), List.mem_of_getElem? (i := 878) (by decide +kernel), List.mem_of_getElem? (i := 879) (by decide +kernel)⟩
def lw_privs_4 : List (MethodName × Nat) := [(⟨"PitPact$Plans", "worstRow", "()I"⟩, 15), (⟨"PitPact$Plans", "costByRow", "(I)I"⟩, 15), (⟨"PitPact$Plans", "findBest", "()Z"⟩, 15), (⟨"PitPact$Plans", "fillLeast", "()V"⟩, 15), (⟨"PitPact$Plans", "lastChoice", "(I)I"⟩, 15), (⟨"PitPact$Plans", "choose", "(I)V"⟩, 15), (⟨"PitPact$Plans", "keepAsBest", "()V"⟩, 15), (⟨"PitPact$Plans", "mayBeBetter", "(I)Z"⟩, 15), (⟨"PitPact$Plans", "openAgain", "(II)V"⟩, 15), (⟨"PitPact", "isHarm", "(I)Z"⟩, 15), (⟨"PitPact", "canBe", "(ILPitPact$Harm;)Z"⟩, 15), (⟨"PitPact", "partOf", "(LPitPact$Harm;I)I"⟩, 15), (⟨"PitPact", "workersOf", "(I)I"⟩, 15), (⟨"PitPact", "dwellersOf", "(I)I"⟩, 15), (⟨"PitPact", "pitsOf", "(I)I"⟩, 15), (⟨"PitPact", "menWhoAre", "(I)I"⟩, 15)]
theorem lw_r4 : ∀ q ∈ lw_privs_4, lw_okq q := List.forall_mem_cons.mpr ⟨lw_p48, List.forall_mem_cons.mpr ⟨lw_p49, List.forall_mem_cons.mpr ⟨lw_p50, List.forall_mem_cons.mpr ⟨lw_p51, List.forall_mem_cons.mpr ⟨lw_p52, List.forall_mem_cons.mpr ⟨lw_p53, List.forall_mem_cons.mpr ⟨lw_p54, List.forall_mem_cons.mpr ⟨lw_p55, List.forall_mem_cons.mpr ⟨lw_p56, List.forall_mem_cons.mpr ⟨lw_p57, List.forall_mem_cons.mpr ⟨lw_p58, List.forall_mem_cons.mpr ⟨lw_p59, List.forall_mem_cons.mpr ⟨lw_p60, List.forall_mem_cons.mpr ⟨lw_p61, List.forall_mem_cons.mpr ⟨lw_p62, List.forall_mem_cons.mpr ⟨lw_p63, fun _ h => absurd h List.not_mem_nil⟩⟩⟩⟩⟩⟩⟩⟩⟩⟩⟩⟩⟩⟩⟩⟩
theorem lw_p64 : lw_okq (⟨"PitPact", "openPits", "()I"⟩, 15) := ⟨⟨by decide +kernel, by decide +kernel⟩, List.mem_of_getElem? (i := 17) (by decide +kernel), List.mem_of_getElem? (i := 882) (by decide +kernel), List.mem_of_getElem? (i := 883) (by decide +kernel)⟩
theorem lw_p65 : lw_okq (⟨"PitPactModel", "isPit", "(I)Z"⟩, 54) := ⟨⟨by decide +kernel, by decide +kernel⟩, List.mem_of_getElem? (i := 886) (by decide +kernel), List.mem_of_getElem? (i := 1081) (by decide +kernel), List.mem_of_getElem? (i := 1082) (by decide +kernel)⟩
theorem lw_p66 : lw_okq (⟨"PitPactModel", "menAt", "(I)I"⟩, 54) := ⟨⟨by decide +kernel, by decide +kernel⟩, List.mem_of_getElem? (i := 886) (by decide +kernel), List.mem_of_getElem? (i := 1085) (by decide +kernel), List.mem_of_getElem? (i := 1086) (by decide +kernel)⟩
theorem lw_p67 : lw_okq (⟨"PitPactModel", "isMan", "(I)Z"⟩, 54) := ⟨⟨by decide +kernel, by decide +kernel⟩, List.mem_of_getElem? (i := 886) (by decide +kernel), List.mem_of_getElem? (i := 1103) (by decide +kernel), List.mem_of_getElem? (i := 1104) (by decide +kernel)⟩
theorem lw_p68 : lw_okq (⟨"PitPactModel", "become", "(II)V"⟩, 54) := ⟨⟨by decide +kernel, by decide +kernel⟩, List.mem_of_getElem? (i := 886) (by decide +kernel), List.mem_of_getElem? (i := 1111) (by decide +kernel), List.mem_of_getElem? (i := 1112) (by decide +kernel)⟩
theorem lw_p69 : lw_okq (⟨"PitPactModel", "worthOf", "(II)I"⟩, 54) := ⟨⟨by decide +kernel, by decide +kernel⟩, List.mem_of_getElem? (i := 886) (by decide +kernel), List.mem_of_getElem? (i := 1172) (by decide +kernel), List.mem_of_getElem? (i := 1173) (by decide +kernel)⟩
theorem lw_p70 : lw_okq (⟨"PitPactModel", "lay", "(J)V"⟩, 54) := ⟨⟨by decide +kernel, by decide +kernel⟩, List.mem_of_getElem? (i := 886) (by decide +kernel), List.mem_of_getElem? (i := 1176) (by decide +kernel), List.mem_of_getElem? (i := 1177) (by decide +kernel)⟩
theorem lw_p71 : lw_okq (⟨"PitPactModel", "factOf", "(II)I"⟩, 54) := ⟨⟨by decide +kernel, by decide +kernel⟩, List.mem_of_getElem? (i := 886) (by decide +kernel), List.mem_of_getElem? (i := 1184) (by decide +kernel), List.mem_of_getElem? (i := 1185) (by decide +kernel)⟩
theorem lw_p72 : lw_okq (⟨"PitPactModel", "farTo", "(II)I"⟩, 54) := ⟨⟨by decide +kernel, by decide +kernel⟩, List.mem_of_getElem? (i := 886) (by decide +kernel), List.mem_of_getElem? (i := 1188) (by decide +kernel), List.mem_of_getElem? (i := 1189) (by decide +kernel)⟩
theorem lw_p73 : lw_okq (⟨"PitPactModel", "findMove", "(I)V"⟩, 54) := ⟨⟨by decide +kernel, by decide +kernel⟩, List.mem_of_getElem? (i := 886) (by decide +kernel), List.mem_of_getElem? (i := 1204) (by decide +kernel), List.mem_of_getElem? (i := 1205) (by decide +kernel)⟩
theorem lw_p74 : lw_okq (⟨"PitPactModel", "findMovers", "(I)V"⟩, 54) := ⟨⟨by decide +kernel, by decide +kernel⟩, List.mem_of_getElem? (i := 886) (by decide +kernel), List.mem_of_getElem? (i := 1208) (by decide +kernel), List.mem_of_getElem? (i := 1209) (by decide +kernel)⟩
theorem lw_p75 : lw_okq (⟨"PitPactModel", "isSo", "(II)Z"⟩, 54) := ⟨⟨by decide +kernel, by decide +kernel⟩, List.mem_of_getElem? (i := 886) (by decide +kernel), List.mem_of_getElem? (i := 1212) (by decide +kernel), List.mem_of_getElem? (i := 1213) (by decide +kernel)⟩
theorem lw_p76 : lw_okq (⟨"PitPactModel", "byslot", "(III)I"⟩, 54) := ⟨⟨by decide +kernel, by decide +kernel⟩, List.mem_of_getElem? (i := 886) (by decide +kernel), List.mem_of_getElem? (i := 1217) (by decide +kernel), List.mem_of_getElem? (i := 1218) (by decide +kernel)⟩
theorem lw_p77 : lw_okq (⟨"PitPactModel", "newPit", "(I)I"⟩, 54) := ⟨⟨by decide +kernel, by decide +kernel⟩, List.mem_of_getElem? (i := 886) (by decide +kernel), List.mem_of_getElem? (i := 1223) (by decide +kernel), List.mem_of_getElem? (i := 1224) (by decide +kernel)⟩
theorem lw_p78 : lw_okq (⟨"PitPactModel", "isMover", "(I)Z"⟩, 54) := ⟨⟨by decide +kernel, by decide +kernel⟩, List.mem_of_getElem? (i := 886) (by decide +kernel), List.mem_of_getElem? (i := 1231) (by decide +kernel), List.mem_of_getElem? (i := 1232) (by decide +kernel)⟩
theorem lw_p79 : lw_okq (⟨"PitPactModel", "monthOn", "(I)V"⟩, 54) := ⟨⟨by decide +kernel, by decide +kernel⟩, List.mem_of_getElem? (i := 886) (by decide +kernel), List.mem_of_getElem? (i := 1253) (by decide +kernel), List.mem_of_getElem? (i := 1254) (by decide +kernel)⟩
def lw_privs_5 : List (MethodName × Nat) := [(⟨"PitPact", "openPits", "()I"⟩, 15), (⟨"PitPactModel", "isPit", "(I)Z"⟩, 54), (⟨"PitPactModel", "menAt", "(I)I"⟩, 54), (⟨"PitPactModel", "isMan", "(I)Z"⟩, 54), (⟨"PitPactModel", "become", "(II)V"⟩, 54), (⟨"PitPactModel", "worthOf", "(II)I"⟩, 54), (⟨"PitPactModel", "lay", "(J)V"⟩, 54), (⟨"PitPactModel", "factOf", "(II)I"⟩, 54), (⟨"PitPactModel", "farTo", "(II)I"⟩, 54), (⟨"PitPactModel", "findMove", "(I)V"⟩, 54), (⟨"PitPactModel", "findMovers", "(I)V"⟩, 54), (⟨"PitPactModel", "isSo", "(II)Z"⟩, 54), (⟨"PitPactModel", "byslot", "(III)I"⟩, 54), (⟨"PitPactModel", "newPit", "(I)I"⟩, 54), (⟨"PitPactModel", "isMover", "(I)Z"⟩, 54), (⟨"PitPactModel", "monthOn", "(I)V"⟩, 54)]
theorem lw_r5 : ∀ q ∈ lw_privs_5, lw_okq q := List.forall_mem_cons.mpr ⟨lw_p64, List.forall_mem_cons.mpr ⟨lw_p65, List.forall_mem_cons.mpr ⟨lw_p66, List.forall_mem_cons.mpr ⟨lw_p67, List.forall_mem_cons.mpr ⟨lw_p68, List.forall_mem_cons.mpr ⟨lw_p69, List.forall_mem_cons.mpr ⟨lw_p70, List.forall_mem_cons.mpr ⟨lw_p71, List.forall_mem_cons.mpr ⟨lw_p72, List.forall_mem_cons.mpr ⟨lw_p73, List.forall_mem_cons.mpr ⟨lw_p74, List.forall_mem_cons.mpr ⟨lw_p75, List.forall_mem_cons.mpr ⟨lw_p76, List.forall_mem_cons.mpr ⟨lw_p77, List.forall_mem_cons.mpr ⟨lw_p78, List.forall_mem_cons.mpr ⟨lw_p79, fun _ h => absurd h List.not_mem_nil⟩⟩⟩⟩⟩⟩⟩⟩⟩⟩⟩⟩⟩⟩⟩⟩
theorem lw_p80 : lw_okq (⟨"PitPactModel", "run", "(III)V"⟩, 54) := ⟨⟨by decide +kernel, by decide +kernel⟩, List.mem_of_getElem? (i := 886) (by decide +kernel), List.mem_of_getElem? (i := 1257) (by decide +kernel), List.mem_of_getElem? (i := 1258) (by decide +kernel)⟩
theorem lw_p81 : lw_okq (⟨"PitPactModel", "isDrowned", "(I)Z"⟩, 54) := ⟨⟨by decide +kernel, by decide +kernel⟩, List.mem_of_getElem? (i := 886) (by decide +kernel), List.mem_of_getElem? (i := 1261) (by decide +kernel), List.mem_of_getElem? (i := 1262) (by decide +kernel)⟩
theorem lw_p82 : lw_okq (⟨"PitPactModel", "layPlan", "(I)Z"⟩, 54) := ⟨⟨by decide +kernel, by decide +kernel⟩, List.mem_of_getElem? (i := 886) (by decide +kernel), List.mem_of_getElem? (i := 1278) (by decide +kernel), List.mem_of_getElem? (i := 1279) (by decide +kernel)⟩
theorem lw_p83 : lw_okq (⟨"PitPactModel", "worst", "()I"⟩, 54) := ⟨⟨by decide +kernel, by decide +kernel⟩, List.mem_of_getElem? (i := 886) (by decide +kernel), List.mem_of_getElem? (i := 1282) (by decide +kernel), List.mem_of_getElem? (i := 1283) (by decide +kernel)⟩
theorem lw_p84 : lw_okq (⟨"PitPactModel", "costBy", "(I)I"⟩, 54) := ⟨⟨by decide +kernel, by decide +kernel⟩, List.mem_of_getElem? (i := 886) (by decide +kernel), List.mem_of_getElem? (i := 1286) (by decide +kernel), List.mem_of_getElem? (i := 1287) (by decide +kernel)⟩
theorem lw_p85 : lw_okq (⟨"PitPactModel", "isKept", "()Z"⟩, 54) := ⟨⟨by decide +kernel, by decide +kernel⟩, List.mem_of_getElem? (i := 886) (by decide +kernel), List.mem_of_getElem? (i := 1290) (by decide +kernel), List.mem_of_getElem? (i := 1291) (by decide +kernel)⟩
theorem lw_p86 : lw_okq (⟨"PitPactModel", "digitsOf", "()I"⟩, 54) := ⟨⟨by decide +kernel, by decide +kernel⟩, List.mem_of_getElem? (i := 886) (by decide +kernel), List.mem_of_getElem? (i := 1298) (by decide +kernel), List.mem_of_getElem? (i := 1299) (by decide +kernel)⟩
theorem lw_p87 : lw_okq (⟨"PitPactModel", "nextPlan", "()Z"⟩, 54) := ⟨⟨by decide +kernel, by decide +kernel⟩, List.mem_of_getElem? (i := 886) (by decide +kernel), List.mem_of_getElem? (i := 1302) (by decide +kernel), List.mem_of_getElem? (i := 1303) (by decide +kernel)⟩
theorem lw_p88 : lw_okq (⟨"PitPactModel", "isHarm", "(I)Z"⟩, 54) := ⟨⟨by decide +kernel, by decide +kernel⟩, List.mem_of_getElem? (i := 886) (by decide +kernel), List.mem_of_getElem? (i := 1323) (by decide +kernel), List.mem_of_getElem? (i := 1324) (by decide +kernel)⟩
theorem lw_p89 : lw_okq (⟨"PitPactModel", "whoseOf", "(I)I"⟩, 54) := ⟨⟨by decide +kernel, by decide +kernel⟩, List.mem_of_getElem? (i := 886) (by decide +kernel), List.mem_of_getElem? (i := 1327) (by decide +kernel), List.mem_of_getElem? (i := 1328) (by decide +kernel)⟩
theorem lw_p90 : lw_okq (⟨"PitPactModel", "canBe", "(II)Z"⟩, 54) := ⟨⟨by decide +kernel, by decide +kernel⟩, List.mem_of_getElem? (i := 886) (by decide +kernel), List.mem_of_getElem? (i := 1331) (by decide +kernel), List.mem_of_getElem? (i := 1332) (by decide +kernel)⟩
theorem lw_p91 : lw_okq (⟨"PitPactModel", "shareOf", "(III)I"⟩, 54) := ⟨⟨by decide +kernel, by decide +kernel⟩, List.mem_of_getElem? (i := 886) (by decide +kernel), List.mem_of_getElem? (i := 1339) (by decide +kernel), List.mem_of_getElem? (i := 1340) (by decide +kernel)⟩
theorem lw_p92 : lw_okq (⟨"PitPactModel", "pitsOf", "(I)I"⟩, 54) := ⟨⟨by decide +kernel, by decide +kernel⟩, List.mem_of_getElem? (i := 886) (by decide +kernel), List.mem_of_getElem? (i := 1347) (by decide +kernel), List.mem_of_getElem? (i := 1348) (by decide +kernel)⟩
def lw_privs_6 : List (MethodName × Nat) := [(⟨"PitPactModel", "run", "(III)V"⟩, 54), (⟨"PitPactModel", "isDrowned", "(I)Z"⟩, 54), (⟨"PitPactModel", "layPlan", "(I)Z"⟩, 54), (⟨"PitPactModel", "worst", "()I"⟩, 54), (⟨"PitPactModel", "costBy", "(I)I"⟩, 54), (⟨"PitPactModel", "isKept", "()Z"⟩, 54), (⟨"PitPactModel", "digitsOf", "()I"⟩, 54), (⟨"PitPactModel", "nextPlan", "()Z"⟩, 54), (⟨"PitPactModel", "isHarm", "(I)Z"⟩, 54), (⟨"PitPactModel", "whoseOf", "(I)I"⟩, 54), (⟨"PitPactModel", "canBe", "(II)Z"⟩, 54), (⟨"PitPactModel", "shareOf", "(III)I"⟩, 54), (⟨"PitPactModel", "pitsOf", "(I)I"⟩, 54)]
theorem lw_r6 : ∀ q ∈ lw_privs_6, lw_okq q := List.forall_mem_cons.mpr ⟨lw_p80, List.forall_mem_cons.mpr ⟨lw_p81, List.forall_mem_cons.mpr ⟨lw_p82, List.forall_mem_cons.mpr ⟨lw_p83, List.forall_mem_cons.mpr ⟨lw_p84, List.forall_mem_cons.mpr ⟨lw_p85, List.forall_mem_cons.mpr ⟨lw_p86, List.forall_mem_cons.mpr ⟨lw_p87, List.forall_mem_cons.mpr ⟨lw_p88, List.forall_mem_cons.mpr ⟨lw_p89, List.forall_mem_cons.mpr ⟨lw_p90, List.forall_mem_cons.mpr ⟨lw_p91, List.forall_mem_cons.mpr ⟨lw_p92, fun _ h => absurd h List.not_mem_nil⟩⟩⟩⟩⟩⟩⟩⟩⟩⟩⟩⟩⟩
def lw_privs : List (MethodName × Nat) := lw_privs_1 ++ (lw_privs_2 ++ (lw_privs_3 ++ (lw_privs_4 ++ (lw_privs_5 ++ (lw_privs_6)))))
def lw_tbl : List Cond := k2_sels lw_privs ++ tables_1
theorem lw_privs_ok : ∀ q ∈ lw_privs, lw_okq q := by
  show ∀ q ∈ lw_privs_1 ++ (lw_privs_2 ++ (lw_privs_3 ++ (lw_privs_4 ++ (lw_privs_5 ++ (lw_privs_6))))), lw_okq q
  exact List.forall_mem_append.mpr ⟨lw_r1, List.forall_mem_append.mpr ⟨lw_r2, List.forall_mem_append.mpr ⟨lw_r3, List.forall_mem_append.mpr ⟨lw_r4, List.forall_mem_append.mpr ⟨lw_r5, lw_r6⟩⟩⟩⟩⟩
end
section
def RX0 : String := "PitPact$Harm"
def TX0 : u_T := fun k => match k with
  | 0 => ("PitPact$Harm", "place", "LPitPact$Place;", true)
  | 1 => ("PitPact$Harm", "happened", "I", true)
  | _ => ("PitPact$Harm", "sum", "I", true)
def tyX0 : Nat → FieldType := fun k => match k with
  | 0 => .object "PitPact$Place"
  | 1 => .int
  | _ => .int
abbrev wsX00 : List Cond := u_ws RX0 TX0 3
theorem nmX0 : ∀ a, a < 3 → ∀ b, b < 3 → a ≠ b → (TX0 a).2.1 ≠ (TX0 b).2.1 := by decide +kernel
theorem tyX0_ok : ∀ k, k < 3 → parseFieldDescriptor (TX0 k).2.2.1 = some (tyX0 k) := by decide +kernel
abbrev cX0_init : ByteArray := prog_2_method_1_code
def yX0_init : MethodName := ⟨RX0, "<init>", "(LPitPact$Place;II)V"⟩
def RX1 : String := "PitPact$Man"
def TX1 : u_T := fun k => match k with
  | 0 => ("PitPact$Man", "age", "I", false)
  | 1 => ("PitPact$Man", "trade", "I", true)
  | 2 => ("PitPact$Man", "years", "I", false)
  | 3 => ("PitPact$Man", "town", "I", true)
  | 4 => ("PitPact$Man", "pit", "I", false)
  | 5 => ("PitPact$Man", "kin", "Z", true)
  | _ => ("PitPact$Man", "standing", "I", false)
def tyX1 : Nat → FieldType := fun k => match k with
  | 0 => .int
  | 1 => .int
  | 2 => .int
  | 3 => .int
  | 4 => .int
  | 5 => .boolean
  | _ => .int
abbrev wsX10 : List Cond := u_ws RX1 TX1 7
theorem nmX1 : ∀ a, a < 7 → ∀ b, b < 7 → a ≠ b → (TX1 a).2.1 ≠ (TX1 b).2.1 := by decide +kernel
theorem tyX1_ok : ∀ k, k < 7 → parseFieldDescriptor (TX1 k).2.2.1 = some (tyX1 k) := by decide +kernel
abbrev cX1_init : ByteArray := prog_3_method_1_code
def yX1_init : MethodName := ⟨RX1, "<init>", "(IIIIIZ)V"⟩
abbrev cX1_quit : ByteArray := prog_3_method_2_code
def yX1_quit : MethodName := ⟨RX1, "quit", "(I)V"⟩
abbrev cX1_growOlder : ByteArray := prog_3_method_3_code
def yX1_growOlder : MethodName := ⟨RX1, "growOlder", "(I)Z"⟩
def RX2 : String := "PitPact$Pairing"
def TX2 : u_T := fun k => match k with
  | 0 => ("PitPact$Pairing", "cost", "[[J", true)
  | 1 => ("PitPact$Pairing", "rowWorth", "[J", true)
  | 2 => ("PitPact$Pairing", "columnWorth", "[J", true)
  | 3 => ("PitPact$Pairing", "slack", "[J", true)
  | 4 => ("PitPact$Pairing", "rowOf", "[I", true)
  | 5 => ("PitPact$Pairing", "cameFrom", "[I", true)
  | 6 => ("PitPact$Pairing", "reached", "[Z", true)
  | _ => ("PitPact$Pairing", "columns", "I", false)
def tyX2 : Nat → FieldType := fun k => match k with
  | 0 => .array (.array .long)
  | 1 => .array .long
  | 2 => .array .long
  | 3 => .array .long
  | 4 => .array .int
  | 5 => .array .int
  | 6 => .array .boolean
  | _ => .int
abbrev wsX20 : List Cond := u_ws RX2 TX2 8
theorem nmX2 : ∀ a, a < 8 → ∀ b, b < 8 → a ≠ b → (TX2 a).2.1 ≠ (TX2 b).2.1 := by decide +kernel
theorem tyX2_ok : ∀ k, k < 8 → parseFieldDescriptor (TX2 k).2.2.1 = some (tyX2 k) := by decide +kernel
abbrev cX2_init : ByteArray := prog_4_method_1_code
def yX2_init : MethodName := ⟨RX2, "<init>", "()V"⟩
abbrev cX2_bar : ByteArray := prog_4_method_2_code
def yX2_bar : MethodName := ⟨RX2, "bar", "(II)V"⟩
abbrev cX2_solve : ByteArray := prog_4_method_3_code
def yX2_solve : MethodName := ⟨RX2, "solve", "(II)V"⟩
abbrev cX2_seat : ByteArray := prog_4_method_4_code
def yX2_seat : MethodName := ⟨RX2, "seat", "(I)V"⟩
abbrev cX2_reachNext : ByteArray := prog_4_method_5_code
def yX2_reachNext : MethodName := ⟨RX2, "reachNext", "(I)I"⟩
abbrev cX2_shiftWorths : ByteArray := prog_4_method_6_code
def yX2_shiftWorths : MethodName := ⟨RX2, "shiftWorths", "(J)V"⟩
abbrev cX2_columnOf : ByteArray := prog_4_method_7_code
def yX2_columnOf : MethodName := ⟨RX2, "columnOf", "(I)I"⟩
def RX3 : String := "PitPact$Pile"
def TX3 : u_T := fun k => match k with
  | 0 => ("PitPact$Pile", "cells", "[I", true)
  | _ => ("PitPact$Pile", "height", "I", false)
def tyX3 : Nat → FieldType := fun k => match k with
  | 0 => .array .int
  | _ => .int
abbrev wsX30 : List Cond := u_ws RX3 TX3 2
theorem nmX3 : ∀ a, a < 2 → ∀ b, b < 2 → a ≠ b → (TX3 a).2.1 ≠ (TX3 b).2.1 := by decide +kernel
theorem tyX3_ok : ∀ k, k < 2 → parseFieldDescriptor (TX3 k).2.2.1 = some (tyX3 k) := by decide +kernel
abbrev cX3_init : ByteArray := prog_5_method_1_code
def yX3_init : MethodName := ⟨RX3, "<init>", "()V"⟩
abbrev cX3_result : ByteArray := prog_5_method_2_code
def yX3_result : MethodName := ⟨RX3, "result", "(LPitPact$Text;LPitPact$Man;I)I"⟩
abbrev cX3_step : ByteArray := prog_5_method_3_code
def yX3_step : MethodName := ⟨RX3, "step", "(ILPitPact$Man;II)V"⟩
abbrev cX3_join : ByteArray := prog_5_method_4_code
def yX3_join : MethodName := ⟨RX3, "join", "(I)V"⟩
abbrev cX3_lay : ByteArray := prog_5_method_5_code
def yX3_lay : MethodName := ⟨RX3, "lay", "(J)V"⟩
abbrev cX3_take : ByteArray := prog_5_method_6_code
def yX3_take : MethodName := ⟨RX3, "take", "()I"⟩
def RX4 : String := "PitPact$Pit"
def TX4 : u_T := fun k => match k with
  | 0 => ("PitPact$Pit", "place", "LPitPact$Place;", true)
  | 1 => ("PitPact$Pit", "tons", "I", true)
  | 2 => ("PitPact$Pit", "cost", "I", true)
  | 3 => ("PitPact$Pit", "depth", "I", true)
  | 4 => ("PitPact$Pit", "posts", "[I", true)
  | 5 => ("PitPact$Pit", "open", "Z", false)
  | 6 => ("PitPact$Pit", "workedFrom", "I", false)
  | _ => ("PitPact$Pit", "workedTill", "I", false)
def tyX4 : Nat → FieldType := fun k => match k with
  | 0 => .object "PitPact$Place"
  | 1 => .int
  | 2 => .int
  | 3 => .int
  | 4 => .array .int
  | 5 => .boolean
  | 6 => .int
  | _ => .int
abbrev wsX40 : List Cond := u_ws RX4 TX4 8
theorem nmX4 : ∀ a, a < 8 → ∀ b, b < 8 → a ≠ b → (TX4 a).2.1 ≠ (TX4 b).2.1 := by decide +kernel
theorem tyX4_ok : ∀ k, k < 8 → parseFieldDescriptor (TX4 k).2.2.1 = some (tyX4 k) := by decide +kernel
abbrev cX4_init : ByteArray := prog_6_method_1_code
def yX4_init : MethodName := ⟨RX4, "<init>", "(LPitPact$Place;III)V"⟩
abbrev cX4_shut : ByteArray := prog_6_method_2_code
def yX4_shut : MethodName := ⟨RX4, "shut", "()V"⟩
def RX5 : String := "PitPact$Place"
def TX5 : u_T := fun k => match k with
  | 0 => ("PitPact$Place", "x", "I", false)
  | _ => ("PitPact$Place", "y", "I", false)
def tyX5 : Nat → FieldType := fun k => match k with
  | 0 => .int
  | _ => .int
abbrev wsX50 : List Cond := u_ws RX5 TX5 2
theorem nmX5 : ∀ a, a < 2 → ∀ b, b < 2 → a ≠ b → (TX5 a).2.1 ≠ (TX5 b).2.1 := by decide +kernel
theorem tyX5_ok : ∀ k, k < 2 → parseFieldDescriptor (TX5 k).2.2.1 = some (tyX5 k) := by decide +kernel
abbrev cX5_init : ByteArray := prog_7_method_1_code
def yX5_init : MethodName := ⟨RX5, "<init>", "(II)V"⟩
abbrev cX5_farFrom : ByteArray := prog_7_method_2_code
def yX5_farFrom : MethodName := ⟨RX5, "farFrom", "(LPitPact$Place;)I"⟩
def RX6 : String := "PitPact$Plans"
def TX6 : u_T := fun k => match k with
  | 0 => ("PitPact$Plans", "prices", "[[I", true)
  | 1 => ("PitPact$Plans", "tons", "[I", true)
  | 2 => ("PitPact$Plans", "open", "[Z", true)
  | 3 => ("PitPact$Plans", "costs", "[[I", true)
  | 4 => ("PitPact$Plans", "leastFrom", "[[I", true)
  | 5 => ("PitPact$Plans", "paidAhead", "[[I", true)
  | 6 => ("PitPact$Plans", "years", "[I", true)
  | 7 => ("PitPact$Plans", "closings", "[I", true)
  | 8 => ("PitPact$Plans", "count", "I", false)
  | 9 => ("PitPact$Plans", "span", "I", false)
  | 10 => ("PitPact$Plans", "owed", "I", false)
  | 11 => ("PitPact$Plans", "atOnce", "I", false)
  | 12 => ("PitPact$Plans", "wonAtLast", "I", false)
  | 13 => ("PitPact$Plans", "bestWorst", "I", false)
  | _ => ("PitPact$Plans", "bestDigits", "I", false)
def tyX6 : Nat → FieldType := fun k => match k with
  | 0 => .array (.array .int)
  | 1 => .array .int
  | 2 => .array .boolean
  | 3 => .array (.array .int)
  | 4 => .array (.array .int)
  | 5 => .array (.array .int)
  | 6 => .array .int
  | 7 => .array .int
  | 8 => .int
  | 9 => .int
  | 10 => .int
  | 11 => .int
  | 12 => .int
  | 13 => .int
  | _ => .int
abbrev wsX60 : List Cond := u_ws RX6 TX6 15
theorem nmX6 : ∀ a, a < 15 → ∀ b, b < 15 → a ≠ b → (TX6 a).2.1 ≠ (TX6 b).2.1 := by decide +kernel
theorem tyX6_ok : ∀ k, k < 15 → parseFieldDescriptor (TX6 k).2.2.1 = some (tyX6 k) := by decide +kernel
abbrev cX6_init : ByteArray := prog_8_method_1_code
def yX6_init : MethodName := ⟨RX6, "<init>", "()V"⟩
abbrev cX6_prepare : ByteArray := prog_8_method_2_code
def yX6_prepare : MethodName := ⟨RX6, "prepare", "([LPitPact$Pit;I[I)V"⟩
abbrev cX6_fillCosts : ByteArray := prog_8_method_3_code
def yX6_fillCosts : MethodName := ⟨RX6, "fillCosts", "([ILPitPact$Pit;II)V"⟩
abbrev cX6_readDigits : ByteArray := prog_8_method_4_code
def yX6_readDigits : MethodName := ⟨RX6, "readDigits", "(I)Z"⟩
abbrev cX6_isKept : ByteArray := prog_8_method_5_code
def yX6_isKept : MethodName := ⟨RX6, "isKept", "()Z"⟩
abbrev cX6_costByRow : ByteArray := prog_8_method_6_code
def yX6_costByRow : MethodName := ⟨RX6, "costByRow", "(I)I"⟩
abbrev cX6_worstRow : ByteArray := prog_8_method_7_code
def yX6_worstRow : MethodName := ⟨RX6, "worstRow", "()I"⟩
abbrev cX6_startClosings : ByteArray := prog_8_method_8_code
def yX6_startClosings : MethodName := ⟨RX6, "startClosings", "()V"⟩
abbrev cX6_closesWithin : ByteArray := prog_8_method_9_code
def yX6_closesWithin : MethodName := ⟨RX6, "closesWithin", "(II)Z"⟩
abbrev cX6_mayClose : ByteArray := prog_8_method_10_code
def yX6_mayClose : MethodName := ⟨RX6, "mayClose", "(II)Z"⟩
abbrev cX6_closeFrom : ByteArray := prog_8_method_11_code
def yX6_closeFrom : MethodName := ⟨RX6, "closeFrom", "(II)V"⟩
abbrev cX6_openAgain : ByteArray := prog_8_method_12_code
def yX6_openAgain : MethodName := ⟨RX6, "openAgain", "(II)V"⟩
abbrev cX6_findBest : ByteArray := prog_8_method_13_code
def yX6_findBest : MethodName := ⟨RX6, "findBest", "()Z"⟩
abbrev cX6_fillLeast : ByteArray := prog_8_method_14_code
def yX6_fillLeast : MethodName := ⟨RX6, "fillLeast", "()V"⟩
abbrev cX6_lastChoice : ByteArray := prog_8_method_15_code
def yX6_lastChoice : MethodName := ⟨RX6, "lastChoice", "(I)I"⟩
abbrev cX6_choose : ByteArray := prog_8_method_16_code
def yX6_choose : MethodName := ⟨RX6, "choose", "(I)V"⟩
abbrev cX6_mayBeBetter : ByteArray := prog_8_method_17_code
def yX6_mayBeBetter : MethodName := ⟨RX6, "mayBeBetter", "(I)Z"⟩
abbrev cX6_keepAsBest : ByteArray := prog_8_method_18_code
def yX6_keepAsBest : MethodName := ⟨RX6, "keepAsBest", "()V"⟩
def RX7 : String := "PitPact$Removal"
def TX7 : u_T := fun k => match k with
  | 0 => ("PitPact$Removal", "slotPit", "[I", true)
  | 1 => ("PitPact$Removal", "slotTrade", "[I", true)
  | 2 => ("PitPact$Removal", "slots", "I", false)
  | 3 => ("PitPact$Removal", "mover", "[I", true)
  | 4 => ("PitPact$Removal", "movers", "I", false)
  | 5 => ("PitPact$Removal", "slotOf", "[I", true)
  | 6 => ("PitPact$Removal", "pairing", "LPitPact$Pairing;", true)
  | 7 => ("PitPact$Removal", "bridged", "I", false)
  | 8 => ("PitPact$Removal", "left", "I", false)
  | 9 => ("PitPact$Removal", "far", "I", false)
  | _ => ("PitPact$Removal", "sum", "I", false)
def tyX7 : Nat → FieldType := fun k => match k with
  | 0 => .array .int
  | 1 => .array .int
  | 2 => .int
  | 3 => .array .int
  | 4 => .int
  | 5 => .array .int
  | 6 => .object "PitPact$Pairing"
  | 7 => .int
  | 8 => .int
  | 9 => .int
  | _ => .int
abbrev wsX70 : List Cond := u_ws RX7 TX7 11
theorem nmX7 : ∀ a, a < 11 → ∀ b, b < 11 → a ≠ b → (TX7 a).2.1 ≠ (TX7 b).2.1 := by decide +kernel
theorem tyX7_ok : ∀ k, k < 11 → parseFieldDescriptor (TX7 k).2.2.1 = some (tyX7 k) := by decide +kernel
abbrev cX7_init : ByteArray := prog_9_method_1_code
def yX7_init : MethodName := ⟨RX7, "<init>", "()V"⟩
abbrev cX7_clear : ByteArray := prog_9_method_2_code
def yX7_clear : MethodName := ⟨RX7, "clear", "()V"⟩
abbrev cX7_addSlots : ByteArray := prog_9_method_3_code
def yX7_addSlots : MethodName := ⟨RX7, "addSlots", "(I[I)V"⟩
abbrev cX7_addMan : ByteArray := prog_9_method_4_code
def yX7_addMan : MethodName := ⟨RX7, "addMan", "(I)Z"⟩
abbrev cX7_offer : ByteArray := prog_9_method_5_code
def yX7_offer : MethodName := ⟨RX7, "offer", "(IIIZ)V"⟩
abbrev cX7_weigh : ByteArray := prog_9_method_6_code
def yX7_weigh : MethodName := ⟨RX7, "weigh", "(III)J"⟩
abbrev cX7_settle : ByteArray := prog_9_method_7_code
def yX7_settle : MethodName := ⟨RX7, "settle", "()V"⟩
abbrev cX7_indexOf : ByteArray := prog_9_method_8_code
def yX7_indexOf : MethodName := ⟨RX7, "indexOf", "(I)I"⟩
abbrev cX7_newPitOf : ByteArray := prog_9_method_9_code
def yX7_newPitOf : MethodName := ⟨RX7, "newPitOf", "(I)I"⟩
def RX8 : String := "PitPact$Text"
def TX8 : u_T := fun k => match k with
  | 0 => ("PitPact$Text", "signs", "[I", true)
  | _ => ("PitPact$Text", "count", "I", false)
def tyX8 : Nat → FieldType := fun k => match k with
  | 0 => .array .int
  | _ => .int
abbrev wsX80 : List Cond := u_ws RX8 TX8 2
theorem nmX8 : ∀ a, a < 2 → ∀ b, b < 2 → a ≠ b → (TX8 a).2.1 ≠ (TX8 b).2.1 := by decide +kernel
theorem tyX8_ok : ∀ k, k < 2 → parseFieldDescriptor (TX8 k).2.2.1 = some (tyX8 k) := by decide +kernel
abbrev cX8_init : ByteArray := prog_10_method_1_code
def yX8_init : MethodName := ⟨RX8, "<init>", "()V"⟩
abbrev cX8_add : ByteArray := prog_10_method_2_code
def yX8_add : MethodName := ⟨RX8, "add", "(I)Z"⟩
abbrev cX8_copyFrom : ByteArray := prog_10_method_3_code
def yX8_copyFrom : MethodName := ⟨RX8, "copyFrom", "(LPitPact$Text;)V"⟩
abbrev cX8_firstFault : ByteArray := prog_10_method_4_code
def yX8_firstFault : MethodName := ⟨RX8, "firstFault", "()I"⟩
abbrev cX8_isDigit : ByteArray := prog_10_method_5_code
def yX8_isDigit : MethodName := ⟨RX8, "isDigit", "(I)Z"⟩
abbrev cX8_heightBehind : ByteArray := prog_10_method_6_code
def yX8_heightBehind : MethodName := ⟨RX8, "heightBehind", "(II)I"⟩
def RX9 : String := "PitPact$Water"
def TX9 : u_T := fun k => match k with
  | 0 => ("PitPact$Water", "depth", "[I", true)
  | 1 => ("PitPact$Water", "inflows", "[I", true)
  | 2 => ("PitPact$Water", "level", "[I", true)
  | 3 => ("PitPact$Water", "pumps", "[Z", true)
  | 4 => ("PitPact$Water", "drowned", "[I", true)
  | 5 => ("PitPact$Water", "basins", "I", false)
  | 6 => ("PitPact$Water", "wayA", "[I", true)
  | 7 => ("PitPact$Water", "wayB", "[I", true)
  | 8 => ("PitPact$Water", "wayHeight", "[I", true)
  | 9 => ("PitPact$Water", "ways", "I", false)
  | 10 => ("PitPact$Water", "monthsGone", "I", false)
  | 11 => ("PitPact$Water", "pumped", "I", false)
  | _ => ("PitPact$Water", "spilt", "I", false)
def tyX9 : Nat → FieldType := fun k => match k with
  | 0 => .array .int
  | 1 => .array .int
  | 2 => .array .int
  | 3 => .array .boolean
  | 4 => .array .int
  | 5 => .int
  | 6 => .array .int
  | 7 => .array .int
  | 8 => .array .int
  | 9 => .int
  | 10 => .int
  | 11 => .int
  | _ => .int
abbrev wsX90 : List Cond := u_ws RX9 TX9 13
theorem nmX9 : ∀ a, a < 13 → ∀ b, b < 13 → a ≠ b → (TX9 a).2.1 ≠ (TX9 b).2.1 := by decide +kernel
theorem tyX9_ok : ∀ k, k < 13 → parseFieldDescriptor (TX9 k).2.2.1 = some (tyX9 k) := by decide +kernel
abbrev cX9_init : ByteArray := prog_11_method_1_code
def yX9_init : MethodName := ⟨RX9, "<init>", "()V"⟩
abbrev cX9_addBasin : ByteArray := prog_11_method_2_code
def yX9_addBasin : MethodName := ⟨RX9, "addBasin", "(I)V"⟩
abbrev cX9_addWay : ByteArray := prog_11_method_3_code
def yX9_addWay : MethodName := ⟨RX9, "addWay", "(III)V"⟩
abbrev cX9_copyFrom : ByteArray := prog_11_method_4_code
def yX9_copyFrom : MethodName := ⟨RX9, "copyFrom", "(LPitPact$Water;)V"⟩
abbrev cX9_passMonth : ByteArray := prog_11_method_5_code
def yX9_passMonth : MethodName := ⟨RX9, "passMonth", "()I"⟩
abbrev cX9_runThrough : ByteArray := prog_11_method_6_code
def yX9_runThrough : MethodName := ⟨RX9, "runThrough", "(III)V"⟩
abbrev cX9_drain : ByteArray := prog_11_method_7_code
def yX9_drain : MethodName := ⟨RX9, "drain", "(I)V"⟩
def RX10 : String := "PitPact"
def TX10 : u_T := fun k => match k with
  | 0 => ("PitPact", "towns", "[LPitPact$Place;", true)
  | 1 => ("PitPact", "pits", "[LPitPact$Pit;", true)
  | 2 => ("PitPact", "men", "[LPitPact$Man;", true)
  | 3 => ("PitPact", "harms", "[LPitPact$Harm;", true)
  | 4 => ("PitPact", "settings", "[I", true)
  | 5 => ("PitPact", "signs", "LPitPact$Text;", true)
  | 6 => ("PitPact", "rules", "[LPitPact$Text;", true)
  | 7 => ("PitPact", "pile", "LPitPact$Pile;", true)
  | 8 => ("PitPact", "removal", "LPitPact$Removal;", true)
  | 9 => ("PitPact", "water", "LPitPact$Water;", true)
  | 10 => ("PitPact", "trial", "LPitPact$Water;", true)
  | 11 => ("PitPact", "plans", "LPitPact$Plans;", true)
  | 12 => ("PitPact", "pitCount", "I", false)
  | 13 => ("PitPact", "manCount", "I", false)
  | _ => ("PitPact", "harmCount", "I", false)
def tyX10 : Nat → FieldType := fun k => match k with
  | 0 => .array (.object "PitPact$Place")
  | 1 => .array (.object "PitPact$Pit")
  | 2 => .array (.object "PitPact$Man")
  | 3 => .array (.object "PitPact$Harm")
  | 4 => .array .int
  | 5 => .object "PitPact$Text"
  | 6 => .array (.object "PitPact$Text")
  | 7 => .object "PitPact$Pile"
  | 8 => .object "PitPact$Removal"
  | 9 => .object "PitPact$Water"
  | 10 => .object "PitPact$Water"
  | 11 => .object "PitPact$Plans"
  | 12 => .int
  | 13 => .int
  | _ => .int
abbrev wsX100 : List Cond := u_ws RX10 TX10 15
theorem nmX10 : ∀ a, a < 15 → ∀ b, b < 15 → a ≠ b → (TX10 a).2.1 ≠ (TX10 b).2.1 := by decide +kernel
theorem tyX10_ok : ∀ k, k < 15 → parseFieldDescriptor (TX10 k).2.2.1 = some (tyX10 k) := by decide +kernel
abbrev cX10_init : ByteArray := prog_1_method_1_code
def yX10_init : MethodName := ⟨RX10, "<init>", "()V"⟩
abbrev cX10_town : ByteArray := prog_1_method_2_code
def yX10_town : MethodName := ⟨RX10, "town", "(III)I"⟩
abbrev cX10_pit : ByteArray := prog_1_method_3_code
def yX10_pit : MethodName := ⟨RX10, "pit", "(IIIII)I"⟩
abbrev cX10_about : ByteArray := prog_1_method_4_code
def yX10_about : MethodName := ⟨RX10, "about", "(II)I"⟩
abbrev cX10_man : ByteArray := prog_1_method_5_code
def yX10_man : MethodName := ⟨RX10, "man", "(IIIIIZ)I"⟩
abbrev cX10_ofMan : ByteArray := prog_1_method_6_code
def yX10_ofMan : MethodName := ⟨RX10, "ofMan", "(II)I"⟩
abbrev cX10_leave : ByteArray := prog_1_method_7_code
def yX10_leave : MethodName := ⟨RX10, "leave", "(I)I"⟩
abbrev cX10_posts : ByteArray := prog_1_method_8_code
def yX10_posts : MethodName := ⟨RX10, "posts", "(III)I"⟩
abbrev cX10_set : ByteArray := prog_1_method_9_code
def yX10_set : MethodName := ⟨RX10, "set", "(II)I"⟩
abbrev cX10_year : ByteArray := prog_1_method_10_code
def yX10_year : MethodName := ⟨RX10, "year", "()I"⟩
abbrev cX10_say : ByteArray := prog_1_method_11_code
def yX10_say : MethodName := ⟨RX10, "say", "(I)I"⟩
abbrev cX10_wipe : ByteArray := prog_1_method_12_code
def yX10_wipe : MethodName := ⟨RX10, "wipe", "()I"⟩
abbrev cX10_fault : ByteArray := prog_1_method_13_code
def yX10_fault : MethodName := ⟨RX10, "fault", "()I"⟩
abbrev cX10_rule : ByteArray := prog_1_method_14_code
def yX10_rule : MethodName := ⟨RX10, "rule", "(I)I"⟩
abbrev cX10_worth : ByteArray := prog_1_method_15_code
def yX10_worth : MethodName := ⟨RX10, "worth", "(II)I"⟩
abbrev cX10_move : ByteArray := prog_1_method_16_code
def yX10_move : MethodName := ⟨RX10, "move", "(II)I"⟩
abbrev cX10_close : ByteArray := prog_1_method_17_code
def yX10_close : MethodName := ⟨RX10, "close", "(I)I"⟩
abbrev cX10_inflow : ByteArray := prog_1_method_18_code
def yX10_inflow : MethodName := ⟨RX10, "inflow", "(II)I"⟩
abbrev cX10_pump : ByteArray := prog_1_method_19_code
def yX10_pump : MethodName := ⟨RX10, "pump", "(IZ)I"⟩
abbrev cX10_way : ByteArray := prog_1_method_20_code
def yX10_way : MethodName := ⟨RX10, "way", "(III)I"⟩
abbrev cX10_months : ByteArray := prog_1_method_21_code
def yX10_months : MethodName := ⟨RX10, "months", "(I)I"⟩
abbrev cX10_threat : ByteArray := prog_1_method_22_code
def yX10_threat : MethodName := ⟨RX10, "threat", "(II)I"⟩
abbrev cX10_price : ByteArray := prog_1_method_23_code
def yX10_price : MethodName := ⟨RX10, "price", "(III)I"⟩
abbrev cX10_plan : ByteArray := prog_1_method_24_code
def yX10_plan : MethodName := ⟨RX10, "plan", "(II)I"⟩
abbrev cX10_best : ByteArray := prog_1_method_25_code
def yX10_best : MethodName := ⟨RX10, "best", "(I)I"⟩
abbrev cX10_vote : ByteArray := prog_1_method_26_code
def yX10_vote : MethodName := ⟨RX10, "vote", "(II)I"⟩
abbrev cX10_worked : ByteArray := prog_1_method_27_code
def yX10_worked : MethodName := ⟨RX10, "worked", "(III)I"⟩
abbrev cX10_harm : ByteArray := prog_1_method_28_code
def yX10_harm : MethodName := ⟨RX10, "harm", "(IIII)I"⟩
abbrev cX10_whose : ByteArray := prog_1_method_29_code
def yX10_whose : MethodName := ⟨RX10, "whose", "(I)I"⟩
abbrev cX10_part : ByteArray := prog_1_method_30_code
def yX10_part : MethodName := ⟨RX10, "part", "(II)I"⟩
abbrev cX10_work : ByteArray := prog_1_method_31_code
def yX10_work : MethodName := ⟨RX10, "work", "(II)I"⟩
abbrev cX10_lone : ByteArray := prog_1_method_32_code
def yX10_lone : MethodName := ⟨RX10, "lone", "()I"⟩
abbrev cX10_told : ByteArray := prog_1_method_33_code
def yX10_told : MethodName := ⟨RX10, "told", "(I)I"⟩
abbrev cX10_isWithin : ByteArray := prog_1_method_34_code
def yX10_isWithin : MethodName := ⟨RX10, "isWithin", "(III)Z"⟩
abbrev cX10_isPlace : ByteArray := prog_1_method_35_code
def yX10_isPlace : MethodName := ⟨RX10, "isPlace", "(II)Z"⟩
abbrev cX10_isTown : ByteArray := prog_1_method_36_code
def yX10_isTown : MethodName := ⟨RX10, "isTown", "(I)Z"⟩
abbrev cX10_isTrade : ByteArray := prog_1_method_37_code
def yX10_isTrade : MethodName := ⟨RX10, "isTrade", "(I)Z"⟩
abbrev cX10_isRule : ByteArray := prog_1_method_38_code
def yX10_isRule : MethodName := ⟨RX10, "isRule", "(I)Z"⟩
abbrev cX10_isPit : ByteArray := prog_1_method_39_code
def yX10_isPit : MethodName := ⟨RX10, "isPit", "(I)Z"⟩
abbrev cX10_isMan : ByteArray := prog_1_method_40_code
def yX10_isMan : MethodName := ⟨RX10, "isMan", "(I)Z"⟩
abbrev cX10_isHarm : ByteArray := prog_1_method_41_code
def yX10_isHarm : MethodName := ⟨RX10, "isHarm", "(I)Z"⟩
abbrev cX10_asOne : ByteArray := prog_1_method_42_code
def yX10_asOne : MethodName := ⟨RX10, "asOne", "(Z)I"⟩
abbrev cX10_menAt : ByteArray := prog_1_method_43_code
def yX10_menAt : MethodName := ⟨RX10, "menAt", "(I)I"⟩
abbrev cX10_menWhoAre : ByteArray := prog_1_method_44_code
def yX10_menWhoAre : MethodName := ⟨RX10, "menWhoAre", "(I)I"⟩
abbrev cX10_openPits : ByteArray := prog_1_method_45_code
def yX10_openPits : MethodName := ⟨RX10, "openPits", "()I"⟩
abbrev cX10_workersOf : ByteArray := prog_1_method_46_code
def yX10_workersOf : MethodName := ⟨RX10, "workersOf", "(I)I"⟩
abbrev cX10_dwellersOf : ByteArray := prog_1_method_47_code
def yX10_dwellersOf : MethodName := ⟨RX10, "dwellersOf", "(I)I"⟩
abbrev cX10_pitsOf : ByteArray := prog_1_method_48_code
def yX10_pitsOf : MethodName := ⟨RX10, "pitsOf", "(I)I"⟩
abbrev cX10_isTrue : ByteArray := prog_1_method_49_code
def yX10_isTrue : MethodName := ⟨RX10, "isTrue", "(ILPitPact$Man;)Z"⟩
abbrev cX10_wayToWork : ByteArray := prog_1_method_50_code
def yX10_wayToWork : MethodName := ⟨RX10, "wayToWork", "(LPitPact$Man;)I"⟩
abbrev cX10_wayTo : ByteArray := prog_1_method_51_code
def yX10_wayTo : MethodName := ⟨RX10, "wayTo", "(ILPitPact$Man;)I"⟩
abbrev cX10_workOutMove : ByteArray := prog_1_method_52_code
def yX10_workOutMove : MethodName := ⟨RX10, "workOutMove", "(I)Z"⟩
abbrev cX10_offerSlots : ByteArray := prog_1_method_53_code
def yX10_offerSlots : MethodName := ⟨RX10, "offerSlots", "(ILPitPact$Man;)V"⟩
abbrev cX10_carryOutMove : ByteArray := prog_1_method_54_code
def yX10_carryOutMove : MethodName := ⟨RX10, "carryOutMove", "(I)V"⟩
abbrev cX10_canBe : ByteArray := prog_1_method_55_code
def yX10_canBe : MethodName := ⟨RX10, "canBe", "(ILPitPact$Harm;)Z"⟩
abbrev cX10_partOf : ByteArray := prog_1_method_56_code
def yX10_partOf : MethodName := ⟨RX10, "partOf", "(LPitPact$Harm;I)I"⟩
abbrev cX10_share : ByteArray := prog_1_method_57_code
def yX10_share : MethodName := ⟨RX10, "share", "(III)I"⟩
def RX11 : String := "PitPactModel"
def TX11 : u_T := fun k => match k with
  | 0 => ("PitPactModel", "townX", "[I", true)
  | 1 => ("PitPactModel", "townY", "[I", true)
  | 2 => ("PitPactModel", "pitX", "[I", true)
  | 3 => ("PitPactModel", "pitY", "[I", true)
  | 4 => ("PitPactModel", "tons", "[I", true)
  | 5 => ("PitPactModel", "costs", "[I", true)
  | 6 => ("PitPactModel", "depths", "[I", true)
  | 7 => ("PitPactModel", "isOpen", "[Z", true)
  | 8 => ("PitPactModel", "posts", "[I", true)
  | 9 => ("PitPactModel", "pits", "I", false)
  | 10 => ("PitPactModel", "ages", "[I", true)
  | 11 => ("PitPactModel", "trades", "[I", true)
  | 12 => ("PitPactModel", "years", "[I", true)
  | 13 => ("PitPactModel", "townOf", "[I", true)
  | 14 => ("PitPactModel", "pitOf", "[I", true)
  | 15 => ("PitPactModel", "hasKin", "[Z", true)
  | 16 => ("PitPactModel", "is", "[I", true)
  | 17 => ("PitPactModel", "men", "I", false)
  | 18 => ("PitPactModel", "numbers", "[I", true)
  | 19 => ("PitPactModel", "signs", "[I", true)
  | 20 => ("PitPactModel", "signMany", "[I", true)
  | 21 => ("PitPactModel", "pile", "[I", true)
  | 22 => ("PitPactModel", "piled", "I", false)
  | 23 => ("PitPactModel", "movers", "[I", true)
  | 24 => ("PitPactModel", "moverMany", "I", false)
  | 25 => ("PitPactModel", "bridges", "I", false)
  | 26 => ("PitPactModel", "slotPit", "[I", true)
  | 27 => ("PitPactModel", "slotTrade", "[I", true)
  | 28 => ("PitPactModel", "slots", "I", false)
  | 29 => ("PitPactModel", "leastBy", "[I", true)
  | 30 => ("PitPactModel", "slotOf", "[I", true)
  | 31 => ("PitPactModel", "isBound", "[Z", true)
  | 32 => ("PitPactModel", "inflows", "[I", true)
  | 33 => ("PitPactModel", "levels", "[I", true)
  | 34 => ("PitPactModel", "runs", "[Z", true)
  | 35 => ("PitPactModel", "drowned", "[I", true)
  | 36 => ("PitPactModel", "wayA", "[I", true)
  | 37 => ("PitPactModel", "wayB", "[I", true)
  | 38 => ("PitPactModel", "wayHeight", "[I", true)
  | 39 => ("PitPactModel", "ways", "I", false)
  | 40 => ("PitPactModel", "month", "I", false)
  | 41 => ("PitPactModel", "pumped", "I", false)
  | 42 => ("PitPactModel", "spilt", "I", false)
  | 43 => ("PitPactModel", "levelsKept", "[I", true)
  | 44 => ("PitPactModel", "prices", "[I", true)
  | 45 => ("PitPactModel", "plan", "[I", true)
  | 46 => ("PitPactModel", "worstRow", "I", false)
  | 47 => ("PitPactModel", "workedFrom", "[I", true)
  | 48 => ("PitPactModel", "workedTill", "[I", true)
  | 49 => ("PitPactModel", "harmX", "[I", true)
  | 50 => ("PitPactModel", "harmY", "[I", true)
  | 51 => ("PitPactModel", "harmYear", "[I", true)
  | 52 => ("PitPactModel", "harmSum", "[I", true)
  | _ => ("PitPactModel", "harms", "I", false)
def tyX11 : Nat → FieldType := fun k => match k with
  | 0 => .array .int
  | 1 => .array .int
  | 2 => .array .int
  | 3 => .array .int
  | 4 => .array .int
  | 5 => .array .int
  | 6 => .array .int
  | 7 => .array .boolean
  | 8 => .array .int
  | 9 => .int
  | 10 => .array .int
  | 11 => .array .int
  | 12 => .array .int
  | 13 => .array .int
  | 14 => .array .int
  | 15 => .array .boolean
  | 16 => .array .int
  | 17 => .int
  | 18 => .array .int
  | 19 => .array .int
  | 20 => .array .int
  | 21 => .array .int
  | 22 => .int
  | 23 => .array .int
  | 24 => .int
  | 25 => .int
  | 26 => .array .int
  | 27 => .array .int
  | 28 => .int
  | 29 => .array .int
  | 30 => .array .int
  | 31 => .array .boolean
  | 32 => .array .int
  | 33 => .array .int
  | 34 => .array .boolean
  | 35 => .array .int
  | 36 => .array .int
  | 37 => .array .int
  | 38 => .array .int
  | 39 => .int
  | 40 => .int
  | 41 => .int
  | 42 => .int
  | 43 => .array .int
  | 44 => .array .int
  | 45 => .array .int
  | 46 => .int
  | 47 => .array .int
  | 48 => .array .int
  | 49 => .array .int
  | 50 => .array .int
  | 51 => .array .int
  | 52 => .array .int
  | _ => .int
abbrev wsX110 : List Cond := u_ws RX11 TX11 54
theorem nmX11 : ∀ a, a < 54 → ∀ b, b < 54 → a ≠ b → (TX11 a).2.1 ≠ (TX11 b).2.1 := by decide +kernel
theorem tyX11_ok : ∀ k, k < 54 → parseFieldDescriptor (TX11 k).2.2.1 = some (tyX11 k) := by decide +kernel
abbrev cX11_init : ByteArray := prog_13_method_1_code
def yX11_init : MethodName := ⟨RX11, "<init>", "()V"⟩
abbrev cX11_in : ByteArray := prog_13_method_3_code
def yX11_in : MethodName := ⟨RX11, "in", "(JJJ)Z"⟩
abbrev cX11_size : ByteArray := prog_13_method_4_code
def yX11_size : MethodName := ⟨RX11, "size", "(I)I"⟩
abbrev cX11_ones : ByteArray := prog_13_method_5_code
def yX11_ones : MethodName := ⟨RX11, "ones", "(I)I"⟩
abbrev cX11_isTown : ByteArray := prog_13_method_6_code
def yX11_isTown : MethodName := ⟨RX11, "isTown", "(I)Z"⟩
abbrev cX11_isPit : ByteArray := prog_13_method_7_code
def yX11_isPit : MethodName := ⟨RX11, "isPit", "(I)Z"⟩
abbrev cX11_isPlace : ByteArray := prog_13_method_8_code
def yX11_isPlace : MethodName := ⟨RX11, "isPlace", "(II)Z"⟩
abbrev cX11_town : ByteArray := prog_13_method_9_code
def yX11_town : MethodName := ⟨RX11, "town", "(III)I"⟩
abbrev cX11_pit : ByteArray := prog_13_method_10_code
def yX11_pit : MethodName := ⟨RX11, "pit", "(IIIII)I"⟩
abbrev cX11_farTo : ByteArray := prog_13_method_11_code
def yX11_farTo : MethodName := ⟨RX11, "farTo", "(II)I"⟩
abbrev cX11_menAt : ByteArray := prog_13_method_12_code
def yX11_menAt : MethodName := ⟨RX11, "menAt", "(I)I"⟩
abbrev cX11_about : ByteArray := prog_13_method_13_code
def yX11_about : MethodName := ⟨RX11, "about", "(II)I"⟩
abbrev cX11_man : ByteArray := prog_13_method_14_code
def yX11_man : MethodName := ⟨RX11, "man", "(IIIIIZ)I"⟩
abbrev cX11_isMan : ByteArray := prog_13_method_15_code
def yX11_isMan : MethodName := ⟨RX11, "isMan", "(I)Z"⟩
abbrev cX11_ofMan : ByteArray := prog_13_method_16_code
def yX11_ofMan : MethodName := ⟨RX11, "ofMan", "(II)I"⟩
abbrev cX11_become : ByteArray := prog_13_method_17_code
def yX11_become : MethodName := ⟨RX11, "become", "(II)V"⟩
abbrev cX11_leave : ByteArray := prog_13_method_18_code
def yX11_leave : MethodName := ⟨RX11, "leave", "(I)I"⟩
abbrev cX11_posts : ByteArray := prog_13_method_19_code
def yX11_posts : MethodName := ⟨RX11, "posts", "(III)I"⟩
abbrev cX11_leastOf : ByteArray := prog_13_method_20_code
def yX11_leastOf : MethodName := ⟨RX11, "leastOf", "(I)I"⟩
abbrev cX11_mostOf : ByteArray := prog_13_method_21_code
def yX11_mostOf : MethodName := ⟨RX11, "mostOf", "(I)I"⟩
abbrev cX11_set : ByteArray := prog_13_method_22_code
def yX11_set : MethodName := ⟨RX11, "set", "(II)I"⟩
abbrev cX11_year : ByteArray := prog_13_method_23_code
def yX11_year : MethodName := ⟨RX11, "year", "()I"⟩
abbrev cX11_say : ByteArray := prog_13_method_24_code
def yX11_say : MethodName := ⟨RX11, "say", "(I)I"⟩
abbrev cX11_wipe : ByteArray := prog_13_method_25_code
def yX11_wipe : MethodName := ⟨RX11, "wipe", "()I"⟩
abbrev cX11_isDigit : ByteArray := prog_13_method_26_code
def yX11_isDigit : MethodName := ⟨RX11, "isDigit", "(I)Z"⟩
abbrev cX11_isFact : ByteArray := prog_13_method_27_code
def yX11_isFact : MethodName := ⟨RX11, "isFact", "(I)Z"⟩
abbrev cX11_isAct : ByteArray := prog_13_method_28_code
def yX11_isAct : MethodName := ⟨RX11, "isAct", "(I)Z"⟩
abbrev cX11_fault : ByteArray := prog_13_method_29_code
def yX11_fault : MethodName := ⟨RX11, "fault", "()I"⟩
abbrev cX11_rule : ByteArray := prog_13_method_30_code
def yX11_rule : MethodName := ⟨RX11, "rule", "(I)I"⟩
abbrev cX11_factOf : ByteArray := prog_13_method_31_code
def yX11_factOf : MethodName := ⟨RX11, "factOf", "(II)I"⟩
abbrev cX11_actOn : ByteArray := prog_13_method_32_code
def yX11_actOn : MethodName := ⟨RX11, "actOn", "(IJJ)J"⟩
abbrev cX11_lay : ByteArray := prog_13_method_33_code
def yX11_lay : MethodName := ⟨RX11, "lay", "(J)V"⟩
abbrev cX11_worthOf : ByteArray := prog_13_method_34_code
def yX11_worthOf : MethodName := ⟨RX11, "worthOf", "(II)I"⟩
abbrev cX11_worth : ByteArray := prog_13_method_35_code
def yX11_worth : MethodName := ⟨RX11, "worth", "(II)I"⟩
abbrev cX11_isSo : ByteArray := prog_13_method_36_code
def yX11_isSo : MethodName := ⟨RX11, "isSo", "(II)Z"⟩
abbrev cX11_findMovers : ByteArray := prog_13_method_37_code
def yX11_findMovers : MethodName := ⟨RX11, "findMovers", "(I)V"⟩
abbrev cX11_byslot : ByteArray := prog_13_method_38_code
def yX11_byslot : MethodName := ⟨RX11, "byslot", "(III)I"⟩
abbrev cX11_findMove : ByteArray := prog_13_method_39_code
def yX11_findMove : MethodName := ⟨RX11, "findMove", "(I)V"⟩
abbrev cX11_move : ByteArray := prog_13_method_40_code
def yX11_move : MethodName := ⟨RX11, "move", "(II)I"⟩
abbrev cX11_newPit : ByteArray := prog_13_method_41_code
def yX11_newPit : MethodName := ⟨RX11, "newPit", "(I)I"⟩
abbrev cX11_close : ByteArray := prog_13_method_42_code
def yX11_close : MethodName := ⟨RX11, "close", "(I)I"⟩
abbrev cX11_isMover : ByteArray := prog_13_method_43_code
def yX11_isMover : MethodName := ⟨RX11, "isMover", "(I)Z"⟩
abbrev cX11_inflow : ByteArray := prog_13_method_44_code
def yX11_inflow : MethodName := ⟨RX11, "inflow", "(II)I"⟩
abbrev cX11_pump : ByteArray := prog_13_method_45_code
def yX11_pump : MethodName := ⟨RX11, "pump", "(IZ)I"⟩
abbrev cX11_way : ByteArray := prog_13_method_46_code
def yX11_way : MethodName := ⟨RX11, "way", "(III)I"⟩
abbrev cX11_run : ByteArray := prog_13_method_47_code
def yX11_run : MethodName := ⟨RX11, "run", "(III)V"⟩
abbrev cX11_isDrowned : ByteArray := prog_13_method_48_code
def yX11_isDrowned : MethodName := ⟨RX11, "isDrowned", "(I)Z"⟩
abbrev cX11_monthOn : ByteArray := prog_13_method_49_code
def yX11_monthOn : MethodName := ⟨RX11, "monthOn", "(I)V"⟩
abbrev cX11_months : ByteArray := prog_13_method_50_code
def yX11_months : MethodName := ⟨RX11, "months", "(I)I"⟩
abbrev cX11_threat : ByteArray := prog_13_method_51_code
def yX11_threat : MethodName := ⟨RX11, "threat", "(II)I"⟩
abbrev cX11_price : ByteArray := prog_13_method_52_code
def yX11_price : MethodName := ⟨RX11, "price", "(III)I"⟩
abbrev cX11_layPlan : ByteArray := prog_13_method_53_code
def yX11_layPlan : MethodName := ⟨RX11, "layPlan", "(I)Z"⟩
abbrev cX11_isKept : ByteArray := prog_13_method_54_code
def yX11_isKept : MethodName := ⟨RX11, "isKept", "()Z"⟩
abbrev cX11_costBy : ByteArray := prog_13_method_55_code
def yX11_costBy : MethodName := ⟨RX11, "costBy", "(I)I"⟩
abbrev cX11_worst : ByteArray := prog_13_method_56_code
def yX11_worst : MethodName := ⟨RX11, "worst", "()I"⟩
abbrev cX11_plan : ByteArray := prog_13_method_57_code
def yX11_plan : MethodName := ⟨RX11, "plan", "(II)I"⟩
abbrev cX11_best : ByteArray := prog_13_method_58_code
def yX11_best : MethodName := ⟨RX11, "best", "(I)I"⟩
abbrev cX11_digitsOf : ByteArray := prog_13_method_59_code
def yX11_digitsOf : MethodName := ⟨RX11, "digitsOf", "()I"⟩
abbrev cX11_nextPlan : ByteArray := prog_13_method_60_code
def yX11_nextPlan : MethodName := ⟨RX11, "nextPlan", "()Z"⟩
abbrev cX11_vote : ByteArray := prog_13_method_61_code
def yX11_vote : MethodName := ⟨RX11, "vote", "(II)I"⟩
abbrev cX11_worked : ByteArray := prog_13_method_62_code
def yX11_worked : MethodName := ⟨RX11, "worked", "(III)I"⟩
abbrev cX11_harm : ByteArray := prog_13_method_63_code
def yX11_harm : MethodName := ⟨RX11, "harm", "(IIII)I"⟩
abbrev cX11_canBe : ByteArray := prog_13_method_64_code
def yX11_canBe : MethodName := ⟨RX11, "canBe", "(II)Z"⟩
abbrev cX11_whoseOf : ByteArray := prog_13_method_65_code
def yX11_whoseOf : MethodName := ⟨RX11, "whoseOf", "(I)I"⟩
abbrev cX11_isHarm : ByteArray := prog_13_method_66_code
def yX11_isHarm : MethodName := ⟨RX11, "isHarm", "(I)Z"⟩
abbrev cX11_whose : ByteArray := prog_13_method_67_code
def yX11_whose : MethodName := ⟨RX11, "whose", "(I)I"⟩
abbrev cX11_shareOf : ByteArray := prog_13_method_68_code
def yX11_shareOf : MethodName := ⟨RX11, "shareOf", "(III)I"⟩
abbrev cX11_part : ByteArray := prog_13_method_69_code
def yX11_part : MethodName := ⟨RX11, "part", "(II)I"⟩
abbrev cX11_pitsOf : ByteArray := prog_13_method_70_code
def yX11_pitsOf : MethodName := ⟨RX11, "pitsOf", "(I)I"⟩
abbrev cX11_work : ByteArray := prog_13_method_71_code
def yX11_work : MethodName := ⟨RX11, "work", "(II)I"⟩
abbrev cX11_lone : ByteArray := prog_13_method_72_code
def yX11_lone : MethodName := ⟨RX11, "lone", "()I"⟩
abbrev cX11_told : ByteArray := prog_13_method_73_code
def yX11_told : MethodName := ⟨RX11, "told", "(I)I"⟩
def RJ6 : String := "java/lang/Integer"
def TJ6 : u_T := fun k => match k with
  | _ => ("", "", "", false)
def tyJ6 : Nat → FieldType := fun k => match k with
  | _ => .int
abbrev wsJ60 : List Cond := u_ws RJ6 TJ6 0
theorem nmJ6 : ∀ a, a < 0 → ∀ b, b < 0 → a ≠ b → (TJ6 a).2.1 ≠ (TJ6 b).2.1 := by decide +kernel
theorem tyJ6_ok : ∀ k, k < 0 → parseFieldDescriptor (TJ6 k).2.2.1 = some (tyJ6 k) := by decide +kernel
abbrev cJ6_bitCount_0f7a4 : ByteArray := prog_14_method_49_code
def yJ6_bitCount_0f7a4 : MethodName := ⟨RJ6, "bitCount", "(I)I"⟩
def RJ9 : String := "java/lang/Math"
def TJ9 : u_T := fun k => match k with
  | _ => ("", "", "", false)
def tyJ9 : Nat → FieldType := fun k => match k with
  | _ => .int
abbrev wsJ90 : List Cond := u_ws RJ9 TJ9 0
theorem nmJ9 : ∀ a, a < 0 → ∀ b, b < 0 → a ≠ b → (TJ9 a).2.1 ≠ (TJ9 b).2.1 := by decide +kernel
theorem tyJ9_ok : ∀ k, k < 0 → parseFieldDescriptor (TJ9 k).2.2.1 = some (tyJ9 k) := by decide +kernel
abbrev cJ9_abs_0f7a4 : ByteArray := prog_15_method_59_code
def yJ9_abs_0f7a4 : MethodName := ⟨RJ9, "abs", "(I)I"⟩
abbrev cJ9_max_7cf53 : ByteArray := prog_15_method_65_code
def yJ9_max_7cf53 : MethodName := ⟨RJ9, "max", "(II)I"⟩
abbrev cJ9_max_f86c9 : ByteArray := prog_15_method_66_code
def yJ9_max_f86c9 : MethodName := ⟨RJ9, "max", "(JJ)J"⟩
abbrev cJ9_min_7cf53 : ByteArray := prog_15_method_69_code
def yJ9_min_7cf53 : MethodName := ⟨RJ9, "min", "(II)I"⟩
abbrev cJ9_min_f86c9 : ByteArray := prog_15_method_70_code
def yJ9_min_f86c9 : MethodName := ⟨RJ9, "min", "(JJ)J"⟩
def RJ10 : String := "java/lang/System"
def TJ10 : u_T := fun k => match k with
  | _ => ("", "", "", false)
def tyJ10 : Nat → FieldType := fun k => match k with
  | _ => .int
abbrev wsJ100 : List Cond := u_ws RJ10 TJ10 0
theorem nmJ10 : ∀ a, a < 0 → ∀ b, b < 0 → a ≠ b → (TJ10 a).2.1 ≠ (TJ10 b).2.1 := by decide +kernel
theorem tyJ10_ok : ∀ k, k < 0 → parseFieldDescriptor (TJ10 k).2.2.1 = some (tyJ10 k) := by decide +kernel
def RL : String := "PitPactLaw"
abbrev cL_law : ByteArray := code
def yL_law : MethodName := ⟨RL, "law", "([I)Z"⟩
abbrev vwCl : List vw_C := [(RX0, TX0, 3), (RX1, TX1, 7), (RX2, TX2, 8), (RX3, TX3, 2), (RX4, TX4, 8), (RX5, TX5, 2), (RX6, TX6, 15), (RX7, TX7, 11), (RX8, TX8, 2), (RX9, TX9, 13), (RX10, TX10, 15), (RX11, TX11, 54)]
end
section
/-! the heap as a picture of numbers: kind (0: none; 1 + number of the class; 20 int[], 21 boolean[], 22 long[], 23 to 29 arrays of references; 30 an int[] that nobody writes), length, ints, longs, references (0: null) -/
abbrev ZH : Type := (Nat → Nat) × (Nat → Nat) × (Nat → Nat → Int32) × (Nat → Nat → Int64) × (Nat → Nat → Nat)
def zK (h : ZH) : Nat → Nat := h.1
def zN (h : ZH) : Nat → Nat := h.2.1
def zI (h : ZH) : Nat → Nat → Int32 := h.2.2.1
def zL (h : ZH) : Nat → Nat → Int64 := h.2.2.2.1
def zR (h : ZH) : Nat → Nat → Nat := h.2.2.2.2
def zsI (h : ZH) (a i : Nat) (v : Int32) : ZH := (zK h, zN h, fun b j => if b = a ∧ j = i then v else zI h b j, zL h, zR h)
def zsL (h : ZH) (a i : Nat) (v : Int64) : ZH := (zK h, zN h, zI h, fun b j => if b = a ∧ j = i then v else zL h b j, zR h)
def zsR (h : ZH) (a i : Nat) (v : Nat) : ZH := (zK h, zN h, zI h, zL h, fun b j => if b = a ∧ j = i then v else zR h b j)
/-- a new cell at the free address a -/
def zmk (h : ZH) (a k n : Nat) : ZH := (fun b => if b = a then k else zK h b, fun b => if b = a then n else zN h b, fun b j => if b = a then 0 else zI h b j, fun b j => if b = a then 0 else zL h b j, fun b j => if b = a then 0 else zR h b j)
/-- n ints of the array b from place sp on, laid into the array a from place dp on -/
def zcp (h : ZH) (b sp a dp n : Nat) : ZH := (zK h, zN h, fun q j => if q = a ∧ dp ≤ j ∧ j < dp + n then zI h b (sp + (j - dp)) else zI h q j, zL h, zR h)
/-- the field types by class and number -/
def zty : Nat → Nat → FieldType := fun c => match c with
  | 0 => tyX0 | 1 => tyX1 | 2 => tyX2 | 3 => tyX3 | 4 => tyX4 | 5 => tyX5 | 6 => tyX6 | 7 => tyX7 | 8 => tyX8 | 9 => tyX9 | 10 => tyX10 | _ => tyX11
/-- the component types of the arrays by kind -/
def zat : Nat → FieldType := fun k => match k with
  | 20 => .int | 21 => .boolean | 22 => .long | 23 => .object RX0 | 24 => .object RX1 | 25 => .object RX4 | 26 => .object RX5 | 27 => .object RX8 | 28 => .array .int | _ => .array .long
def ztys (dA : Nat → ClassId) : List (ClassId × FieldType) := [(dA 20, zat 20), (dA 21, zat 21), (dA 22, zat 22), (dA 23, zat 23), (dA 24, zat 24), (dA 25, zat 25), (dA 26, zat 26), (dA 27, zat 27), (dA 28, zat 28), (dA 29, zat 29)]
def zrv (tr : Nat → Nat) (r : Nat) : Value := if r = 0 then .null else .ref (tr r)
/-- an abstract value as the machine has it -/
def ztr (tr : Nat → Nat) : Value → Value
  | .ref a => .ref (tr a)
  | v => v
def zfv (tr : Nat → Nat) (h : ZH) (c a k : Nat) : Value := if (zty c k).isReference = true then zrv tr (zR h a k) else .int (zI h a k)
def zav (tr : Nat → Nat) (h : ZH) (a j : Nat) : Value := if zK h a = 20 ∨ zK h a = 21 then .int (zI h a j) else if zK h a = 22 then .long (zL h a j) else zrv tr (zR h a j)
/-- the statics that hold an array, by their abstract addresses -/
def zst : List (String × Nat) := [("AT_FIRST", 1), ("LEAST", 2), ("MOST", 3)]
/-- what the machine's heap holds of the address a -/
def zcell (D : va_G) (dA : Nat → ClassId) (tr : Nat → Nat) (h : ZH) (a : Nat) (U : State) (H : Heap) : Prop :=
  (20 ≤ zK h a → zK h a < 30 → H[tr a]? = some (arrV (dA (zK h a)) (zN h a) (zav tr h a))) ∧
  (zK h a = 30 → ∃ cell : Cell, H[tr a]? = some cell ∧ U.isArrayOf cell .int ∧ cell.vm ≠ .unknown ∧ cell.slots.size = zN h a ∧ ∀ j : Nat, j < zN h a → cell.slots[j]? = some (.int (zI h a j))) ∧
  (∀ (c : Nat) (r : vw_C), zK h a = c + 1 → vwCl[c]? = some r → t_OB (tr a) (D.1 c) r.2.2 (D.2 c) H (zfv tr h c a))
def zHR (D : va_G) (dA : Nat → ClassId) (b0 : Nat) (tr : Nat → Nat) (h : ZH) (U : State) (H : Heap) : Prop :=
  (∀ a, zK h a ≠ 0 → zcell D dA tr h a U H ∧ tr a < H.size ∧ (zK h a ≠ 30 → b0 ≤ tr a) ∧ (zK h a = 30 → tr a < b0)) ∧
  (∀ a b, zK h a ≠ 0 → zK h b ≠ 0 → zK h a ≠ 30 → tr a = tr b → a = b) ∧
  (∀ a k, zK h a ≠ 0 → zR h a k ≠ 0 → zK h (zR h a k) ≠ 0) ∧ zK h 0 = 0 ∧
  (∀ q ∈ zst, va_Z RX10 q.1 "[I" (.ref (tr q.2)) (fun x => b0 ≤ x) U H ∧ zK h q.2 = 30)
/-- the values that may be held -/
def zal (h : ZH) : Value → Prop
  | .ref a => zK h a ≠ 0
  | _ => True
def zalS (h : ZH) : List Value → Prop
  | [] => True
  | v :: S => zal h v ∧ zalS h S
def zalL (h : ZH) : List (Option Value) → Prop
  | [] => True
  | none :: L => zalL h L
  | some v :: L => zal h v ∧ zalL h L
def zext (tr0 : Nat → Nat) (h0 : ZH) (tr : Nat → Nat) (h : ZH) : Prop := ∀ a, zK h0 a ≠ 0 → tr a = tr0 a ∧ zK h a ≠ 0
def zFr (b0 : Nat) (H0 H : Heap) (locs : List Loc) : Prop := H0.size ≤ H.size ∧ (∀ q : Nat, q < b0 → H[q]? = H0[q]?) ∧ ∀ l ∈ locs, b0 ≤ l.base
/-- the locals -/
def zLH (tr : Nat → Nat) (n : Nat) (ls : Array Slot) (L : List (Option Value)) : Prop := ls.size = n ∧ lv_wf ls ∧ ∀ (i : Nat) (v : Value), L[i]? = some (some v) → ls[i]? = some (.val (ztr tr v))
/-- the words -/
def zisN : Cond → Bool
  | .fieldLinkNest _ _ _ _ _ _ => true
  | .methodLinkNest _ _ _ _ => true
  | _ => false
def zgood : List Cond := lw_tbl.filter goodWord
def znest : List Cond := lw_tbl.filter zisN
theorem zgood_t {w : Cond} (i : Nat) (h : tables_1[i]? = some w) (hg : goodWord w = true) : w ∈ zgood := List.mem_filter.mpr ⟨List.mem_append_right _ (List.mem_of_getElem? h), hg⟩
theorem znest_t {w : Cond} (i : Nat) (h : tables_1[i]? = some w) (hg : zisN w = true) : w ∈ znest := List.mem_filter.mpr ⟨List.mem_append_right _ (List.mem_of_getElem? h), hg⟩
theorem zgood_p {w : Cond} (i : Nat) (h : (k2_sels lw_privs)[i]? = some w) (hg : goodWord w = true) : w ∈ zgood := List.mem_filter.mpr ⟨List.mem_append_left _ (List.mem_of_getElem? h), hg⟩
/-- a method: name, code, locals, answer, depth, cells, slots -/
abbrev ZM : Type := MethodName × ByteArray × Nat × Option FieldType × Nat × Nat × Nat
abbrev zm_x (y : ZM) : MethodName := y.1
abbrev zm_c (y : ZM) : ByteArray := y.2.1
abbrev zm_n (y : ZM) : Nat := y.2.2.1
abbrev zm_r (y : ZM) : Option FieldType := y.2.2.2.1
abbrev zm_d (y : ZM) : Nat := y.2.2.2.2.1
abbrev zm_k (y : ZM) : Nat := y.2.2.2.2.2.1
abbrev zm_s (y : ZM) : Nat := y.2.2.2.2.2.2
def zws (y : ZM) : List Cond := Cond.code (zm_x y) (zm_c y) (zm_n y) (zm_r y) :: zgood
def zrm (y : ZM) : Room := { frames := zm_d y, cells := zm_k y, slots := zm_s y, locals := 64 * zm_d y }
def zAOA (t : FieldType) (U : State) : Prop := (Cond.arrayOver (.array t)).before #[] U = true
theorem zAOA.moved {t : FieldType} {u U : State} (hvm : u.vm.Alike U.vm) (h : zAOA t u) : zAOA t U := by
  obtain ⟨comp, c, k, h1, h2, h3, h4, h5⟩ := arrayOverA_spec h
  obtain ⟨k', hk', he⟩ := hvm.2.2 _ _ h3
  have hi : (U.vm.classes.findIdx? fun (x : Class) => match x.kind with | .array component _ => component == comp | _ => false) = some c := by
    rw [hvm.findIdx?_eq _ (fun _ => rfl)]
    exact h2
  have hkind : k'.kind = .array comp (.array t) := by rw [he]; exact h4
  have f1 : U.vm.findClass (FieldType.array t).toString = some comp := by rw [hvm.findClass]; exact h1
  have f2 : U.vm.findClass ("[" ++ (FieldType.array t).toString) = some c := by rw [hvm.findClass]; exact h5
  unfold zAOA Cond.before Cond.holds
  simp only [Cond.value]
  rw [f1, Option.bind_some]
  refine (congrArg (fun o : Option Nat => (o.bind (fun c => (U.vm.classes[c]?).map fun (k : Class) => match k.kind with | .array _ ty => decide (ty = FieldType.array t) && decide (U.vm.findClass ("[" ++ (FieldType.array t).toString) = some c) | _ => false) == some true)) hi).trans ?_
  simp [hk', hkind, f2]
def zNW (U : State) : Prop := (∀ w ∈ znest, va_Nw w U) ∧ (∀ C ∈ ([RX0, RX1, RX4, RX5, RX8] : List String), va_AO C U) ∧ ∀ t ∈ ([.int, .long] : List FieldType), zAOA t U
def zPc (D : va_G) (dA : Nat → ClassId) (b0 : Nat) (tr : Nat → Nat) (h : ZH) (av : List Value) : Array Value → State → Prop := fun v U =>
  v = (av.map (ztr tr)).toArray ∧ zalS h av ∧ va_K D vwCl (ztys dA) U ∧ zNW U ∧ b0 ≤ U.heap.size ∧ zHR D dA b0 tr h U U.heap
def zQc (D : va_G) (dA : Nat → ClassId) (b0 : Nat) (tr : Nat → Nat) (h : ZH) (Φ : Option Value → ZH → Prop) : Array Value → State → Outcome → State → Prop := fun _ st o t =>
  ∃ (v : Option Value) (h1 : ZH) (tr1 : Nat → Nat), o = .returned (v.map (ztr tr1)) ∧ zalS h1 v.toList ∧ zHR D dA b0 tr1 h1 t t.heap ∧ zext tr h tr1 h1 ∧ Φ v h1 ∧ st.heap.size ≤ t.heap.size ∧ ∀ q : Nat, q < b0 → t.heap[q]? = st.heap[q]?
/-- A METHOD'S CONTRACT over the picture: called with av it returns, and Φ holds of its answer and the picture behind it -/
def Zc (y : ZM) (av : List Value) (h : ZH) (Φ : Option Value → ZH → Prop) : Prop :=
  ∀ (l : Launch) (D : va_G) (dA : Nat → ClassId) (b0 : Nat) (tr : Nat → Nat), Met l (zm_x y) (zws y) (zrm y) (zPc D dA b0 tr h av) (zQc D dA b0 tr h Φ) (zm_k y) (zm_s y) (fun q => b0 ≤ q)
/-- what stays the same in a method's run -/
def zCx (y : ZM) (D : va_G) (dA : Nat → ClassId) (b0 : Nat) (p : Program) (s : State) (m : MethodId) (args : Array Value) (meth : Method) (c : Code) : Prop :=
  p.tables.exec = Jvm.exec ∧ c.code = zm_c y ∧ meth.sig.returnType = zm_r y ∧ c.maxLocals = zm_n y ∧ s.vm.findClass (zm_x y).cls = some m.cls ∧ (∀ w ∈ zgood, w.before args s = true) ∧ meth.locks = false ∧ meth.name = (zm_x y).name ∧
  va_K D vwCl (ztys dA) s ∧ zNW s ∧ b0 ≤ s.heap.size
/-- A POINT IN A METHOD over the picture: from here it returns, and Φ holds of its answer and the picture behind it; rc, rs: the cells and slots that it may still make -/
def Zt (y : ZM) (Φ : Option Value → ZH → Prop) (rc rs pc : Nat) (L : List (Option Value)) (S : List Value) (h : ZH) : Prop :=
  ∀ (l : Launch) (D : va_G) (dA : Nat → ClassId) (b0 : Nat) (tr0 : Nat → Nat) (h0 : ZH) (p : Program) (e : Env) (s : State) (m : MethodId) (args : Array Value) (below : List Frame) (meth : Method) (c : Code),
  zCx y D dA b0 p s m args meth c → ∀ (tr : Nat → Nat) (H : Heap) (locs : List Loc) (cells slots : Nat) (ls : Array Slot),
  zHR D dA b0 tr h s H → zext tr0 h0 tr h → zalS h S → zalL h L → zFr b0 s.heap H locs → zLH tr (zm_n y) ls L → cells + rc ≤ zm_k y → slots + rs ≤ zm_s y →
  W p l e (zrm y) s m args below meth c H locs cells slots (MQ below (zQc D dA b0 tr0 h0 Φ) args s (zm_k y) (zm_s y) (fun q => b0 ≤ q)) (F0 m pc ls (S.map (ztr tr)))
theorem zcat (tr : Nat → Nat) (v : Value) : (ztr tr v).category = v.category := by cases v <;> rfl
theorem zalL_at {h : ZH} : ∀ {L : List (Option Value)} {i : Nat} {v : Value}, zalL h L → L[i]? = some (some v) → zal h v
  | [], i, v, _, e => by simp at e
  | none :: L, 0, v, _, e => by simp at e
  | none :: L, i + 1, v, hl, e => zalL_at (L := L) (i := i) hl (by simpa using e)
  | some w :: L, 0, v, hl, e => by
    have : w = v := by simpa using e
    subst this
    exact hl.1
  | some w :: L, i + 1, v, hl, e => zalL_at (L := L) (i := i) hl.2 (by simpa using e)
theorem zalL_set {h : ZH} : ∀ {L : List (Option Value)} {i : Nat} {v : Value}, zalL h L → zal h v → zalL h (L.set i (some v))
  | [], i, v, _, _ => trivial
  | none :: L, 0, v, hl, hv => ⟨hv, hl⟩
  | none :: L, i + 1, v, hl, hv => zalL_set (L := L) (i := i) hl hv
  | some w :: L, 0, v, hl, hv => ⟨hv, hl.2⟩
  | some w :: L, i + 1, v, hl, hv => ⟨hl.1, zalL_set (L := L) (i := i) hl.2 hv⟩
/-- fewer locals -/
theorem zalL_sub {h : ZH} : ∀ {L : List (Option Value)}, (∀ (i : Nat) (v : Value), L[i]? = some (some v) → zal h v) → zalL h L
  | [], _ => trivial
  | none :: L, q => zalL_sub (L := L) (fun i v e => q (i + 1) v (by simpa using e))
  | some w :: L, q => ⟨q 0 w (by simp), zalL_sub (L := L) (fun i v e => q (i + 1) v (by simpa using e))⟩
theorem zal_mono {h h1 : ZH} (q : ∀ a, zK h a ≠ 0 → zK h1 a ≠ 0) {v : Value} (hv : zal h v) : zal h1 v := by
  cases v <;> first | trivial | exact q _ hv
theorem zalS_mono {h h1 : ZH} (q : ∀ a, zK h a ≠ 0 → zK h1 a ≠ 0) : ∀ {S : List Value}, zalS h S → zalS h1 S
  | [], _ => trivial
  | _ :: S, hs => ⟨zal_mono q hs.1, zalS_mono q (S := S) hs.2⟩
theorem zalL_mono {h h1 : ZH} (q : ∀ a, zK h a ≠ 0 → zK h1 a ≠ 0) {L : List (Option Value)} (hl : zalL h L) : zalL h1 L := zalL_sub fun _ _ e => zal_mono q (zalL_at hl e)
theorem zalS_app {h : ZH} : ∀ {S T : List Value}, zalS h (S ++ T) ↔ zalS h S ∧ zalS h T
  | [], T => ⟨fun x => ⟨trivial, x⟩, fun x => x.2⟩
  | v :: S, T => by
    show zal h v ∧ zalS h (S ++ T) ↔ (zal h v ∧ zalS h S) ∧ zalS h T
    rw [zalS_app (S := S)]
    exact ⟨fun x => ⟨⟨x.1, x.2.1⟩, x.2.2⟩, fun x => ⟨x.1.1, x.1.2, x.2⟩⟩
theorem zalS_mem {h : ZH} : ∀ {S : List Value}, zalS h S ↔ ∀ v ∈ S, zal h v
  | [] => ⟨fun _ _ q => absurd q List.not_mem_nil, fun _ => trivial⟩
  | w :: S => by
    show zal h w ∧ zalS h S ↔ _
    rw [zalS_mem (S := S)]
    exact ⟨fun x v hv => (List.mem_cons.mp hv).elim (fun e => by rw [e]; exact x.1) (x.2 v), fun x => ⟨x w List.mem_cons_self, fun v hv => x v (List.mem_cons_of_mem _ hv)⟩⟩
theorem ztr_eq {tr tr1 : Nat → Nat} {h : ZH} (q : ∀ a, zK h a ≠ 0 → tr1 a = tr a) {v : Value} (hv : zal h v) : ztr tr1 v = ztr tr v := by
  cases v <;> first | rfl | (show Value.ref _ = Value.ref _; rw [q _ hv])
theorem ztr_map {tr tr1 : Nat → Nat} {h : ZH} (q : ∀ a, zK h a ≠ 0 → tr1 a = tr a) {S : List Value} (hs : zalS h S) : S.map (ztr tr1) = S.map (ztr tr) := List.map_congr_left fun v hv => ztr_eq q (zalS_mem.mp hs v hv)
theorem zLH_eq {tr tr1 : Nat → Nat} {h : ZH} (q : ∀ a, zK h a ≠ 0 → tr1 a = tr a) {n : Nat} {ls : Array Slot} {L : List (Option Value)} (hl : zalL h L) (k : zLH tr n ls L) : zLH tr1 n ls L := ⟨k.1, k.2.1, fun i v e => by rw [ztr_eq q (zalL_at hl e)]; exact k.2.2 i v e⟩
/-- the list that the kit's rows want of the locals -/
def zlv (tr : Nat → Nat) : Nat → List (Option Value) → List (Nat × Value)
  | _, [] => []
  | i, none :: L => zlv tr (i + 1) L
  | i, some v :: L => (i, ztr tr v) :: zlv tr (i + 1) L
theorem zlv_mem {tr : Nat → Nat} : ∀ {L : List (Option Value)} {i : Nat} {q : Nat × Value}, q ∈ zlv tr i L ↔ ∃ (j : Nat) (v : Value), L[j]? = some (some v) ∧ q = (i + j, ztr tr v)
  | [], i, q => by simp [zlv]
  | none :: L, i, q => by
    rw [zlv, zlv_mem (L := L)]
    constructor
    · rintro ⟨j, v, e, rfl⟩
      exact ⟨j + 1, v, by simpa using e, by rw [Nat.add_assoc, Nat.add_comm 1 j]⟩
    · rintro ⟨j, v, e, rfl⟩
      cases j with
      | zero => simp at e
      | succ j => exact ⟨j, v, by simpa using e, by rw [Nat.add_assoc, Nat.add_comm 1 j]⟩
  | some w :: L, i, q => by
    rw [zlv, List.mem_cons, zlv_mem (L := L)]
    constructor
    · rintro (rfl | ⟨j, v, e, rfl⟩)
      · exact ⟨0, w, by simp, rfl⟩
      · exact ⟨j + 1, v, by simpa using e, by rw [Nat.add_assoc, Nat.add_comm 1 j]⟩
    · rintro ⟨j, v, e, rfl⟩
      cases j with
      | zero =>
        have : w = v := by simpa using e
        subst this
        exact Or.inl rfl
      | succ j => exact Or.inr ⟨j, v, by simpa using e, by rw [Nat.add_assoc, Nat.add_comm 1 j]⟩
theorem zLH_has {tr : Nat → Nat} {n : Nat} {ls : Array Slot} {L : List (Option Value)} (k : zLH tr n ls L) : lv_has ls n (zlv tr 0 L) := ⟨k.1, k.2.1, fun q hq => by
  obtain ⟨j, v, e, rfl⟩ := zlv_mem.mp hq
  rw [Nat.zero_add]
  exact k.2.2 j v e⟩
/-- which locals stay when the place i is written: those that aren't i and no long just ahead of it -/
def zclr (L : List (Option Value)) (i : Nat) : Bool := match i with
  | 0 => true
  | i + 1 => match L[i]? with
    | some (some v) => v.category == 1
    | _ => true
theorem zst1 {tr : Nat → Nat} {n i : Nat} {ls1 : Array Slot} {L : List (Option Value)} {v : Value} (hc : zclr L i = true) (k : lv_has ls1 n ((i, ztr tr v) :: (zlv tr 0 L).filter (fun q => !(q.1 == i) && !(q.1 + 1 == i && q.2.category == 2)))) : zLH tr n ls1 (L.set i (some v)) := by
  refine ⟨k.1, k.2.1, fun j w e => ?_⟩
  by_cases hj : j = i
  · subst hj
    rw [List.getElem?_set] at e
    by_cases hl : j < L.length
    · rw [if_pos rfl, if_pos hl] at e
      cases e
      exact k.2.2 _ List.mem_cons_self
    · rw [if_pos rfl, if_neg hl] at e
      cases e
  · rw [List.getElem?_set_ne (fun q => hj q.symm)] at e
    refine k.2.2 (j, ztr tr w) (List.mem_cons_of_mem _ (List.mem_filter.mpr ⟨zlv_mem.mpr ⟨j, w, e, by rw [Nat.zero_add]⟩, ?_⟩))
    have h1 : (j == i) = false := by simpa using hj
    simp only [h1, Bool.not_false, Bool.true_and, Bool.not_eq_true', Bool.and_eq_false_iff]
    by_cases h2 : j + 1 = i
    · subst h2
      right
      simp only [zclr, e] at hc
      have : w.category = 1 := by simpa using hc
      simp [zcat, this]
    · left
      simpa using h2
theorem zst2 {tr : Nat → Nat} {n i : Nat} {ls1 : Array Slot} {L : List (Option Value)} {v : Value} (hc : zclr L i = true) (hn : L[i + 1]? = some none) (k : lv_has ls1 n ((i, ztr tr v) :: (zlv tr 0 L).filter (fun q => !(q.1 == i) && (!(q.1 == i + 1) && !(q.1 + 1 == i && q.2.category == 2))))) : zLH tr n ls1 (L.set i (some v)) := by
  refine ⟨k.1, k.2.1, fun j w e => ?_⟩
  by_cases hj : j = i
  · subst hj
    rw [List.getElem?_set] at e
    by_cases hl : j < L.length
    · rw [if_pos rfl, if_pos hl] at e
      cases e
      exact k.2.2 _ List.mem_cons_self
    · rw [if_pos rfl, if_neg hl] at e
      cases e
  · rw [List.getElem?_set_ne (fun q => hj q.symm)] at e
    have hj1 : ¬ j = i + 1 := fun q => by
      subst q
      rw [hn] at e
      cases e
    refine k.2.2 (j, ztr tr w) (List.mem_cons_of_mem _ (List.mem_filter.mpr ⟨zlv_mem.mpr ⟨j, w, e, by rw [Nat.zero_add]⟩, ?_⟩))
    have h1 : (j == i) = false := by simpa using hj
    have h3 : (j == i + 1) = false := by simpa using hj1
    simp only [h1, h3, Bool.not_false, Bool.true_and, Bool.not_eq_true', Bool.and_eq_false_iff]
    by_cases h2 : j + 1 = i
    · subst h2
      right
      simp only [zclr, e] at hc
      have : w.category = 1 := by simpa using hc
      simp [zcat, this]
    · left
      simpa using h2
end
section
theorem Zt.go {y : ZM} {Φ : Option Value → ZH → Prop} {rc rs pc q : Nat} {L : List (Option Value)} {S : List Value} {h : ZH} {S' : List Value} (k : Zt y Φ rc rs q L S' h) (hal : zalL h L → zalS h S → zalS h S') (st : ∀ (p : Program) (l : Launch) (e : Env) (R : Room) (s : State) (m : MethodId) (args : Array Value) (below : List Frame) (meth : Method) (c : Code) (H : Heap) (locs : List Loc) (cells slots : Nat) (Q : State → Prop) (ls : Array Slot) (tr : Nat → Nat), p.tables.exec = Jvm.exec → c.code = zm_c y → zLH tr (zm_n y) ls L → W p l e R s m args below meth c H locs cells slots Q (F0 m q ls (S'.map (ztr tr))) → W p l e R s m args below meth c H locs cells slots Q (F0 m pc ls (S.map (ztr tr)))) : Zt y Φ rc rs pc L S h :=
  fun l D dA b0 tr0 h0 p e s m args below meth c X tr H locs cells slots ls hH hE hS hL hF hl hc hs => st p l e (zrm y) s m args below meth c H locs cells slots _ ls tr X.1 X.2.1 hl (k l D dA b0 tr0 h0 p e s m args below meth c X tr H locs cells slots ls hH hE (hal hL hS) hL hF hl hc hs)
theorem Zt.br {y : ZM} {Φ : Option Value → ZH → Prop} {rc rs pc q : Nat} {L : List (Option Value)} {S : List Value} {h : ZH} {t : Nat} {A B : Prop} {S' : List Value} (kt : A → Zt y Φ rc rs t L S' h) (kf : B → Zt y Φ rc rs q L S' h) (hal : zalS h S → zalS h S') (st : ∀ (p : Program) (l : Launch) (e : Env) (R : Room) (s : State) (m : MethodId) (args : Array Value) (below : List Frame) (meth : Method) (c : Code) (H : Heap) (locs : List Loc) (cells slots : Nat) (Q : State → Prop) (ls : Array Slot) (tr : Nat → Nat), p.tables.exec = Jvm.exec → c.code = zm_c y → (A → W p l e R s m args below meth c H locs cells slots Q (F0 m t ls (S'.map (ztr tr)))) → (B → W p l e R s m args below meth c H locs cells slots Q (F0 m q ls (S'.map (ztr tr)))) → W p l e R s m args below meth c H locs cells slots Q (F0 m pc ls (S.map (ztr tr)))) : Zt y Φ rc rs pc L S h :=
  fun l D dA b0 tr0 h0 p e s m args below meth c X tr H locs cells slots ls hH hE hS hL hF hl hc hs => st p l e (zrm y) s m args below meth c H locs cells slots _ ls tr X.1 X.2.1 (fun a => kt a l D dA b0 tr0 h0 p e s m args below meth c X tr H locs cells slots ls hH hE (hal hS) hL hF hl hc hs) (fun a => kf a l D dA b0 tr0 h0 p e s m args below meth c X tr H locs cells slots ls hH hE (hal hS) hL hF hl hc hs)
/-- the locals written -/
theorem Zt.st {y : ZM} {Φ : Option Value → ZH → Prop} {rc rs pc q : Nat} {L : List (Option Value)} {S : List Value} {h : ZH} {L' : List (Option Value)} {S' : List Value} (k : Zt y Φ rc rs q L' S' h) (hal : zalL h L → zalS h S → zalL h L' ∧ zalS h S') (st : ∀ (p : Program) (l : Launch) (e : Env) (R : Room) (s : State) (m : MethodId) (args : Array Value) (below : List Frame) (meth : Method) (c : Code) (H : Heap) (locs : List Loc) (cells slots : Nat) (Q : State → Prop) (ls : Array Slot) (tr : Nat → Nat), p.tables.exec = Jvm.exec → c.code = zm_c y → zLH tr (zm_n y) ls L → (∀ ls1, zLH tr (zm_n y) ls1 L' → W p l e R s m args below meth c H locs cells slots Q (F0 m q ls1 (S'.map (ztr tr)))) → W p l e R s m args below meth c H locs cells slots Q (F0 m pc ls (S.map (ztr tr)))) : Zt y Φ rc rs pc L S h :=
  fun l D dA b0 tr0 h0 p e s m args below meth c X tr H locs cells slots ls hH hE hS hL hF hl hc hs => st p l e (zrm y) s m args below meth c H locs cells slots _ ls tr X.1 X.2.1 hl (fun ls1 hl1 => k l D dA b0 tr0 h0 p e s m args below meth c X tr H locs cells slots ls1 hH hE (hal hL hS).2 (hal hL hS).1 hF hl1 hc hs)
/-- fewer locals -/
theorem Zt.sub {y : ZM} {Φ : Option Value → ZH → Prop} {rc rs pc : Nat} {L : List (Option Value)} {S : List Value} {h : ZH} {L' : List (Option Value)} (hs : ∀ (i : Nat) (v : Value), L'[i]? = some (some v) → L[i]? = some (some v)) (k : Zt y Φ rc rs pc L' S h) : Zt y Φ rc rs pc L S h :=
  fun l D dA b0 tr0 h0 p e s m args below meth c X tr H locs cells slots ls hH hE hS hL hF hl hc hs' => k l D dA b0 tr0 h0 p e s m args below meth c X tr H locs cells slots ls hH hE hS (zalL_sub fun i v e => zalL_at hL (hs i v e)) hF ⟨hl.1, hl.2.1, fun i v e => hl.2.2 i v (hs i v e)⟩ hc hs'
/-- the place i is forgotten -/
theorem Zt.drop {y : ZM} {Φ : Option Value → ZH → Prop} {rc rs pc : Nat} {L : List (Option Value)} {S : List Value} {h : ZH} {i : Nat} {L' : List (Option Value)} (hL : L.set i none = L') (k : Zt y Φ rc rs pc L' S h) : Zt y Φ rc rs pc L S h := by
  subst hL
  refine Zt.sub (fun j v e => ?_) k
  rw [List.getElem?_set] at e
  split at e
  · split at e <;> cases e
  · exact e
theorem Zt.room {y : ZM} {Φ : Option Value → ZH → Prop} {rc rs pc : Nat} {L : List (Option Value)} {S : List Value} {h : ZH} {rc' rs' : Nat} (h1 : rc' ≤ rc) (h2 : rs' ≤ rs) (k : Zt y Φ rc' rs' pc L S h) : Zt y Φ rc rs pc L S h :=
  fun l D dA b0 tr0 h0 p e s m args below meth c X tr H locs cells slots ls hH hE hS hL hF hl hc hs => k l D dA b0 tr0 h0 p e s m args below meth c X tr H locs cells slots ls hH hE hS hL hF hl (by omega) (by omega)
theorem z_iconst {y : ZM} {Φ : Option Value → ZH → Prop} {rc rs pc q : Nat} {L : List (Option Value)} {S : List Value} {h : ZH} {n : Int} {v : Int32} (hd : decode (zm_c y) pc = .ok (.iconst n, 1)) (hv : Int32.ofInt n = v) (hq : pc + 1 = q) (k : Zt y Φ rc rs q L (.int v :: S) h) : Zt y Φ rc rs pc L (S) h := by
  subst hq
  exact Zt.go k (fun hl hs => ⟨trivial, hs⟩) (fun _ _ _ _ _ _ _ _ _ _ _ _ _ _ _ _ _ hx hb hl w => lv_iconst hx hb hd hv w)
theorem z_bipush {y : ZM} {Φ : Option Value → ZH → Prop} {rc rs pc q : Nat} {L : List (Option Value)} {S : List Value} {h : ZH} {n : Int} {v : Int32} (hd : decode (zm_c y) pc = .ok (.bipush n, 2)) (hv : (Int8.ofInt n).toInt32 = v) (hq : pc + 2 = q) (k : Zt y Φ rc rs q L (.int v :: S) h) : Zt y Φ rc rs pc L (S) h := by
  subst hq
  exact Zt.go k (fun hl hs => ⟨trivial, hs⟩) (fun _ _ _ _ _ _ _ _ _ _ _ _ _ _ _ _ _ hx hb hl w => lv_bipush hx hb hd hv w)
theorem z_sipush {y : ZM} {Φ : Option Value → ZH → Prop} {rc rs pc q : Nat} {L : List (Option Value)} {S : List Value} {h : ZH} {n : Int} {v : Int32} (hd : decode (zm_c y) pc = .ok (.sipush n, 3)) (hv : (Int16.ofInt n).toInt32 = v) (hq : pc + 3 = q) (k : Zt y Φ rc rs q L (.int v :: S) h) : Zt y Φ rc rs pc L (S) h := by
  subst hq
  exact Zt.go k (fun hl hs => ⟨trivial, hs⟩) (fun _ _ _ _ _ _ _ _ _ _ _ _ _ _ _ _ _ hx hb hl w => lv_sipush hx hb hd hv w)
theorem z_lconst {y : ZM} {Φ : Option Value → ZH → Prop} {rc rs pc q : Nat} {L : List (Option Value)} {S : List Value} {h : ZH} {n : Fin 2} {v : Int64} (hd : decode (zm_c y) pc = .ok (.lconst n, 1)) (hv : Int64.ofNat (n : Nat) = v) (hq : pc + 1 = q) (k : Zt y Φ rc rs q L (.long v :: S) h) : Zt y Φ rc rs pc L (S) h := by
  subst hq
  exact Zt.go k (fun hl hs => ⟨trivial, hs⟩) (fun _ _ _ _ _ _ _ _ _ _ _ _ _ _ _ _ _ hx hb hl w => lv_lconst hx hb hd hv w)
theorem z_iload_n {y : ZM} {Φ : Option Value → ZH → Prop} {rc rs pc q : Nat} {L : List (Option Value)} {S : List Value} {h : ZH} {k : Fin 4} {i : Nat} {x : Int32} (hd : decode (zm_c y) pc = .ok (.iload_n k, 1)) (hi : (k : Nat) = i) (he : L[i]? = some (some (.int x))) (hq : pc + 1 = q) (k : Zt y Φ rc rs q L (.int x :: S) h) : Zt y Φ rc rs pc L (S) h := by
  subst hq
  exact Zt.go k (fun hl hs => ⟨trivial, hs⟩) (fun _ _ _ _ _ _ _ _ _ _ _ _ _ _ _ _ _ hx hb hl w => lv_iload_n hx hb hd hi (hl.2.2 _ _ he) w)
theorem z_iload {y : ZM} {Φ : Option Value → ZH → Prop} {rc rs pc q : Nat} {L : List (Option Value)} {S : List Value} {h : ZH} {i : Nat} {x : Int32} (hd : decode (zm_c y) pc = .ok (.iload i, 2)) (he : L[i]? = some (some (.int x))) (hq : pc + 2 = q) (k : Zt y Φ rc rs q L (.int x :: S) h) : Zt y Φ rc rs pc L (S) h := by
  subst hq
  exact Zt.go k (fun hl hs => ⟨trivial, hs⟩) (fun _ _ _ _ _ _ _ _ _ _ _ _ _ _ _ _ _ hx hb hl w => lv_iload hx hb hd (hl.2.2 _ _ he) w)
theorem z_lload_n {y : ZM} {Φ : Option Value → ZH → Prop} {rc rs pc q : Nat} {L : List (Option Value)} {S : List Value} {h : ZH} {k : Fin 4} {i : Nat} {x : Int64} (hd : decode (zm_c y) pc = .ok (.lload_n k, 1)) (hi : (k : Nat) = i) (he : L[i]? = some (some (.long x))) (hq : pc + 1 = q) (k : Zt y Φ rc rs q L (.long x :: S) h) : Zt y Φ rc rs pc L (S) h := by
  subst hq
  exact Zt.go k (fun hl hs => ⟨trivial, hs⟩) (fun _ _ _ _ _ _ _ _ _ _ _ _ _ _ _ _ _ hx hb hl w => lv_lload_n hx hb hd hi (hl.2.2 _ _ he) w)
theorem z_lload {y : ZM} {Φ : Option Value → ZH → Prop} {rc rs pc q : Nat} {L : List (Option Value)} {S : List Value} {h : ZH} {i : Nat} {x : Int64} (hd : decode (zm_c y) pc = .ok (.lload i, 2)) (he : L[i]? = some (some (.long x))) (hq : pc + 2 = q) (k : Zt y Φ rc rs q L (.long x :: S) h) : Zt y Φ rc rs pc L (S) h := by
  subst hq
  exact Zt.go k (fun hl hs => ⟨trivial, hs⟩) (fun _ _ _ _ _ _ _ _ _ _ _ _ _ _ _ _ _ hx hb hl w => lv_lload hx hb hd (hl.2.2 _ _ he) w)
theorem z_aload_n {y : ZM} {Φ : Option Value → ZH → Prop} {rc rs pc q : Nat} {L : List (Option Value)} {S : List Value} {h : ZH} {k : Fin 4} {i : Nat} {x : Nat} (hd : decode (zm_c y) pc = .ok (.aload_n k, 1)) (hi : (k : Nat) = i) (he : L[i]? = some (some (.ref x))) (hq : pc + 1 = q) (k : Zt y Φ rc rs q L (.ref x :: S) h) : Zt y Φ rc rs pc L (S) h := by
  subst hq
  exact Zt.go k (fun hl hs => ⟨zalL_at hl he, hs⟩) (fun _ _ _ _ _ _ _ _ _ _ _ _ _ _ _ _ _ hx hb hl w => lv_aload_n hx hb hd hi (hl.2.2 _ _ he) w)
theorem z_aload {y : ZM} {Φ : Option Value → ZH → Prop} {rc rs pc q : Nat} {L : List (Option Value)} {S : List Value} {h : ZH} {i : Nat} {x : Nat} (hd : decode (zm_c y) pc = .ok (.aload i, 2)) (he : L[i]? = some (some (.ref x))) (hq : pc + 2 = q) (k : Zt y Φ rc rs q L (.ref x :: S) h) : Zt y Φ rc rs pc L (S) h := by
  subst hq
  exact Zt.go k (fun hl hs => ⟨zalL_at hl he, hs⟩) (fun _ _ _ _ _ _ _ _ _ _ _ _ _ _ _ _ _ hx hb hl w => lv_aload hx hb hd (hl.2.2 _ _ he) w)
theorem z_iadd {y : ZM} {Φ : Option Value → ZH → Prop} {rc rs pc q : Nat} {L : List (Option Value)} {S : List Value} {h : ZH} {a b : Int32} (hd : decode (zm_c y) pc = .ok (.iadd, 1)) (hq : pc + 1 = q) (k : Zt y Φ rc rs q L (.int (a + b) :: S) h) : Zt y Φ rc rs pc L (.int b :: .int a :: S) h := by
  subst hq
  exact Zt.go k (fun hl hs => ⟨trivial, hs.2.2⟩) (fun _ _ _ _ _ _ _ _ _ _ _ _ _ _ _ _ _ hx hb hl w => lv_iadd hx hb hd w)
theorem z_isub {y : ZM} {Φ : Option Value → ZH → Prop} {rc rs pc q : Nat} {L : List (Option Value)} {S : List Value} {h : ZH} {a b : Int32} (hd : decode (zm_c y) pc = .ok (.isub, 1)) (hq : pc + 1 = q) (k : Zt y Φ rc rs q L (.int (a - b) :: S) h) : Zt y Φ rc rs pc L (.int b :: .int a :: S) h := by
  subst hq
  exact Zt.go k (fun hl hs => ⟨trivial, hs.2.2⟩) (fun _ _ _ _ _ _ _ _ _ _ _ _ _ _ _ _ _ hx hb hl w => lv_isub hx hb hd w)
theorem z_imul {y : ZM} {Φ : Option Value → ZH → Prop} {rc rs pc q : Nat} {L : List (Option Value)} {S : List Value} {h : ZH} {a b : Int32} (hd : decode (zm_c y) pc = .ok (.imul, 1)) (hq : pc + 1 = q) (k : Zt y Φ rc rs q L (.int (a * b) :: S) h) : Zt y Φ rc rs pc L (.int b :: .int a :: S) h := by
  subst hq
  exact Zt.go k (fun hl hs => ⟨trivial, hs.2.2⟩) (fun _ _ _ _ _ _ _ _ _ _ _ _ _ _ _ _ _ hx hb hl w => lv_imul hx hb hd w)
theorem z_iand {y : ZM} {Φ : Option Value → ZH → Prop} {rc rs pc q : Nat} {L : List (Option Value)} {S : List Value} {h : ZH} {a b : Int32} (hd : decode (zm_c y) pc = .ok (.iand, 1)) (hq : pc + 1 = q) (k : Zt y Φ rc rs q L (.int (a &&& b) :: S) h) : Zt y Φ rc rs pc L (.int b :: .int a :: S) h := by
  subst hq
  exact Zt.go k (fun hl hs => ⟨trivial, hs.2.2⟩) (fun _ _ _ _ _ _ _ _ _ _ _ _ _ _ _ _ _ hx hb hl w => lv_iand hx hb hd w)
theorem z_ior {y : ZM} {Φ : Option Value → ZH → Prop} {rc rs pc q : Nat} {L : List (Option Value)} {S : List Value} {h : ZH} {a b : Int32} (hd : decode (zm_c y) pc = .ok (.ior, 1)) (hq : pc + 1 = q) (k : Zt y Φ rc rs q L (.int (a ||| b) :: S) h) : Zt y Φ rc rs pc L (.int b :: .int a :: S) h := by
  subst hq
  exact Zt.go k (fun hl hs => ⟨trivial, hs.2.2⟩) (fun _ _ _ _ _ _ _ _ _ _ _ _ _ _ _ _ _ hx hb hl w => lv_ior hx hb hd w)
theorem z_idiv {y : ZM} {Φ : Option Value → ZH → Prop} {rc rs pc q : Nat} {L : List (Option Value)} {S : List Value} {h : ZH} {a b : Int32} (hd : decode (zm_c y) pc = .ok (.idiv, 1)) (hn : ¬ b = 0) (hq : pc + 1 = q) (k : Zt y Φ rc rs q L (.int (a / b) :: S) h) : Zt y Φ rc rs pc L (.int b :: .int a :: S) h := by
  subst hq
  exact Zt.go k (fun hl hs => ⟨trivial, hs.2.2⟩) (fun _ _ _ _ _ _ _ _ _ _ _ _ _ _ _ _ _ hx hb hl w => lv_idiv hx hb hd hn w)
theorem z_irem {y : ZM} {Φ : Option Value → ZH → Prop} {rc rs pc q : Nat} {L : List (Option Value)} {S : List Value} {h : ZH} {a b : Int32} (hd : decode (zm_c y) pc = .ok (.irem, 1)) (hn : ¬ b = 0) (hq : pc + 1 = q) (k : Zt y Φ rc rs q L (.int (a - a / b * b) :: S) h) : Zt y Φ rc rs pc L (.int b :: .int a :: S) h := by
  subst hq
  exact Zt.go k (fun hl hs => ⟨trivial, hs.2.2⟩) (fun _ _ _ _ _ _ _ _ _ _ _ _ _ _ _ _ _ hx hb hl w => lv_irem hx hb hd hn w)
theorem z_ishl {y : ZM} {Φ : Option Value → ZH → Prop} {rc rs pc q : Nat} {L : List (Option Value)} {S : List Value} {h : ZH} {a b : Int32} (hd : decode (zm_c y) pc = .ok (.ishl, 1)) (hq : pc + 1 = q) (k : Zt y Φ rc rs q L (.int (a <<< (b &&& 31)) :: S) h) : Zt y Φ rc rs pc L (.int b :: .int a :: S) h := by
  subst hq
  exact Zt.go k (fun hl hs => ⟨trivial, hs.2.2⟩) (fun _ _ _ _ _ _ _ _ _ _ _ _ _ _ _ _ _ hx hb hl w => lv_ishl hx hb hd w)
theorem z_ishr {y : ZM} {Φ : Option Value → ZH → Prop} {rc rs pc q : Nat} {L : List (Option Value)} {S : List Value} {h : ZH} {a b : Int32} (hd : decode (zm_c y) pc = .ok (.ishr, 1)) (hq : pc + 1 = q) (k : Zt y Φ rc rs q L (.int (a >>> (b &&& 31)) :: S) h) : Zt y Φ rc rs pc L (.int b :: .int a :: S) h := by
  subst hq
  exact Zt.go k (fun hl hs => ⟨trivial, hs.2.2⟩) (fun _ _ _ _ _ _ _ _ _ _ _ _ _ _ _ _ _ hx hb hl w => lv_ishr hx hb hd w)
theorem z_iushr {y : ZM} {Φ : Option Value → ZH → Prop} {rc rs pc q : Nat} {L : List (Option Value)} {S : List Value} {h : ZH} {a b : Int32} (hd : decode (zm_c y) pc = .ok (.iushr, 1)) (hq : pc + 1 = q) (k : Zt y Φ rc rs q L (.int (a.toUInt32 >>> (b.toUInt32 &&& Int32.toUInt32 31)).toInt32 :: S) h) : Zt y Φ rc rs pc L (.int b :: .int a :: S) h := by
  subst hq
  exact Zt.go k (fun hl hs => ⟨trivial, hs.2.2⟩) (fun _ _ _ _ _ _ _ _ _ _ _ _ _ _ _ _ _ hx hb hl w => lv_iushr hx hb hd rfl w)
theorem z_ineg {y : ZM} {Φ : Option Value → ZH → Prop} {rc rs pc q : Nat} {L : List (Option Value)} {S : List Value} {h : ZH} {a : Int32} (hd : decode (zm_c y) pc = .ok (.ineg, 1)) (hq : pc + 1 = q) (k : Zt y Φ rc rs q L (.int (-a) :: S) h) : Zt y Φ rc rs pc L (.int a :: S) h := by
  subst hq
  exact Zt.go k (fun hl hs => ⟨trivial, hs.2⟩) (fun _ _ _ _ _ _ _ _ _ _ _ _ _ _ _ _ _ hx hb hl w => lv_ineg hx hb hd w)
theorem z_ladd {y : ZM} {Φ : Option Value → ZH → Prop} {rc rs pc q : Nat} {L : List (Option Value)} {S : List Value} {h : ZH} {a b : Int64} (hd : decode (zm_c y) pc = .ok (.ladd, 1)) (hq : pc + 1 = q) (k : Zt y Φ rc rs q L (.long (a + b) :: S) h) : Zt y Φ rc rs pc L (.long b :: .long a :: S) h := by
  subst hq
  exact Zt.go k (fun hl hs => ⟨trivial, hs.2.2⟩) (fun _ _ _ _ _ _ _ _ _ _ _ _ _ _ _ _ _ hx hb hl w => lv_ladd hx hb hd w)
theorem z_lsub {y : ZM} {Φ : Option Value → ZH → Prop} {rc rs pc q : Nat} {L : List (Option Value)} {S : List Value} {h : ZH} {a b : Int64} (hd : decode (zm_c y) pc = .ok (.lsub, 1)) (hq : pc + 1 = q) (k : Zt y Φ rc rs q L (.long (a - b) :: S) h) : Zt y Φ rc rs pc L (.long b :: .long a :: S) h := by
  subst hq
  exact Zt.go k (fun hl hs => ⟨trivial, hs.2.2⟩) (fun _ _ _ _ _ _ _ _ _ _ _ _ _ _ _ _ _ hx hb hl w => lv_lsub hx hb hd w)
theorem z_lmul {y : ZM} {Φ : Option Value → ZH → Prop} {rc rs pc q : Nat} {L : List (Option Value)} {S : List Value} {h : ZH} {a b : Int64} (hd : decode (zm_c y) pc = .ok (.lmul, 1)) (hq : pc + 1 = q) (k : Zt y Φ rc rs q L (.long (a * b) :: S) h) : Zt y Φ rc rs pc L (.long b :: .long a :: S) h := by
  subst hq
  exact Zt.go k (fun hl hs => ⟨trivial, hs.2.2⟩) (fun _ _ _ _ _ _ _ _ _ _ _ _ _ _ _ _ _ hx hb hl w => lv_lmul hx hb hd w)
theorem z_ldiv {y : ZM} {Φ : Option Value → ZH → Prop} {rc rs pc q : Nat} {L : List (Option Value)} {S : List Value} {h : ZH} {a b : Int64} (hd : decode (zm_c y) pc = .ok (.ldiv, 1)) (hn : ¬ b = 0) (hq : pc + 1 = q) (k : Zt y Φ rc rs q L (.long (a / b) :: S) h) : Zt y Φ rc rs pc L (.long b :: .long a :: S) h := by
  subst hq
  exact Zt.go k (fun hl hs => ⟨trivial, hs.2.2⟩) (fun _ _ _ _ _ _ _ _ _ _ _ _ _ _ _ _ _ hx hb hl w => lv_ldiv hx hb hd hn w)
theorem z_lcmp {y : ZM} {Φ : Option Value → ZH → Prop} {rc rs pc q : Nat} {L : List (Option Value)} {S : List Value} {h : ZH} {a b : Int64} (hd : decode (zm_c y) pc = .ok (.lcmp, 1)) (hq : pc + 1 = q) (k : Zt y Φ rc rs q L (.int (lg_cmp a b) :: S) h) : Zt y Φ rc rs pc L (.long b :: .long a :: S) h := by
  subst hq
  exact Zt.go k (fun hl hs => ⟨trivial, hs.2.2⟩) (fun _ _ _ _ _ _ _ _ _ _ _ _ _ _ _ _ _ hx hb hl w => W.lcmp hx hb hd w)
theorem z_i2l {y : ZM} {Φ : Option Value → ZH → Prop} {rc rs pc q : Nat} {L : List (Option Value)} {S : List Value} {h : ZH} {a : Int32} (hd : decode (zm_c y) pc = .ok (.i2l, 1)) (hq : pc + 1 = q) (k : Zt y Φ rc rs q L (.long a.toInt64 :: S) h) : Zt y Φ rc rs pc L (.int a :: S) h := by
  subst hq
  exact Zt.go k (fun hl hs => ⟨trivial, hs.2⟩) (fun _ _ _ _ _ _ _ _ _ _ _ _ _ _ _ _ _ hx hb hl w => lv_i2l hx hb hd rfl w)
theorem z_l2i {y : ZM} {Φ : Option Value → ZH → Prop} {rc rs pc q : Nat} {L : List (Option Value)} {S : List Value} {h : ZH} {a : Int64} (hd : decode (zm_c y) pc = .ok (.l2i, 1)) (hq : pc + 1 = q) (k : Zt y Φ rc rs q L (.int a.toInt32 :: S) h) : Zt y Φ rc rs pc L (.long a :: S) h := by
  subst hq
  exact Zt.go k (fun hl hs => ⟨trivial, hs.2⟩) (fun _ _ _ _ _ _ _ _ _ _ _ _ _ _ _ _ _ hx hb hl w => lv_l2i hx hb hd rfl w)
theorem z_dup {y : ZM} {Φ : Option Value → ZH → Prop} {rc rs pc q : Nat} {L : List (Option Value)} {S : List Value} {h : ZH} {v : Value} (hd : decode (zm_c y) pc = .ok (.dup, 1)) (hv : v.category = 1) (hq : pc + 1 = q) (k : Zt y Φ rc rs q L (v :: v :: S) h) : Zt y Φ rc rs pc L (v :: S) h := by
  subst hq
  exact Zt.go k (fun hl hs => ⟨hs.1, hs⟩) (fun _ _ _ _ _ _ _ _ _ _ _ _ _ _ _ _ _ hx hb hl w => lv_dup hx hb hd ((zcat _ v).trans hv) w)
theorem z_pop {y : ZM} {Φ : Option Value → ZH → Prop} {rc rs pc q : Nat} {L : List (Option Value)} {S : List Value} {h : ZH} {v : Value} (hd : decode (zm_c y) pc = .ok (.pop, 1)) (hv : v.category = 1) (hq : pc + 1 = q) (k : Zt y Φ rc rs q L (S) h) : Zt y Φ rc rs pc L (v :: S) h := by
  subst hq
  exact Zt.go k (fun hl hs => hs.2) (fun _ _ _ _ _ _ _ _ _ _ _ _ _ _ _ _ _ hx hb hl w => lv_pop hx hb hd ((zcat _ v).trans hv) w)
theorem z_dup_x1 {y : ZM} {Φ : Option Value → ZH → Prop} {rc rs pc q : Nat} {L : List (Option Value)} {S : List Value} {h : ZH} {v u : Value} (hd : decode (zm_c y) pc = .ok (.dup_x1, 1)) (hv : v.category = 1) (hu : u.category = 1) (hq : pc + 1 = q) (k : Zt y Φ rc rs q L (v :: u :: v :: S) h) : Zt y Φ rc rs pc L (v :: u :: S) h := by
  subst hq
  exact Zt.go k (fun hl hs => ⟨hs.1, hs.2.1, hs.1, hs.2.2⟩) (fun _ _ _ _ _ _ _ _ _ _ _ _ _ _ _ _ _ hx hb hl w => lv_dup_x1 hx hb hd ((zcat _ v).trans hv) ((zcat _ u).trans hu) w)
theorem z_dup2 {y : ZM} {Φ : Option Value → ZH → Prop} {rc rs pc q : Nat} {L : List (Option Value)} {S : List Value} {h : ZH} {v u : Value} (hd : decode (zm_c y) pc = .ok (.dup2, 1)) (hv : v.category = 1) (hu : u.category = 1) (hq : pc + 1 = q) (k : Zt y Φ rc rs q L (v :: u :: v :: u :: S) h) : Zt y Φ rc rs pc L (v :: u :: S) h := by
  subst hq
  exact Zt.go k (fun hl hs => ⟨hs.1, hs.2.1, hs⟩) (fun _ _ _ _ _ _ _ _ _ _ _ _ _ _ _ _ _ hx hb hl w => lv_dup2_11 hx hb hd ((zcat _ v).trans hv) ((zcat _ u).trans hu) w)
theorem z_goto {y : ZM} {Φ : Option Value → ZH → Prop} {rc rs pc q : Nat} {L : List (Option Value)} {S : List Value} {h : ZH} {off : Int} (hd : decode (zm_c y) pc = .ok (.goto off, 3)) (ht : (pc : Int) + off = (q : Int)) (k : Zt y Φ rc rs q L S h) : Zt y Φ rc rs pc L S h := Zt.go k (fun _ hs => hs) (fun _ _ _ _ _ _ _ _ _ _ _ _ _ _ _ _ _ hx hb hl w => lv_goto hx hb hd ht w)
theorem z_if_eq {y : ZM} {Φ : Option Value → ZH → Prop} {rc rs pc q : Nat} {L : List (Option Value)} {S : List Value} {h : ZH} {a : Int32} {off : Int} {t : Nat} (hd : decode (zm_c y) pc = .ok (.ifCond .eq off, 3)) (ht : (pc : Int) + off = (t : Int)) (hq : pc + 3 = q) (kt : a = 0 → Zt y Φ rc rs t L S h) (kf : ¬ a = 0 → Zt y Φ rc rs q L S h) : Zt y Φ rc rs pc L (.int a :: S) h := by
  subst hq
  exact Zt.br kt kf (fun hs => hs.2) (fun _ _ _ _ _ _ _ _ _ _ _ _ _ _ _ _ _ hx hb w1 w2 => lv_if_eq hx hb hd ht w1 w2)
theorem z_if_ne {y : ZM} {Φ : Option Value → ZH → Prop} {rc rs pc q : Nat} {L : List (Option Value)} {S : List Value} {h : ZH} {a : Int32} {off : Int} {t : Nat} (hd : decode (zm_c y) pc = .ok (.ifCond .ne off, 3)) (ht : (pc : Int) + off = (t : Int)) (hq : pc + 3 = q) (kt : ¬ a = 0 → Zt y Φ rc rs t L S h) (kf : a = 0 → Zt y Φ rc rs q L S h) : Zt y Φ rc rs pc L (.int a :: S) h := by
  subst hq
  exact Zt.br kt kf (fun hs => hs.2) (fun _ _ _ _ _ _ _ _ _ _ _ _ _ _ _ _ _ hx hb w1 w2 => lv_if_ne hx hb hd ht w1 w2)
theorem z_if_lt {y : ZM} {Φ : Option Value → ZH → Prop} {rc rs pc q : Nat} {L : List (Option Value)} {S : List Value} {h : ZH} {a : Int32} {off : Int} {t : Nat} (hd : decode (zm_c y) pc = .ok (.ifCond .lt off, 3)) (ht : (pc : Int) + off = (t : Int)) (hq : pc + 3 = q) (kt : a < 0 → Zt y Φ rc rs t L S h) (kf : ¬ a < 0 → Zt y Φ rc rs q L S h) : Zt y Φ rc rs pc L (.int a :: S) h := by
  subst hq
  exact Zt.br kt kf (fun hs => hs.2) (fun _ _ _ _ _ _ _ _ _ _ _ _ _ _ _ _ _ hx hb w1 w2 => lv_if_lt hx hb hd ht w1 w2)
theorem z_if_ge {y : ZM} {Φ : Option Value → ZH → Prop} {rc rs pc q : Nat} {L : List (Option Value)} {S : List Value} {h : ZH} {a : Int32} {off : Int} {t : Nat} (hd : decode (zm_c y) pc = .ok (.ifCond .ge off, 3)) (ht : (pc : Int) + off = (t : Int)) (hq : pc + 3 = q) (kt : 0 ≤ a → Zt y Φ rc rs t L S h) (kf : ¬ 0 ≤ a → Zt y Φ rc rs q L S h) : Zt y Φ rc rs pc L (.int a :: S) h := by
  subst hq
  exact Zt.br kt kf (fun hs => hs.2) (fun _ _ _ _ _ _ _ _ _ _ _ _ _ _ _ _ _ hx hb w1 w2 => lv_if_ge hx hb hd ht w1 w2)
theorem z_if_gt {y : ZM} {Φ : Option Value → ZH → Prop} {rc rs pc q : Nat} {L : List (Option Value)} {S : List Value} {h : ZH} {a : Int32} {off : Int} {t : Nat} (hd : decode (zm_c y) pc = .ok (.ifCond .gt off, 3)) (ht : (pc : Int) + off = (t : Int)) (hq : pc + 3 = q) (kt : 0 < a → Zt y Φ rc rs t L S h) (kf : ¬ 0 < a → Zt y Φ rc rs q L S h) : Zt y Φ rc rs pc L (.int a :: S) h := by
  subst hq
  exact Zt.br kt kf (fun hs => hs.2) (fun _ _ _ _ _ _ _ _ _ _ _ _ _ _ _ _ _ hx hb w1 w2 => lv_if_gt hx hb hd ht w1 w2)
theorem z_if_le {y : ZM} {Φ : Option Value → ZH → Prop} {rc rs pc q : Nat} {L : List (Option Value)} {S : List Value} {h : ZH} {a : Int32} {off : Int} {t : Nat} (hd : decode (zm_c y) pc = .ok (.ifCond .le off, 3)) (ht : (pc : Int) + off = (t : Int)) (hq : pc + 3 = q) (kt : a ≤ 0 → Zt y Φ rc rs t L S h) (kf : ¬ a ≤ 0 → Zt y Φ rc rs q L S h) : Zt y Φ rc rs pc L (.int a :: S) h := by
  subst hq
  exact Zt.br kt kf (fun hs => hs.2) (fun _ _ _ _ _ _ _ _ _ _ _ _ _ _ _ _ _ hx hb w1 w2 => lv_if_le hx hb hd ht w1 w2)
theorem z_icmp_eq {y : ZM} {Φ : Option Value → ZH → Prop} {rc rs pc q : Nat} {L : List (Option Value)} {S : List Value} {h : ZH} {a b : Int32} {off : Int} {t : Nat} (hd : decode (zm_c y) pc = .ok (.if_icmp .eq off, 3)) (ht : (pc : Int) + off = (t : Int)) (hq : pc + 3 = q) (kt : a = b → Zt y Φ rc rs t L S h) (kf : ¬ a = b → Zt y Φ rc rs q L S h) : Zt y Φ rc rs pc L (.int b :: .int a :: S) h := by
  subst hq
  exact Zt.br kt kf (fun hs => hs.2.2) (fun _ _ _ _ _ _ _ _ _ _ _ _ _ _ _ _ _ hx hb w1 w2 => lv_icmp_eq hx hb hd ht w1 w2)
theorem z_icmp_ne {y : ZM} {Φ : Option Value → ZH → Prop} {rc rs pc q : Nat} {L : List (Option Value)} {S : List Value} {h : ZH} {a b : Int32} {off : Int} {t : Nat} (hd : decode (zm_c y) pc = .ok (.if_icmp .ne off, 3)) (ht : (pc : Int) + off = (t : Int)) (hq : pc + 3 = q) (kt : ¬ a = b → Zt y Φ rc rs t L S h) (kf : a = b → Zt y Φ rc rs q L S h) : Zt y Φ rc rs pc L (.int b :: .int a :: S) h := by
  subst hq
  exact Zt.br kt kf (fun hs => hs.2.2) (fun _ _ _ _ _ _ _ _ _ _ _ _ _ _ _ _ _ hx hb w1 w2 => lv_icmp_ne hx hb hd ht w1 w2)
theorem z_icmp_lt {y : ZM} {Φ : Option Value → ZH → Prop} {rc rs pc q : Nat} {L : List (Option Value)} {S : List Value} {h : ZH} {a b : Int32} {off : Int} {t : Nat} (hd : decode (zm_c y) pc = .ok (.if_icmp .lt off, 3)) (ht : (pc : Int) + off = (t : Int)) (hq : pc + 3 = q) (kt : a < b → Zt y Φ rc rs t L S h) (kf : ¬ a < b → Zt y Φ rc rs q L S h) : Zt y Φ rc rs pc L (.int b :: .int a :: S) h := by
  subst hq
  exact Zt.br kt kf (fun hs => hs.2.2) (fun _ _ _ _ _ _ _ _ _ _ _ _ _ _ _ _ _ hx hb w1 w2 => lv_icmp_lt hx hb hd ht w1 w2)
theorem z_icmp_ge {y : ZM} {Φ : Option Value → ZH → Prop} {rc rs pc q : Nat} {L : List (Option Value)} {S : List Value} {h : ZH} {a b : Int32} {off : Int} {t : Nat} (hd : decode (zm_c y) pc = .ok (.if_icmp .ge off, 3)) (ht : (pc : Int) + off = (t : Int)) (hq : pc + 3 = q) (kt : b ≤ a → Zt y Φ rc rs t L S h) (kf : ¬ b ≤ a → Zt y Φ rc rs q L S h) : Zt y Φ rc rs pc L (.int b :: .int a :: S) h := by
  subst hq
  exact Zt.br kt kf (fun hs => hs.2.2) (fun _ _ _ _ _ _ _ _ _ _ _ _ _ _ _ _ _ hx hb w1 w2 => lv_icmp_ge hx hb hd ht w1 w2)
theorem z_icmp_gt {y : ZM} {Φ : Option Value → ZH → Prop} {rc rs pc q : Nat} {L : List (Option Value)} {S : List Value} {h : ZH} {a b : Int32} {off : Int} {t : Nat} (hd : decode (zm_c y) pc = .ok (.if_icmp .gt off, 3)) (ht : (pc : Int) + off = (t : Int)) (hq : pc + 3 = q) (kt : b < a → Zt y Φ rc rs t L S h) (kf : ¬ b < a → Zt y Φ rc rs q L S h) : Zt y Φ rc rs pc L (.int b :: .int a :: S) h := by
  subst hq
  exact Zt.br kt kf (fun hs => hs.2.2) (fun _ _ _ _ _ _ _ _ _ _ _ _ _ _ _ _ _ hx hb w1 w2 => lv_icmp_gt hx hb hd ht w1 w2)
theorem z_icmp_le {y : ZM} {Φ : Option Value → ZH → Prop} {rc rs pc q : Nat} {L : List (Option Value)} {S : List Value} {h : ZH} {a b : Int32} {off : Int} {t : Nat} (hd : decode (zm_c y) pc = .ok (.if_icmp .le off, 3)) (ht : (pc : Int) + off = (t : Int)) (hq : pc + 3 = q) (kt : a ≤ b → Zt y Φ rc rs t L S h) (kf : ¬ a ≤ b → Zt y Φ rc rs q L S h) : Zt y Φ rc rs pc L (.int b :: .int a :: S) h := by
  subst hq
  exact Zt.br kt kf (fun hs => hs.2.2) (fun _ _ _ _ _ _ _ _ _ _ _ _ _ _ _ _ _ hx hb w1 w2 => lv_icmp_le hx hb hd ht w1 w2)
theorem z_istore_n {y : ZM} {Φ : Option Value → ZH → Prop} {rc rs pc q : Nat} {L : List (Option Value)} {S : List Value} {h : ZH} {L' : List (Option Value)} {k : Fin 4} {i : Nat} {x : Int32} (hd : decode (zm_c y) pc = .ok (.istore_n k, 1)) (hi : (k : Nat) = i) (hn : i < zm_n y) (hc : zclr L i = true) (hL : L.set i (some (.int x)) = L') (hq : pc + 1 = q) (k : Zt y Φ rc rs q L' S h) : Zt y Φ rc rs pc L (.int x :: S) h := by
  subst hq
  subst hL
  exact Zt.st k (fun hl hs => ⟨zalL_set hl hs.1, hs.2⟩) (fun _ _ _ _ _ _ _ _ _ _ _ _ _ _ _ _ _ hx hb hl w => lv_istore_n hx hb hd hi (zLH_has hl) hn rfl (fun ls1 h1 => w ls1 (zst1 hc h1)))
theorem z_istore {y : ZM} {Φ : Option Value → ZH → Prop} {rc rs pc q : Nat} {L : List (Option Value)} {S : List Value} {h : ZH} {L' : List (Option Value)} {i : Nat} {x : Int32} (hd : decode (zm_c y) pc = .ok (.istore i, 2)) (hn : i < zm_n y) (hc : zclr L i = true) (hL : L.set i (some (.int x)) = L') (hq : pc + 2 = q) (k : Zt y Φ rc rs q L' S h) : Zt y Φ rc rs pc L (.int x :: S) h := by
  subst hq
  subst hL
  exact Zt.st k (fun hl hs => ⟨zalL_set hl hs.1, hs.2⟩) (fun _ _ _ _ _ _ _ _ _ _ _ _ _ _ _ _ _ hx hb hl w => lv_istore hx hb hd (zLH_has hl) hn rfl (fun ls1 h1 => w ls1 (zst1 hc h1)))
theorem z_lstore_n {y : ZM} {Φ : Option Value → ZH → Prop} {rc rs pc q : Nat} {L : List (Option Value)} {S : List Value} {h : ZH} {L' : List (Option Value)} {k : Fin 4} {i : Nat} {x : Int64} (hd : decode (zm_c y) pc = .ok (.lstore_n k, 1)) (hi : (k : Nat) = i) (hn : i + 1 < zm_n y) (hc : zclr L i = true) (hz : L[i + 1]? = some none) (hL : L.set i (some (.long x)) = L') (hq : pc + 1 = q) (k : Zt y Φ rc rs q L' S h) : Zt y Φ rc rs pc L (.long x :: S) h := by
  subst hq
  subst hL
  exact Zt.st k (fun hl hs => ⟨zalL_set hl hs.1, hs.2⟩) (fun _ _ _ _ _ _ _ _ _ _ _ _ _ _ _ _ _ hx hb hl w => lv_lstore_n hx hb hd hi (zLH_has hl) hn rfl (fun ls1 h1 => w ls1 (zst2 hc hz h1)))
theorem z_lstore {y : ZM} {Φ : Option Value → ZH → Prop} {rc rs pc q : Nat} {L : List (Option Value)} {S : List Value} {h : ZH} {L' : List (Option Value)} {i : Nat} {x : Int64} (hd : decode (zm_c y) pc = .ok (.lstore i, 2)) (hn : i + 1 < zm_n y) (hc : zclr L i = true) (hz : L[i + 1]? = some none) (hL : L.set i (some (.long x)) = L') (hq : pc + 2 = q) (k : Zt y Φ rc rs q L' S h) : Zt y Φ rc rs pc L (.long x :: S) h := by
  subst hq
  subst hL
  exact Zt.st k (fun hl hs => ⟨zalL_set hl hs.1, hs.2⟩) (fun _ _ _ _ _ _ _ _ _ _ _ _ _ _ _ _ _ hx hb hl w => lv_lstore hx hb hd (zLH_has hl) hn rfl (fun ls1 h1 => w ls1 (zst2 hc hz h1)))
theorem z_astore_n {y : ZM} {Φ : Option Value → ZH → Prop} {rc rs pc q : Nat} {L : List (Option Value)} {S : List Value} {h : ZH} {L' : List (Option Value)} {k : Fin 4} {i : Nat} {x : Nat} (hd : decode (zm_c y) pc = .ok (.astore_n k, 1)) (hi : (k : Nat) = i) (hn : i < zm_n y) (hc : zclr L i = true) (hL : L.set i (some (.ref x)) = L') (hq : pc + 1 = q) (k : Zt y Φ rc rs q L' S h) : Zt y Φ rc rs pc L (.ref x :: S) h := by
  subst hq
  subst hL
  exact Zt.st k (fun hl hs => ⟨zalL_set hl hs.1, hs.2⟩) (fun _ _ _ _ _ _ _ _ _ _ _ _ _ _ _ _ _ hx hb hl w => lv_astore_n hx hb hd hi (zLH_has hl) hn rfl (fun ls1 h1 => w ls1 (zst1 hc h1)))
theorem z_astore {y : ZM} {Φ : Option Value → ZH → Prop} {rc rs pc q : Nat} {L : List (Option Value)} {S : List Value} {h : ZH} {L' : List (Option Value)} {i : Nat} {x : Nat} (hd : decode (zm_c y) pc = .ok (.astore i, 2)) (hn : i < zm_n y) (hc : zclr L i = true) (hL : L.set i (some (.ref x)) = L') (hq : pc + 2 = q) (k : Zt y Φ rc rs q L' S h) : Zt y Φ rc rs pc L (.ref x :: S) h := by
  subst hq
  subst hL
  exact Zt.st k (fun hl hs => ⟨zalL_set hl hs.1, hs.2⟩) (fun _ _ _ _ _ _ _ _ _ _ _ _ _ _ _ _ _ hx hb hl w => lv_astore hx hb hd (zLH_has hl) hn rfl (fun ls1 h1 => w ls1 (zst1 hc h1)))
theorem z_iinc {y : ZM} {Φ : Option Value → ZH → Prop} {rc rs pc q : Nat} {L : List (Option Value)} {S : List Value} {h : ZH} {L' : List (Option Value)} {i : Nat} {n : Int} {x v : Int32} (hd : decode (zm_c y) pc = .ok (.iinc i n, 3)) (he : L[i]? = some (some (.int x))) (hv : x + Int32.ofInt n = v) (hn : i < zm_n y) (hc : zclr L i = true) (hL : L.set i (some (.int v)) = L') (hq : pc + 3 = q) (k : Zt y Φ rc rs q L' S h) : Zt y Φ rc rs pc L S h := by
  subst hq
  subst hL
  refine Zt.st k (fun hl hs => ⟨zalL_set hl trivial, hs⟩) (fun p l e R s m args below meth c H locs cells slots Q ls tr hx hb hl w => ?_)
  obtain ⟨k0, hk0⟩ := List.getElem?_of_mem ((zlv_mem (tr := tr) (L := L) (i := 0)).mpr ⟨i, _, he, rfl⟩)
  rw [Nat.zero_add] at hk0
  exact lv_iinc hx hb hd (zLH_has hl) hk0 hv hn rfl (fun ls1 h1 => w ls1 (zst1 hc h1))
theorem z_tableOut {y : ZM} {Φ : Option Value → ZH → Prop} {rc rs pc q : Nat} {L : List (Option Value)} {S : List Value} {h : ZH} {dflt lo hi : Int} {offs : Array Int} {len : Nat} {x : Int32} (hd : decode (zm_c y) pc = .ok (.tableswitch dflt lo hi offs, len)) (hh : x.toInt < lo ∨ hi < x.toInt) (ht : (pc : Int) + dflt = (q : Int)) (k : Zt y Φ rc rs q L S h) : Zt y Φ rc rs pc L (.int x :: S) h := Zt.go k (fun _ hs => hs.2) (fun _ _ _ _ _ _ _ _ _ _ _ _ _ _ _ _ _ hx hb hl w => lv_tableOut hx hb hd hh ht w)
theorem z_tableIn {y : ZM} {Φ : Option Value → ZH → Prop} {rc rs pc q : Nat} {L : List (Option Value)} {S : List Value} {h : ZH} {dflt lo hi : Int} {offs : Array Int} {len : Nat} {x : Int32} {off : Int} (hd : decode (zm_c y) pc = .ok (.tableswitch dflt lo hi offs, len)) (h1 : ¬ x.toInt < lo) (h2 : ¬ hi < x.toInt) (ho : offs[(x.toInt - lo).toNat]? = some off) (ht : (pc : Int) + off = (q : Int)) (k : Zt y Φ rc rs q L S h) : Zt y Φ rc rs pc L (.int x :: S) h := Zt.go k (fun _ hs => hs.2) (fun _ _ _ _ _ _ _ _ _ _ _ _ _ _ _ _ _ hx hb hl w => lv_tableIn hx hb hd h1 h2 ho ht w)
theorem z_lookup {y : ZM} {Φ : Option Value → ZH → Prop} {rc rs pc q : Nat} {L : List (Option Value)} {S : List Value} {h : ZH} {dflt : Int} {ps : Array (Int × Int)} {len : Nat} {x : Int32} {off : Int} (hd : decode (zm_c y) pc = .ok (.lookupswitch dflt ps, len)) (hp : (ps.toList.zip (ps.toList.drop 1)).all (fun (a, next) => a.1 < next.1) = true) (ho : Op.lookupswitch.offset ps.toList dflt x.toInt = off) (ht : (pc : Int) + off = (q : Int)) (k : Zt y Φ rc rs q L S h) : Zt y Φ rc rs pc L (.int x :: S) h := Zt.go k (fun _ hs => hs.2) (fun _ _ _ _ _ _ _ _ _ _ _ _ _ _ _ _ _ hx hb hl w => lv_lookup hx hb hd hp ho ht w)
end
section
theorem zin {ws : List Cond} (ps : List Nat) (hp : ws = ps.filterMap (fun i => tables_1[i]?)) (h : ws.all goodWord = true) : ∀ w ∈ ws, w ∈ zgood := by
  intro w hw
  have h1 := List.all_eq_true.mp h w hw
  rw [hp] at hw
  obtain ⟨i, -, hi⟩ := List.mem_filterMap.mp hw
  exact zgood_t i hi h1
set_option maxRecDepth 100000 in
theorem zinX0 : ∀ w ∈ u_ws RX0 TX0 3, w ∈ zgood := zin [817, 819, 821] (by decide +kernel) (by decide +kernel)
set_option maxRecDepth 100000 in
theorem zinX1 : ∀ w ∈ u_ws RX1 TX1 7, w ∈ zgood := zin [431, 433, 435, 437, 439, 441, 443] (by decide +kernel) (by decide +kernel)
set_option maxRecDepth 100000 in
theorem zinX2 : ∀ w ∈ u_ws RX2 TX2 8, w ∈ zgood := zin [88, 90, 92, 94, 96, 98, 100, 102] (by decide +kernel) (by decide +kernel)
set_option maxRecDepth 100000 in
theorem zinX3 : ∀ w ∈ u_ws RX3 TX3 2, w ∈ zgood := zin [60, 62] (by decide +kernel) (by decide +kernel)
set_option maxRecDepth 100000 in
theorem zinX4 : ∀ w ∈ u_ws RX4 TX4 8, w ∈ zgood := zin [365, 367, 369, 371, 373, 375, 377, 379] (by decide +kernel) (by decide +kernel)
set_option maxRecDepth 100000 in
theorem zinX5 : ∀ w ∈ u_ws RX5 TX5 2, w ∈ zgood := zin [271, 273] (by decide +kernel) (by decide +kernel)
set_option maxRecDepth 100000 in
theorem zinX6 : ∀ w ∈ u_ws RX6 TX6 15, w ∈ zgood := zin [231, 233, 235, 237, 239, 241, 243, 245, 247, 249, 251, 253, 255, 257, 259] (by decide +kernel) (by decide +kernel)
set_option maxRecDepth 100000 in
theorem zinX7 : ∀ w ∈ u_ws RX7 TX7 11, w ∈ zgood := zin [128, 130, 132, 134, 136, 138, 140, 142, 144, 146, 148] (by decide +kernel) (by decide +kernel)
set_option maxRecDepth 100000 in
theorem zinX8 : ∀ w ∈ u_ws RX8 TX8 2, w ∈ zgood := zin [45, 47] (by decide +kernel) (by decide +kernel)
set_option maxRecDepth 100000 in
theorem zinX9 : ∀ w ∈ u_ws RX9 TX9 13, w ∈ zgood := zin [178, 180, 182, 184, 186, 188, 190, 192, 194, 196, 198, 200, 202] (by decide +kernel) (by decide +kernel)
set_option maxRecDepth 100000 in
theorem zinX10 : ∀ w ∈ u_ws RX10 TX10 15, w ∈ zgood := zin [294, 296, 298, 300, 302, 304, 306, 308, 310, 312, 314, 316, 318, 320, 322] (by decide +kernel) (by decide +kernel)
set_option maxRecDepth 100000 in
theorem zinX11 : ∀ w ∈ u_ws RX11 TX11 54, w ∈ zgood := zin [946, 948, 950, 952, 954, 956, 958, 960, 962, 964, 966, 968, 970, 972, 974, 976, 978, 980, 982, 984, 986, 988, 990, 992, 994, 996, 998, 1000, 1002, 1004, 1006, 1008, 1010, 1012, 1014, 1016, 1018, 1020, 1022, 1024, 1026, 1028, 1030, 1032, 1034, 1036, 1038, 1040, 1042, 1044, 1046, 1048, 1050, 1052] (by decide +kernel) (by decide +kernel)
theorem zcl_lt {c : Nat} {r : vw_C} (h : vwCl[c]? = some r) : c < 12 := (List.getElem?_eq_some_iff.mp h).1
theorem zcls {c : Nat} {r : vw_C} (h : vwCl[c]? = some r) : (∀ k, k < r.2.2 → parseFieldDescriptor (r.2.1 k).2.2.1 = some (zty c k)) ∧ (∀ a, a < r.2.2 → ∀ b, b < r.2.2 → a ≠ b → (r.2.1 a).2.1 ≠ (r.2.1 b).2.1) ∧ ∀ w ∈ u_ws r.1 r.2.1 r.2.2, w ∈ zgood := by
  have hl := zcl_lt h
  match c, hl, h with
  | 0, _, h => cases h; exact ⟨tyX0_ok, nmX0, zinX0⟩
  | 1, _, h => cases h; exact ⟨tyX1_ok, nmX1, zinX1⟩
  | 2, _, h => cases h; exact ⟨tyX2_ok, nmX2, zinX2⟩
  | 3, _, h => cases h; exact ⟨tyX3_ok, nmX3, zinX3⟩
  | 4, _, h => cases h; exact ⟨tyX4_ok, nmX4, zinX4⟩
  | 5, _, h => cases h; exact ⟨tyX5_ok, nmX5, zinX5⟩
  | 6, _, h => cases h; exact ⟨tyX6_ok, nmX6, zinX6⟩
  | 7, _, h => cases h; exact ⟨tyX7_ok, nmX7, zinX7⟩
  | 8, _, h => cases h; exact ⟨tyX8_ok, nmX8, zinX8⟩
  | 9, _, h => cases h; exact ⟨tyX9_ok, nmX9, zinX9⟩
  | 10, _, h => cases h; exact ⟨tyX10_ok, nmX10, zinX10⟩
  | 11, _, h => cases h; exact ⟨tyX11_ok, nmX11, zinX11⟩
end
section
theorem zHR.moved {D : va_G} {dA : Nat → ClassId} {b0 : Nat} {tr : Nat → Nat} {h : ZH} {u U : State} {H : Heap} (hvm : u.vm.Alike U.vm) (k : zHR D dA b0 tr h u H) : zHR D dA b0 tr h U H := by
  obtain ⟨k1, k2, k3, k4, k5⟩ := k
  refine ⟨fun a ha => ?_, k2, k3, k4, fun q hq => ⟨(k5 q hq).1.moved hvm, (k5 q hq).2⟩⟩
  obtain ⟨⟨c1, c2, c3⟩, q⟩ := k1 a ha
  refine ⟨⟨c1, fun e => ?_, c3⟩, q⟩
  obtain ⟨cell, g1, g2, g3⟩ := c2 e
  exact ⟨cell, g1, State.isArrayOf_alike hvm g2, g3⟩
theorem zfv_eq {tr : Nat → Nat} {h h1 : ZH} {c a : Nat} (e1 : ∀ j, zI h1 a j = zI h a j) (e2 : ∀ j, zR h1 a j = zR h a j) : zfv tr h1 c a = zfv tr h c a := by
  funext k
  unfold zfv
  rw [e1, e2]
theorem zav_eq {tr : Nat → Nat} {h h1 : ZH} {a : Nat} (e0 : zK h1 a = zK h a) (e1 : ∀ j, zI h1 a j = zI h a j) (e2 : ∀ j, zL h1 a j = zL h a j) (e3 : ∀ j, zR h1 a j = zR h a j) : zav tr h1 a = zav tr h a := by
  funext k
  unfold zav
  rw [e0, e1, e2, e3]
/-- one cell written -/
theorem zHR.set {D : va_G} {dA : Nat → ClassId} {b0 : Nat} {tr : Nat → Nat} {h h1 : ZH} {a : Nat} {U : State} {H H1 : Heap} (k : zHR D dA b0 tr h U H) (ek : zK h1 = zK h) (en : zN h1 = zN h) (ha : zK h a ≠ 0) (hro : zK h a ≠ 30)
    (ho : ∀ b, b ≠ a → (∀ j, zI h1 b j = zI h b j) ∧ (∀ j, zL h1 b j = zL h b j) ∧ ∀ j, zR h1 b j = zR h b j) (hc : zcell D dA tr h1 a U H1) (hr : ∀ j, zR h1 a j ≠ 0 → zK h (zR h1 a j) ≠ 0) (z : H1.size = H.size) (oq : ∀ q : Nat, q ≠ tr a → H1[q]? = H[q]?) : zHR D dA b0 tr h1 U H1 := by
  obtain ⟨k1, k2, k3, k4, k5⟩ := k
  have hlo : b0 ≤ tr a := (k1 a ha).2.2.1 hro
  refine ⟨fun b hb => ?_, by rw [ek]; exact k2, fun b j hb hj => ?_, by rw [ek]; exact k4, fun q hq => ⟨(k5 q hq).1.kept (fun x hx hn => oq x (fun e => hn (by show b0 ≤ x; rw [e]; exact hlo))), by rw [ek]; exact (k5 q hq).2⟩⟩
  · rw [ek] at hb
    obtain ⟨cb, lb, gb⟩ := k1 b hb
    refine ⟨?_, by rw [z]; exact lb, by rw [ek]; exact gb⟩
    by_cases hba : b = a
    · rw [hba]
      exact hc
    · have hne : tr b ≠ tr a := fun e => hba (k2 a b ha hb hro e.symm).symm
      obtain ⟨o1, o2, o3⟩ := ho b hba
      refine ⟨fun g1 g2 => ?_, fun g1 => ?_, fun c r g1 g2 => ?_⟩
      · rw [oq _ hne, zav_eq (by rw [ek]) o1 o2 o3, ek, en]
        rw [ek] at g1 g2
        exact cb.1 g1 g2
      · rw [ek] at g1
        obtain ⟨cell, q1, q2, q3, q4, q5⟩ := cb.2.1 g1
        exact ⟨cell, by rw [oq _ hne]; exact q1, q2, q3, by rw [en]; exact q4, fun j hj => by rw [o1]; rw [en] at hj; exact q5 j hj⟩
      · rw [ek] at g1
        rw [zfv_eq o1 o3]
        exact (cb.2.2 c r g1 g2).kept (oq _ hne)
  · rw [ek] at hb ⊢
    by_cases hba : b = a
    · subst hba
      exact hr j hj
    · rw [(ho b hba).2.2] at hj ⊢
      exact k3 b j hb hj
/-- a new cell at the machine's next address -/
theorem zHR.push {D : va_G} {dA : Nat → ClassId} {b0 : Nat} {tr : Nat → Nat} {h h1 : ZH} {a : Nat} {U : State} {H H1 : Heap} (k : zHR D dA b0 tr h U H) (hbs : b0 ≤ H.size) (ha0 : a ≠ 0) (ha : zK h a = 0) (hn : zK h1 a ≠ 0) (hro : zK h1 a ≠ 30)
    (ho : ∀ b, b ≠ a → zK h1 b = zK h b ∧ zN h1 b = zN h b ∧ (∀ j, zI h1 b j = zI h b j) ∧ (∀ j, zL h1 b j = zL h b j) ∧ ∀ j, zR h1 b j = zR h b j) (hr : ∀ j, zR h1 a j = 0)
    (hc : ∀ tr1 : Nat → Nat, tr1 a = H.size → zcell D dA tr1 h1 a U H1) (z : H1.size = H.size + 1) (oq : ∀ q : Nat, q < H.size → H1[q]? = H[q]?) :
    ∃ tr1 : Nat → Nat, tr1 a = H.size ∧ (∀ b, zK h b ≠ 0 → tr1 b = tr b) ∧ zHR D dA b0 tr1 h1 U H1 := by
  obtain ⟨k1, k2, k3, k4, k5⟩ := k
  have hne : ∀ b, zK h b ≠ 0 → b ≠ a := fun b hb e => hb (by rw [e]; exact ha)
  have ht : ∀ b, zK h b ≠ 0 → (fun x => if x = a then H.size else tr x) b = tr b := fun b hb => if_neg (hne b hb)
  have hK1 : ∀ b, zK h1 b ≠ 0 → b = a ∨ (b ≠ a ∧ zK h b ≠ 0) := fun b hb => by
    by_cases e : b = a
    · exact Or.inl e
    · exact Or.inr ⟨e, by rw [← (ho b e).1]; exact hb⟩
  refine ⟨fun x => if x = a then H.size else tr x, if_pos rfl, ht, fun b hb => ?_, fun b c hb hc' hb30 e => ?_, fun b j hb hj => ?_, by rw [(ho 0 (Ne.symm ha0)).1]; exact k4, fun q hq => ?_⟩
  · rcases hK1 b hb with rfl | ⟨hba, hb'⟩
    · refine ⟨hc _ (if_pos rfl), ?_, fun _ => ?_, fun e => absurd e hro⟩
      · simp only [if_true]; omega
      · simp only [if_true]; exact hbs
    · obtain ⟨cb, lb, gb1, gb2⟩ := k1 b hb'
      obtain ⟨e0, e1, o1, o2, o3⟩ := ho b hba
      have etr := ht b hb'
      have erv : ∀ j, zrv (fun x => if x = a then H.size else tr x) (zR h b j) = zrv tr (zR h b j) := fun j => by
        unfold zrv
        by_cases e : zR h b j = 0
        · rw [if_pos e, if_pos e]
        · rw [if_neg e, if_neg e, ht _ (k3 b j hb' e)]
      refine ⟨⟨fun g1 g2 => ?_, fun g1 => ?_, fun c r g1 g2 => ?_⟩, ?_, ?_, ?_⟩
      · rw [etr, oq _ lb, e0, e1]
        rw [e0] at g1 g2
        rw [cb.1 g1 g2]
        congr 2
        funext j
        unfold zav
        rw [e0, o1, o2, o3, erv]
      · rw [e0] at g1
        obtain ⟨cell, q1, q2, q3, q4, q5⟩ := cb.2.1 g1
        exact ⟨cell, by rw [etr, oq _ lb]; exact q1, q2, q3, by rw [e1]; exact q4, fun j hj => by rw [o1]; rw [e1] at hj; exact q5 j hj⟩
      · rw [e0] at g1
        rw [etr]
        refine ((cb.2.2 c r g1 g2).kept (oq _ lb)).to (fun j _ => ?_)
        unfold zfv
        rw [o1, o3, erv]
      · rw [etr]; omega
      · rw [etr, e0]; exact gb1
      · rw [etr, e0]; exact gb2
  · dsimp only at e
    rcases hK1 b hb with rfl | ⟨hba, hb'⟩ <;> rcases hK1 c hc' with rfl | ⟨hca, hc2⟩
    · rfl
    · rw [if_pos rfl, if_neg hca] at e
      have := (k1 c hc2).2.1
      omega
    · rw [if_pos rfl, if_neg hba] at e
      have := (k1 b hb').2.1
      omega
    · rw [if_neg hba, if_neg hca] at e
      rw [(ho b hba).1] at hb30
      exact k2 b c hb' hc2 hb30 e
  · rcases hK1 b hb with rfl | ⟨hba, hb'⟩
    · exact absurd (hr j) hj
    · rw [(ho b hba).2.2.2.2] at hj ⊢
      have h3 := k3 b j hb' hj
      rw [(ho _ (hne _ h3)).1]
      exact h3
  · obtain ⟨z1, z2⟩ := k5 q hq
    have h0 : zK h q.2 ≠ 0 := by rw [z2]; decide
    refine ⟨?_, by rw [(ho _ (hne _ h0)).1]; exact z2⟩
    rw [ht _ h0]
    exact z1.kept (fun x hx _ => oq x hx)
theorem zNW.warm {s U : State} (hW : s.WarmedH U.vm) (k : zNW s) : zNW U := by
  refine ⟨fun w hw => ?_, fun C hC => (k.2.1 C hC).moved hW.alike, fun t ht => (k.2.2 t ht).moved hW.alike⟩
  have h := k.1 w hw
  have h2 := (List.mem_filter.mp hw).2
  cases w <;> first | exact va_Nw.warmF hW h | exact va_Nw.warmM hW h | exact absurd h2 (by simp [zisN])
theorem zalS_K {h h1 : ZH} {S : List Value} (hs : zalS h S) (e : zK h1 = zK h) : zalS h1 S := zalS_mono (h := h) (h1 := h1) (fun a q => by rw [e]; exact q) hs
theorem zalL_K {h h1 : ZH} {L : List (Option Value)} (hs : zalL h L) (e : zK h1 = zK h) : zalL h1 L := zalL_mono (h := h) (h1 := h1) (fun a q => by rw [e]; exact q) hs
end
section
section ZMEM
variable {y : ZM} {Φ : Option Value → ZH → Prop} {rc rs pc q : Nat} {L : List (Option Value)} {S : List Value} {h : ZH}
/-- the answer -/
theorem zQ_of {D : va_G} {dA : Nat → ClassId} {b0 : Nat} {tr0 tr : Nat → Nat} {h0 : ZH} {s t : State} {H : Heap} {locs : List Loc} {args : Array Value} {v : Option Value} (hH : zHR D dA b0 tr h s H) (hE : zext tr0 h0 tr h) (hF : zFr b0 s.heap H locs) (hv : zalS h v.toList) (hΦ : Φ v h) (ht : t.heap = H) (hW : s.WarmedH t.vm) : zQc D dA b0 tr0 h0 Φ args s (.returned (v.map (ztr tr))) t :=
  ⟨v, h, tr, rfl, hv, by rw [ht]; exact hH.moved hW.alike, hE, hΦ, by rw [ht]; exact hF.1, fun q hq => by rw [ht]; exact hF.2.1 q hq⟩
theorem z_ireturn {v : Int32} (hd : decode (zm_c y) pc = .ok (.ireturn, 1)) (hr : zm_r y = some .int) (k : Φ (some (.int v)) h) : Zt y Φ rc rs pc L [.int v] h := by
  intro l D dA b0 tr0 h0 p e s m args below meth c X tr H locs cells slots ls hH hE hS hL hF hl hc hs
  have hlocks := X.2.2.2.2.2.2.1
  refine W.widen (k := zm_k y) (n := zm_s y) (by omega) (by omega) ?_
  exact W.iret (v := v) X.1 X.2.1 (X.2.2.1.trans hr) (fun t ht hW => zQ_of (v := some (.int v)) hH hE hF ⟨trivial, trivial⟩ k ht hW) hF.2.2 hd hlocks
theorem z_zreturn {v : Int32} (hd : decode (zm_c y) pc = .ok (.ireturn, 1)) (hr : zm_r y = some .boolean) (hv : v = 0 ∨ v = 1) (k : Φ (some (.int v)) h) : Zt y Φ rc rs pc L [.int v] h := by
  intro l D dA b0 tr0 h0 p e s m args below meth c X tr H locs cells slots ls hH hE hS hL hF hl hc hs
  have hlocks := X.2.2.2.2.2.2.1
  refine W.widen (k := zm_k y) (n := zm_s y) (by omega) (by omega) ?_
  exact W.zret (v := v) (ty := .boolean) X.1 X.2.1 (X.2.2.1.trans hr) (by rcases hv with rfl | rfl <;> rfl) (fun t ht hW => zQ_of (v := some (.int v)) hH hE hF ⟨trivial, trivial⟩ k ht hW) hF.2.2 hd hlocks
theorem z_lreturn {v : Int64} (hd : decode (zm_c y) pc = .ok (.lreturn, 1)) (hr : zm_r y = some .long) (k : Φ (some (.long v)) h) : Zt y Φ rc rs pc L [.long v] h := by
  intro l D dA b0 tr0 h0 p e s m args below meth c X tr H locs cells slots ls hH hE hS hL hF hl hc hs
  have hlocks := X.2.2.2.2.2.2.1
  refine W.widen (k := zm_k y) (n := zm_s y) (by omega) (by omega) ?_
  exact W.lret (v := v) X.1 X.2.1 (X.2.2.1.trans hr) (fun t ht hW => zQ_of (v := some (.long v)) hH hE hF ⟨trivial, trivial⟩ k ht hW) hF.2.2 hd hlocks
theorem z_return (hd : decode (zm_c y) pc = .ok (.return_, 1)) (hr : zm_r y = none) (k : Φ none h) : Zt y Φ rc rs pc L [] h := by
  intro l D dA b0 tr0 h0 p e s m args below meth c X tr H locs cells slots ls hH hE hS hL hF hl hc hs
  have hlocks := X.2.2.2.2.2.2.1
  refine W.widen (k := zm_k y) (n := zm_s y) (by omega) (by omega) ?_
  exact W.vret X.1 X.2.1 (X.2.2.1.trans hr) (fun t ht hW => zQ_of (v := none) hH hE hF trivial k ht hW) hF.2.2 hd hlocks
/-- the link of a field: of the class itself, or of a nest mate -/
def zFL (own : String) (i : Nat) (r : vw_C) (k : Nat) : Prop := Cond.fieldLink own i (r.2.1 k).1 (r.2.1 k).2.1 (r.2.1 k).2.2.1 ∈ zgood ∨ ∃ host : String, Cond.fieldLinkNest own i (r.2.1 k).1 (r.2.1 k).2.1 (r.2.1 k).2.2.1 host ∈ znest
theorem z_getf {c k i a : Nat} {r : vw_C} (hr : vwCl[c]? = some r) (hk : k < r.2.2) (hl0 : zFL (zm_x y).cls i r k) (ha : zK h a = c + 1) (hd : decode (zm_c y) pc = .ok (.getfield i, 3)) {l : Launch} {D : va_G} {dA : Nat → ClassId} {b0 : Nat} {p : Program} {e : Env} {R : Room} {s : State} {m : MethodId} {args : Array Value} {below : List Frame} {meth : Method} {c' : Code}
    (X : zCx y D dA b0 p s m args meth c') {tr : Nat → Nat} {H : Heap} {locs : List Loc} {cells slots : Nat} {ls : Array Slot} {Q : State → Prop} {rest : List Value} (hH : zHR D dA b0 tr h s H) (w : W p l e R s m args below meth c' H locs cells slots Q (F0 m (pc + 3) ls (zfv tr h c a k :: rest))) : W p l e R s m args below meth c' H locs cells slots Q (F0 m pc ls (.ref (tr a) :: rest)) := by
  obtain ⟨hx, hb, -, -, hown, hts, -, -, hK, hN, -⟩ := X
  obtain ⟨cell, q1, q2, q3, q4⟩ := (hH.1 a (by rw [ha]; omega)).1.2.2 c r ha hr
  obtain ⟨hS, hfc, kC, hkC, hkind⟩ := hK.1 c r hr
  obtain ⟨cf, kf, fi, f, hi, hsl⟩ := hS k hk
  have hst := (u_facts hfc hkC (u_lays hts (zcls hr).2.2 hk) hi).1
  rcases hl0 with hl0 | ⟨host, hl0⟩
  · exact W.getf hx hb hown (hts _ hl0) hi hst q1 (by rw [q3]; exact fun z => by cases z) (v := zfv tr h c a k) (by rw [hsl, q4 k hk]) rfl rfl hd w
  · exact va_Wgetf hx hb hown (va_Nw.use rfl (hN.1 _ hl0)) hi hst q1 (by rw [q3]; exact fun z => by cases z) (v := zfv tr h c a k) (by rw [hsl, q4 k hk]) rfl rfl hd w
theorem z_getI {c k i a : Nat} {r : vw_C} (hd : decode (zm_c y) pc = .ok (.getfield i, 3)) (hr : vwCl[c]? = some r) (hk : k < r.2.2) (hl0 : zFL (zm_x y).cls i r k) (ht : (zty c k).isReference = false) (ha : zK h a = c + 1) (hq : pc + 3 = q) (k' : Zt y Φ rc rs q L (.int (zI h a k) :: S) h) : Zt y Φ rc rs pc L (.ref a :: S) h := by
  subst hq
  intro l D dA b0 tr0 h0 p e s m args below meth c' X tr H locs cells slots ls hH hE hS hL hF hl hc hs
  refine z_getf hr hk hl0 ha hd X hH ?_
  have e1 : zfv tr h c a k = .int (zI h a k) := by unfold zfv; rw [ht]; rfl
  rw [e1]
  exact k' l D dA b0 tr0 h0 p e s m args below meth c' X tr H locs cells slots ls hH hE ⟨trivial, hS.2⟩ hL hF hl hc hs
theorem z_getR {c k i a : Nat} {r : vw_C} (hd : decode (zm_c y) pc = .ok (.getfield i, 3)) (hr : vwCl[c]? = some r) (hk : k < r.2.2) (hl0 : zFL (zm_x y).cls i r k) (ht : (zty c k).isReference = true) (ha : zK h a = c + 1) (hn : zR h a k ≠ 0) (hq : pc + 3 = q) (k' : Zt y Φ rc rs q L (.ref (zR h a k) :: S) h) : Zt y Φ rc rs pc L (.ref a :: S) h := by
  subst hq
  intro l D dA b0 tr0 h0 p e s m args below meth c' X tr H locs cells slots ls hH hE hS hL hF hl hc hs
  refine z_getf hr hk hl0 ha hd X hH ?_
  have e1 : zfv tr h c a k = .ref (tr (zR h a k)) := by unfold zfv zrv; rw [ht, if_pos rfl, if_neg hn]
  rw [e1]
  exact k' l D dA b0 tr0 h0 p e s m args below meth c' X tr H locs cells slots ls hH hE ⟨hH.2.2.1 a k (by rw [ha]; omega) hn, hS.2⟩ hL hF hl hc hs
theorem zFr.put {b0 : Nat} {H0 H H1 : Heap} {locs : List Loc} {a k : Nat} (hF : zFr b0 H0 H locs) (ha : b0 ≤ a) (z : H1.size = H.size) (oq : ∀ q : Nat, q ≠ a → H1[q]? = H[q]?) : zFr b0 H0 H1 (locs ++ [⟨a, k⟩]) :=
  ⟨by rw [z]; exact hF.1, fun q hq => by rw [oq q (by omega)]; exact hF.2.1 q hq, fun l hl => by
    rcases List.mem_append.mp hl with h1 | h1
    · exact hF.2.2 l h1
    · rw [List.mem_singleton.mp h1]; exact ha⟩
/-- a field written: the machine's side -/
theorem z_putf {c k i a : Nat} {r : vw_C} {v : Value} (hr : vwCl[c]? = some r) (hk : k < r.2.2) (hl0 : zFL (zm_x y).cls i r k) (hfin : (r.2.1 k).2.2.2 = false ∨ ((zm_x y).name = "<init>" ∧ (zm_x y).cls = (r.2.1 k).1 ∧ (r.2.1 k).2.2.2 = true ∧ Cond.fieldLink (zm_x y).cls i (r.2.1 k).1 (r.2.1 k).2.1 (r.2.1 k).2.2.1 ∈ zgood)) (hn : narrow (zty c k) v = v) (hfit : fits (zty c k) v = true) (ha : zK h a = c + 1) (hd : decode (zm_c y) pc = .ok (.putfield i, 3)) {l : Launch} {D : va_G} {dA : Nat → ClassId} {b0 : Nat} {p : Program} {e : Env} {R : Room} {s : State} {m : MethodId} {args : Array Value} {below : List Frame} {meth : Method} {c' : Code}
    (X : zCx y D dA b0 p s m args meth c') {tr : Nat → Nat} {H : Heap} {locs : List Loc} {cells slots : Nat} {ls : Array Slot} {Q : State → Prop} {rest : List Value} (hH : zHR D dA b0 tr h s H)
    (w : ∀ (H1 : Heap) (j : Nat), t_OB (tr a) (D.1 c) r.2.2 (D.2 c) H1 (updV (zfv tr h c a) k v) → H1.size = H.size → (∀ q : Nat, q ≠ tr a → H1[q]? = H[q]?) → W p l e R s m args below meth c' H1 (locs ++ [⟨tr a, j⟩]) cells slots Q (F0 m (pc + 3) ls rest)) : W p l e R s m args below meth c' H locs cells slots Q (F0 m pc ls (v :: .ref (tr a) :: rest)) := by
  obtain ⟨hx, hb, -, -, hown, hts, -, hname, hK, hN, -⟩ := X
  obtain ⟨cell, q1, q2, q3, q4⟩ := (hH.1 a (by rw [ha]; omega)).1.2.2 c r ha hr
  obtain ⟨hS, hfc, kC, hkC, hkind⟩ := hK.1 c r hr
  obtain ⟨cf, kf, fi, f, hi, hsl⟩ := hS k hk
  obtain ⟨c1, c2, c3⟩ := zcls hr
  have hst := (u_facts hfc hkC (u_lays hts c3 hk) hi).1
  have hap := va_apart (own := r.1) (tys := ztys dA) (C := r.1) (T := r.2.1) (N := r.2.2) hts c3 (zty c) c1 c2 hK hr
  have hlt : f.slot < cell.slots.size := by rw [hsl]; exact k2_hasslot (q4 k hk)
  have fin : ∀ H' : Heap, H'[tr a]? = some (cell.setSlot f.slot v) → H'.size = H.size → (∀ q, q ≠ tr a → H'[q]? = H[q]?) → W p l e R s m args below meth c' H' (locs ++ [⟨tr a, f.slot⟩]) cells slots Q (F0 m (pc + 3) ls rest) := fun H' e1 e2 e3 => by
    rw [hsl] at e1 ⊢
    exact w H' _ ⟨_, e1, q2, q3, t_set q4 hap hk v⟩ e2 e3
  have hlay := hts _ (c3 _ (u_in_lay hk))
  unfold u_lay at hlay
  rcases hfin with hfin | ⟨hin, hdecl, hfin, hlk⟩
  · rw [if_neg (by rw [hfin]; decide)] at hlay
    have h6 := u_store hfc hkC hkind hlay hi (c1 k hk) hn hfit
    rcases hl0 with hl0 | ⟨host, hl0⟩
    · exact W.putK hx hb (f := f) ⟨hown, hts _ hl0, ⟨_, _, _, hi⟩, hst⟩ (by rw [q2]; exact h6) q1 q3 hlt rfl rfl hd fin
    · exact va_WputK hx hb (f := f) hown (va_Nw.use rfl (hN.1 _ hl0)) hi hst (by rw [q2]; exact h6) q1 q3 hlt rfl rfl hd fin
  · rw [if_pos hfin] at hlay
    have hcf : m.cls = cf := by
      obtain ⟨_, _, c9, _, _, _, -, -, hf9, -, -, -, hown2, -⟩ := Cond.laysFinal_spec hlay
      have e1 : c9 = cf := by have := hi.symm.trans hf9; simp at this; exact this.1.symm
      rw [← hdecl] at hown2
      rw [← e1]; exact Option.some.inj (hown.symm.trans hown2)
    exact W.putFinK hx hb hown (hts _ hlk) hi hst hcf (hname.trans hin) (by rw [q2]; exact u_fits hfc hkC hkind (u_lays hts c3 hk) hi (c1 k hk) hn hfit) q1 q3 hlt rfl rfl hd fin
/-- a field written: the picture's side -/
theorem zHR.putI {D : va_G} {dA : Nat → ClassId} {b0 : Nat} {tr : Nat → Nat} {s : State} {H H1 : Heap} {c k a : Nat} {r : vw_C} {v : Int32} (hH : zHR D dA b0 tr h s H) (hr : vwCl[c]? = some r) (ha : zK h a = c + 1) (ht : (zty c k).isReference = false) (hob : t_OB (tr a) (D.1 c) r.2.2 (D.2 c) H1 (updV (zfv tr h c a) k (.int v))) (z : H1.size = H.size) (oq : ∀ q : Nat, q ≠ tr a → H1[q]? = H[q]?) : zHR D dA b0 tr (zsI h a k v) s H1 := by
  have hc := zcl_lt hr
  refine hH.set (h1 := zsI h a k v) rfl rfl (by rw [ha]; omega) (by rw [ha]; omega) (fun b hb => ⟨fun j => if_neg (fun e => hb e.1), fun _ => rfl, fun _ => rfl⟩) ?_ (fun j hj => hH.2.2.1 a j (by rw [ha]; omega) hj) z oq
  refine ⟨fun g1 g2 => ?_, fun g1 => ?_, fun c2 r2 g1 g2 => ?_⟩
  · have : zK h a = zK (zsI h a k v) a := rfl
    rw [← this, ha] at g1; omega
  · have : zK h a = zK (zsI h a k v) a := rfl
    rw [← this, ha] at g1; omega
  · have e2 : c2 = c := by
      have : zK h a = zK (zsI h a k v) a := rfl
      rw [← this, ha] at g1; omega
    subst e2
    cases hr.symm.trans g2
    refine hob.to (fun j _ => ?_)
    unfold updV
    by_cases e : j = k
    · subst e
      rw [if_pos rfl]
      unfold zfv
      rw [ht]
      show Value.int v = Value.int (if a = a ∧ j = j then v else zI h a j)
      rw [if_pos ⟨rfl, rfl⟩]
    · rw [if_neg e]
      unfold zfv
      have e1 : zI (zsI h a k v) a j = zI h a j := if_neg (fun q => e q.2)
      rw [e1]
      rfl
theorem zHR.putR {D : va_G} {dA : Nat → ClassId} {b0 : Nat} {tr : Nat → Nat} {s : State} {H H1 : Heap} {c k a v : Nat} {r : vw_C} (hH : zHR D dA b0 tr h s H) (hr : vwCl[c]? = some r) (ha : zK h a = c + 1) (ht : (zty c k).isReference = true) (hv : zK h v ≠ 0) (hob : t_OB (tr a) (D.1 c) r.2.2 (D.2 c) H1 (updV (zfv tr h c a) k (.ref (tr v)))) (z : H1.size = H.size) (oq : ∀ q : Nat, q ≠ tr a → H1[q]? = H[q]?) : zHR D dA b0 tr (zsR h a k v) s H1 := by
  have hc := zcl_lt hr
  have hv0 : v ≠ 0 := fun e => hv (by rw [e]; exact hH.2.2.2.1)
  refine hH.set (h1 := zsR h a k v) rfl rfl (by rw [ha]; omega) (by rw [ha]; omega) (fun b hb => ⟨fun _ => rfl, fun _ => rfl, fun j => if_neg (fun e => hb e.1)⟩) ?_ (fun j hj => ?_) z oq
  · refine ⟨fun g1 g2 => ?_, fun g1 => ?_, fun c2 r2 g1 g2 => ?_⟩
    · have : zK h a = zK (zsR h a k v) a := rfl
      rw [← this, ha] at g1; omega
    · have : zK h a = zK (zsR h a k v) a := rfl
      rw [← this, ha] at g1; omega
    · have e2 : c2 = c := by
        have : zK h a = zK (zsR h a k v) a := rfl
        rw [← this, ha] at g1; omega
      subst e2
      cases hr.symm.trans g2
      refine hob.to (fun j _ => ?_)
      unfold updV
      by_cases e : j = k
      · subst e
        rw [if_pos rfl]
        unfold zfv
        have e1 : zR (zsR h a j v) a j = v := if_pos ⟨rfl, rfl⟩
        rw [ht, if_pos rfl, e1, zrv, if_neg hv0]
      · rw [if_neg e]
        unfold zfv
        have e1 : zR (zsR h a k v) a j = zR h a j := if_neg (fun q => e q.2)
        rw [e1]
        rfl
  · by_cases e : j = k
    · subst e
      have e1 : zR (zsR h a j v) a j = v := if_pos ⟨rfl, rfl⟩
      rw [e1]
      exact hv
    · have e1 : zR (zsR h a k v) a j = zR h a j := if_neg (fun q => e q.2)
      rw [e1] at hj ⊢
      exact hH.2.2.1 a j (by rw [ha]; omega) hj
theorem z_putI0 {c k i a : Nat} {r : vw_C} {v : Int32} (hd : decode (zm_c y) pc = .ok (.putfield i, 3)) (hr : vwCl[c]? = some r) (hk : k < r.2.2) (hl0 : zFL (zm_x y).cls i r k) (hfin : (r.2.1 k).2.2.2 = false ∨ ((zm_x y).name = "<init>" ∧ (zm_x y).cls = (r.2.1 k).1 ∧ (r.2.1 k).2.2.2 = true ∧ Cond.fieldLink (zm_x y).cls i (r.2.1 k).1 (r.2.1 k).2.1 (r.2.1 k).2.2.1 ∈ zgood)) (ht : (zty c k).isReference = false) (hn : narrow (zty c k) (.int v) = .int v) (hfit : fits (zty c k) (.int v) = true) (ha : zK h a = c + 1) (hq : pc + 3 = q) (k' : Zt y Φ rc rs q L S (zsI h a k v)) : Zt y Φ rc rs pc L (.int v :: .ref a :: S) h := by
  subst hq
  intro l D dA b0 tr0 h0 p e s m args below meth c' X tr H locs cells slots ls hH hE hS hL hF hl hc hs
  refine z_putf (v := .int v) hr hk hl0 hfin hn hfit ha hd X hH (fun H1 j hob z oq => ?_)
  have hlo := (hH.1 a (by rw [ha]; omega)).2.2.1 (by rw [ha]; have := zcl_lt hr; omega)
  exact k' l D dA b0 tr0 h0 p e s m args below meth c' X tr H1 _ cells slots ls (hH.putI hr ha ht hob z oq) hE (zalS_K hS.2.2 rfl) (zalL_K hL rfl) (hF.put hlo z oq) hl hc hs
theorem z_putI {c k i a : Nat} {r : vw_C} {v : Int32} (hd : decode (zm_c y) pc = .ok (.putfield i, 3)) (hr : vwCl[c]? = some r) (hk : k < r.2.2) (hl0 : zFL (zm_x y).cls i r k) (hfin : (r.2.1 k).2.2.2 = false) (ht : zty c k = .int) (ha : zK h a = c + 1) (hq : pc + 3 = q) (k' : Zt y Φ rc rs q L S (zsI h a k v)) : Zt y Φ rc rs pc L (.int v :: .ref a :: S) h :=
  z_putI0 hd hr hk hl0 (Or.inl hfin) (by rw [ht]; rfl) (by rw [ht]; rfl) (by rw [ht]; rfl) ha hq k'
theorem z_putZ {c k i a : Nat} {r : vw_C} {v : Int32} (hd : decode (zm_c y) pc = .ok (.putfield i, 3)) (hr : vwCl[c]? = some r) (hk : k < r.2.2) (hl0 : zFL (zm_x y).cls i r k) (hfin : (r.2.1 k).2.2.2 = false) (ht : zty c k = .boolean) (hv : v = 0 ∨ v = 1) (ha : zK h a = c + 1) (hq : pc + 3 = q) (k' : Zt y Φ rc rs q L S (zsI h a k v)) : Zt y Φ rc rs pc L (.int v :: .ref a :: S) h :=
  z_putI0 hd hr hk hl0 (Or.inl hfin) (by rw [ht]; rfl) (by rw [ht]; rcases hv with rfl | rfl <;> rfl) (by rw [ht]; rcases hv with rfl | rfl <;> rfl) ha hq k'
theorem z_putIF {c k i a : Nat} {r : vw_C} {v : Int32} (hd : decode (zm_c y) pc = .ok (.putfield i, 3)) (hr : vwCl[c]? = some r) (hk : k < r.2.2) (hlk : Cond.fieldLink (zm_x y).cls i (r.2.1 k).1 (r.2.1 k).2.1 (r.2.1 k).2.2.1 ∈ zgood) (hin : (zm_x y).name = "<init>") (hdc : (zm_x y).cls = (r.2.1 k).1) (hfin : (r.2.1 k).2.2.2 = true) (ht : zty c k = .int) (ha : zK h a = c + 1) (hq : pc + 3 = q) (k' : Zt y Φ rc rs q L S (zsI h a k v)) : Zt y Φ rc rs pc L (.int v :: .ref a :: S) h :=
  z_putI0 hd hr hk (Or.inl hlk) (Or.inr ⟨hin, hdc, hfin, hlk⟩) (by rw [ht]; rfl) (by rw [ht]; rfl) (by rw [ht]; rfl) ha hq k'
theorem z_putZF {c k i a : Nat} {r : vw_C} {v : Int32} (hd : decode (zm_c y) pc = .ok (.putfield i, 3)) (hr : vwCl[c]? = some r) (hk : k < r.2.2) (hlk : Cond.fieldLink (zm_x y).cls i (r.2.1 k).1 (r.2.1 k).2.1 (r.2.1 k).2.2.1 ∈ zgood) (hin : (zm_x y).name = "<init>") (hdc : (zm_x y).cls = (r.2.1 k).1) (hfin : (r.2.1 k).2.2.2 = true) (ht : zty c k = .boolean) (hv : v = 0 ∨ v = 1) (ha : zK h a = c + 1) (hq : pc + 3 = q) (k' : Zt y Φ rc rs q L S (zsI h a k v)) : Zt y Φ rc rs pc L (.int v :: .ref a :: S) h :=
  z_putI0 hd hr hk (Or.inl hlk) (Or.inr ⟨hin, hdc, hfin, hlk⟩) (by rw [ht]; rfl) (by rw [ht]; rcases hv with rfl | rfl <;> rfl) (by rw [ht]; rcases hv with rfl | rfl <;> rfl) ha hq k'
theorem zref_nf {t : FieldType} (h : t.isReference = true) (a : Nat) : narrow t (.ref a) = .ref a ∧ fits t (.ref a) = true := by
  cases t <;> first | exact ⟨rfl, rfl⟩ | (exact absurd h (by simp [FieldType.isReference]))
theorem z_putRF {c k i a v : Nat} {r : vw_C} (hd : decode (zm_c y) pc = .ok (.putfield i, 3)) (hr : vwCl[c]? = some r) (hk : k < r.2.2) (hlk : Cond.fieldLink (zm_x y).cls i (r.2.1 k).1 (r.2.1 k).2.1 (r.2.1 k).2.2.1 ∈ zgood) (hin : (zm_x y).name = "<init>") (hdc : (zm_x y).cls = (r.2.1 k).1) (hfin : (r.2.1 k).2.2.2 = true) (ht : (zty c k).isReference = true) (ha : zK h a = c + 1) (hq : pc + 3 = q) (k' : Zt y Φ rc rs q L S (zsR h a k v)) : Zt y Φ rc rs pc L (.ref v :: .ref a :: S) h := by
  subst hq
  intro l D dA b0 tr0 h0 p e s m args below meth c' X tr H locs cells slots ls hH hE hS hL hF hl hc hs
  obtain ⟨n1, n2⟩ := zref_nf ht (tr v)
  refine z_putf (v := .ref (tr v)) hr hk (Or.inl hlk) (Or.inr ⟨hin, hdc, hfin, hlk⟩) n1 n2 ha hd X hH (fun H1 j hob z oq => ?_)
  have hlo := (hH.1 a (by rw [ha]; omega)).2.2.1 (by rw [ha]; have := zcl_lt hr; omega)
  exact k' l D dA b0 tr0 h0 p e s m args below meth c' X tr H1 _ cells slots ls (hH.putR hr ha ht hS.1 hob z oq) hE (zalS_K hS.2.2 rfl) (zalL_K hL rfl) (hF.put hlo z oq) hl hc hs
theorem z_ldc {i : Nat} {v : Int32} (hd : decode (zm_c y) pc = .ok (.ldc i, 2)) (hw : Cond.constant (zm_x y).cls i v ∈ zgood) (hq : pc + 2 = q) (k : Zt y Φ rc rs q L (.int v :: S) h) : Zt y Φ rc rs pc L S h := by
  subst hq
  intro l D dA b0 tr0 h0 p e s m args below meth c X tr H locs cells slots ls hH hE hS hL hF hl hc hs
  exact lv_ldc X.1 X.2.1 X.2.2.2.2.1 (X.2.2.2.2.2.1 _ hw) hd (k l D dA b0 tr0 h0 p e s m args below meth c X tr H locs cells slots ls hH hE ⟨trivial, hS⟩ hL hF hl hc hs)
theorem z_ldcw {i : Nat} {v : Int32} (hd : decode (zm_c y) pc = .ok (.ldc_w i, 3)) (hw : Cond.constant (zm_x y).cls i v ∈ zgood) (hq : pc + 3 = q) (k : Zt y Φ rc rs q L (.int v :: S) h) : Zt y Φ rc rs pc L S h := by
  subst hq
  intro l D dA b0 tr0 h0 p e s m args below meth c X tr H locs cells slots ls hH hE hS hL hF hl hc hs
  exact lv_ldcw X.1 X.2.1 X.2.2.2.2.1 (X.2.2.2.2.2.1 _ hw) hd (k l D dA b0 tr0 h0 p e s m args below meth c X tr H locs cells slots ls hH hE ⟨trivial, hS⟩ hL hF hl hc hs)
theorem z_ldc2 {i : Nat} {v : Int64} (hd : decode (zm_c y) pc = .ok (.ldc2_w i, 3)) (hw : Cond.constantLong (zm_x y).cls i v ∈ zgood) (hq : pc + 3 = q) (k : Zt y Φ rc rs q L (.long v :: S) h) : Zt y Φ rc rs pc L S h := by
  subst hq
  intro l D dA b0 tr0 h0 p e s m args below meth c X tr H locs cells slots ls hH hE hS hL hF hl hc hs
  exact lv_ldc2 X.1 X.2.1 X.2.2.2.2.1 (X.2.2.2.2.2.1 _ hw) hd (k l D dA b0 tr0 h0 p e s m args below meth c X tr H locs cells slots ls hH hE ⟨trivial, hS⟩ hL hF hl hc hs)
theorem z_getst {i a : Nat} {f : String} (hd : decode (zm_c y) pc = .ok (.getstatic i, 3)) (hm : (f, a) ∈ zst) (hw : Cond.fieldLink (zm_x y).cls i RX10 f "[I" ∈ zgood) (hq : pc + 3 = q) (k : Zt y Φ rc rs q L (.ref a :: S) h) : Zt y Φ rc rs pc L S h := by
  subst hq
  intro l D dA b0 tr0 h0 p e s m args below meth c X tr H locs cells slots ls hH hE hS hL hF hl hc hs
  obtain ⟨⟨cf, kf, fi, fd, st, cell, h1, h2, h3, h4, h5, h6, h7, h8⟩, hz⟩ := hH.2.2.2.2 _ hm
  exact W.gets X.1 X.2.1 X.2.2.2.2.1 (X.2.2.2.2.2.1 _ hw) h1 h2 h3 h4 h5 (fun e => by rw [e] at h6; cases h6) h7 rfl hd (k l D dA b0 tr0 h0 p e s m args below meth c X tr H locs cells slots ls hH hE ⟨by show zK h a ≠ 0; rw [hz]; decide, hS⟩ hL hF hl hc hs)
end ZMEM
end
section
theorem zarrT {D : va_G} {dA : Nat → ClassId} {s : State} (hK : va_K D vwCl (ztys dA) s) {kd : Nat} (h1 : 20 ≤ kd) (h2 : kd < 30) : ArrOfT s (dA kd) (zat kd) ∧ va_RA s (dA kd) (zat kd) := by
  obtain ⟨j, rfl⟩ : ∃ j, kd = 20 + j := ⟨kd - 20, by omega⟩
  have hj : j < 10 := by omega
  match j, hj with
  | 0, _ => exact hK.2 0 _ rfl
  | 1, _ => exact hK.2 1 _ rfl
  | 2, _ => exact hK.2 2 _ rfl
  | 3, _ => exact hK.2 3 _ rfl
  | 4, _ => exact hK.2 4 _ rfl
  | 5, _ => exact hK.2 5 _ rfl
  | 6, _ => exact hK.2 6 _ rfl
  | 7, _ => exact hK.2 7 _ rfl
  | 8, _ => exact hK.2 8 _ rfl
  | 9, _ => exact hK.2 9 _ rfl
section ZARR
variable {y : ZM} {Φ : Option Value → ZH → Prop} {rc rs pc q : Nat} {L : List (Option Value)} {S : List Value} {h : ZH}
theorem zav_i {tr : Nat → Nat} {a : Nat} (hk : zK h a = 20 ∨ zK h a = 21) (j : Nat) : zav tr h a j = .int (zI h a j) := if_pos hk
theorem zav_l {tr : Nat → Nat} {a : Nat} (hk : zK h a = 22) (j : Nat) : zav tr h a j = .long (zL h a j) := by
  unfold zav
  rw [if_neg (by omega), if_pos hk]
theorem zav_r {tr : Nat → Nat} {a : Nat} (hk : 23 ≤ zK h a) (j : Nat) : zav tr h a j = zrv tr (zR h a j) := by
  unfold zav
  rw [if_neg (by omega), if_neg (by omega)]
theorem z_iald {a : Nat} {i : Int32} (hd : decode (zm_c y) pc = .ok (.iaload, 1)) (hk : zK h a = 20 ∨ zK h a = 30) (hin : vp_in i (zN h a)) (hq : pc + 1 = q) (k : Zt y Φ rc rs q L (.int (zI h a i.toNatClampNeg) :: S) h) : Zt y Φ rc rs pc L (.int i :: .ref a :: S) h := by
  subst hq
  intro l D dA b0 tr0 h0 p e s m args below meth c X tr H locs cells slots ls hH hE hS hL hF hl hc hs
  have hK := X.2.2.2.2.2.2.2.2.1
  have hlt : i.toNatClampNeg < zN h a := Nat.not_le.mp fun q => hin (Or.inr q)
  have kk := k l D dA b0 tr0 h0 p e s m args below meth c X tr H locs cells slots ls hH hE ⟨trivial, hS.2.2⟩ hL hF hl hc hs
  rcases hk with hk | hk
  · have hcell := (hH.1 a (by rw [hk]; decide)).1.1 (by omega) (by omega)
    exact W.iald (v := .int (zI h a i.toNatClampNeg)) X.1 X.2.1 hcell (by rw [hk]; exact (zarrT hK (kd := 20) (by omega) (by omega)).1 _ _) (fun q => by cases q) (by rw [arrV_size]; exact hin) (by rw [arrV_read _ _ hlt, zav_i (Or.inl hk)]) rfl rfl hd kk
  · obtain ⟨cell, g1, g2, g3, g4, g5⟩ := (hH.1 a (by rw [hk]; decide)).1.2.1 hk
    exact W.iald (v := .int (zI h a i.toNatClampNeg)) X.1 X.2.1 g1 g2 g3 (by rw [g4]; exact hin) (g5 _ hlt) rfl rfl hd kk
theorem z_bald {a : Nat} {i : Int32} (hd : decode (zm_c y) pc = .ok (.baload, 1)) (hk : zK h a = 21) (hin : vp_in i (zN h a)) (hq : pc + 1 = q) (k : Zt y Φ rc rs q L (.int (zI h a i.toNatClampNeg) :: S) h) : Zt y Φ rc rs pc L (.int i :: .ref a :: S) h := by
  subst hq
  intro l D dA b0 tr0 h0 p e s m args below meth c X tr H locs cells slots ls hH hE hS hL hF hl hc hs
  have hK := X.2.2.2.2.2.2.2.2.1
  have hlt : i.toNatClampNeg < zN h a := Nat.not_le.mp fun q => hin (Or.inr q)
  have kk := k l D dA b0 tr0 h0 p e s m args below meth c X tr H locs cells slots ls hH hE ⟨trivial, hS.2.2⟩ hL hF hl hc hs
  have hcell := (hH.1 a (by rw [hk]; decide)).1.1 (by omega) (by omega)
  exact W.zald (v := .int (zI h a i.toNatClampNeg)) X.1 X.2.1 hcell (by rw [hk]; exact (zarrT hK (kd := 21) (by omega) (by omega)).1 _ _) (fun q => by cases q) (by rw [arrV_size]; exact hin) (by rw [arrV_read _ _ hlt, zav_i (Or.inr hk)]) rfl rfl hd kk
theorem z_lald {a : Nat} {i : Int32} (hd : decode (zm_c y) pc = .ok (.laload, 1)) (hk : zK h a = 22) (hin : vp_in i (zN h a)) (hq : pc + 1 = q) (k : Zt y Φ rc rs q L (.long (zL h a i.toNatClampNeg) :: S) h) : Zt y Φ rc rs pc L (.int i :: .ref a :: S) h := by
  subst hq
  intro l D dA b0 tr0 h0 p e s m args below meth c X tr H locs cells slots ls hH hE hS hL hF hl hc hs
  have hK := X.2.2.2.2.2.2.2.2.1
  have hlt : i.toNatClampNeg < zN h a := Nat.not_le.mp fun q => hin (Or.inr q)
  have kk := k l D dA b0 tr0 h0 p e s m args below meth c X tr H locs cells slots ls hH hE ⟨trivial, hS.2.2⟩ hL hF hl hc hs
  have hcell := (hH.1 a (by rw [hk]; decide)).1.1 (by omega) (by omega)
  exact W.lald (v := .long (zL h a i.toNatClampNeg)) X.1 X.2.1 hcell (by rw [hk]; exact (zarrT hK (kd := 22) (by omega) (by omega)).1 _ _) (fun q => by cases q) (by rw [arrV_size]; exact hin) (by rw [arrV_read _ _ hlt, zav_l hk]) rfl rfl hd kk
theorem z_aald {a kd : Nat} {i : Int32} (hd : decode (zm_c y) pc = .ok (.aaload, 1)) (hk : zK h a = kd) (h1 : 23 ≤ kd) (h2 : kd < 30) (ht : (zat kd).isReference = true) (hin : vp_in i (zN h a)) (hn : zR h a i.toNatClampNeg ≠ 0) (hq : pc + 1 = q) (k : Zt y Φ rc rs q L (.ref (zR h a i.toNatClampNeg) :: S) h) : Zt y Φ rc rs pc L (.int i :: .ref a :: S) h := by
  subst hq
  intro l D dA b0 tr0 h0 p e s m args below meth c X tr H locs cells slots ls hH hE hS hL hF hl hc hs
  have hK := X.2.2.2.2.2.2.2.2.1
  have hlt : i.toNatClampNeg < zN h a := Nat.not_le.mp fun q => hin (Or.inr q)
  have kk := k l D dA b0 tr0 h0 p e s m args below meth c X tr H locs cells slots ls hH hE ⟨hH.2.2.1 a _ (by omega) hn, hS.2.2⟩ hL hF hl hc hs
  have hcell := (hH.1 a (by omega)).1.1 (by omega) (by omega)
  exact W.aald (v := .ref (tr (zR h a i.toNatClampNeg))) (ty := zat kd) X.1 X.2.1 hcell (by rw [hk]; exact (zarrT hK (kd := kd) (by omega) (by omega)).1 _ _) ht (fun q => by cases q) (by rw [arrV_size]; exact hin) (by rw [arrV_read _ _ hlt, zav_r (by omega), zrv, if_neg hn]) rfl rfl hd kk
theorem z_alen {a : Nat} (hd : decode (zm_c y) pc = .ok (.arraylength, 1)) (hk : 20 ≤ zK h a) (hk2 : zK h a ≤ 30) (hq : pc + 1 = q) (k : Zt y Φ rc rs q L (.int (Int32.ofNat (zN h a)) :: S) h) : Zt y Φ rc rs pc L (.ref a :: S) h := by
  subst hq
  intro l D dA b0 tr0 h0 p e s m args below meth c X tr H locs cells slots ls hH hE hS hL hF hl hc hs
  have hK := X.2.2.2.2.2.2.2.2.1
  have kk := k l D dA b0 tr0 h0 p e s m args below meth c X tr H locs cells slots ls hH hE ⟨trivial, hS.2⟩ hL hF hl hc hs
  by_cases e30 : zK h a = 30
  · obtain ⟨cell, g1, g2, g3, g4, g5⟩ := (hH.1 a (by omega)).1.2.1 e30
    exact W.alen (n := Int32.ofNat (zN h a)) X.1 X.2.1 g1 g2 (by rw [g4]) rfl rfl hd kk
  · have hcell := (hH.1 a (by omega)).1.1 (by omega) (by omega)
    exact W.alen (n := Int32.ofNat (zN h a)) (ty := zat (zK h a)) X.1 X.2.1 hcell ((zarrT hK (by omega) (by omega)).1 _ _) (by rw [arrV_size]) rfl rfl hd kk
/-- an array written: the picture's side -/
theorem zHR.arr {D : va_G} {dA : Nat → ClassId} {b0 : Nat} {tr : Nat → Nat} {s : State} {H H1 : Heap} {a : Nat} {h1 : ZH} (hH : zHR D dA b0 tr h s H) (k1 : 20 ≤ zK h a) (k2 : zK h a < 30) (ek : zK h1 = zK h) (en : zN h1 = zN h) (ho : ∀ b, b ≠ a → (∀ j, zI h1 b j = zI h b j) ∧ (∀ j, zL h1 b j = zL h b j) ∧ ∀ j, zR h1 b j = zR h b j) (hr : ∀ j, zR h1 a j ≠ 0 → zK h (zR h1 a j) ≠ 0)
    (hc : H1[tr a]? = some (arrV (dA (zK h a)) (zN h a) (zav tr h1 a))) (z : H1.size = H.size) (oq : ∀ q : Nat, q ≠ tr a → H1[q]? = H[q]?) : zHR D dA b0 tr h1 s H1 := by
  refine hH.set ek en (by omega) (by omega) ho ⟨fun _ _ => by rw [ek, en]; exact hc, fun g => ?_, fun c r g g2 => ?_⟩ hr z oq
  · rw [ek] at g; omega
  · rw [ek] at g
    have := zcl_lt g2
    omega
theorem z_iast {a : Nat} {i v : Int32} (hd : decode (zm_c y) pc = .ok (.iastore, 1)) (hk : zK h a = 20) (hin : vp_in i (zN h a)) (hq : pc + 1 = q) (k : Zt y Φ rc rs q L S (zsI h a i.toNatClampNeg v)) : Zt y Φ rc rs pc L (.int v :: .int i :: .ref a :: S) h := by
  subst hq
  intro l D dA b0 tr0 h0 p e s m args below meth c X tr H locs cells slots ls hH hE hS hL hF hl hc hs
  have hK := X.2.2.2.2.2.2.2.2.1
  have hcell := (hH.1 a (by omega)).1.1 (by omega) (by omega)
  have hlo := (hH.1 a (by omega)).2.2.1 (by omega)
  refine W.iast X.1 X.2.1 hcell (by rw [hk]; exact (zarrT hK (kd := 20) (by omega) (by omega)).1 _ _) (fun q => by cases q) (by rw [arrV_size]; exact hin) rfl rfl hd (fun H1 e1 z oq => ?_)
  rw [arrV_store] at e1
  refine k l D dA b0 tr0 h0 p e s m args below meth c X tr H1 _ cells slots ls (hH.arr (h1 := zsI h a i.toNatClampNeg v) (by omega) (by omega) rfl rfl (fun b hb => ⟨fun j => if_neg (fun e => hb e.1), fun _ => rfl, fun _ => rfl⟩) (fun j hj => hH.2.2.1 a j (by omega) hj) ?_ z oq) hE (zalS_K hS.2.2.2 rfl) (zalL_K hL rfl) (hF.put hlo z oq) hl hc hs
  rw [e1]
  congr 2
  funext j
  rw [zav_i (h := zsI h a i.toNatClampNeg v) (Or.inl hk)]
  unfold updV
  by_cases ej : j = i.toNatClampNeg
  · subst ej
    rw [if_pos rfl]
    exact congrArg Value.int (if_pos ⟨rfl, rfl⟩).symm
  · rw [if_neg ej, zav_i (Or.inl hk)]
    exact congrArg Value.int (if_neg (fun q => ej q.2)).symm
theorem z_bast {a : Nat} {i v : Int32} (hd : decode (zm_c y) pc = .ok (.bastore, 1)) (hk : zK h a = 21) (hin : vp_in i (zN h a)) (hv : v = 0 ∨ v = 1) (hq : pc + 1 = q) (k : Zt y Φ rc rs q L S (zsI h a i.toNatClampNeg v)) : Zt y Φ rc rs pc L (.int v :: .int i :: .ref a :: S) h := by
  subst hq
  intro l D dA b0 tr0 h0 p e s m args below meth c X tr H locs cells slots ls hH hE hS hL hF hl hc hs
  have hK := X.2.2.2.2.2.2.2.2.1
  have hcell := (hH.1 a (by omega)).1.1 (by omega) (by omega)
  have hlo := (hH.1 a (by omega)).2.2.1 (by omega)
  refine W.zast X.1 X.2.1 hcell (by rw [hk]; exact (zarrT hK (kd := 21) (by omega) (by omega)).1 _ _) (fun q => by cases q) (by rw [arrV_size]; exact hin) rfl rfl hd (fun H1 e1 z oq => ?_)
  have en : narrow .boolean (.int v) = .int v := by rcases hv with rfl | rfl <;> rfl
  rw [en, arrV_store] at e1
  refine k l D dA b0 tr0 h0 p e s m args below meth c X tr H1 _ cells slots ls (hH.arr (h1 := zsI h a i.toNatClampNeg v) (by omega) (by omega) rfl rfl (fun b hb => ⟨fun j => if_neg (fun e => hb e.1), fun _ => rfl, fun _ => rfl⟩) (fun j hj => hH.2.2.1 a j (by omega) hj) ?_ z oq) hE (zalS_K hS.2.2.2 rfl) (zalL_K hL rfl) (hF.put hlo z oq) hl hc hs
  rw [e1]
  congr 2
  funext j
  rw [zav_i (h := zsI h a i.toNatClampNeg v) (Or.inr hk)]
  unfold updV
  by_cases ej : j = i.toNatClampNeg
  · subst ej
    rw [if_pos rfl]
    exact congrArg Value.int (if_pos ⟨rfl, rfl⟩).symm
  · rw [if_neg ej, zav_i (Or.inr hk)]
    exact congrArg Value.int (if_neg (fun q => ej q.2)).symm
theorem z_last {a : Nat} {i : Int32} {v : Int64} (hd : decode (zm_c y) pc = .ok (.lastore, 1)) (hk : zK h a = 22) (hin : vp_in i (zN h a)) (hq : pc + 1 = q) (k : Zt y Φ rc rs q L S (zsL h a i.toNatClampNeg v)) : Zt y Φ rc rs pc L (.long v :: .int i :: .ref a :: S) h := by
  subst hq
  intro l D dA b0 tr0 h0 p e s m args below meth c X tr H locs cells slots ls hH hE hS hL hF hl hc hs
  have hK := X.2.2.2.2.2.2.2.2.1
  have hcell := (hH.1 a (by omega)).1.1 (by omega) (by omega)
  have hlo := (hH.1 a (by omega)).2.2.1 (by omega)
  refine W.last X.1 X.2.1 hcell (by rw [hk]; exact (zarrT hK (kd := 22) (by omega) (by omega)).1 _ _) (fun q => by cases q) (by rw [arrV_size]; exact hin) rfl rfl hd (fun H1 e1 z oq => ?_)
  rw [arrV_store] at e1
  refine k l D dA b0 tr0 h0 p e s m args below meth c X tr H1 _ cells slots ls (hH.arr (h1 := zsL h a i.toNatClampNeg v) (by omega) (by omega) rfl rfl (fun b hb => ⟨fun _ => rfl, fun j => if_neg (fun e => hb e.1), fun _ => rfl⟩) (fun j hj => hH.2.2.1 a j (by omega) hj) ?_ z oq) hE (zalS_K hS.2.2.2 rfl) (zalL_K hL rfl) (hF.put hlo z oq) hl hc hs
  rw [e1]
  congr 2
  funext j
  rw [zav_l (h := zsL h a i.toNatClampNeg v) hk]
  unfold updV
  by_cases ej : j = i.toNatClampNeg
  · subst ej
    rw [if_pos rfl]
    exact congrArg Value.long (if_pos ⟨rfl, rfl⟩).symm
  · rw [if_neg ej, zav_l hk]
    exact congrArg Value.long (if_neg (fun q => ej q.2)).symm
theorem z_aast {a v kd c : Nat} {i : Int32} {r : vw_C} (hd : decode (zm_c y) pc = .ok (.aastore, 1)) (hk : zK h a = kd) (h1 : 23 ≤ kd) (h2 : kd < 30) (hr : vwCl[c]? = some r) (ht : zat kd = .object r.1) (hv : zK h v = c + 1) (hin : vp_in i (zN h a)) (hq : pc + 1 = q) (k : Zt y Φ rc rs q L S (zsR h a i.toNatClampNeg v)) : Zt y Φ rc rs pc L (.ref v :: .int i :: .ref a :: S) h := by
  subst hq
  intro l D dA b0 tr0 h0 p e s m args below meth c' X tr H locs cells slots ls hH hE hS hL hF hl hc hs
  have hK := X.2.2.2.2.2.2.2.2.1
  have hcell := (hH.1 a (by omega)).1.1 (by omega) (by omega)
  have hlo := (hH.1 a (by omega)).2.2.1 (by omega)
  have hlt : i.toNatClampNeg < zN h a := Nat.not_le.mp fun q => hin (Or.inr q)
  have h0' : ¬ i < 0 := fun q => hin (Or.inl q)
  have hv0 : v ≠ 0 := fun e => by rw [e, hH.2.2.2.1] at hv; omega
  obtain ⟨cellV, g1, g2, g3, -⟩ := (hH.1 v (by omega)).1.2.2 c r hv hr
  have hcls := (hK.1 c r hr).2
  have hRA := (zarrT hK (kd := kd) (by omega) h2).2
  rw [ht] at hRA
  obtain ⟨kA, comp, k1, k2, k3, -⟩ := hRA
  have hcomp : comp = D.1 c := Option.some.inj (k3.symm.trans hcls.1)
  subst hcomp
  obtain ⟨kC, hkC, -⟩ := id hcls.2
  refine W.aast (t := .object r.1) X.1 X.2.1 hcell (fun q h => by cases h) (fun h => by cases h) (by rw [hk]; exact k1) k2 rfl hkC ⟨h0', by rw [arrV_size]; exact hlt⟩ g1 (fun q h => by rw [g3] at h; cases h) (by rw [g2]; exact hkC) (by rw [g2]; exact va_assign hcls) rfl rfl hd (fun H1 e1 z oq => ?_)
  rw [arrV_store] at e1
  refine k l D dA b0 tr0 h0 p e s m args below meth c' X tr H1 _ cells slots ls (hH.arr (h1 := zsR h a i.toNatClampNeg v) (by omega) (by omega) rfl rfl (fun b hb => ⟨fun _ => rfl, fun _ => rfl, fun j => if_neg (fun e => hb e.1)⟩) (fun j hj => ?_) ?_ z oq) hE (zalS_K hS.2.2.2 rfl) (zalL_K hL rfl) (hF.put hlo z oq) hl hc hs
  · by_cases ej : j = i.toNatClampNeg
    · subst ej
      have e2 : zR (zsR h a i.toNatClampNeg v) a i.toNatClampNeg = v := if_pos ⟨rfl, rfl⟩
      rw [e2]
      omega
    · have e2 : zR (zsR h a i.toNatClampNeg v) a j = zR h a j := if_neg (fun q => ej q.2)
      rw [e2] at hj ⊢
      exact hH.2.2.1 a j (by omega) hj
  · rw [e1]
    congr 2
    funext j
    rw [zav_r (h := zsR h a i.toNatClampNeg v) (by show 23 ≤ zK h a; omega)]
    unfold updV
    by_cases ej : j = i.toNatClampNeg
    · subst ej
      have e2 : zR (zsR h a i.toNatClampNeg v) a i.toNatClampNeg = v := if_pos ⟨rfl, rfl⟩
      rw [if_pos rfl, e2, zrv, if_neg hv0]
    · have e2 : zR (zsR h a i.toNatClampNeg v) a j = zR h a j := if_neg (fun q => ej q.2)
      rw [if_neg ej, zav_r (by omega), e2]
end ZARR
end
section
set_option maxRecDepth 100000 in
theorem zdef {c : Nat} {r : vw_C} (hr : vwCl[c]? = some r) : ∀ k, k < r.2.2 → defaultValue (zty c k) = if (zty c k).isReference = true then .null else .int 0 := by
  have hl := zcl_lt hr
  match c, hl, hr with
  | 0, _, hr => cases hr; decide +kernel
  | 1, _, hr => cases hr; decide +kernel
  | 2, _, hr => cases hr; decide +kernel
  | 3, _, hr => cases hr; decide +kernel
  | 4, _, hr => cases hr; decide +kernel
  | 5, _, hr => cases hr; decide +kernel
  | 6, _, hr => cases hr; decide +kernel
  | 7, _, hr => cases hr; decide +kernel
  | 8, _, hr => cases hr; decide +kernel
  | 9, _, hr => cases hr; decide +kernel
  | 10, _, hr => cases hr; decide +kernel
  | 11, _, hr => cases hr; decide +kernel
section ZNEW
variable {y : ZM} {Φ : Option Value → ZH → Prop} {rc rs pc q : Nat} {L : List (Option Value)} {S : List Value} {h : ZH}
theorem zK_mk {a k n b : Nat} : zK (zmk h a k n) b = if b = a then k else zK h b := rfl
theorem zN_mk {a k n b : Nat} : zN (zmk h a k n) b = if b = a then n else zN h b := rfl
theorem zI_mk {a k n b j : Nat} : zI (zmk h a k n) b j = if b = a then 0 else zI h b j := rfl
theorem zL_mk {a k n b j : Nat} : zL (zmk h a k n) b j = if b = a then 0 else zL h b j := rfl
theorem zR_mk {a k n b j : Nat} : zR (zmk h a k n) b j = if b = a then 0 else zR h b j := rfl
/-- a new cell: what the caller's side needs -/
theorem zpush {a kd n : Nat} {D : va_G} {dA : Nat → ClassId} {b0 : Nat} {tr0 tr : Nat → Nat} {h0 : ZH} {s : State} {H H1 : Heap} {locs : List Loc} {ls : Array Slot} {nl : Nat} (hH : zHR D dA b0 tr h s H) (hE : zext tr0 h0 tr h) (hS : zalS h S) (hL : zalL h L) (hF : zFr b0 s.heap H locs) (hb : b0 ≤ s.heap.size) (hl : zLH tr nl ls L) (ha0 : a ≠ 0) (ha : zK h a = 0) (hk0 : kd ≠ 0) (hk30 : kd ≠ 30)
    (hc : ∀ tr1 : Nat → Nat, tr1 a = H.size → zcell D dA tr1 (zmk h a kd n) a s H1) (z : H1.size = H.size + 1) (oq : ∀ q : Nat, q < H.size → H1[q]? = H[q]?) :
    ∃ tr1 : Nat → Nat, tr1 a = H.size ∧ zHR D dA b0 tr1 (zmk h a kd n) s H1 ∧ zext tr0 h0 tr1 (zmk h a kd n) ∧ zalS (zmk h a kd n) (.ref a :: S) ∧ zalL (zmk h a kd n) L ∧ zFr b0 s.heap H1 locs ∧ zLH tr1 nl ls L ∧ S.map (ztr tr1) = S.map (ztr tr) := by
  have hKa : zK (zmk h a kd n) a = kd := if_pos rfl
  obtain ⟨tr1, t1, t2, t3⟩ := hH.push (h1 := zmk h a kd n) (a := a) (H1 := H1) (Nat.le_trans hb hF.1) ha0 ha (by rw [hKa]; exact hk0) (by rw [hKa]; exact hk30) (fun b e => ⟨if_neg e, if_neg e, fun _ => if_neg e, fun _ => if_neg e, fun _ => if_neg e⟩) (fun _ => if_pos rfl) hc z oq
  have mono : ∀ b, zK h b ≠ 0 → zK (zmk h a kd n) b ≠ 0 := fun b hb' => by
    rw [zK_mk]
    by_cases e : b = a
    · rw [if_pos e]; exact hk0
    · rw [if_neg e]; exact hb'
  exact ⟨tr1, t1, t3, fun b hb' => ⟨(t2 b (hE b hb').2).trans (hE b hb').1, mono b (hE b hb').2⟩, ⟨by show zK (zmk h a kd n) a ≠ 0; rw [hKa]; exact hk0, zalS_mono mono hS⟩, zalL_mono mono hL, ⟨by rw [z]; exact Nat.le_succ_of_le hF.1, fun x hx => by rw [oq x (Nat.lt_of_lt_of_le hx (Nat.le_trans hb hF.1))]; exact hF.2.1 x hx, hF.2.2⟩, zLH_eq t2 hL hl, ztr_map t2 hS⟩
theorem z_new {c a i : Nat} {r : vw_C} (hd : decode (zm_c y) pc = .ok (.new i, 3)) (hr : vwCl[c]? = some r) (hw1 : Cond.classLink (zm_x y).cls i r.1 ∈ zgood) (hw2 : Cond.instantiable r.1 r.2.2 ∈ zgood) (hw3 : Cond.initialized r.1 ∈ zgood) (ha0 : a ≠ 0) (ha : zK h a = 0) (hq : pc + 3 = q) (k : Zt y Φ rc rs q L (.ref a :: S) (zmk h a (c + 1) 0)) : Zt y Φ (rc + 1) (rs + r.2.2) pc L S h := by
  subst hq
  intro l D dA b0 tr0 h0 p e s m args below meth c' X tr H locs cells slots ls hH hE hS hL hF hl hc hs
  obtain ⟨hx, hb, hr0, hml, hown, hts, hlk, hnm, hK, hN, hb0⟩ := id X
  have hcl := zcl_lt hr
  obtain ⟨hSl, hfc, kC0, hkC0, hkind⟩ := id (hK.1 c r hr)
  refine W.newcK hx hb hown (hts _ hw1) (hts _ hw2) (hts _ hw3) rfl hd (by show cells + 1 ≤ zm_k y; omega) (by show slots + r.2.2 ≤ zm_s y; omega) hfc rfl (fun H1 kC hkC hcell z oq => ?_)
  have hborn := u_born (H := H1) (zty c) hts (zcls hr).2.2 (hK.1 c r hr) hkC hcell (zcls hr).1
  obtain ⟨tr1, t1, t2, t3, t4, t5, t6, t7, t8⟩ := zpush (n := 0) hH hE hS hL hF hb0 hl ha0 ha (Nat.succ_ne_zero c) (by omega) (fun tr1 et => by
    refine ⟨fun g1 g2 => ?_, fun g1 => ?_, fun c2 r2 g1 g2 => ?_⟩
    · rw [zK_mk, if_pos rfl] at g1; omega
    · rw [zK_mk, if_pos rfl] at g1; omega
    · rw [zK_mk, if_pos rfl] at g1
      have e2 : c2 = c := by omega
      subst e2
      cases hr.symm.trans g2
      rw [et]
      refine hborn.to (fun j hj => ?_)
      rw [zdef hr j hj]
      unfold zfv
      rw [zR_mk, zI_mk, if_pos rfl, if_pos rfl]
      rfl) z oq
  have w := k l D dA b0 tr0 h0 p e s m args below meth c' X tr1 H1 locs (cells + 1) (slots + r.2.2) ls t2 t3 t4 t5 t6 t7 (by omega) (by omega)
  have e9 : (Value.ref a :: S).map (ztr tr1) = Value.ref H.size :: S.map (ztr tr) := by
    show Value.ref (tr1 a) :: S.map (ztr tr1) = _
    rw [t1, t8]
  rw [e9] at w
  exact w
theorem z_newa {a kd N : Nat} {n : Int32} {atype : ArrayType} (hd : decode (zm_c y) pc = .ok (.newarray atype, 2)) (ht : newarray.typeOf atype = zat kd) (hk : kd = 20 ∨ kd = 21 ∨ kd = 22) (hw : Cond.arrayClass (zat kd) ∈ zgood) (hn : n.toNatClampNeg = N) (hn0 : ¬ n < 0) (hN : N ≤ 65536) (ha0 : a ≠ 0) (ha : zK h a = 0) (hq : pc + 2 = q) (k : Zt y Φ rc rs q L (.ref a :: S) (zmk h a kd N)) : Zt y Φ (rc + 1) (rs + N) pc L (.int n :: S) h := by
  subst hq
  subst hn
  intro l D dA b0 tr0 h0 p e s m args below meth c' X tr H locs cells slots ls hH hE hS hL hF hl hc hs
  obtain ⟨hx, hb, hr0, hml, hown, hts, hlk, hnm, hK, hN0, hb0⟩ := id X
  have hcb : n.toNatClampNeg * componentBytes (newarray.typeOf atype) ≤ 536870912 := by
    rw [ht]
    rcases hk with rfl | rfl | rfl
    · show n.toNatClampNeg * 4 ≤ _; omega
    · show n.toNatClampNeg * 1 ≤ _; omega
    · show n.toNatClampNeg * 8 ≤ _; omega
  refine W.newa hx hb (by rw [ht]; exact hts _ hw) rfl hd rfl hn0 hcb (by show cells + 1 ≤ zm_k y; omega) (by show slots + n.toNatClampNeg ≤ zm_s y; omega) (fun cA kA comp h1 h2 h3 => ?_)
  have hRA := (zarrT hK (kd := kd) (by omega) (by omega)).2
  have ecA : cA = dA kd := by
    rw [ht] at h1
    rcases hk with rfl | rfl | rfl <;> exact Option.some.inj (h1.symm.trans hRA)
  subst ecA
  generalize hH1 : H.push ({ cls := dA kd, slots := Array.replicate n.toNatClampNeg (defaultValue (newarray.typeOf atype)), vm := .none } : Cell) = H1
  have z1 : H1.size = H.size + 1 := by rw [← hH1, Array.size_push]
  have e1 : H1[H.size]? = some (arrV (dA kd) n.toNatClampNeg (fun _ => defaultValue (newarray.typeOf atype))) := by rw [← hH1, Array.getElem?_push_size, ← arrV_new]
  have o1 : ∀ q : Nat, q < H.size → H1[q]? = H[q]? := fun q hq => by rw [← hH1, Array.getElem?_push, if_neg (Nat.ne_of_lt hq)]
  obtain ⟨tr1, t1, t2, t3, t4, t5, t6, t7, t8⟩ := zpush (n := n.toNatClampNeg) (kd := kd) hH hE hS.2 hL hF hb0 hl ha0 ha (by omega) (by omega) (fun tr1 et => by
    refine ⟨fun g1 g2 => ?_, fun g1 => ?_, fun c2 r2 g1 g2 => ?_⟩
    · rw [et, e1]
      have ek : zK (zmk h a kd n.toNatClampNeg) a = kd := if_pos rfl
      have en : zN (zmk h a kd n.toNatClampNeg) a = n.toNatClampNeg := if_pos rfl
      rw [ek, en, ht]
      congr 2
      funext j
      unfold zav
      rw [ek, zI_mk, zL_mk, zR_mk, if_pos rfl, if_pos rfl, if_pos rfl]
      rcases hk with rfl | rfl | rfl <;> rfl
    · rw [zK_mk, if_pos rfl] at g1; omega
    · rw [zK_mk, if_pos rfl] at g1
      have := zcl_lt g2
      omega) z1 o1
  have w := k l D dA b0 tr0 h0 p e s m args below meth c' X tr1 H1 locs (cells + 1) (slots + n.toNatClampNeg) ls t2 t3 t4 t5 t6 t7 (by omega) (by omega)
  have e9 : (Value.ref a :: S).map (ztr tr1) = Value.ref H.size :: S.map (ztr tr) := by
    show Value.ref (tr1 a) :: S.map (ztr tr1) = _
    rw [t1, t8]
  rw [e9] at w
  exact w
theorem z_anew {a kd N i : Nat} {n : Int32} {C : String} (hd : decode (zm_c y) pc = .ok (.anewarray i, 3)) (ht : zat kd = .object C) (h1 : 23 ≤ kd) (h2 : kd < 30) (hC : C ∈ ([RX0, RX1, RX4, RX5, RX8] : List String)) (hw : Cond.classLink (zm_x y).cls i C ∈ zgood) (hn : n.toNatClampNeg = N) (hn0 : ¬ n < 0) (hN : N ≤ 65536) (ha0 : a ≠ 0) (ha : zK h a = 0) (hq : pc + 3 = q) (k : Zt y Φ rc rs q L (.ref a :: S) (zmk h a kd N)) : Zt y Φ (rc + 1) (rs + N) pc L (.int n :: S) h := by
  subst hq
  subst hn
  intro l D dA b0 tr0 h0 p e s m args below meth c' X tr H locs cells slots ls hH hE hS hL hF hl hc hs
  obtain ⟨hx, hb, hr0, hml, hown, hts, hlk, hnm, hK, hN0, hb0⟩ := id X
  refine W.anew hx hb hown (hts _ hw) (va_AO.use (hN0.2.1 C hC)) rfl hd rfl hn0 (by omega) (by show cells + 1 ≤ zm_k y; omega) (by show slots + n.toNatClampNeg ≤ zm_s y; omega) (fun cA kA comp f1 f2 f3 f4 => ?_)
  have hRA := (zarrT hK (kd := kd) (by omega) (by omega)).2
  rw [ht] at hRA
  obtain ⟨kA2, comp2, m1, m2, m3, m4⟩ := hRA
  have ecA : cA = dA kd := Option.some.inj (f1.symm.trans m4)
  subst ecA
  generalize hH1 : H.push ({ cls := dA kd, slots := Array.replicate n.toNatClampNeg .null, vm := .none } : Cell) = H1
  have z1 : H1.size = H.size + 1 := by rw [← hH1, Array.size_push]
  have e1 : H1[H.size]? = some (arrV (dA kd) n.toNatClampNeg (fun _ => .null)) := by rw [← hH1, Array.getElem?_push_size, ← arrV_new]
  have o1 : ∀ q : Nat, q < H.size → H1[q]? = H[q]? := fun q hq => by rw [← hH1, Array.getElem?_push, if_neg (Nat.ne_of_lt hq)]
  obtain ⟨tr1, t1, t2, t3, t4, t5, t6, t7, t8⟩ := zpush (n := n.toNatClampNeg) (kd := kd) hH hE hS.2 hL hF hb0 hl ha0 ha (by omega) (by omega) (fun tr1 et => by
    refine ⟨fun g1 g2 => ?_, fun g1 => ?_, fun c2 r2 g1 g2 => ?_⟩
    · rw [et, e1]
      have ek : zK (zmk h a kd n.toNatClampNeg) a = kd := if_pos rfl
      have en : zN (zmk h a kd n.toNatClampNeg) a = n.toNatClampNeg := if_pos rfl
      rw [ek, en]
      congr 2
      funext j
      rw [zav_r (by rw [ek]; omega), zR_mk, if_pos rfl]
      rfl
    · rw [zK_mk, if_pos rfl] at g1; omega
    · rw [zK_mk, if_pos rfl] at g1
      have := zcl_lt g2
      omega) z1 o1
  have w := k l D dA b0 tr0 h0 p e s m args below meth c' X tr1 H1 locs (cells + 1) (slots + n.toNatClampNeg) ls t2 t3 t4 t5 t6 t7 (by omega) (by omega)
  have e9 : (Value.ref a :: S).map (ztr tr1) = Value.ref H.size :: S.map (ztr tr) := by
    show Value.ref (tr1 a) :: S.map (ztr tr1) = _
    rw [t1, t8]
  rw [e9] at w
  exact w
end ZNEW
end
section
theorem Met.mono {l : Launch} {y : MethodName} {ws : List Cond} {rm : Room} {Pc : Array Value → State → Prop} {Qc Qc' : Array Value → State → Outcome → State → Prop} {mc ms : Nat} {free : Addr → Prop} (hM : Met l y ws rm Pc Qc mc ms free) (hq : ∀ a st o t, Qc a st o t → Qc' a st o t) : Met l y ws rm Pc Qc' mc ms free := by
  intro p e h1 h2 h3 s m args below h4 h5 h6 h7
  obtain ⟨n, o, k1, k2, k3, k4, k5⟩ := hM p e h1 h2 h3 s m args below h4 h5 h6 h7
  exact ⟨n, o, k1, k2, k3, hq _ _ _ _ k4, k5⟩
theorem Zc.mono {y : ZM} {av : List Value} {h : ZH} {Φ Ψ : Option Value → ZH → Prop} (hc : Zc y av h Φ) (hi : ∀ v h1, Φ v h1 → Ψ v h1) : Zc y av h Ψ :=
  fun l D dA b0 tr => (hc l D dA b0 tr).mono (fun a st o t ⟨v, h1, tr1, q1, q2, q3, q4, q5, q6⟩ => ⟨v, h1, tr1, q1, q2, q3, q4, hi v h1 q5, q6⟩)
/-- the contract by its answer: an int, a long, nothing -/
def ZcI (y : ZM) (av : List Value) (h : ZH) (ψ : Int32 → ZH → Prop) : Prop := Zc y av h (fun v h1 => ∃ x : Int32, v = some (.int x) ∧ ψ x h1)
def ZcL (y : ZM) (av : List Value) (h : ZH) (ψ : Int64 → ZH → Prop) : Prop := Zc y av h (fun v h1 => ∃ x : Int64, v = some (.long x) ∧ ψ x h1)
def ZcV (y : ZM) (av : List Value) (h : ZH) (ψ : ZH → Prop) : Prop := Zc y av h (fun v h1 => v = none ∧ ψ h1)
theorem ZcI.mono {y : ZM} {av : List Value} {h : ZH} {φ ψ : Int32 → ZH → Prop} (hc : ZcI y av h φ) (hi : ∀ v h1, φ v h1 → ψ v h1) : ZcI y av h ψ := Zc.mono hc (fun _ h1 ⟨x, e, q⟩ => ⟨x, e, hi x h1 q⟩)
theorem ZcL.mono {y : ZM} {av : List Value} {h : ZH} {φ ψ : Int64 → ZH → Prop} (hc : ZcL y av h φ) (hi : ∀ v h1, φ v h1 → ψ v h1) : ZcL y av h ψ := Zc.mono hc (fun _ h1 ⟨x, e, q⟩ => ⟨x, e, hi x h1 q⟩)
theorem ZcV.mono {y : ZM} {av : List Value} {h : ZH} {φ ψ : ZH → Prop} (hc : ZcV y av h φ) (hi : ∀ h1, φ h1 → ψ h1) : ZcV y av h ψ := Zc.mono hc (fun _ h1 ⟨e, q⟩ => ⟨e, hi h1 q⟩)
/-- the locals with which a method begins -/
def zent : List Value → List (Option Value)
  | [] => []
  | v :: vs => if v.category = 2 then some v :: none :: zent vs else some v :: zent vs
theorem zent_args {tr : Nat → Nat} : ∀ {vs : List Value} {i j : Nat} {v : Value}, (zent vs)[j]? = some (some v) → (i + j, ztr tr v) ∈ lv_args i (vs.map (ztr tr))
  | [], i, j, v, e => by simp [zent] at e
  | w :: vs, i, j, v, e => by
    show (i + j, ztr tr v) ∈ (i, ztr tr w) :: lv_args (if (ztr tr w).category = 2 then i + 2 else i + 1) (vs.map (ztr tr))
    rw [zcat]
    by_cases hc : w.category = 2
    · simp only [zent, hc, if_true] at e ⊢
      match j, e with
      | 0, e =>
        have : w = v := by simpa using e
        subst this
        exact List.mem_cons_self
      | 1, e => simp at e
      | j + 2, e =>
        have := zent_args (tr := tr) (vs := vs) (i := i + 2) (j := j) (v := v) (by simpa using e)
        rw [show i + (j + 2) = i + 2 + j by omega]
        exact List.mem_cons_of_mem _ this
    · simp only [zent, hc, if_false] at e ⊢
      match j, e with
      | 0, e =>
        have : w = v := by simpa using e
        subst this
        exact List.mem_cons_self
      | j + 1, e =>
        have := zent_args (tr := tr) (vs := vs) (i := i + 1) (j := j) (v := v) (by simpa using e)
        rw [show i + (j + 1) = i + 1 + j by omega]
        exact List.mem_cons_of_mem _ this
theorem lg_sl_tr {tr : Nat → Nat} : ∀ vs : List Value, (lg_sl (vs.map (ztr tr))).length = (zent vs).length
  | [] => rfl
  | w :: vs => by
    have ih := lg_sl_tr (tr := tr) vs
    unfold lg_sl at ih ⊢
    rw [List.map_cons, List.flatMap_cons, List.length_append, ih, zcat]
    by_cases hc : w.category = 2
    · simp [zent, hc]; omega
    · simp [zent, hc]; omega
theorem zent_al {h : ZH} : ∀ {vs : List Value}, zalS h vs → zalL h (zent vs)
  | [], _ => trivial
  | w :: vs, hs => by
    by_cases hc : w.category = 2
    · simp only [zent, hc, if_true]
      exact ⟨hs.1, zent_al hs.2⟩
    · simp only [zent, hc, if_false]
      exact ⟨hs.1, zent_al hs.2⟩
theorem zlh_pad {tr : Nat → Nat} {n k : Nat} {ls : Array Slot} {L : List (Option Value)} (hl : zLH tr n ls L) : zLH tr n ls (L ++ List.replicate k none) := by
  refine ⟨hl.1, hl.2.1, fun i v e => ?_⟩
  by_cases hi : i < L.length
  · rw [List.getElem?_append_left hi] at e
    exact hl.2.2 i v e
  · rw [List.getElem?_append_right (by omega)] at e
    have := List.mem_replicate.mp (List.mem_of_getElem? e)
    cases this.2
/-- A METHOD FROM ITS ENTRY -/
theorem Zc.intro {y : ZM} {av : List Value} {h : ZH} {Φ : Option Value → ZH → Prop} {L : List (Option Value)} (hp : plainName (zm_x y).cls = true) (hL : zent av ++ List.replicate (zm_n y - (zent av).length) none = L) (hn : (zent av).length ≤ zm_n y) (k : Zt y Φ (zm_k y) (zm_s y) 0 L [] h) : Zc y av h Φ := by
  subst hL
  intro l D dA b0 tr
  refine Met.ofW (cc := zm_c y) (maxL := zm_n y) (ret := zm_r y) hp rfl ?_
  intro p e s m args below meth c s₁ B hml hv
  obtain ⟨rfl, hal, hK, hN, hb0, hH⟩ := hv
  have hts := atoms_spec (ws := zws y) B.pre
  have hl := lv_entry (av.map (ztr tr)) (n := zm_n y) (by rw [lg_sl_tr]; exact hn)
  rw [lg_entry_eq]
  generalize (lg_sl (av.map (ztr tr)) ++ List.replicate (zm_n y - (lg_sl (av.map (ztr tr))).length) Slot.unset).toArray = ls at hl ⊢
  have hX : zCx y D dA b0 p s m (av.map (ztr tr)).toArray meth c := ⟨B.exec, B.bytes, B.returns, hml, findClass_of_methodNamed B.named, fun w hw => hts w (List.mem_cons_of_mem _ hw), B.notSynchronized, (name_of_methodNamed B.named B.method).1, hK, hN, hb0⟩
  refine k l D dA b0 tr h p e s m _ below meth c hX tr s.heap [] 0 0 ls hH (fun a ha => ⟨rfl, ha⟩) trivial ?_ ⟨Nat.le_refl _, fun _ _ => rfl, fun _ q => by cases q⟩ (zlh_pad ⟨hl.1, hl.2.1, fun i v e1 => ?_⟩) (by omega) (by omega)
  · refine zalL_sub (fun i v e1 => ?_)
    by_cases hi : i < (zent av).length
    · rw [List.getElem?_append_left hi] at e1
      exact zalL_at (zent_al hal) e1
    · rw [List.getElem?_append_right (by omega)] at e1
      have := List.mem_replicate.mp (List.mem_of_getElem? e1)
      cases this.2
  · have := hl.2.2 _ (zent_args (tr := tr) (i := 0) e1)
    rw [Nat.zero_add] at this
    exact this
/-- what a method must be to be called -/
def zOK (y : ZM) (n : Nat) : Prop := Cond.code (zm_x y) (zm_c y) (zm_n y) (zm_r y) ∈ zgood ∧ Cond.initialized (zm_x y).cls ∈ zgood ∧ (zm_x y).cls ≠ "java/lang/invoke/MethodHandle" ∧ (zm_x y).cls ≠ "java/lang/invoke/VarHandle" ∧ (parseMethodDescriptor (zm_x y).desc).map (fun d => d.parameters.length) = some n
def zML (own : String) (i : Nat) (x : MethodName) : Prop := Cond.methodLink own i x ∈ zgood ∨ ∃ host : String, Cond.methodLinkNest own i x host ∈ znest
theorem zgoodIn {ws : List Cond} (h : ∀ w ∈ ws, w ∈ zgood) : GoodIn zgood ws := fun w hw => ⟨h w hw, good_of_word (List.mem_filter.mp (h w hw)).2⟩
theorem zws_in {y : ZM} {n : Nat} (ok : zOK y n) : ∀ w ∈ zws y, w ∈ zgood := fun w hw => by
  rcases List.mem_cons.mp hw with rfl | hw
  · exact ok.1
  · exact hw
theorem zNW.same {u U : State} (e : u.vm = U.vm) (k : zNW u) : zNW U := by
  refine ⟨fun w hw => ?_, fun C hC => (k.2.1 C hC).moved (by rw [e]; exact Vm.Alike.refl _), fun t ht => (k.2.2 t ht).moved (by rw [e]; exact Vm.Alike.refl _)⟩
  have h := k.1 w hw
  have h2 := (List.mem_filter.mp hw).2
  cases w <;> first | exact va_Nw.same rfl e h | exact absurd h2 (by simp [zisN])
theorem zPc_blind {D : va_G} {dA : Nat → ClassId} {b0 : Nat} {tr : Nat → Nat} {h : ZH} {av : List Value} : FrameBlind (zPc D dA b0 tr h av) := fun a U g mk ⟨k1, k2, k3, k4, k5, k6⟩ =>
  ⟨k1, k2, k3.moved (U := U.calling g mk a) (Vm.Alike.refl _), zNW.same (u := U) (U := U.calling g mk a) rfl k4, k5, k6.moved (U := U.calling g mk a) (Vm.Alike.refl _)⟩
section ZCALL
variable {y : ZM} {Φ : Option Value → ZH → Prop} {rc rs pc q : Nat} {L : List (Option Value)} {S : List Value} {h : ZH}
theorem zcatsum {tr : Nat → Nat} (S : List Value) : ((S.map (ztr tr)).map fun v => v.category).sum = (S.map fun v => v.category).sum := by
  rw [List.map_map]
  congr 1
  exact List.map_congr_left (fun v _ => zcat tr v)
theorem Zt.run {y' : ZM} {av S0 : List Value} {Ψ : Option Value → ZH → Prop}
    (run : ∀ (l : Launch) (D : va_G) (dA : Nat → ClassId) (b0 : Nat) (p : Program) (e : Env) (s : State) (m : MethodId) (args : Array Value) (below : List Frame) (meth : Method) (c : Code), zCx y D dA b0 p s m args meth c → ∀ (tr : Nat → Nat) (H : Heap) (locs : List Loc) (cells slots : Nat) (ls : Array Slot), zHR D dA b0 tr h s H → zalS h S0 → s.heap.size ≤ H.size → ls.size = zm_n y → cells + zm_k y' ≤ zm_k y → slots + zm_s y' ≤ zm_s y →
      va_Run p l e (zrm y) s m args below meth c H locs cells slots (zm_k y') (zm_s y') (F0 m pc ls (S0.map (ztr tr))) (S.map (ztr tr)) (zQc D dA b0 tr h Ψ (av.map (ztr tr)).toArray) (fun q => b0 ≤ q))
    (hsub : zalS h S0 → zalS h S) (kk : ∀ v h1, Ψ v h1 → Zt y Φ rc rs (pc + 3) L (v.toList ++ S) h1) : Zt y Φ (rc + zm_k y') (rs + zm_s y') pc L S0 h := by
  intro l D dA b0 tr0 h0 p e s m args below meth c X tr H locs cells slots ls hH hE hS hL hF hl hc hs
  intro T hT XS
  obtain ⟨v0, st₀, t, T1, L2, e0, X1, hL2, e1, e2, ⟨v, h1, tr1, q1, q2, q3, q4, q5, q6, q7⟩, st⟩ := run l D dA b0 p e s m args below meth c X tr H locs cells slots ls hH hS hF.1 hl.1 (by omega) (by omega) T hT XS
  cases q1
  rw [e0] at q6 q7
  have hal : s.vm.Alike t.vm := by rw [← e2]; exact X1.warmed.alike
  have mono : ∀ b, zK h b ≠ 0 → zK h1 b ≠ 0 := fun b hb => (q4 b hb).2
  have teq : ∀ b, zK h b ≠ 0 → tr1 b = tr b := fun b hb => (q4 b hb).1
  have hS' := hsub hS
  have w := kk v h1 q5 l D dA b0 tr0 h0 p e s m args below meth c X tr1 T1.heap (locs ++ L2) (cells + zm_k y') (slots + zm_s y') ls (by rw [e1]; exact q3.moved hal.symm) (fun b hb => ⟨(teq b (hE b hb).2).trans (hE b hb).1, mono b (hE b hb).2⟩) (zalS_app.mpr ⟨q2, zalS_mono mono hS'⟩) (zalL_mono mono hL)
    ⟨Nat.le_trans hF.1 (by rw [e1]; exact q6), fun x hx => by rw [e1, q7 x hx]; exact hF.2.1 x hx, fun x hx => by
      rcases List.mem_append.mp hx with g | g
      · exact hF.2.2 x g
      · exact hL2 x g⟩ (zLH_eq teq hL hl) (by omega) (by omega)
  have es : (v.toList ++ S).map (ztr tr1) = (v.map (ztr tr1)).toList ++ S.map (ztr tr) := by
    rw [List.map_append, ztr_map teq hS']
    cases v <;> rfl
  rw [es] at w
  obtain ⟨t2, a1, b1⟩ := w T1 rfl X1
  exact ⟨t2, st t2 a1, b1⟩
theorem zpre {D : va_G} {dA : Nat → ClassId} {b0 : Nat} {p : Program} {s : State} {m : MethodId} {args : Array Value} {meth : Method} {c : Code} (X : zCx y D dA b0 p s m args meth c) {tr : Nat → Nat} {H : Heap} (hH : zHR D dA b0 tr h s H) (hz : s.heap.size ≤ H.size) {av : List Value} (hal : zalS h av) : ∀ U : State, U.heap = H → s.WarmedH U.vm → zPc D dA b0 tr h av (av.map (ztr tr)).toArray U := fun U hU hW =>
  ⟨rfl, hal, X.2.2.2.2.2.2.2.2.1.moved hW.alike, X.2.2.2.2.2.2.2.2.2.1.warm hW, by rw [hU]; exact Nat.le_trans X.2.2.2.2.2.2.2.2.2.2 hz, by rw [hU]; exact hH.moved hW.alike⟩
theorem z_callS0 {y' : ZM} {av : List Value} {n i : Nat} {Ψ : Option Value → ZH → Prop} (hC : Zc y' av h Ψ) (hd : decode (zm_c y) pc = .ok (.invokestatic i, 3)) (hlk : zML (zm_x y).cls i (zm_x y')) (ok : zOK y' n) (hst : Cond.static (zm_x y') ∈ zgood) (hn : av.length = n) (hw : (S.map fun v => v.category).sum ≤ 8) (hdp : zm_d y' + 1 ≤ zm_d y) (hml : zm_n y' ≤ 45)
    (kk : ∀ v h1, Ψ v h1 → Zt y Φ rc rs (pc + 3) L (v.toList ++ S) h1) : Zt y Φ (rc + zm_k y') (rs + zm_s y') pc L (av.reverse ++ S) h := by
  refine Zt.run (y' := y') (av := av) (Ψ := Ψ) ?_ (fun k => (zalS_app.mp k).2) kk
  intro l D dA b0 p e s m args below meth c X tr H locs cells slots ls hH hS hz hl hck hsk
  have hav : zalS h av := zalS_mem.mpr (fun v hv => zalS_mem.mp hS v (List.mem_append_left _ (List.mem_reverse.mpr hv)))
  obtain ⟨hx, hb, hr0, hmlx, hown, hts, hlkx, hnm, hK, hN, hb0⟩ := id X
  have hstk : (F0 m pc ls ((av.reverse ++ S).map (ztr tr))).stack = (av.map (ztr tr)).reverse ++ S.map (ztr tr) := by rw [List.map_append, List.map_reverse]
  have hW8 : 2 * (F0 m pc ls ((av.reverse ++ S).map (ztr tr))).monitorRoom + ((S.map (ztr tr)).map fun v => v.category).sum ≤ 8 := by rw [zcatsum]; show 2 * 0 + _ ≤ 8; omega
  rcases hlk with hlk | ⟨host, hlk⟩
  · exact va_runS (Ts := zgood) ⟨hx, hb, hmlx, hown, hts⟩ (hC l D dA b0 tr) (va_cwS n hts (zgoodIn (fun w hw => by
      rcases List.mem_append.mp hw with g | g
      · rcases List.mem_cons.mp g with rfl | g
        · exact hlk
        · rcases List.mem_cons.mp g with rfl | g
          · exact hst
          · rcases List.mem_cons.mp g with rfl | g
            · exact ok.2.1
            · cases g
      · exact zws_in ok w g)) rfl rfl rfl ⟨ok.2.2.1, ok.2.2.2.1, ok.2.2.2.2⟩ ⟨hdp, by show 8 + (zm_n y' + 11) + 64 * zm_d y' ≤ 64 * zm_d y; omega⟩) ⟨zPc_blind, zpre X hH hz hav⟩ rfl (by rw [List.length_map]; exact hn) hl hstk hW8 hd ⟨hck, hsk⟩
  · exact va_runSN (Ts := zgood) (host := host) ⟨hx, hb, hmlx, hown, hts⟩ (hC l D dA b0 tr) ⟨va_cnB n hts (zgoodIn (zws_in ok)) rfl rfl rfl (hN.1 _ hlk) (hts _ ok.2.1) ⟨ok.2.2.1, ok.2.2.2.1, ok.2.2.2.2⟩ ⟨hdp, by show 8 + (zm_n y' + 11) + 64 * zm_d y' ≤ 64 * zm_d y; omega⟩, hts _ hst, trivial⟩ ⟨zPc_blind, zpre X hH hz hav⟩ rfl (by rw [List.length_map]; exact hn) hl hstk hW8 hd ⟨hck, hsk⟩
theorem z_callV0 {y' : ZM} {b ci : Nat} {av : List Value} {n i : Nat} {r : vw_C} {Ψ : Option Value → ZH → Prop} (hC : Zc y' (.ref b :: av) h Ψ) (hd : decode (zm_c y) pc = .ok (.invokevirtual i, 3)) (hlk : zML (zm_x y).cls i (zm_x y')) (ok : zOK y' n) (hin : Cond.instanceMethod (zm_x y') ∈ zgood) (hse : Cond.selects (zm_x y').cls (zm_x y') (zm_x y') ∈ zgood) (hr : vwCl[ci]? = some r) (hcl : r.1 = (zm_x y').cls) (hb0 : zK h b = ci + 1) (hn : av.length = n) (hw : (S.map fun v => v.category).sum ≤ 8) (hdp : zm_d y' + 1 ≤ zm_d y) (hml : zm_n y' ≤ 45)
    (kk : ∀ v h1, Ψ v h1 → Zt y Φ rc rs (pc + 3) L (v.toList ++ S) h1) : Zt y Φ (rc + zm_k y') (rs + zm_s y') pc L (av.reverse ++ .ref b :: S) h := by
  refine Zt.run (y' := y') (av := .ref b :: av) (Ψ := Ψ) ?_ (fun k => (zalS_app.mp k).2.2) kk
  intro l D dA b0 p e s m args below meth c X tr H locs cells slots ls hH hS hz hl hck hsk
  have hav : zalS h (.ref b :: av) := ⟨(zalS_app.mp hS).2.1, zalS_mem.mpr (fun v hv => zalS_mem.mp hS v (List.mem_append_left _ (List.mem_reverse.mpr hv)))⟩
  obtain ⟨hx, hb, hr0, hmlx, hown, hts, hlkx, hnm, hK, hN, hbx⟩ := id X
  have hstk : (F0 m pc ls ((av.reverse ++ .ref b :: S).map (ztr tr))).stack = (av.map (ztr tr)).reverse ++ .ref (tr b) :: S.map (ztr tr) := by rw [List.map_append, List.map_reverse]; rfl
  have hW8 : 2 * (F0 m pc ls ((av.reverse ++ .ref b :: S).map (ztr tr))).monitorRoom + ((S.map (ztr tr)).map fun v => v.category).sum ≤ 8 := by rw [zcatsum]; show 2 * 0 + _ ≤ 8; omega
  obtain ⟨cellB, g1, g2, g3, -⟩ := (hH.1 b (by omega)).1.2.2 ci r hb0 hr
  have hrecv : ∃ cellB : Cell, H[tr b]? = some cellB ∧ cellB.vm.isStatics = false ∧ s.vm.findClass (zm_x y').cls = some cellB.cls := ⟨cellB, g1, by rw [g3]; rfl, by rw [g2, ← hcl]; exact (hK.1 ci r hr).2.1⟩
  rcases hlk with hlk | ⟨host, hlk⟩
  · exact va_runV (Ts := zgood) (C := (zm_x y').cls) ⟨hx, hb, hmlx, hown, hts⟩ (hC l D dA b0 tr) (cwV n hts (zgoodIn (fun w hw => by
      rcases List.mem_append.mp hw with g | g
      · rcases List.mem_cons.mp g with rfl | g
        · exact hlk
        · rcases List.mem_cons.mp g with rfl | g
          · exact hin
          · rcases List.mem_cons.mp g with rfl | g
            · exact hse
            · rcases List.mem_cons.mp g with rfl | g
              · exact ok.2.1
              · cases g
      · exact zws_in ok w g)) rfl rfl rfl ⟨rfl, ok.2.2.1, ok.2.2.2.1, ok.2.2.2.2⟩ ⟨hdp, by show 8 + (zm_n y' + 11) + 64 * zm_d y' ≤ 64 * zm_d y; omega⟩) ⟨zPc_blind, hrecv, zpre X hH hz hav⟩ rfl (by rw [List.length_map]; exact hn) hl hstk hW8 hd ⟨hck, hsk⟩
  · exact va_runVN (Ts := zgood) (host := host) (C := (zm_x y').cls) ⟨hx, hb, hmlx, hown, hts⟩ (hC l D dA b0 tr) ⟨va_cnB n hts (zgoodIn (zws_in ok)) rfl rfl rfl (hN.1 _ hlk) (hts _ ok.2.1) ⟨ok.2.2.1, ok.2.2.2.1, ok.2.2.2.2⟩ ⟨hdp, by show 8 + (zm_n y' + 11) + 64 * zm_d y' ≤ 64 * zm_d y; omega⟩, hts _ hin, hts _ hse⟩ ⟨zPc_blind, hrecv, zpre X hH hz hav⟩ rfl (by rw [List.length_map]; exact hn) hl hstk hW8 hd ⟨hck, hsk⟩
theorem z_callC0 {y' : ZM} {b : Nat} {av : List Value} {n i : Nat} {Ψ : Option Value → ZH → Prop} (hC : Zc y' (.ref b :: av) h Ψ) (hd : decode (zm_c y) pc = .ok (.invokespecial i, 3)) (hlk : zML (zm_x y).cls i (zm_x y')) (ok : zOK y' n) (hrt : zm_r y' = none) (hin : Cond.instanceMethod (zm_x y') ∈ zgood) (hnm0 : (zm_x y').name = "<init>") (hn : av.length = n) (hw : (S.map fun v => v.category).sum ≤ 8) (hdp : zm_d y' + 1 ≤ zm_d y) (hml : zm_n y' ≤ 45)
    (kk : ∀ v h1, Ψ v h1 → Zt y Φ rc rs (pc + 3) L (v.toList ++ S) h1) : Zt y Φ (rc + zm_k y') (rs + zm_s y') pc L (av.reverse ++ .ref b :: S) h := by
  refine Zt.run (y' := y') (av := .ref b :: av) (Ψ := Ψ) ?_ (fun k => (zalS_app.mp k).2.2) kk
  intro l D dA b0 p e s m args below meth c X tr H locs cells slots ls hH hS hz hl hck hsk
  have hav : zalS h (.ref b :: av) := ⟨(zalS_app.mp hS).2.1, zalS_mem.mpr (fun v hv => zalS_mem.mp hS v (List.mem_append_left _ (List.mem_reverse.mpr hv)))⟩
  obtain ⟨hx, hb, hr0, hmlx, hown, hts, hlkx, hnm, hK, hN, hbx⟩ := id X
  have hstk : (F0 m pc ls ((av.reverse ++ .ref b :: S).map (ztr tr))).stack = (av.map (ztr tr)).reverse ++ .ref (tr b) :: S.map (ztr tr) := by rw [List.map_append, List.map_reverse]; rfl
  have hW8 : 2 * (F0 m pc ls ((av.reverse ++ .ref b :: S).map (ztr tr))).monitorRoom + ((S.map (ztr tr)).map fun v => v.category).sum ≤ 8 := by rw [zcatsum]; show 2 * 0 + _ ≤ 8; omega
  have hcw : zws y' = Cond.code (zm_x y') (zm_c y') (zm_n y') none :: zgood := by unfold zws; rw [hrt]
  rcases hlk with hlk | ⟨host, hlk⟩
  · exact va_runI (Ts := zgood) ⟨hx, hb, hmlx, hown, hts⟩ (hC l D dA b0 tr) ⟨callB_of n hts (zgoodIn (zws_in ok)) hcw rfl rfl (hts _ ok.2.1) (hts _ hlk) ⟨ok.2.2.1, ok.2.2.2.1, ok.2.2.2.2⟩ ⟨hdp, by show 8 + (zm_n y' + 11) + 64 * zm_d y' ≤ 64 * zm_d y; omega⟩, hnm0, hts _ hin⟩ ⟨zPc_blind, zpre X hH hz hav⟩ rfl (by rw [List.length_map]; exact hn) hl hstk hW8 hd ⟨hck, hsk⟩
  · exact va_runIN (Ts := zgood) (host := host) ⟨hx, hb, hmlx, hown, hts⟩ (hC l D dA b0 tr) ⟨va_cnB n hts (zgoodIn (zws_in ok)) hcw rfl rfl (hN.1 _ hlk) (hts _ ok.2.1) ⟨ok.2.2.1, ok.2.2.2.1, ok.2.2.2.2⟩ ⟨hdp, by show 8 + (zm_n y' + 11) + 64 * zm_d y' ≤ 64 * zm_d y; omega⟩, hnm0, hts _ hin⟩ ⟨zPc_blind, zpre X hH hz hav⟩ rfl (by rw [List.length_map]; exact hn) hl hstk hW8 hd ⟨hck, hsk⟩
end ZCALL
end
section
section ZCALL2
variable {y : ZM} {Φ : Option Value → ZH → Prop} {rc rs rc' rs' pc q : Nat} {L : List (Option Value)} {S S0 : List Value} {h : ZH}
theorem z_callSI {y' : ZM} {av : List Value} {n i : Nat} {ψ : Int32 → ZH → Prop} (hC : ZcI y' av h ψ) (hd : decode (zm_c y) pc = .ok (.invokestatic i, 3)) (hlk : zML (zm_x y).cls i (zm_x y')) (ok : zOK y' n) (hst : Cond.static (zm_x y') ∈ zgood) (hn : av.length = n) (hw : (S.map fun v => v.category).sum ≤ 8) (hdp : zm_d y' + 1 ≤ zm_d y) (hml : zm_n y' ≤ 45) (hS : av.reverse ++ S = S0) (hrc : rc + zm_k y' = rc') (hrs : rs + zm_s y' = rs') (hq : pc + 3 = q)
    (kk : ∀ x h1, ψ x h1 → Zt y Φ rc rs q L (.int x :: S) h1) : Zt y Φ rc' rs' pc L S0 h := by
  subst hS hrc hrs hq
  exact z_callS0 hC hd hlk ok hst hn hw hdp hml (fun v h1 ⟨x, e, k⟩ => by subst e; exact kk x h1 k)
theorem z_callSL {y' : ZM} {av : List Value} {n i : Nat} {ψ : Int64 → ZH → Prop} (hC : ZcL y' av h ψ) (hd : decode (zm_c y) pc = .ok (.invokestatic i, 3)) (hlk : zML (zm_x y).cls i (zm_x y')) (ok : zOK y' n) (hst : Cond.static (zm_x y') ∈ zgood) (hn : av.length = n) (hw : (S.map fun v => v.category).sum ≤ 8) (hdp : zm_d y' + 1 ≤ zm_d y) (hml : zm_n y' ≤ 45) (hS : av.reverse ++ S = S0) (hrc : rc + zm_k y' = rc') (hrs : rs + zm_s y' = rs') (hq : pc + 3 = q)
    (kk : ∀ x h1, ψ x h1 → Zt y Φ rc rs q L (.long x :: S) h1) : Zt y Φ rc' rs' pc L S0 h := by
  subst hS hrc hrs hq
  exact z_callS0 hC hd hlk ok hst hn hw hdp hml (fun v h1 ⟨x, e, k⟩ => by subst e; exact kk x h1 k)
theorem z_callVI {y' : ZM} {b ci : Nat} {av : List Value} {n i : Nat} {r : vw_C} {ψ : Int32 → ZH → Prop} (hC : ZcI y' (.ref b :: av) h ψ) (hd : decode (zm_c y) pc = .ok (.invokevirtual i, 3)) (hlk : zML (zm_x y).cls i (zm_x y')) (ok : zOK y' n) (hin : Cond.instanceMethod (zm_x y') ∈ zgood) (hse : Cond.selects (zm_x y').cls (zm_x y') (zm_x y') ∈ zgood) (hr : vwCl[ci]? = some r) (hcl : r.1 = (zm_x y').cls) (hb0 : zK h b = ci + 1) (hn : av.length = n) (hw : (S.map fun v => v.category).sum ≤ 8) (hdp : zm_d y' + 1 ≤ zm_d y) (hml : zm_n y' ≤ 45) (hS : av.reverse ++ .ref b :: S = S0) (hrc : rc + zm_k y' = rc') (hrs : rs + zm_s y' = rs') (hq : pc + 3 = q)
    (kk : ∀ x h1, ψ x h1 → Zt y Φ rc rs q L (.int x :: S) h1) : Zt y Φ rc' rs' pc L S0 h := by
  subst hS hrc hrs hq
  exact z_callV0 hC hd hlk ok hin hse hr hcl hb0 hn hw hdp hml (fun v h1 ⟨x, e, k⟩ => by subst e; exact kk x h1 k)
theorem z_callVV {y' : ZM} {b ci : Nat} {av : List Value} {n i : Nat} {r : vw_C} {ψ : ZH → Prop} (hC : ZcV y' (.ref b :: av) h ψ) (hd : decode (zm_c y) pc = .ok (.invokevirtual i, 3)) (hlk : zML (zm_x y).cls i (zm_x y')) (ok : zOK y' n) (hin : Cond.instanceMethod (zm_x y') ∈ zgood) (hse : Cond.selects (zm_x y').cls (zm_x y') (zm_x y') ∈ zgood) (hr : vwCl[ci]? = some r) (hcl : r.1 = (zm_x y').cls) (hb0 : zK h b = ci + 1) (hn : av.length = n) (hw : (S.map fun v => v.category).sum ≤ 8) (hdp : zm_d y' + 1 ≤ zm_d y) (hml : zm_n y' ≤ 45) (hS : av.reverse ++ .ref b :: S = S0) (hrc : rc + zm_k y' = rc') (hrs : rs + zm_s y' = rs') (hq : pc + 3 = q)
    (kk : ∀ h1, ψ h1 → Zt y Φ rc rs q L S h1) : Zt y Φ rc' rs' pc L S0 h := by
  subst hS hrc hrs hq
  exact z_callV0 hC hd hlk ok hin hse hr hcl hb0 hn hw hdp hml (fun v h1 ⟨e, k⟩ => by subst e; exact kk h1 k)
theorem z_callCV {y' : ZM} {b : Nat} {av : List Value} {n i : Nat} {ψ : ZH → Prop} (hC : ZcV y' (.ref b :: av) h ψ) (hd : decode (zm_c y) pc = .ok (.invokespecial i, 3)) (hlk : zML (zm_x y).cls i (zm_x y')) (ok : zOK y' n) (hrt : zm_r y' = none) (hin : Cond.instanceMethod (zm_x y') ∈ zgood) (hnm0 : (zm_x y').name = "<init>") (hn : av.length = n) (hw : (S.map fun v => v.category).sum ≤ 8) (hdp : zm_d y' + 1 ≤ zm_d y) (hml : zm_n y' ≤ 45) (hS : av.reverse ++ .ref b :: S = S0) (hrc : rc + zm_k y' = rc') (hrs : rs + zm_s y' = rs') (hq : pc + 3 = q)
    (kk : ∀ h1, ψ h1 → Zt y Φ rc rs q L S h1) : Zt y Φ rc' rs' pc L S0 h := by
  subst hS hrc hrs hq
  exact z_callC0 hC hd hlk ok hrt hin hnm0 hn hw hdp hml (fun v h1 ⟨e, k⟩ => by subst e; exact kk h1 k)
theorem zobj_in : Cond.instanceMethod objectInit ∈ zgood := zgood_t 22 (by decide +kernel) (by decide +kernel)
theorem zobj_code : Cond.code objectInit ⟨#[0xb1]⟩ 1 none ∈ zgood := zgood_t 23 (by decide +kernel) (by decide +kernel)
theorem z_objInit {b i : Nat} (hd : decode (zm_c y) pc = .ok (.invokespecial i, 3)) (hlk : Cond.methodLink (zm_x y).cls i objectInit ∈ zgood) (hw : (S.map fun v => v.category).sum ≤ 8) (hdp : 1 ≤ zm_d y) (hq : pc + 3 = q) (k : Zt y Φ rc rs q L S h) : Zt y Φ rc rs pc L (.ref b :: S) h := by
  subst hq
  intro l D dA b0 tr0 h0 p e s m args below meth c X tr H locs cells slots ls hH hE hS hL hF hl hc hs
  obtain ⟨hx, hb, hr0, hmlx, hown, hts, hlkx, hnm, hK, hN, hbx⟩ := id X
  exact W.objInit hx hb hown (hts _ hlk) (hts _ zobj_in) (hts _ zobj_code) rfl (by rw [hmlx]; exact hl.1) rfl hd (by show 1 ≤ zm_d y; exact hdp) (by rw [zcatsum]; show 2 * 0 + _ + 12 ≤ 64 * zm_d y; omega) (k l D dA b0 tr0 h0 p e s m args below meth c X tr H locs cells slots ls hH hE hS.2 hL hF hl hc hs)
theorem zac_st : Cond.static arraycopyName ∈ zgood := zgood_t 277 (by decide +kernel) (by decide +kernel)
theorem zac_nt : Cond.native arraycopyName ∈ zgood := zgood_t 278 (by decide +kernel) (by decide +kernel)
theorem zac_in : Cond.initialized "java/lang/System" ∈ zgood := zgood_t 9 (by decide +kernel) (by decide +kernel)
theorem zac_nn {z : Int32} (hz : ¬ z < 0) : z.toInt = (z.toNatClampNeg : Int) := by
  have hz0 : (0 : Int) ≤ z.toInt := by
    have := Int32.not_lt.mp hz
    simpa using Int32.le_iff_toInt_le.mp this
  show z.toInt = ((z.toInt.toNat : Nat) : Int)
  omega
/-- n ints of the array b, from sp on, laid into the array a (another one), from dp on -/
theorem z_acp {a b kd i : Nat} {sp dp n : Int32} (hd : decode (zm_c y) pc = .ok (.invokestatic i, 3)) (hlk : Cond.methodLink (zm_x y).cls i arraycopyName ∈ zgood) (hka : zK h a = kd) (hkb : zK h b = kd ∨ (zK h b = 30 ∧ kd = 20)) (hkd : kd = 20 ∨ kd = 21) (hne : a ≠ b) (h1 : ¬ sp < 0) (h2 : ¬ dp < 0) (h3 : ¬ n < 0) (h4 : sp.toNatClampNeg + n.toNatClampNeg ≤ zN h b) (h5 : dp.toNatClampNeg + n.toNatClampNeg ≤ zN h a) (hz : kd = 21 → ∀ j, j < n.toNatClampNeg → zI h b (sp.toNatClampNeg + j) = 0 ∨ zI h b (sp.toNatClampNeg + j) = 1) (hw : (S.map fun v => v.category).sum ≤ 8) (hdp : 1 ≤ zm_d y) (hq : pc + 3 = q)
    (k : Zt y Φ rc rs q L S (zcp h b sp.toNatClampNeg a dp.toNatClampNeg n.toNatClampNeg)) : Zt y Φ rc rs pc L (.int n :: .int dp :: .ref a :: .int sp :: .ref b :: S) h := by
  subst hq
  intro l D dA b0 tr0 h0 p e s m args below meth c X tr H locs cells slots ls hH hE hS hL hF hl hc hs
  obtain ⟨hx, hb, hr0, hmlx, hown, hts, hlkx, hnm, hK, hN, hbx⟩ := id X
  have hca := (hH.1 a (by omega)).1.1 (by omega) (by omega)
  have hloa := (hH.1 a (by omega)).2.2.1 (by omega)
  rw [hka] at hca
  obtain ⟨-, ka, hka1, cma, hkka⟩ := (zarrT hK (kd := kd) (by omega) (by omega)).1 (zN h a) (zav tr h a)
  -- the source: its cell, its class, its values
  obtain ⟨cb, kb, cmb, g1, g2, g3, g4, g5, g6, g7⟩ : ∃ (cb : Cell) (kb : Class) (cmb : ClassId), H[tr b]? = some cb ∧ (∀ z, cb.vm ≠ .statics z) ∧ cb.vm ≠ .unknown ∧ s.vm.classes[cb.cls]? = some kb ∧ kb.kind = .array cmb (zat kd) ∧ cb.slots.size = zN h b ∧ ∀ j, j < zN h b → cb.slots[j]? = some (.int (zI h b j)) := by
    rcases hkb with hkb | ⟨hkb, e20⟩
    · have hcb := (hH.1 b (by omega)).1.1 (by omega) (by omega)
      rw [hkb] at hcb
      obtain ⟨-, kb, hkb1, cmb, hkkb⟩ := (zarrT hK (kd := kd) (by omega) (by omega)).1 (zN h b) (zav tr h b)
      exact ⟨_, kb, cmb, hcb, fun _ z => (by cases z), fun z => (by cases z), hkb1, hkkb, arrV_size _ _ _, fun j hj => by rw [arrV_read _ _ hj, zav_i (by omega)]⟩
    · subst e20
      obtain ⟨cell, q1, ⟨q2, kb, q3, cmb, q4⟩, q5, q6, q7⟩ := (hH.1 b (by omega)).1.2.1 hkb
      exact ⟨cell, kb, cmb, q1, q2, q5, q3, q4, q6, q7⟩
  have hval : ∀ j, j < n.toNatClampNeg → cb.slots.getD (sp.toNatClampNeg + j) .null = .int (zI h b (sp.toNatClampNeg + j)) := fun j hj => by
    rw [Array.getD_eq_getD_getElem?, g7 _ (by omega)]
    rfl
  have hnw : nativeFrameWords "java/lang/System" "arraycopy" 5 ≤ 40 := by decide +kernel
  intro T hT XS
  obtain ⟨vm', X', step⟩ := XS.arraycopy hx hown (hts _ hlk) (hts _ zac_nt) (hts _ zac_st) (hts _ zac_in) (src := tr b) (dst := tr a) (cs := cb) (cd := arrV (dA kd) (zN h a) (zav tr h a)) (srcPos := sp) (destPos := dp) (n := n) (by rw [hT]; exact g1) (by rw [hT]; exact hca)
    g2 (fun _ z => by cases z) g3 (fun z => by cases z) g4 hka1 g5 hkka (by rcases hkd with rfl | rfl <;> simp [zat, refKind]) h1 h2 h3
    (by rw [zac_nn h1, zac_nn h3, g6]; omega)
    (by rw [zac_nn h2, zac_nn h3, arrV_size]; omega)
    (fun vm₁ _ j hj => by
      rw [hval j hj]
      refine ⟨?_, trivial⟩
      rcases hkd with rfl | rfl
      · rfl
      · rcases hz rfl j hj with e1 | e1 <;> rw [e1] <;> rfl)
    (g := F0 m pc ls (.int n :: .int dp :: .ref (tr a) :: .int sp :: .ref (tr b) :: S.map (ztr tr))) rfl (by rw [hmlx]; exact hl.1) (rest := S.map (ztr tr)) rfl (by rw [hb]; exact hd) (by show 1 ≤ zm_d y; exact hdp) (by rw [zcatsum]; show 2 * 0 + _ + (nativeFrameWords "java/lang/System" "arraycopy" 5 + 11) ≤ 64 * zm_d y; omega)
  have hcop : copied cb (arrV (dA kd) (zN h a) (zav tr h a)) sp dp n = arrV (dA kd) (zN h a) (zav tr (zcp h b sp.toNatClampNeg a dp.toNatClampNeg n.toNatClampNeg) a) := by
    have e9 : cb.stretch sp.toNatClampNeg n.toNatClampNeg = (List.range n.toNatClampNeg).map (fun j => .int (zI h b (sp.toNatClampNeg + j))) := by
      unfold Cell.stretch
      exact List.map_congr_left (fun j hj => hval j (List.mem_range.mp hj))
    show (arrV (dA kd) (zN h a) (zav tr h a)).storeRun dp.toNatClampNeg (cb.stretch sp.toNatClampNeg n.toNatClampNeg) = _
    rw [e9, Cell.storeRun, va_pairs]
    congr 1
    funext j
    simp only [List.length_map, List.length_range, Nat.add_zero]
    have ez : zav tr (zcp h b sp.toNatClampNeg a dp.toNatClampNeg n.toNatClampNeg) a j = .int (zI (zcp h b sp.toNatClampNeg a dp.toNatClampNeg n.toNatClampNeg) a j) := zav_i (h := zcp h b sp.toNatClampNeg a dp.toNatClampNeg n.toNatClampNeg) (by show zK h a = 20 ∨ zK h a = 21; omega) j
    rw [ez]
    by_cases hj : dp.toNatClampNeg ≤ j ∧ j < dp.toNatClampNeg + n.toNatClampNeg
    · rw [if_pos hj, List.getD_eq_getElem?_getD, List.getElem?_map, List.getElem?_range (by omega)]
      exact congrArg Value.int (if_pos ⟨rfl, hj.1, hj.2⟩).symm
    · rw [if_neg hj, zav_i (by omega)]
      exact congrArg Value.int (if_neg (fun q => hj q.2)).symm
  rw [hcop] at X' step
  have hlt : tr a < H.size := (hH.1 a (by omega)).2.1
  generalize hH1 : H.setIfInBounds (tr a) (arrV (dA kd) (zN h a) (zav tr (zcp h b sp.toNatClampNeg a dp.toNatClampNeg n.toNatClampNeg) a)) = H1
  have hheap : ((T.setVm vm').setCell (tr a) (arrV (dA kd) (zN h a) (zav tr (zcp h b sp.toNatClampNeg a dp.toNatClampNeg n.toNatClampNeg) a))).heap = H1 := by rw [← hH1, ← hT]; rfl
  have oq : ∀ x : Nat, x ≠ tr a → H1[x]? = H[x]? := fun x hx' => by rw [← hH1]; simp [Array.getElem?_setIfInBounds, Ne.symm hx']
  have hz1 : H1.size = H.size := by rw [← hH1]; simp
  have hat : H1[tr a]? = some (arrV (dA kd) (zN h a) (zav tr (zcp h b sp.toNatClampNeg a dp.toNatClampNeg n.toNatClampNeg) a)) := by rw [← hH1]; simp [Array.getElem?_setIfInBounds, hlt]
  obtain ⟨t, a1, b1⟩ := k l D dA b0 tr0 h0 p e s m args below meth c X tr H1 _ cells slots ls (hH.arr (h1 := zcp h b sp.toNatClampNeg a dp.toNatClampNeg n.toNatClampNeg) (a := a) (by omega) (by omega) rfl rfl (fun x hx' => ⟨fun j => if_neg (fun q => hx' q.1), fun _ => rfl, fun _ => rfl⟩) (fun j hj => hH.2.2.1 a j (by omega) hj) (by rw [hka]; exact hat) hz1 oq) hE (zalS_K hS.2.2.2.2.2 rfl) (zalL_K hL rfl)
    ⟨by rw [hz1]; exact hF.1, fun x hx' => by rw [oq x (by omega)]; exact hF.2.1 x hx', fun x hx' => by
      rcases List.mem_append.mp hx' with g | g
      · exact hF.2.2 x g
      · obtain ⟨z, -, hz'⟩ := List.mem_map.mp g
        rw [← hz']
        exact hloa⟩ hl hc hs _ hheap X'
  exact ⟨t, step t a1, b1⟩
end ZCALL2
end
section
/-- new T[n][m]: the outer array at a (kind ko), its rows at g, g + 1 .. (kind ki, length m) -/
def zmM (h : ZH) (a ko n g ki m : Nat) : ZH :=
  (fun b => if b = a then ko else if g ≤ b ∧ b < g + n then ki else zK h b, fun b => if b = a then n else if g ≤ b ∧ b < g + n then m else zN h b,
   fun b j => if b = a ∨ (g ≤ b ∧ b < g + n) then 0 else zI h b j, fun b j => if b = a ∨ (g ≤ b ∧ b < g + n) then 0 else zL h b j, fun b j => if b = a then (if j < n then g + j else 0) else if g ≤ b ∧ b < g + n then 0 else zR h b j)
theorem zK_mM {h : ZH} {a ko n g ki m b : Nat} : zK (zmM h a ko n g ki m) b = if b = a then ko else if g ≤ b ∧ b < g + n then ki else zK h b := rfl
theorem zN_mM {h : ZH} {a ko n g ki m b : Nat} : zN (zmM h a ko n g ki m) b = if b = a then n else if g ≤ b ∧ b < g + n then m else zN h b := rfl
theorem zI_mM {h : ZH} {a ko n g ki m b j : Nat} : zI (zmM h a ko n g ki m) b j = if b = a ∨ (g ≤ b ∧ b < g + n) then 0 else zI h b j := rfl
theorem zL_mM {h : ZH} {a ko n g ki m b j : Nat} : zL (zmM h a ko n g ki m) b j = if b = a ∨ (g ≤ b ∧ b < g + n) then 0 else zL h b j := rfl
theorem zR_mM {h : ZH} {a ko n g ki m b j : Nat} : zR (zmM h a ko n g ki m) b j = if b = a then (if j < n then g + j else 0) else if g ≤ b ∧ b < g + n then 0 else zR h b j := rfl
theorem zouter (c : ClassId) (N h0 : Nat) : ∀ i : Nat, Jvm.Free.Multi.outerC c N h0 i = arrV c N (fun j => if j < i then .ref (h0 + 1 + j) else .null)
  | 0 => by
    show ({ cls := c, slots := Array.replicate N .null, vm := .none } : Cell) = _
    rw [arrV_new]
    refine congrArg (arrV c N) (funext fun j => ?_)
    simp
  | i + 1 => by
    show (Jvm.Free.Multi.outerC c N h0 i).setSlot i (.ref (h0 + 1 + i)) = _
    rw [zouter c N h0 i, arrV_store]
    refine congrArg (arrV c N) (funext fun j => ?_)
    by_cases e : j = i
    · subst e
      simp [updV]
    · by_cases h : j < i
      · simp [updV, e, h, Nat.lt_succ_of_lt h]
      · simp [updV, e, h, show ¬ j < i + 1 by omega]
theorem zHR.pushM {D : va_G} {dA : Nat → ClassId} {b0 : Nat} {tr : Nat → Nat} {h : ZH} {a ko n g ki m : Nat} {U : State} {H H1 : Heap} (k : zHR D dA b0 tr h U H) (hbs : b0 ≤ H.size) (ha0 : a ≠ 0) (ha : zK h a = 0) (hg0 : g ≠ 0) (hg : ∀ j, j < n → zK h (g + j) = 0) (hag : a < g ∨ g + n ≤ a) (hko1 : 28 ≤ ko) (hko2 : ko < 30) (hki1 : 20 ≤ ki) (hki2 : ki < 23)
    (hout : H1[H.size]? = some (arrV (dA ko) n (fun j => if j < n then .ref (H.size + 1 + j) else .null))) (hrow : ∀ j, j < n → H1[H.size + 1 + j]? = some (arrV (dA ki) m (fun _ => if ki = 22 then .long 0 else .int 0))) (z : H1.size = H.size + 1 + n) (oq : ∀ q : Nat, q < H.size → H1[q]? = H[q]?) :
    ∃ tr1 : Nat → Nat, tr1 a = H.size ∧ (∀ b, zK h b ≠ 0 → tr1 b = tr b) ∧ zHR D dA b0 tr1 (zmM h a ko n g ki m) U H1 := by
  obtain ⟨k1, k2, k3, k4, k5⟩ := k
  have hne : ∀ b, zK h b ≠ 0 → b ≠ a := fun b hb e => hb (by rw [e]; exact ha)
  have hng : ∀ b, zK h b ≠ 0 → ¬ (g ≤ b ∧ b < g + n) := fun b hb e => hb (by
    have := hg (b - g) (by omega)
    rwa [show g + (b - g) = b by omega] at this)
  obtain ⟨tr1, etr⟩ : ∃ tr1 : Nat → Nat, tr1 = fun x => if x = a then H.size else if g ≤ x ∧ x < g + n then H.size + 1 + (x - g) else tr x := ⟨_, rfl⟩
  have ta : tr1 a = H.size := by rw [etr]; exact if_pos rfl
  have tg : ∀ j, j < n → tr1 (g + j) = H.size + 1 + j := fun j hj => by
    rw [etr]
    show (if g + j = a then _ else _) = _
    rw [if_neg (by omega), if_pos (by omega)]
    omega
  have ht : ∀ b, zK h b ≠ 0 → tr1 b = tr b := fun b hb => by
    rw [etr]
    show (if b = a then _ else _) = _
    rw [if_neg (hne b hb), if_neg (hng b hb)]
  have kinds : ∀ b, zK (zmM h a ko n g ki m) b ≠ 0 → b = a ∨ (∃ j, j < n ∧ b = g + j ∧ b ≠ a) ∨ (b ≠ a ∧ ¬ (g ≤ b ∧ b < g + n) ∧ zK h b ≠ 0) := fun b hb => by
    by_cases e : b = a
    · exact Or.inl e
    · by_cases e2 : g ≤ b ∧ b < g + n
      · exact Or.inr (Or.inl ⟨b - g, by omega, by omega, e⟩)
      · refine Or.inr (Or.inr ⟨e, e2, ?_⟩)
        rw [zK_mM, if_neg e, if_neg e2] at hb
        exact hb
  have Ka : zK (zmM h a ko n g ki m) a = ko := if_pos rfl
  have Kg : ∀ j, j < n → zK (zmM h a ko n g ki m) (g + j) = ki := fun j hj => by rw [zK_mM, if_neg (by omega), if_pos (by omega)]
  have Kb : ∀ b, b ≠ a → ¬ (g ≤ b ∧ b < g + n) → zK (zmM h a ko n g ki m) b = zK h b := fun b e e2 => by rw [zK_mM, if_neg e, if_neg e2]
  refine ⟨tr1, ta, ht, fun b hb => ?_, fun b c hb hc' hb30 e => ?_, fun b j hb hj => ?_, ?_, fun q hq => ?_⟩
  · rcases kinds b hb with rfl | ⟨j, hj, rfl, hja⟩ | ⟨hba, hbg, hb'⟩
    · refine ⟨⟨fun g1 g2 => ?_, fun g1 => ?_, fun c r g1 g2 => ?_⟩, ?_, fun _ => ?_, fun g1 => ?_⟩
      · rw [ta, hout, Ka, zN_mM, if_pos rfl]
        congr 2
        funext j
        rw [zav_r (by rw [Ka]; omega), zR_mM, if_pos rfl]
        by_cases hj : j < n
        · rw [if_pos hj, if_pos hj, zrv, if_neg (by omega), tg j hj]
        · rw [if_neg hj, if_neg hj]; rfl
      · rw [Ka] at g1; omega
      · rw [Ka] at g1
        have := zcl_lt g2
        omega
      · rw [ta]; omega
      · rw [ta]; exact hbs
      · rw [Ka] at g1; omega
    · refine ⟨⟨fun g1 g2 => ?_, fun g1 => ?_, fun c r g1 g2 => ?_⟩, ?_, fun _ => ?_, fun g1 => ?_⟩
      · rw [tg j hj, hrow j hj, Kg j hj, zN_mM, if_neg hja, if_pos (show g ≤ g + j ∧ g + j < g + n by omega)]
        congr 2
        funext i
        unfold zav
        have eI : zI (zmM h a ko n g ki m) (g + j) i = 0 := if_pos (Or.inr (by omega))
        have eL : zL (zmM h a ko n g ki m) (g + j) i = 0 := if_pos (Or.inr (by omega))
        rw [Kg j hj, eI, eL]
        by_cases e22 : ki = 22
        · rw [if_pos e22, if_neg (by omega), if_pos e22]
        · rw [if_neg e22, if_pos (by omega)]
      · rw [Kg j hj] at g1; omega
      · rw [Kg j hj] at g1
        have := zcl_lt g2
        omega
      · rw [tg j hj]; omega
      · rw [tg j hj]; omega
      · rw [Kg j hj] at g1; omega
    · obtain ⟨cb, lb, gb1, gb2⟩ := k1 b hb'
      have etrb := ht b hb'
      have e0 := Kb b hba hbg
      have eN : zN (zmM h a ko n g ki m) b = zN h b := by rw [zN_mM, if_neg hba, if_neg hbg]
      have eI : ∀ j, zI (zmM h a ko n g ki m) b j = zI h b j := fun j => by rw [zI_mM, if_neg (by omega)]
      have eL : ∀ j, zL (zmM h a ko n g ki m) b j = zL h b j := fun j => by rw [zL_mM, if_neg (by omega)]
      have eR : ∀ j, zR (zmM h a ko n g ki m) b j = zR h b j := fun j => by rw [zR_mM, if_neg hba, if_neg hbg]
      have erv : ∀ j, zrv tr1 (zR h b j) = zrv tr (zR h b j) := fun j => by
        unfold zrv
        by_cases e : zR h b j = 0
        · rw [if_pos e, if_pos e]
        · rw [if_neg e, if_neg e, ht _ (k3 b j hb' e)]
      refine ⟨⟨fun g1 g2 => ?_, fun g1 => ?_, fun c r g1 g2 => ?_⟩, ?_, ?_, ?_⟩
      · rw [etrb, oq _ lb, e0, eN]
        rw [e0] at g1 g2
        rw [cb.1 g1 g2]
        congr 2
        funext j
        unfold zav
        rw [e0, eI, eL, eR, erv]
      · rw [e0] at g1
        obtain ⟨cell, q1, q2, q3, q4, q5⟩ := cb.2.1 g1
        exact ⟨cell, by rw [etrb, oq _ lb]; exact q1, q2, q3, by rw [eN]; exact q4, fun j hj => by rw [eI]; rw [eN] at hj; exact q5 j hj⟩
      · rw [e0] at g1
        rw [etrb]
        refine ((cb.2.2 c r g1 g2).kept (oq _ lb)).to (fun j _ => ?_)
        unfold zfv
        rw [eI, eR, erv]
      · rw [etrb]; omega
      · rw [etrb, e0]; exact gb1
      · rw [etrb, e0]; exact gb2
  · rcases kinds b hb with rfl | ⟨j, hj, rfl, hja⟩ | ⟨hba, hbg, hb'⟩ <;> rcases kinds c hc' with rfl | ⟨i, hi, rfl, hia⟩ | ⟨hca, hcg, hc2⟩
    · rfl
    · rw [ta, tg i hi] at e; omega
    · rw [ta, ht c hc2] at e
      have := (k1 c hc2).2.1
      omega
    · rw [ta, tg j hj] at e; omega
    · rw [tg j hj, tg i hi] at e; omega
    · rw [tg j hj, ht c hc2] at e
      have := (k1 c hc2).2.1
      omega
    · rw [ta, ht b hb'] at e
      have := (k1 b hb').2.1
      omega
    · rw [tg i hi, ht b hb'] at e
      have := (k1 b hb').2.1
      omega
    · rw [ht b hb', ht c hc2] at e
      rw [Kb b hba hbg] at hb30
      exact k2 b c hb' hc2 hb30 e
  · rcases kinds b hb with rfl | ⟨i, hi, rfl, hia⟩ | ⟨hba, hbg, hb'⟩
    · rw [zR_mM, if_pos rfl] at hj ⊢
      by_cases hjn : j < n
      · rw [if_pos hjn, Kg j hjn]; omega
      · rw [if_neg hjn] at hj; exact absurd rfl hj
    · rw [zR_mM, if_neg hia, if_pos (by omega)] at hj
      exact absurd rfl hj
    · rw [zR_mM, if_neg hba, if_neg hbg] at hj ⊢
      have h3 := k3 b j hb' hj
      rw [Kb _ (hne _ h3) (hng _ h3)]
      exact h3
  · rw [Kb 0 (Ne.symm ha0) (by omega)]
    exact k4
  · obtain ⟨z1, z2⟩ := k5 q hq
    have h0 : zK h q.2 ≠ 0 := by rw [z2]; decide
    refine ⟨?_, by rw [Kb _ (hne _ h0) (hng _ h0)]; exact z2⟩
    rw [ht _ h0]
    exact z1.kept (fun x hx _ => oq x hx)
section ZMUL
variable {y : ZM} {Φ : Option Value → ZH → Prop} {rc rs pc q : Nat} {L : List (Option Value)} {S : List Value} {h : ZH}
theorem z_mna {a ko n g ki m i : Nat} {nn mm : Int32} {ty : FieldType} (hd : decode (zm_c y) pc = .ok (.multianewarray i 2, 4)) (hw : Cond.classLink (zm_x y).cls i ("[" ++ (FieldType.array ty).toString) ∈ zgood) (hac : Cond.arrayClass ty ∈ zgood) (hty : (ty = .int ∧ ko = 28 ∧ ki = 20) ∨ (ty = .long ∧ ko = 29 ∧ ki = 22))
    (hn : nn.toNatClampNeg = n) (hm : mm.toNatClampNeg = m) (hn0 : ¬ nn < 0) (hm0 : ¬ mm < 0) (hN : n ≤ 65536) (hM : m ≤ 65536) (ha0 : a ≠ 0) (ha : zK h a = 0) (hg0 : g ≠ 0) (hg : ∀ j, j < n → zK h (g + j) = 0) (hag : a < g ∨ g + n ≤ a) (hq : pc + 4 = q)
    (k : Zt y Φ rc rs q L (.ref a :: S) (zmM h a ko n g ki m)) : Zt y Φ (rc + (1 + n)) (rs + (n + n * m)) pc L (.int mm :: .int nn :: S) h := by
  subst hq hn hm
  intro l D dA b0 tr0 h0 p e s mt args below meth c' X tr H locs cells slots ls hH hE hS hL hF hl hc hs
  obtain ⟨hx, hb, hr0, hml, hown, hts, hlk, hnm, hK, hN0, hb0⟩ := id X
  have hmul : nn.toNatClampNeg * 4 ≤ 536870912 := by omega
  have hcb : mm.toNatClampNeg * componentBytes ty ≤ 536870912 := by
    rcases hty with ⟨rfl, -, -⟩ | ⟨rfl, -, -⟩
    · show mm.toNatClampNeg * 4 ≤ _; omega
    · show mm.toNatClampNeg * 8 ≤ _; omega
  intro T hT XS
  obtain ⟨vm₁, cA, comp, -, fA, fC, hO, -, X', step⟩ := XS.multianewarray2F hx hown (hts _ hw) (by rcases hty with ⟨rfl, -, -⟩ | ⟨rfl, -, -⟩ <;> first | exact hN0.2.2 .int (by simp) | exact hN0.2.2 .long (by simp)) (hts _ hac) (g := F0 mt pc ls (.int mm :: .int nn :: S.map (ztr tr))) rfl (by rw [hb]; exact hd) rfl hn0 hm0 hmul hcb (by omega)
    (by rcases hty with ⟨rfl, -, -⟩ | ⟨rfl, -, -⟩ <;> rfl) (by rcases hty with ⟨rfl, -, -⟩ | ⟨rfl, -, -⟩ <;> rfl) (by show cells + (1 + nn.toNatClampNeg) ≤ zm_k y; omega) (by show slots + (nn.toNatClampNeg + nn.toNatClampNeg * mm.toNatClampNeg) ≤ zm_s y; omega)
  generalize hFl : Jvm.Free.Multi.fill (T.setVm vm₁) cA comp nn.toNatClampNeg mm.toNatClampNeg (defaultValue ty) nn.toNatClampNeg = F at X' step
  have hTh : (T.setVm vm₁).heap = H := hT
  obtain ⟨f1, f2, -, -⟩ := Jvm.Free.Multi.fill_facts (T.setVm vm₁) cA comp nn.toNatClampNeg mm.toNatClampNeg (defaultValue ty) nn.toNatClampNeg
  rw [hFl, hTh] at f1 f2
  have hold : ∀ x : Nat, x < H.size → F.heap[x]? = H[x]? := fun x hx' => by
    have := Jvm.Free.Multi.fill_old (T.setVm vm₁) cA comp nn.toNatClampNeg mm.toNatClampNeg (defaultValue ty) (a := x) (by rw [hTh]; exact hx') nn.toNatClampNeg
    rw [hFl, hTh] at this
    exact this
  have hRo := (zarrT hK (kd := ko) (by omega) (by omega)).2
  have hRi := (zarrT hK (kd := ki) (by omega) (by omega)).2
  have ecA : cA = dA ko := by
    rcases hty with ⟨rfl, rfl, rfl⟩ | ⟨rfl, rfl, rfl⟩ <;> exact Option.some.inj (fA.symm.trans hRo)
  have ecB : comp = dA ki := by
    rcases hty with ⟨rfl, rfl, rfl⟩ | ⟨rfl, rfl, rfl⟩ <;> exact Option.some.inj (fC.symm.trans hRi)
  have hrow : ∀ j : Nat, j < nn.toNatClampNeg → F.heap[H.size + 1 + j]? = some (arrV (dA ki) mm.toNatClampNeg (fun _ => if ki = 22 then .long 0 else .int 0)) := fun j hj => by
    have := Jvm.Free.Multi.fill_inner (T.setVm vm₁) cA comp nn.toNatClampNeg mm.toNatClampNeg (defaultValue ty) nn.toNatClampNeg j hj
    rw [hFl, hTh] at this
    rw [this, ← ecB]
    show some ({ cls := comp, slots := Array.replicate mm.toNatClampNeg (defaultValue ty), vm := .none } : Cell) = _
    rw [arrV_new]
    rcases hty with ⟨rfl, rfl, rfl⟩ | ⟨rfl, rfl, rfl⟩ <;> rfl
  rw [zouter, ecA] at f2
  obtain ⟨tr1, t1, t2, t3⟩ := hH.pushM (H1 := F.heap) (a := a) (ko := ko) (g := g) (ki := ki) (m := mm.toNatClampNeg) (n := nn.toNatClampNeg) (Nat.le_trans hb0 hF.1) ha0 ha hg0 hg hag (by omega) (by omega) (by omega) (by omega) f2 hrow (by rw [f1]) hold
  have mono : ∀ b, zK h b ≠ 0 → zK (zmM h a ko nn.toNatClampNeg g ki mm.toNatClampNeg) b ≠ 0 := fun b hb' => by
    rw [zK_mM]
    by_cases e : b = a
    · rw [if_pos e]; omega
    · rw [if_neg e]
      by_cases e2 : g ≤ b ∧ b < g + nn.toNatClampNeg
      · rw [if_pos e2]; omega
      · rw [if_neg e2]; exact hb'
  have w := k l D dA b0 tr0 h0 p e s mt args below meth c' X tr1 F.heap locs (cells + 1 + nn.toNatClampNeg) (slots + nn.toNatClampNeg + nn.toNatClampNeg * mm.toNatClampNeg) ls t3 (fun b hb' => ⟨(t2 b (hE b hb').2).trans (hE b hb').1, mono b (hE b hb').2⟩) ⟨by show zK _ a ≠ 0; rw [zK_mM, if_pos rfl]; omega, zalS_mono mono hS.2.2⟩ (zalL_mono mono hL)
    ⟨by rw [f1]; have := hF.1; omega, fun x hx' => by rw [hold x (Nat.lt_of_lt_of_le hx' (Nat.le_trans hb0 hF.1))]; exact hF.2.1 x hx', hF.2.2⟩ (zLH_eq t2 hL hl) (by omega) (by omega)
  have e9 : (Value.ref a :: S).map (ztr tr1) = Value.ref T.heap.size :: S.map (ztr tr) := by
    show Value.ref (tr1 a) :: S.map (ztr tr1) = _
    rw [t1, ztr_map t2 hS.2.2, hT]
  rw [e9] at w
  obtain ⟨t, a1, b1⟩ := w F rfl X'
  exact ⟨t, step t a1, b1⟩
end ZMUL
end
