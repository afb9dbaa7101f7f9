section
-- ===== PART A: goes FIRST, ahead of the names: the tables' words, and 'selects' of the private methods out of them =====
/-- a private method of a class that the tables say can be made, by its rows of tables_1 -/
def lw_okq (q : MethodName × Nat) : Prop := (q.1.cls ≠ "java/lang/invoke/MethodHandle" ∧ q.1.cls ≠ "java/lang/invoke/VarHandle") ∧ Cond.instantiable q.1.cls q.2 ∈ tables_1 ∧ Cond.privateMethod q.1 ∈ tables_1 ∧ Cond.instanceMethod q.1 ∈ tables_1
theorem lw_p0 : lw_okq (⟨"OpenGrounds", "layGround", "(IIZ)V"⟩, 7) := ⟨⟨by decide +kernel, by decide +kernel⟩, List.mem_of_getElem? (i := 12) (by decide +kernel), List.mem_of_getElem? (i := 127) (by decide +kernel), List.mem_of_getElem? (i := 128) (by decide +kernel)⟩
theorem lw_p1 : lw_okq (⟨"OpenGrounds$Plan", "corner", "(II)I"⟩, 8) := ⟨⟨by decide +kernel, by decide +kernel⟩, List.mem_of_getElem? (i := 20) (by decide +kernel), List.mem_of_getElem? (i := 135) (by decide +kernel), List.mem_of_getElem? (i := 136) (by decide +kernel)⟩
theorem lw_p2 : lw_okq (⟨"OpenGrounds$Plan", "addThings", "(II)V"⟩, 8) := ⟨⟨by decide +kernel, by decide +kernel⟩, List.mem_of_getElem? (i := 20) (by decide +kernel), List.mem_of_getElem? (i := 139) (by decide +kernel), List.mem_of_getElem? (i := 140) (by decide +kernel)⟩
theorem lw_p3 : lw_okq (⟨"OpenGrounds$Things", "settle", "()V"⟩, 8) := ⟨⟨by decide +kernel, by decide +kernel⟩, List.mem_of_getElem? (i := 62) (by decide +kernel), List.mem_of_getElem? (i := 153) (by decide +kernel), List.mem_of_getElem? (i := 154) (by decide +kernel)⟩
theorem lw_p4 : lw_okq (⟨"OpenGrounds$Things", "numberChances", "()V"⟩, 8) := ⟨⟨by decide +kernel, by decide +kernel⟩, List.mem_of_getElem? (i := 62) (by decide +kernel), List.mem_of_getElem? (i := 157) (by decide +kernel), List.mem_of_getElem? (i := 158) (by decide +kernel)⟩
theorem lw_p5 : lw_okq (⟨"OpenGrounds$Things", "settleOne", "(IJ)V"⟩, 8) := ⟨⟨by decide +kernel, by decide +kernel⟩, List.mem_of_getElem? (i := 62) (by decide +kernel), List.mem_of_getElem? (i := 164) (by decide +kernel), List.mem_of_getElem? (i := 165) (by decide +kernel)⟩
theorem lw_p6 : lw_okq (⟨"OpenGrounds", "isThing", "(I)Z"⟩, 7) := ⟨⟨by decide +kernel, by decide +kernel⟩, List.mem_of_getElem? (i := 12) (by decide +kernel), List.mem_of_getElem? (i := 201) (by decide +kernel), List.mem_of_getElem? (i := 202) (by decide +kernel)⟩
theorem lw_p7 : lw_okq (⟨"OpenGrounds", "isSetting", "(I)Z"⟩, 7) := ⟨⟨by decide +kernel, by decide +kernel⟩, List.mem_of_getElem? (i := 12) (by decide +kernel), List.mem_of_getElem? (i := 245) (by decide +kernel), List.mem_of_getElem? (i := 246) (by decide +kernel)⟩
theorem lw_p8 : lw_okq (⟨"OpenGrounds", "settings", "()I"⟩, 7) := ⟨⟨by decide +kernel, by decide +kernel⟩, List.mem_of_getElem? (i := 12) (by decide +kernel), List.mem_of_getElem? (i := 249) (by decide +kernel), List.mem_of_getElem? (i := 250) (by decide +kernel)⟩
theorem lw_p9 : lw_okq (⟨"OpenGrounds", "placesBy", "(I)LOpenGrounds$Grid;"⟩, 7) := ⟨⟨by decide +kernel, by decide +kernel⟩, List.mem_of_getElem? (i := 12) (by decide +kernel), List.mem_of_getElem? (i := 264) (by decide +kernel), List.mem_of_getElem? (i := 265) (by decide +kernel)⟩
theorem lw_p10 : lw_okq (⟨"OpenGrounds$Grid", "spread", "(I)I"⟩, 5) := ⟨⟨by decide +kernel, by decide +kernel⟩, List.mem_of_getElem? (i := 98) (by decide +kernel), List.mem_of_getElem? (i := 275) (by decide +kernel), List.mem_of_getElem? (i := 276) (by decide +kernel)⟩
theorem lw_p11 : lw_okq (⟨"OpenGrounds", "isWalled", "(II)Z"⟩, 7) := ⟨⟨by decide +kernel, by decide +kernel⟩, List.mem_of_getElem? (i := 12) (by decide +kernel), List.mem_of_getElem? (i := 283) (by decide +kernel), List.mem_of_getElem? (i := 284) (by decide +kernel)⟩
theorem lw_p12 : lw_okq (⟨"OpenGrounds", "isPlace", "(I)Z"⟩, 7) := ⟨⟨by decide +kernel, by decide +kernel⟩, List.mem_of_getElem? (i := 12) (by decide +kernel), List.mem_of_getElem? (i := 300) (by decide +kernel), List.mem_of_getElem? (i := 301) (by decide +kernel)⟩
theorem lw_p13 : lw_okq (⟨"OpenGrounds", "isSize", "(I)Z"⟩, 7) := ⟨⟨by decide +kernel, by decide +kernel⟩, List.mem_of_getElem? (i := 12) (by decide +kernel), List.mem_of_getElem? (i := 341) (by decide +kernel), List.mem_of_getElem? (i := 342) (by decide +kernel)⟩
theorem lw_p14 : lw_okq (⟨"OpenGrounds", "waysOfSize", "(II)I"⟩, 7) := ⟨⟨by decide +kernel, by decide +kernel⟩, List.mem_of_getElem? (i := 12) (by decide +kernel), List.mem_of_getElem? (i := 345) (by decide +kernel), List.mem_of_getElem? (i := 346) (by decide +kernel)⟩
theorem lw_p15 : lw_okq (⟨"OpenGrounds", "comesThrough", "(II)Z"⟩, 7) := ⟨⟨by decide +kernel, by decide +kernel⟩, List.mem_of_getElem? (i := 12) (by decide +kernel), List.mem_of_getElem? (i := 350) (by decide +kernel), List.mem_of_getElem? (i := 351) (by decide +kernel)⟩
def lw_privs_1 : List (MethodName × Nat) := [(⟨"OpenGrounds", "layGround", "(IIZ)V"⟩, 7), (⟨"OpenGrounds$Plan", "corner", "(II)I"⟩, 8), (⟨"OpenGrounds$Plan", "addThings", "(II)V"⟩, 8), (⟨"OpenGrounds$Things", "settle", "()V"⟩, 8), (⟨"OpenGrounds$Things", "numberChances", "()V"⟩, 8), (⟨"OpenGrounds$Things", "settleOne", "(IJ)V"⟩, 8), (⟨"OpenGrounds", "isThing", "(I)Z"⟩, 7), (⟨"OpenGrounds", "isSetting", "(I)Z"⟩, 7), (⟨"OpenGrounds", "settings", "()I"⟩, 7), (⟨"OpenGrounds", "placesBy", "(I)LOpenGrounds$Grid;"⟩, 7), (⟨"OpenGrounds$Grid", "spread", "(I)I"⟩, 5), (⟨"OpenGrounds", "isWalled", "(II)Z"⟩, 7), (⟨"OpenGrounds", "isPlace", "(I)Z"⟩, 7), (⟨"OpenGrounds", "isSize", "(I)Z"⟩, 7), (⟨"OpenGrounds", "waysOfSize", "(II)I"⟩, 7), (⟨"OpenGrounds", "comesThrough", "(II)Z"⟩, 7)]
theorem lw_r1 : ∀ q ∈ lw_privs_1, lw_okq q := List.forall_mem_cons.mpr ⟨lw_p0, List.forall_mem_cons.mpr ⟨lw_p1, List.forall_mem_cons.mpr ⟨lw_p2, List.forall_mem_cons.mpr ⟨lw_p3, List.forall_mem_cons.mpr ⟨lw_p4, List.forall_mem_cons.mpr ⟨lw_p5, List.forall_mem_cons.mpr ⟨lw_p6, List.forall_mem_cons.mpr ⟨lw_p7, List.forall_mem_cons.mpr ⟨lw_p8, List.forall_mem_cons.mpr ⟨lw_p9, List.forall_mem_cons.mpr ⟨lw_p10, List.forall_mem_cons.mpr ⟨lw_p11, List.forall_mem_cons.mpr ⟨lw_p12, List.forall_mem_cons.mpr ⟨lw_p13, List.forall_mem_cons.mpr ⟨lw_p14, List.forall_mem_cons.mpr ⟨lw_p15, fun _ h => absurd h List.not_mem_nil⟩⟩⟩⟩⟩⟩⟩⟩⟩⟩⟩⟩⟩⟩⟩⟩
theorem lw_p16 : lw_okq (⟨"OpenGrounds", "newRowFinding", "(III)I"⟩, 7) := ⟨⟨by decide +kernel, by decide +kernel⟩, List.mem_of_getElem? (i := 12) (by decide +kernel), List.mem_of_getElem? (i := 420) (by decide +kernel), List.mem_of_getElem? (i := 421) (by decide +kernel)⟩
theorem lw_p17 : lw_okq (⟨"OpenGrounds", "putFinding", "(IIII)I"⟩, 7) := ⟨⟨by decide +kernel, by decide +kernel⟩, List.mem_of_getElem? (i := 12) (by decide +kernel), List.mem_of_getElem? (i := 432) (by decide +kernel), List.mem_of_getElem? (i := 433) (by decide +kernel)⟩
theorem lw_p18 : lw_okq (⟨"OpenGrounds", "copyFinding", "(IIIIIII)I"⟩, 7) := ⟨⟨by decide +kernel, by decide +kernel⟩, List.mem_of_getElem? (i := 12) (by decide +kernel), List.mem_of_getElem? (i := 447) (by decide +kernel), List.mem_of_getElem? (i := 448) (by decide +kernel)⟩
theorem lw_p19 : lw_okq (⟨"OpenGrounds", "readKinds", "([I)I"⟩, 7) := ⟨⟨by decide +kernel, by decide +kernel⟩, List.mem_of_getElem? (i := 12) (by decide +kernel), List.mem_of_getElem? (i := 458) (by decide +kernel), List.mem_of_getElem? (i := 459) (by decide +kernel)⟩
theorem lw_p20 : lw_okq (⟨"OpenGroundsModel", "all", "(I)V"⟩, 19) := ⟨⟨by decide +kernel, by decide +kernel⟩, List.mem_of_getElem? (i := 474) (by decide +kernel), List.mem_of_getElem? (i := 480) (by decide +kernel), List.mem_of_getElem? (i := 481) (by decide +kernel)⟩
theorem lw_p21 : lw_okq (⟨"OpenGroundsModel", "things", "()I"⟩, 19) := ⟨⟨by decide +kernel, by decide +kernel⟩, List.mem_of_getElem? (i := 474) (by decide +kernel), List.mem_of_getElem? (i := 550) (by decide +kernel), List.mem_of_getElem? (i := 551) (by decide +kernel)⟩
theorem lw_p22 : lw_okq (⟨"OpenGroundsModel", "places", "()I"⟩, 19) := ⟨⟨by decide +kernel, by decide +kernel⟩, List.mem_of_getElem? (i := 474) (by decide +kernel), List.mem_of_getElem? (i := 554) (by decide +kernel), List.mem_of_getElem? (i := 555) (by decide +kernel)⟩
theorem lw_p23 : lw_okq (⟨"OpenGroundsModel", "roads", "()I"⟩, 19) := ⟨⟨by decide +kernel, by decide +kernel⟩, List.mem_of_getElem? (i := 474) (by decide +kernel), List.mem_of_getElem? (i := 558) (by decide +kernel), List.mem_of_getElem? (i := 559) (by decide +kernel)⟩
theorem lw_p24 : lw_okq (⟨"OpenGroundsModel", "across", "()I"⟩, 19) := ⟨⟨by decide +kernel, by decide +kernel⟩, List.mem_of_getElem? (i := 474) (by decide +kernel), List.mem_of_getElem? (i := 562) (by decide +kernel), List.mem_of_getElem? (i := 563) (by decide +kernel)⟩
theorem lw_p25 : lw_okq (⟨"OpenGroundsModel", "becomes", "(II)I"⟩, 19) := ⟨⟨by decide +kernel, by decide +kernel⟩, List.mem_of_getElem? (i := 474) (by decide +kernel), List.mem_of_getElem? (i := 570) (by decide +kernel), List.mem_of_getElem? (i := 571) (by decide +kernel)⟩
theorem lw_p26 : lw_okq (⟨"OpenGroundsModel", "isThing", "(I)Z"⟩, 19) := ⟨⟨by decide +kernel, by decide +kernel⟩, List.mem_of_getElem? (i := 474) (by decide +kernel), List.mem_of_getElem? (i := 574) (by decide +kernel), List.mem_of_getElem? (i := 575) (by decide +kernel)⟩
theorem lw_p27 : lw_okq (⟨"OpenGroundsModel", "isElder", "(I)Z"⟩, 19) := ⟨⟨by decide +kernel, by decide +kernel⟩, List.mem_of_getElem? (i := 474) (by decide +kernel), List.mem_of_getElem? (i := 578) (by decide +kernel), List.mem_of_getElem? (i := 579) (by decide +kernel)⟩
theorem lw_p28 : lw_okq (⟨"OpenGroundsModel", "chances", "()I"⟩, 19) := ⟨⟨by decide +kernel, by decide +kernel⟩, List.mem_of_getElem? (i := 474) (by decide +kernel), List.mem_of_getElem? (i := 582) (by decide +kernel), List.mem_of_getElem? (i := 583) (by decide +kernel)⟩
theorem lw_p29 : lw_okq (⟨"OpenGroundsModel", "numberOf", "(I)I"⟩, 19) := ⟨⟨by decide +kernel, by decide +kernel⟩, List.mem_of_getElem? (i := 474) (by decide +kernel), List.mem_of_getElem? (i := 594) (by decide +kernel), List.mem_of_getElem? (i := 595) (by decide +kernel)⟩
theorem lw_p30 : lw_okq (⟨"OpenGroundsModel", "end", "(IZ)I"⟩, 19) := ⟨⟨by decide +kernel, by decide +kernel⟩, List.mem_of_getElem? (i := 474) (by decide +kernel), List.mem_of_getElem? (i := 598) (by decide +kernel), List.mem_of_getElem? (i := 599) (by decide +kernel)⟩
theorem lw_p31 : lw_okq (⟨"OpenGroundsModel", "isSetting", "(I)Z"⟩, 19) := ⟨⟨by decide +kernel, by decide +kernel⟩, List.mem_of_getElem? (i := 474) (by decide +kernel), List.mem_of_getElem? (i := 610) (by decide +kernel), List.mem_of_getElem? (i := 611) (by decide +kernel)⟩
def lw_privs_2 : List (MethodName × Nat) := [(⟨"OpenGrounds", "newRowFinding", "(III)I"⟩, 7), (⟨"OpenGrounds", "putFinding", "(IIII)I"⟩, 7), (⟨"OpenGrounds", "copyFinding", "(IIIIIII)I"⟩, 7), (⟨"OpenGrounds", "readKinds", "([I)I"⟩, 7), (⟨"OpenGroundsModel", "all", "(I)V"⟩, 19), (⟨"OpenGroundsModel", "things", "()I"⟩, 19), (⟨"OpenGroundsModel", "places", "()I"⟩, 19), (⟨"OpenGroundsModel", "roads", "()I"⟩, 19), (⟨"OpenGroundsModel", "across", "()I"⟩, 19), (⟨"OpenGroundsModel", "becomes", "(II)I"⟩, 19), (⟨"OpenGroundsModel", "isThing", "(I)Z"⟩, 19), (⟨"OpenGroundsModel", "isElder", "(I)Z"⟩, 19), (⟨"OpenGroundsModel", "chances", "()I"⟩, 19), (⟨"OpenGroundsModel", "numberOf", "(I)I"⟩, 19), (⟨"OpenGroundsModel", "end", "(IZ)I"⟩, 19), (⟨"OpenGroundsModel", "isSetting", "(I)Z"⟩, 19)]
theorem lw_r2 : ∀ q ∈ lw_privs_2, lw_okq q := List.forall_mem_cons.mpr ⟨lw_p16, List.forall_mem_cons.mpr ⟨lw_p17, List.forall_mem_cons.mpr ⟨lw_p18, List.forall_mem_cons.mpr ⟨lw_p19, List.forall_mem_cons.mpr ⟨lw_p20, List.forall_mem_cons.mpr ⟨lw_p21, List.forall_mem_cons.mpr ⟨lw_p22, List.forall_mem_cons.mpr ⟨lw_p23, List.forall_mem_cons.mpr ⟨lw_p24, List.forall_mem_cons.mpr ⟨lw_p25, List.forall_mem_cons.mpr ⟨lw_p26, List.forall_mem_cons.mpr ⟨lw_p27, List.forall_mem_cons.mpr ⟨lw_p28, List.forall_mem_cons.mpr ⟨lw_p29, List.forall_mem_cons.mpr ⟨lw_p30, List.forall_mem_cons.mpr ⟨lw_p31, fun _ h => absurd h List.not_mem_nil⟩⟩⟩⟩⟩⟩⟩⟩⟩⟩⟩⟩⟩⟩⟩⟩
theorem lw_p32 : lw_okq (⟨"OpenGroundsModel", "opensBy", "(II)Z"⟩, 19) := ⟨⟨by decide +kernel, by decide +kernel⟩, List.mem_of_getElem? (i := 474) (by decide +kernel), List.mem_of_getElem? (i := 618) (by decide +kernel), List.mem_of_getElem? (i := 619) (by decide +kernel)⟩
theorem lw_p33 : lw_okq (⟨"OpenGroundsModel", "needWays", "()V"⟩, 19) := ⟨⟨by decide +kernel, by decide +kernel⟩, List.mem_of_getElem? (i := 474) (by decide +kernel), List.mem_of_getElem? (i := 626) (by decide +kernel), List.mem_of_getElem? (i := 627) (by decide +kernel)⟩
theorem lw_p34 : lw_okq (⟨"OpenGroundsModel", "joins", "(I)V"⟩, 19) := ⟨⟨by decide +kernel, by decide +kernel⟩, List.mem_of_getElem? (i := 474) (by decide +kernel), List.mem_of_getElem? (i := 630) (by decide +kernel), List.mem_of_getElem? (i := 631) (by decide +kernel)⟩
theorem lw_p35 : lw_okq (⟨"OpenGroundsModel", "root", "(I)I"⟩, 19) := ⟨⟨by decide +kernel, by decide +kernel⟩, List.mem_of_getElem? (i := 474) (by decide +kernel), List.mem_of_getElem? (i := 634) (by decide +kernel), List.mem_of_getElem? (i := 635) (by decide +kernel)⟩
theorem lw_p36 : lw_okq (⟨"OpenGroundsModel", "isThrough", "(I)Z"⟩, 19) := ⟨⟨by decide +kernel, by decide +kernel⟩, List.mem_of_getElem? (i := 474) (by decide +kernel), List.mem_of_getElem? (i := 638) (by decide +kernel), List.mem_of_getElem? (i := 639) (by decide +kernel)⟩
theorem lw_p37 : lw_okq (⟨"OpenGroundsModel", "heapOf", "(I)I"⟩, 19) := ⟨⟨by decide +kernel, by decide +kernel⟩, List.mem_of_getElem? (i := 474) (by decide +kernel), List.mem_of_getElem? (i := 642) (by decide +kernel), List.mem_of_getElem? (i := 643) (by decide +kernel)⟩
theorem lw_p38 : lw_okq (⟨"OpenGroundsModel", "is", "(II)Z"⟩, 19) := ⟨⟨by decide +kernel, by decide +kernel⟩, List.mem_of_getElem? (i := 474) (by decide +kernel), List.mem_of_getElem? (i := 646) (by decide +kernel), List.mem_of_getElem? (i := 647) (by decide +kernel)⟩
theorem lw_p39 : lw_okq (⟨"OpenGroundsModel", "isWall", "(Z)Z"⟩, 19) := ⟨⟨by decide +kernel, by decide +kernel⟩, List.mem_of_getElem? (i := 474) (by decide +kernel), List.mem_of_getElem? (i := 654) (by decide +kernel), List.mem_of_getElem? (i := 655) (by decide +kernel)⟩
theorem lw_p40 : lw_okq (⟨"OpenGroundsModel", "roadRight", "(IIZ)I"⟩, 19) := ⟨⟨by decide +kernel, by decide +kernel⟩, List.mem_of_getElem? (i := 474) (by decide +kernel), List.mem_of_getElem? (i := 658) (by decide +kernel), List.mem_of_getElem? (i := 659) (by decide +kernel)⟩
theorem lw_p41 : lw_okq (⟨"OpenGroundsModel", "roadDown", "(IIZ)I"⟩, 19) := ⟨⟨by decide +kernel, by decide +kernel⟩, List.mem_of_getElem? (i := 474) (by decide +kernel), List.mem_of_getElem? (i := 662) (by decide +kernel), List.mem_of_getElem? (i := 663) (by decide +kernel)⟩
theorem lw_p42 : lw_okq (⟨"OpenGroundsModel", "isPlace", "(I)Z"⟩, 19) := ⟨⟨by decide +kernel, by decide +kernel⟩, List.mem_of_getElem? (i := 474) (by decide +kernel), List.mem_of_getElem? (i := 670) (by decide +kernel), List.mem_of_getElem? (i := 671) (by decide +kernel)⟩
theorem lw_p43 : lw_okq (⟨"OpenGroundsModel", "heapCount", "()I"⟩, 19) := ⟨⟨by decide +kernel, by decide +kernel⟩, List.mem_of_getElem? (i := 474) (by decide +kernel), List.mem_of_getElem? (i := 678) (by decide +kernel), List.mem_of_getElem? (i := 679) (by decide +kernel)⟩
theorem lw_p44 : lw_okq (⟨"OpenGroundsModel", "sizeOf", "(I)I"⟩, 19) := ⟨⟨by decide +kernel, by decide +kernel⟩, List.mem_of_getElem? (i := 474) (by decide +kernel), List.mem_of_getElem? (i := 682) (by decide +kernel), List.mem_of_getElem? (i := 683) (by decide +kernel)⟩
theorem lw_p45 : lw_okq (⟨"OpenGroundsModel", "isSize", "(I)Z"⟩, 19) := ⟨⟨by decide +kernel, by decide +kernel⟩, List.mem_of_getElem? (i := 474) (by decide +kernel), List.mem_of_getElem? (i := 690) (by decide +kernel), List.mem_of_getElem? (i := 691) (by decide +kernel)⟩
theorem lw_p46 : lw_okq (⟨"OpenGroundsModel", "countOf", "(II)I"⟩, 19) := ⟨⟨by decide +kernel, by decide +kernel⟩, List.mem_of_getElem? (i := 474) (by decide +kernel), List.mem_of_getElem? (i := 694) (by decide +kernel), List.mem_of_getElem? (i := 695) (by decide +kernel)⟩
theorem lw_p47 : lw_okq (⟨"OpenGroundsModel", "no", "(I)I"⟩, 19) := ⟨⟨by decide +kernel, by decide +kernel⟩, List.mem_of_getElem? (i := 474) (by decide +kernel), List.mem_of_getElem? (i := 734) (by decide +kernel), List.mem_of_getElem? (i := 735) (by decide +kernel)⟩
def lw_privs_3 : List (MethodName × Nat) := [(⟨"OpenGroundsModel", "opensBy", "(II)Z"⟩, 19), (⟨"OpenGroundsModel", "needWays", "()V"⟩, 19), (⟨"OpenGroundsModel", "joins", "(I)V"⟩, 19), (⟨"OpenGroundsModel", "root", "(I)I"⟩, 19), (⟨"OpenGroundsModel", "isThrough", "(I)Z"⟩, 19), (⟨"OpenGroundsModel", "heapOf", "(I)I"⟩, 19), (⟨"OpenGroundsModel", "is", "(II)Z"⟩, 19), (⟨"OpenGroundsModel", "isWall", "(Z)Z"⟩, 19), (⟨"OpenGroundsModel", "roadRight", "(IIZ)I"⟩, 19), (⟨"OpenGroundsModel", "roadDown", "(IIZ)I"⟩, 19), (⟨"OpenGroundsModel", "isPlace", "(I)Z"⟩, 19), (⟨"OpenGroundsModel", "heapCount", "()I"⟩, 19), (⟨"OpenGroundsModel", "sizeOf", "(I)I"⟩, 19), (⟨"OpenGroundsModel", "isSize", "(I)Z"⟩, 19), (⟨"OpenGroundsModel", "countOf", "(II)I"⟩, 19), (⟨"OpenGroundsModel", "no", "(I)I"⟩, 19)]
theorem lw_r3 : ∀ q ∈ lw_privs_3, lw_okq q := List.forall_mem_cons.mpr ⟨lw_p32, List.forall_mem_cons.mpr ⟨lw_p33, List.forall_mem_cons.mpr ⟨lw_p34, List.forall_mem_cons.mpr ⟨lw_p35, List.forall_mem_cons.mpr ⟨lw_p36, List.forall_mem_cons.mpr ⟨lw_p37, List.forall_mem_cons.mpr ⟨lw_p38, List.forall_mem_cons.mpr ⟨lw_p39, List.forall_mem_cons.mpr ⟨lw_p40, List.forall_mem_cons.mpr ⟨lw_p41, List.forall_mem_cons.mpr ⟨lw_p42, List.forall_mem_cons.mpr ⟨lw_p43, List.forall_mem_cons.mpr ⟨lw_p44, List.forall_mem_cons.mpr ⟨lw_p45, List.forall_mem_cons.mpr ⟨lw_p46, List.forall_mem_cons.mpr ⟨lw_p47, fun _ h => absurd h List.not_mem_nil⟩⟩⟩⟩⟩⟩⟩⟩⟩⟩⟩⟩⟩⟩⟩⟩
def lw_privs : List (MethodName × Nat) := lw_privs_1 ++ (lw_privs_2 ++ (lw_privs_3))
def lw_tbl : List Cond := k2_sels lw_privs ++ tables_1
theorem lw_privs_ok : ∀ q ∈ lw_privs, lw_okq q := by
  show ∀ q ∈ lw_privs_1 ++ (lw_privs_2 ++ (lw_privs_3)), lw_okq q
  exact List.forall_mem_append.mpr ⟨lw_r1, List.forall_mem_append.mpr ⟨lw_r2, lw_r3⟩⟩
end
section
def RX0 : String := "OpenGrounds$Grid"
def TX0 : u_T := fun k => match k with
  | 0 => ("OpenGrounds$Grid", "rows", "I", false)
  | 1 => ("OpenGrounds$Grid", "columns", "I", false)
  | 2 => ("OpenGrounds$Grid", "cells", "I", false)
  | 3 => ("OpenGrounds$Grid", "right", "I", false)
  | _ => ("OpenGrounds$Grid", "down", "I", false)
def tyX0 : Nat → FieldType := fun k => match k with
  | 0 => .int
  | 1 => .int
  | 2 => .int
  | 3 => .int
  | _ => .int
abbrev wsX00 : List Cond := u_ws RX0 TX0 5
theorem nmX0 : ∀ a, a < 5 → ∀ b, b < 5 → a ≠ b → (TX0 a).2.1 ≠ (TX0 b).2.1 := by decide +kernel
theorem tyX0_ok : ∀ k, k < 5 → parseFieldDescriptor (TX0 k).2.2.1 = some (tyX0 k) := by decide +kernel
abbrev cX0_init : ByteArray := prog_2_method_1_code
def yX0_init : MethodName := ⟨RX0, "<init>", "()V"⟩
abbrev cX0_layBetween : ByteArray := prog_2_method_2_code
def yX0_layBetween : MethodName := ⟨RX0, "layBetween", "(IIII)V"⟩
abbrev cX0_isCrossed : ByteArray := prog_2_method_3_code
def yX0_isCrossed : MethodName := ⟨RX0, "isCrossed", "(I)Z"⟩
abbrev cX0_heapAt : ByteArray := prog_2_method_4_code
def yX0_heapAt : MethodName := ⟨RX0, "heapAt", "(I)I"⟩
abbrev cX0_heapCount : ByteArray := prog_2_method_5_code
def yX0_heapCount : MethodName := ⟨RX0, "heapCount", "()I"⟩
abbrev cX0_greatestHeap : ByteArray := prog_2_method_6_code
def yX0_greatestHeap : MethodName := ⟨RX0, "greatestHeap", "()I"⟩
abbrev cX0_line : ByteArray := prog_2_method_7_code
def yX0_line : MethodName := ⟨RX0, "line", "(III)I"⟩
abbrev cX0_spread : ByteArray := prog_2_method_8_code
def yX0_spread : MethodName := ⟨RX0, "spread", "(I)I"⟩
def RX1 : String := "OpenGrounds$Plan"
def TX1 : u_T := fun k => match k with
  | 0 => ("OpenGrounds$Plan", "rows", "I", false)
  | 1 => ("OpenGrounds$Plan", "columns", "I", false)
  | 2 => ("OpenGrounds$Plan", "ofPlaces", "Z", false)
  | 3 => ("OpenGrounds$Plan", "things", "I", false)
  | 4 => ("OpenGrounds$Plan", "allPlaces", "I", false)
  | 5 => ("OpenGrounds$Plan", "roadsRight", "I", false)
  | 6 => ("OpenGrounds$Plan", "roadsDown", "I", false)
  | _ => ("OpenGrounds$Plan", "slots", "[I", true)
def tyX1 : Nat → FieldType := fun k => match k with
  | 0 => .int
  | 1 => .int
  | 2 => .boolean
  | 3 => .int
  | 4 => .int
  | 5 => .int
  | 6 => .int
  | _ => .array .int
abbrev wsX10 : List Cond := u_ws RX1 TX1 8
theorem nmX1 : ∀ a, a < 8 → ∀ b, b < 8 → a ≠ b → (TX1 a).2.1 ≠ (TX1 b).2.1 := by decide +kernel
theorem tyX1_ok : ∀ k, k < 8 → parseFieldDescriptor (TX1 k).2.2.1 = some (tyX1 k) := by decide +kernel
abbrev cX1_init : ByteArray := prog_3_method_1_code
def yX1_init : MethodName := ⟨RX1, "<init>", "()V"⟩
abbrev cX1_lay : ByteArray := prog_3_method_2_code
def yX1_lay : MethodName := ⟨RX1, "lay", "(IIZ)V"⟩
abbrev cX1_corner : ByteArray := prog_3_method_3_code
def yX1_corner : MethodName := ⟨RX1, "corner", "(II)I"⟩
abbrev cX1_addThings : ByteArray := prog_3_method_4_code
def yX1_addThings : MethodName := ⟨RX1, "addThings", "(II)V"⟩
abbrev cX1_placeOf : ByteArray := prog_3_method_5_code
def yX1_placeOf : MethodName := ⟨RX1, "placeOf", "(I)I"⟩
abbrev cX1_otherPlaceOf : ByteArray := prog_3_method_6_code
def yX1_otherPlaceOf : MethodName := ⟨RX1, "otherPlaceOf", "(I)I"⟩
abbrev cX1_exchanged : ByteArray := prog_3_method_7_code
def yX1_exchanged : MethodName := ⟨RX1, "exchanged", "(I)I"⟩
def RX2 : String := "OpenGrounds$Sheet"
def TX2 : u_T := fun k => match k with
  | 0 => ("OpenGrounds$Sheet", "sort", "I", true)
  | _ => ("OpenGrounds$Sheet", "rows", "[[I", true)
def tyX2 : Nat → FieldType := fun k => match k with
  | 0 => .int
  | _ => .array (.array .int)
abbrev wsX20 : List Cond := u_ws RX2 TX2 2
theorem nmX2 : ∀ a, a < 2 → ∀ b, b < 2 → a ≠ b → (TX2 a).2.1 ≠ (TX2 b).2.1 := by decide +kernel
theorem tyX2_ok : ∀ k, k < 2 → parseFieldDescriptor (TX2 k).2.2.1 = some (tyX2 k) := by decide +kernel
abbrev cX2_init : ByteArray := prog_4_method_1_code
def yX2_init : MethodName := ⟨RX2, "<init>", "(I[[I)V"⟩
abbrev cX2_hasRow : ByteArray := prog_4_method_2_code
def yX2_hasRow : MethodName := ⟨RX2, "hasRow", "(I)Z"⟩
abbrev cX2_holds : ByteArray := prog_4_method_3_code
def yX2_holds : MethodName := ⟨RX2, "holds", "(III)Z"⟩
def RX3 : String := "OpenGrounds$Things"
def TX3 : u_T := fun k => match k with
  | 0 => ("OpenGrounds$Things", "plan", "LOpenGrounds$Plan;", true)
  | 1 => ("OpenGrounds$Things", "kinds", "[I", true)
  | 2 => ("OpenGrounds$Things", "elders", "[I", true)
  | 3 => ("OpenGrounds$Things", "numbers", "[I", true)
  | 4 => ("OpenGrounds$Things", "chances", "I", false)
  | 5 => ("OpenGrounds$Things", "always", "J", false)
  | 6 => ("OpenGrounds$Things", "withWay", "[J", true)
  | _ => ("OpenGrounds$Things", "withoutWay", "[J", true)
def tyX3 : Nat → FieldType := fun k => match k with
  | 0 => .object "OpenGrounds$Plan"
  | 1 => .array .int
  | 2 => .array .int
  | 3 => .array .int
  | 4 => .int
  | 5 => .long
  | 6 => .array .long
  | _ => .array .long
abbrev wsX30 : List Cond := u_ws RX3 TX3 8
theorem nmX3 : ∀ a, a < 8 → ∀ b, b < 8 → a ≠ b → (TX3 a).2.1 ≠ (TX3 b).2.1 := by decide +kernel
theorem tyX3_ok : ∀ k, k < 8 → parseFieldDescriptor (TX3 k).2.2.1 = some (tyX3 k) := by decide +kernel
abbrev cX3_init : ByteArray := prog_5_method_1_code
def yX3_init : MethodName := ⟨RX3, "<init>", "(LOpenGrounds$Plan;)V"⟩
abbrev cX3_makeSure : ByteArray := prog_5_method_2_code
def yX3_makeSure : MethodName := ⟨RX3, "makeSure", "()V"⟩
abbrev cX3_become : ByteArray := prog_5_method_3_code
def yX3_become : MethodName := ⟨RX3, "become", "(III)I"⟩
abbrev cX3_isElder : ByteArray := prog_5_method_4_code
def yX3_isElder : MethodName := ⟨RX3, "isElder", "(I)Z"⟩
abbrev cX3_younger : ByteArray := prog_5_method_5_code
def yX3_younger : MethodName := ⟨RX3, "younger", "()I"⟩
abbrev cX3_openBy : ByteArray := prog_5_method_6_code
def yX3_openBy : MethodName := ⟨RX3, "openBy", "(I)J"⟩
abbrev cX3_settle : ByteArray := prog_5_method_7_code
def yX3_settle : MethodName := ⟨RX3, "settle", "()V"⟩
abbrev cX3_numberChances : ByteArray := prog_5_method_8_code
def yX3_numberChances : MethodName := ⟨RX3, "numberChances", "()V"⟩
abbrev cX3_settleOne : ByteArray := prog_5_method_9_code
def yX3_settleOne : MethodName := ⟨RX3, "settleOne", "(IJ)V"⟩
def RX4 : String := "OpenGrounds"
def TX4 : u_T := fun k => match k with
  | 0 => ("OpenGrounds", "plan", "LOpenGrounds$Plan;", true)
  | 1 => ("OpenGrounds", "things", "LOpenGrounds$Things;", true)
  | 2 => ("OpenGrounds", "places", "LOpenGrounds$Grid;", true)
  | 3 => ("OpenGrounds", "gaps", "LOpenGrounds$Grid;", true)
  | 4 => ("OpenGrounds", "sheets", "[LOpenGrounds$Sheet;", true)
  | 5 => ("OpenGrounds", "asked", "J", false)
  | _ => ("OpenGrounds", "finding", "I", false)
def tyX4 : Nat → FieldType := fun k => match k with
  | 0 => .object "OpenGrounds$Plan"
  | 1 => .object "OpenGrounds$Things"
  | 2 => .object "OpenGrounds$Grid"
  | 3 => .object "OpenGrounds$Grid"
  | 4 => .array (.object "OpenGrounds$Sheet")
  | 5 => .long
  | _ => .int
abbrev wsX40 : List Cond := u_ws RX4 TX4 7
theorem nmX4 : ∀ a, a < 7 → ∀ b, b < 7 → a ≠ b → (TX4 a).2.1 ≠ (TX4 b).2.1 := by decide +kernel
theorem tyX4_ok : ∀ k, k < 7 → parseFieldDescriptor (TX4 k).2.2.1 = some (tyX4 k) := by decide +kernel
abbrev cX4_init : ByteArray := prog_1_method_1_code
def yX4_init : MethodName := ⟨RX4, "<init>", "()V"⟩
abbrev cX4_ground : ByteArray := prog_1_method_2_code
def yX4_ground : MethodName := ⟨RX4, "ground", "(IIZ)I"⟩
abbrev cX4_kind : ByteArray := prog_1_method_3_code
def yX4_kind : MethodName := ⟨RX4, "kind", "(II)I"⟩
abbrev cX4_twin : ByteArray := prog_1_method_4_code
def yX4_twin : MethodName := ⟨RX4, "twin", "(IIZ)I"⟩
abbrev cX4_about : ByteArray := prog_1_method_5_code
def yX4_about : MethodName := ⟨RX4, "about", "(II)I"⟩
abbrev cX4_told : ByteArray := prog_1_method_6_code
def yX4_told : MethodName := ⟨RX4, "told", "(I)I"⟩
abbrev cX4_opens : ByteArray := prog_1_method_7_code
def yX4_opens : MethodName := ⟨RX4, "opens", "(II)I"⟩
abbrev cX4_through : ByteArray := prog_1_method_8_code
def yX4_through : MethodName := ⟨RX4, "through", "(II)I"⟩
abbrev cX4_wall : ByteArray := prog_1_method_9_code
def yX4_wall : MethodName := ⟨RX4, "wall", "(II)I"⟩
abbrev cX4_heap : ByteArray := prog_1_method_10_code
def yX4_heap : MethodName := ⟨RX4, "heap", "(II)I"⟩
abbrev cX4_heaps : ByteArray := prog_1_method_11_code
def yX4_heaps : MethodName := ⟨RX4, "heaps", "(II)I"⟩
abbrev cX4_count : ByteArray := prog_1_method_12_code
def yX4_count : MethodName := ⟨RX4, "count", "(II)I"⟩
abbrev cX4_walls : ByteArray := prog_1_method_13_code
def yX4_walls : MethodName := ⟨RX4, "walls", "(II)I"⟩
abbrev cX4_joined : ByteArray := prog_1_method_14_code
def yX4_joined : MethodName := ⟨RX4, "joined", "(III)I"⟩
abbrev cX4_sized : ByteArray := prog_1_method_15_code
def yX4_sized : MethodName := ⟨RX4, "sized", "(III)I"⟩
abbrev cX4_heapSum : ByteArray := prog_1_method_16_code
def yX4_heapSum : MethodName := ⟨RX4, "heapSum", "(I)I"⟩
abbrev cX4_chance : ByteArray := prog_1_method_17_code
def yX4_chance : MethodName := ⟨RX4, "chance", "(III)J"⟩
abbrev cX4_pivot : ByteArray := prog_1_method_18_code
def yX4_pivot : MethodName := ⟨RX4, "pivot", "(II)I"⟩
abbrev cX4_first : ByteArray := prog_1_method_19_code
def yX4_first : MethodName := ⟨RX4, "first", "(II)I"⟩
abbrev cX4_sheet : ByteArray := prog_1_method_20_code
def yX4_sheet : MethodName := ⟨RX4, "sheet", "(III)I"⟩
abbrev cX4_row : ByteArray := prog_1_method_21_code
def yX4_row : MethodName := ⟨RX4, "row", "(III)I"⟩
abbrev cX4_put : ByteArray := prog_1_method_22_code
def yX4_put : MethodName := ⟨RX4, "put", "(IIIII)I"⟩
abbrev cX4_copy : ByteArray := prog_1_method_23_code
def yX4_copy : MethodName := ⟨RX4, "copy", "(IIIIIII)I"⟩
abbrev cX4_read : ByteArray := prog_1_method_24_code
def yX4_read : MethodName := ⟨RX4, "read", "(II)I"⟩
abbrev cX4_trace : ByteArray := prog_1_method_25_code
def yX4_trace : MethodName := ⟨RX4, "trace", "()J"⟩
abbrev cX4_status : ByteArray := prog_1_method_26_code
def yX4_status : MethodName := ⟨RX4, "status", "()I"⟩
abbrev cX4_isWithin : ByteArray := prog_1_method_27_code
def yX4_isWithin : MethodName := ⟨RX4, "isWithin", "(III)Z"⟩
abbrev cX4_isThing : ByteArray := prog_1_method_28_code
def yX4_isThing : MethodName := ⟨RX4, "isThing", "(I)Z"⟩
abbrev cX4_isPlace : ByteArray := prog_1_method_29_code
def yX4_isPlace : MethodName := ⟨RX4, "isPlace", "(I)Z"⟩
abbrev cX4_isSetting : ByteArray := prog_1_method_30_code
def yX4_isSetting : MethodName := ⟨RX4, "isSetting", "(I)Z"⟩
abbrev cX4_isSize : ByteArray := prog_1_method_31_code
def yX4_isSize : MethodName := ⟨RX4, "isSize", "(I)Z"⟩
abbrev cX4_isWay : ByteArray := prog_1_method_32_code
def yX4_isWay : MethodName := ⟨RX4, "isWay", "(I)Z"⟩
abbrev cX4_isSheet : ByteArray := prog_1_method_33_code
def yX4_isSheet : MethodName := ⟨RX4, "isSheet", "(I)Z"⟩
abbrev cX4_isSort : ByteArray := prog_1_method_34_code
def yX4_isSort : MethodName := ⟨RX4, "isSort", "(I)Z"⟩
abbrev cX4_oneIf : ByteArray := prog_1_method_35_code
def yX4_oneIf : MethodName := ⟨RX4, "oneIf", "(Z)I"⟩
abbrev cX4_has : ByteArray := prog_1_method_36_code
def yX4_has : MethodName := ⟨RX4, "has", "(II)Z"⟩
abbrev cX4_layGround : ByteArray := prog_1_method_37_code
def yX4_layGround : MethodName := ⟨RX4, "layGround", "(IIZ)V"⟩
abbrev cX4_settings : ByteArray := prog_1_method_38_code
def yX4_settings : MethodName := ⟨RX4, "settings", "()I"⟩
abbrev cX4_placesBy : ByteArray := prog_1_method_39_code
def yX4_placesBy : MethodName := ⟨RX4, "placesBy", "(I)LOpenGrounds$Grid;"⟩
abbrev cX4_isWalled : ByteArray := prog_1_method_40_code
def yX4_isWalled : MethodName := ⟨RX4, "isWalled", "(II)Z"⟩
abbrev cX4_comesThrough : ByteArray := prog_1_method_41_code
def yX4_comesThrough : MethodName := ⟨RX4, "comesThrough", "(II)Z"⟩
abbrev cX4_waysOfSize : ByteArray := prog_1_method_42_code
def yX4_waysOfSize : MethodName := ⟨RX4, "waysOfSize", "(II)I"⟩
abbrev cX4_power : ByteArray := prog_1_method_43_code
def yX4_power : MethodName := ⟨RX4, "power", "(II)J"⟩
abbrev cX4_sheetFinding : ByteArray := prog_1_method_44_code
def yX4_sheetFinding : MethodName := ⟨RX4, "sheetFinding", "(III)I"⟩
abbrev cX4_newRowFinding : ByteArray := prog_1_method_45_code
def yX4_newRowFinding : MethodName := ⟨RX4, "newRowFinding", "(III)I"⟩
abbrev cX4_putFinding : ByteArray := prog_1_method_46_code
def yX4_putFinding : MethodName := ⟨RX4, "putFinding", "(IIII)I"⟩
abbrev cX4_copyFinding : ByteArray := prog_1_method_47_code
def yX4_copyFinding : MethodName := ⟨RX4, "copyFinding", "(IIIIIII)I"⟩
abbrev cX4_rowFinding : ByteArray := prog_1_method_48_code
def yX4_rowFinding : MethodName := ⟨RX4, "rowFinding", "(LOpenGrounds$Sheet;I)I"⟩
abbrev cX4_readKinds : ByteArray := prog_1_method_49_code
def yX4_readKinds : MethodName := ⟨RX4, "readKinds", "([I)I"⟩
def RX5 : String := "OpenGroundsModel"
def TX5 : u_T := fun k => match k with
  | 0 => ("OpenGroundsModel", "thrown", "I", false)
  | 1 => ("OpenGroundsModel", "status", "I", false)
  | 2 => ("OpenGroundsModel", "trace", "J", false)
  | 3 => ("OpenGroundsModel", "rows", "I", false)
  | 4 => ("OpenGroundsModel", "columns", "I", false)
  | 5 => ("OpenGroundsModel", "ofPlaces", "Z", false)
  | 6 => ("OpenGroundsModel", "kind", "[I", true)
  | 7 => ("OpenGroundsModel", "elder", "[I", true)
  | 8 => ("OpenGroundsModel", "to", "[I", true)
  | 9 => ("OpenGroundsModel", "isOpen", "[Z", true)
  | 10 => ("OpenGroundsModel", "ways", "[I", true)
  | 11 => ("OpenGroundsModel", "hasWays", "Z", false)
  | 12 => ("OpenGroundsModel", "met", "[Z", true)
  | 13 => ("OpenGroundsModel", "hasSheet", "[Z", true)
  | 14 => ("OpenGroundsModel", "sort", "[I", true)
  | 15 => ("OpenGroundsModel", "sheetRows", "[I", true)
  | 16 => ("OpenGroundsModel", "rowSize", "[I", true)
  | 17 => ("OpenGroundsModel", "cells", "[I", true)
  | _ => ("OpenGroundsModel", "copied", "[I", true)
def tyX5 : Nat → FieldType := fun k => match k with
  | 0 => .int
  | 1 => .int
  | 2 => .long
  | 3 => .int
  | 4 => .int
  | 5 => .boolean
  | 6 => .array .int
  | 7 => .array .int
  | 8 => .array .int
  | 9 => .array .boolean
  | 10 => .array .int
  | 11 => .boolean
  | 12 => .array .boolean
  | 13 => .array .boolean
  | 14 => .array .int
  | 15 => .array .int
  | 16 => .array .int
  | 17 => .array .int
  | _ => .array .int
abbrev wsX50 : List Cond := u_ws RX5 TX5 19
theorem nmX5 : ∀ a, a < 19 → ∀ b, b < 19 → a ≠ b → (TX5 a).2.1 ≠ (TX5 b).2.1 := by decide +kernel
theorem tyX5_ok : ∀ k, k < 19 → parseFieldDescriptor (TX5 k).2.2.1 = some (tyX5 k) := by decide +kernel
abbrev cX5_init : ByteArray := prog_7_method_1_code
def yX5_init : MethodName := ⟨RX5, "<init>", "()V"⟩
abbrev cX5_in : ByteArray := prog_7_method_3_code
def yX5_in : MethodName := ⟨RX5, "in", "(III)Z"⟩
abbrev cX5_all : ByteArray := prog_7_method_4_code
def yX5_all : MethodName := ⟨RX5, "all", "(I)V"⟩
abbrev cX5_places : ByteArray := prog_7_method_5_code
def yX5_places : MethodName := ⟨RX5, "places", "()I"⟩
abbrev cX5_across : ByteArray := prog_7_method_6_code
def yX5_across : MethodName := ⟨RX5, "across", "()I"⟩
abbrev cX5_roads : ByteArray := prog_7_method_7_code
def yX5_roads : MethodName := ⟨RX5, "roads", "()I"⟩
abbrev cX5_things : ByteArray := prog_7_method_8_code
def yX5_things : MethodName := ⟨RX5, "things", "()I"⟩
abbrev cX5_isThing : ByteArray := prog_7_method_9_code
def yX5_isThing : MethodName := ⟨RX5, "isThing", "(I)Z"⟩
abbrev cX5_isPlace : ByteArray := prog_7_method_10_code
def yX5_isPlace : MethodName := ⟨RX5, "isPlace", "(I)Z"⟩
abbrev cX5_end : ByteArray := prog_7_method_11_code
def yX5_end : MethodName := ⟨RX5, "end", "(IZ)I"⟩
abbrev cX5_chances : ByteArray := prog_7_method_12_code
def yX5_chances : MethodName := ⟨RX5, "chances", "()I"⟩
abbrev cX5_numberOf : ByteArray := prog_7_method_13_code
def yX5_numberOf : MethodName := ⟨RX5, "numberOf", "(I)I"⟩
abbrev cX5_isElder : ByteArray := prog_7_method_14_code
def yX5_isElder : MethodName := ⟨RX5, "isElder", "(I)Z"⟩
abbrev cX5_isSetting : ByteArray := prog_7_method_15_code
def yX5_isSetting : MethodName := ⟨RX5, "isSetting", "(I)Z"⟩
abbrev cX5_ground : ByteArray := prog_7_method_16_code
def yX5_ground : MethodName := ⟨RX5, "ground", "(IIZ)I"⟩
abbrev cX5_becomes : ByteArray := prog_7_method_17_code
def yX5_becomes : MethodName := ⟨RX5, "becomes", "(II)I"⟩
abbrev cX5_kind : ByteArray := prog_7_method_18_code
def yX5_kind : MethodName := ⟨RX5, "kind", "(II)I"⟩
abbrev cX5_twin : ByteArray := prog_7_method_19_code
def yX5_twin : MethodName := ⟨RX5, "twin", "(IIZ)I"⟩
abbrev cX5_about : ByteArray := prog_7_method_20_code
def yX5_about : MethodName := ⟨RX5, "about", "(II)I"⟩
abbrev cX5_told : ByteArray := prog_7_method_21_code
def yX5_told : MethodName := ⟨RX5, "told", "(I)I"⟩
abbrev cX5_opensBy : ByteArray := prog_7_method_22_code
def yX5_opensBy : MethodName := ⟨RX5, "opensBy", "(II)Z"⟩
abbrev cX5_opens : ByteArray := prog_7_method_23_code
def yX5_opens : MethodName := ⟨RX5, "opens", "(II)I"⟩
abbrev cX5_root : ByteArray := prog_7_method_24_code
def yX5_root : MethodName := ⟨RX5, "root", "(I)I"⟩
abbrev cX5_joins : ByteArray := prog_7_method_25_code
def yX5_joins : MethodName := ⟨RX5, "joins", "(I)V"⟩
abbrev cX5_heapOf : ByteArray := prog_7_method_26_code
def yX5_heapOf : MethodName := ⟨RX5, "heapOf", "(I)I"⟩
abbrev cX5_isThrough : ByteArray := prog_7_method_27_code
def yX5_isThrough : MethodName := ⟨RX5, "isThrough", "(I)Z"⟩
abbrev cX5_needWays : ByteArray := prog_7_method_28_code
def yX5_needWays : MethodName := ⟨RX5, "needWays", "()V"⟩
abbrev cX5_is : ByteArray := prog_7_method_29_code
def yX5_is : MethodName := ⟨RX5, "is", "(II)Z"⟩
abbrev cX5_through : ByteArray := prog_7_method_30_code
def yX5_through : MethodName := ⟨RX5, "through", "(II)I"⟩
abbrev cX5_roadRight : ByteArray := prog_7_method_31_code
def yX5_roadRight : MethodName := ⟨RX5, "roadRight", "(IIZ)I"⟩
abbrev cX5_roadDown : ByteArray := prog_7_method_32_code
def yX5_roadDown : MethodName := ⟨RX5, "roadDown", "(IIZ)I"⟩
abbrev cX5_isWall : ByteArray := prog_7_method_33_code
def yX5_isWall : MethodName := ⟨RX5, "isWall", "(Z)Z"⟩
abbrev cX5_wall : ByteArray := prog_7_method_34_code
def yX5_wall : MethodName := ⟨RX5, "wall", "(II)I"⟩
abbrev cX5_heap : ByteArray := prog_7_method_35_code
def yX5_heap : MethodName := ⟨RX5, "heap", "(II)I"⟩
abbrev cX5_sizeOf : ByteArray := prog_7_method_36_code
def yX5_sizeOf : MethodName := ⟨RX5, "sizeOf", "(I)I"⟩
abbrev cX5_heapCount : ByteArray := prog_7_method_37_code
def yX5_heapCount : MethodName := ⟨RX5, "heapCount", "()I"⟩
abbrev cX5_heaps : ByteArray := prog_7_method_38_code
def yX5_heaps : MethodName := ⟨RX5, "heaps", "(II)I"⟩
abbrev cX5_bits : ByteArray := prog_7_method_39_code
def yX5_bits : MethodName := ⟨RX5, "bits", "(I)I"⟩
abbrev cX5_isSize : ByteArray := prog_7_method_40_code
def yX5_isSize : MethodName := ⟨RX5, "isSize", "(I)Z"⟩
abbrev cX5_countOf : ByteArray := prog_7_method_41_code
def yX5_countOf : MethodName := ⟨RX5, "countOf", "(II)I"⟩
abbrev cX5_count : ByteArray := prog_7_method_42_code
def yX5_count : MethodName := ⟨RX5, "count", "(II)I"⟩
abbrev cX5_walls : ByteArray := prog_7_method_43_code
def yX5_walls : MethodName := ⟨RX5, "walls", "(II)I"⟩
abbrev cX5_joined : ByteArray := prog_7_method_44_code
def yX5_joined : MethodName := ⟨RX5, "joined", "(III)I"⟩
abbrev cX5_sized : ByteArray := prog_7_method_45_code
def yX5_sized : MethodName := ⟨RX5, "sized", "(III)I"⟩
abbrev cX5_heapSum : ByteArray := prog_7_method_46_code
def yX5_heapSum : MethodName := ⟨RX5, "heapSum", "(I)I"⟩
abbrev cX5_chance : ByteArray := prog_7_method_47_code
def yX5_chance : MethodName := ⟨RX5, "chance", "(III)J"⟩
abbrev cX5_pivot : ByteArray := prog_7_method_48_code
def yX5_pivot : MethodName := ⟨RX5, "pivot", "(II)I"⟩
abbrev cX5_first : ByteArray := prog_7_method_49_code
def yX5_first : MethodName := ⟨RX5, "first", "(II)I"⟩
abbrev cX5_no : ByteArray := prog_7_method_50_code
def yX5_no : MethodName := ⟨RX5, "no", "(I)I"⟩
abbrev cX5_sheet : ByteArray := prog_7_method_51_code
def yX5_sheet : MethodName := ⟨RX5, "sheet", "(III)I"⟩
abbrev cX5_row : ByteArray := prog_7_method_52_code
def yX5_row : MethodName := ⟨RX5, "row", "(III)I"⟩
abbrev cX5_put : ByteArray := prog_7_method_53_code
def yX5_put : MethodName := ⟨RX5, "put", "(IIIII)I"⟩
abbrev cX5_areThere : ByteArray := prog_7_method_54_code
def yX5_areThere : MethodName := ⟨RX5, "areThere", "(III)Z"⟩
abbrev cX5_copy : ByteArray := prog_7_method_55_code
def yX5_copy : MethodName := ⟨RX5, "copy", "(IIIIIII)I"⟩
abbrev cX5_read : ByteArray := prog_7_method_56_code
def yX5_read : MethodName := ⟨RX5, "read", "(II)I"⟩
abbrev cX5_trace : ByteArray := prog_7_method_57_code
def yX5_trace : MethodName := ⟨RX5, "trace", "()J"⟩
abbrev cX5_status : ByteArray := prog_7_method_58_code
def yX5_status : MethodName := ⟨RX5, "status", "()I"⟩
def RJ6 : String := "java/lang/Integer"
abbrev cJ6_numberOfTrailingZeros_0f7a4 : ByteArray := prog_8_method_48_code
def yJ6_numberOfTrailingZeros_0f7a4 : MethodName := ⟨RJ6, "numberOfTrailingZeros", "(I)I"⟩
abbrev cJ6_bitCount_0f7a4 : ByteArray := prog_8_method_49_code
def yJ6_bitCount_0f7a4 : MethodName := ⟨RJ6, "bitCount", "(I)I"⟩
def RJ9 : String := "java/lang/Math"
abbrev cJ9_max_7cf53 : ByteArray := prog_9_method_65_code
def yJ9_max_7cf53 : MethodName := ⟨RJ9, "max", "(II)I"⟩
abbrev cJ9_min_7cf53 : ByteArray := prog_9_method_69_code
def yJ9_min_7cf53 : MethodName := ⟨RJ9, "min", "(II)I"⟩
def RJ10 : String := "java/lang/System"
def RJ7 : String := "java/util/Arrays"
abbrev cJ7_fill_d0a16 : ByteArray := prog_11_method_101_code
def yJ7_fill_d0a16 : MethodName := ⟨RJ7, "fill", "([JJ)V"⟩
abbrev cJ7_fill_53178 : ByteArray := prog_11_method_103_code
def yJ7_fill_53178 : MethodName := ⟨RJ7, "fill", "([II)V"⟩
def RL : String := "OpenGroundsLaw"
abbrev cL_law : ByteArray := code
def yL_law : MethodName := ⟨RL, "law", "([I)Z"⟩
abbrev vwCl : List vw_C := [(RX0, TX0, 5), (RX1, TX1, 8), (RX2, TX2, 2), (RX3, TX3, 8), (RX4, TX4, 7), (RX5, TX5, 19)]
end
section
theorem dX0_init_0 : decode cX0_init 0 = .ok (.aload_n 0, 1) := by decide +kernel
theorem dX0_init_1 : decode cX0_init 1 = .ok (.invokespecial 3, 3) := by decide +kernel
theorem dX0_init_4 : decode cX0_init 4 = .ok (.return_, 1) := by decide +kernel
theorem dX0_layBetween_0 : decode cX0_layBetween 0 = .ok (.aload_n 0, 1) := by decide +kernel
theorem dX0_layBetween_1 : decode cX0_layBetween 1 = .ok (.iload_n 1, 1) := by decide +kernel
theorem dX0_layBetween_2 : decode cX0_layBetween 2 = .ok (.iconst 1, 1) := by decide +kernel
theorem dX0_layBetween_3 : decode cX0_layBetween 3 = .ok (.iadd, 1) := by decide +kernel
theorem dX0_layBetween_4 : decode cX0_layBetween 4 = .ok (.putfield 9, 3) := by decide +kernel
theorem dX0_layBetween_7 : decode cX0_layBetween 7 = .ok (.aload_n 0, 1) := by decide +kernel
theorem dX0_layBetween_8 : decode cX0_layBetween 8 = .ok (.iload_n 2, 1) := by decide +kernel
theorem dX0_layBetween_9 : decode cX0_layBetween 9 = .ok (.iconst 1, 1) := by decide +kernel
theorem dX0_layBetween_10 : decode cX0_layBetween 10 = .ok (.isub, 1) := by decide +kernel
theorem dX0_layBetween_11 : decode cX0_layBetween 11 = .ok (.putfield 15, 3) := by decide +kernel
theorem dX0_layBetween_14 : decode cX0_layBetween 14 = .ok (.aload_n 0, 1) := by decide +kernel
theorem dX0_layBetween_15 : decode cX0_layBetween 15 = .ok (.iconst 1, 1) := by decide +kernel
theorem dX0_layBetween_16 : decode cX0_layBetween 16 = .ok (.aload_n 0, 1) := by decide +kernel
theorem dX0_layBetween_17 : decode cX0_layBetween 17 = .ok (.getfield 9, 3) := by decide +kernel
theorem dX0_layBetween_20 : decode cX0_layBetween 20 = .ok (.aload_n 0, 1) := by decide +kernel
theorem dX0_layBetween_21 : decode cX0_layBetween 21 = .ok (.getfield 15, 3) := by decide +kernel
theorem dX0_layBetween_24 : decode cX0_layBetween 24 = .ok (.imul, 1) := by decide +kernel
theorem dX0_layBetween_25 : decode cX0_layBetween 25 = .ok (.ishl, 1) := by decide +kernel
theorem dX0_layBetween_26 : decode cX0_layBetween 26 = .ok (.iconst 1, 1) := by decide +kernel
theorem dX0_layBetween_27 : decode cX0_layBetween 27 = .ok (.isub, 1) := by decide +kernel
theorem dX0_layBetween_28 : decode cX0_layBetween 28 = .ok (.putfield 18, 3) := by decide +kernel
theorem dX0_layBetween_31 : decode cX0_layBetween 31 = .ok (.aload_n 0, 1) := by decide +kernel
theorem dX0_layBetween_32 : decode cX0_layBetween 32 = .ok (.iconst 0, 1) := by decide +kernel
theorem dX0_layBetween_33 : decode cX0_layBetween 33 = .ok (.putfield 21, 3) := by decide +kernel
theorem dX0_layBetween_36 : decode cX0_layBetween 36 = .ok (.aload_n 0, 1) := by decide +kernel
theorem dX0_layBetween_37 : decode cX0_layBetween 37 = .ok (.iconst 0, 1) := by decide +kernel
theorem dX0_layBetween_38 : decode cX0_layBetween 38 = .ok (.putfield 24, 3) := by decide +kernel
theorem dX0_layBetween_41 : decode cX0_layBetween 41 = .ok (.iconst 0, 1) := by decide +kernel
theorem dX0_layBetween_42 : decode cX0_layBetween 42 = .ok (.istore 5, 2) := by decide +kernel
theorem dX0_layBetween_44 : decode cX0_layBetween 44 = .ok (.iload 5, 2) := by decide +kernel
theorem dX0_layBetween_46 : decode cX0_layBetween 46 = .ok (.iload_n 1, 1) := by decide +kernel
theorem dX0_layBetween_47 : decode cX0_layBetween 47 = .ok (.if_icmp .ge 112, 3) := by decide +kernel
theorem dX0_layBetween_50 : decode cX0_layBetween 50 = .ok (.iconst 0, 1) := by decide +kernel
theorem dX0_layBetween_51 : decode cX0_layBetween 51 = .ok (.istore 6, 2) := by decide +kernel
theorem dX0_layBetween_53 : decode cX0_layBetween 53 = .ok (.iload 6, 2) := by decide +kernel
theorem dX0_layBetween_55 : decode cX0_layBetween 55 = .ok (.aload_n 0, 1) := by decide +kernel
theorem dX0_layBetween_56 : decode cX0_layBetween 56 = .ok (.getfield 15, 3) := by decide +kernel
theorem dX0_layBetween_59 : decode cX0_layBetween 59 = .ok (.if_icmp .ge 94, 3) := by decide +kernel
theorem dX0_layBetween_62 : decode cX0_layBetween 62 = .ok (.iload 5, 2) := by decide +kernel
theorem dX0_layBetween_64 : decode cX0_layBetween 64 = .ok (.iload_n 2, 1) := by decide +kernel
theorem dX0_layBetween_65 : decode cX0_layBetween 65 = .ok (.imul, 1) := by decide +kernel
theorem dX0_layBetween_66 : decode cX0_layBetween 66 = .ok (.iload 6, 2) := by decide +kernel
theorem dX0_layBetween_68 : decode cX0_layBetween 68 = .ok (.iadd, 1) := by decide +kernel
theorem dX0_layBetween_69 : decode cX0_layBetween 69 = .ok (.istore 7, 2) := by decide +kernel
theorem dX0_layBetween_71 : decode cX0_layBetween 71 = .ok (.iload_n 3, 1) := by decide +kernel
theorem dX0_layBetween_72 : decode cX0_layBetween 72 = .ok (.iload 7, 2) := by decide +kernel
theorem dX0_layBetween_74 : decode cX0_layBetween 74 = .ok (.invokestatic 27, 3) := by decide +kernel
theorem dX0_layBetween_77 : decode cX0_layBetween 77 = .ok (.ifCond .eq 24, 3) := by decide +kernel
theorem dX0_layBetween_80 : decode cX0_layBetween 80 = .ok (.aload_n 0, 1) := by decide +kernel
theorem dX0_layBetween_81 : decode cX0_layBetween 81 = .ok (.dup, 1) := by decide +kernel
theorem dX0_layBetween_82 : decode cX0_layBetween 82 = .ok (.getfield 24, 3) := by decide +kernel
theorem dX0_layBetween_85 : decode cX0_layBetween 85 = .ok (.iconst 1, 1) := by decide +kernel
theorem dX0_layBetween_86 : decode cX0_layBetween 86 = .ok (.iload 5, 2) := by decide +kernel
theorem dX0_layBetween_88 : decode cX0_layBetween 88 = .ok (.aload_n 0, 1) := by decide +kernel
theorem dX0_layBetween_89 : decode cX0_layBetween 89 = .ok (.getfield 15, 3) := by decide +kernel
theorem dX0_layBetween_92 : decode cX0_layBetween 92 = .ok (.imul, 1) := by decide +kernel
theorem dX0_layBetween_93 : decode cX0_layBetween 93 = .ok (.iload 6, 2) := by decide +kernel
theorem dX0_layBetween_95 : decode cX0_layBetween 95 = .ok (.iadd, 1) := by decide +kernel
theorem dX0_layBetween_96 : decode cX0_layBetween 96 = .ok (.ishl, 1) := by decide +kernel
theorem dX0_layBetween_97 : decode cX0_layBetween 97 = .ok (.ior, 1) := by decide +kernel
theorem dX0_layBetween_98 : decode cX0_layBetween 98 = .ok (.putfield 24, 3) := by decide +kernel
theorem dX0_layBetween_101 : decode cX0_layBetween 101 = .ok (.iload 6, 2) := by decide +kernel
theorem dX0_layBetween_103 : decode cX0_layBetween 103 = .ok (.aload_n 0, 1) := by decide +kernel
theorem dX0_layBetween_104 : decode cX0_layBetween 104 = .ok (.getfield 15, 3) := by decide +kernel
theorem dX0_layBetween_107 : decode cX0_layBetween 107 = .ok (.iconst 1, 1) := by decide +kernel
theorem dX0_layBetween_108 : decode cX0_layBetween 108 = .ok (.isub, 1) := by decide +kernel
theorem dX0_layBetween_109 : decode cX0_layBetween 109 = .ok (.if_icmp .ge 38, 3) := by decide +kernel
theorem dX0_layBetween_112 : decode cX0_layBetween 112 = .ok (.iload 4, 2) := by decide +kernel
theorem dX0_layBetween_114 : decode cX0_layBetween 114 = .ok (.iload 7, 2) := by decide +kernel
theorem dX0_layBetween_116 : decode cX0_layBetween 116 = .ok (.iconst 1, 1) := by decide +kernel
theorem dX0_layBetween_117 : decode cX0_layBetween 117 = .ok (.iadd, 1) := by decide +kernel
theorem dX0_layBetween_118 : decode cX0_layBetween 118 = .ok (.invokestatic 27, 3) := by decide +kernel
theorem dX0_layBetween_121 : decode cX0_layBetween 121 = .ok (.ifCond .eq 26, 3) := by decide +kernel
theorem dX0_layBetween_124 : decode cX0_layBetween 124 = .ok (.aload_n 0, 1) := by decide +kernel
theorem dX0_layBetween_125 : decode cX0_layBetween 125 = .ok (.dup, 1) := by decide +kernel
theorem dX0_layBetween_126 : decode cX0_layBetween 126 = .ok (.getfield 21, 3) := by decide +kernel
theorem dX0_layBetween_129 : decode cX0_layBetween 129 = .ok (.iconst 1, 1) := by decide +kernel
theorem dX0_layBetween_130 : decode cX0_layBetween 130 = .ok (.iload 5, 2) := by decide +kernel
theorem dX0_layBetween_132 : decode cX0_layBetween 132 = .ok (.iconst 1, 1) := by decide +kernel
theorem dX0_layBetween_133 : decode cX0_layBetween 133 = .ok (.iadd, 1) := by decide +kernel
theorem dX0_layBetween_134 : decode cX0_layBetween 134 = .ok (.aload_n 0, 1) := by decide +kernel
theorem dX0_layBetween_135 : decode cX0_layBetween 135 = .ok (.getfield 15, 3) := by decide +kernel
theorem dX0_layBetween_138 : decode cX0_layBetween 138 = .ok (.imul, 1) := by decide +kernel
theorem dX0_layBetween_139 : decode cX0_layBetween 139 = .ok (.iload 6, 2) := by decide +kernel
theorem dX0_layBetween_141 : decode cX0_layBetween 141 = .ok (.iadd, 1) := by decide +kernel
theorem dX0_layBetween_142 : decode cX0_layBetween 142 = .ok (.ishl, 1) := by decide +kernel
theorem dX0_layBetween_143 : decode cX0_layBetween 143 = .ok (.ior, 1) := by decide +kernel
theorem dX0_layBetween_144 : decode cX0_layBetween 144 = .ok (.putfield 21, 3) := by decide +kernel
theorem dX0_layBetween_147 : decode cX0_layBetween 147 = .ok (.iinc 6 1, 3) := by decide +kernel
theorem dX0_layBetween_150 : decode cX0_layBetween 150 = .ok (.goto (-97), 3) := by decide +kernel
theorem dX0_layBetween_153 : decode cX0_layBetween 153 = .ok (.iinc 5 1, 3) := by decide +kernel
theorem dX0_layBetween_156 : decode cX0_layBetween 156 = .ok (.goto (-112), 3) := by decide +kernel
theorem dX0_layBetween_159 : decode cX0_layBetween 159 = .ok (.return_, 1) := by decide +kernel
theorem dX0_isCrossed_0 : decode cX0_isCrossed 0 = .ok (.iload_n 1, 1) := by decide +kernel
theorem dX0_isCrossed_1 : decode cX0_isCrossed 1 = .ok (.ifCond .ne 46, 3) := by decide +kernel
theorem dX0_isCrossed_4 : decode cX0_isCrossed 4 = .ok (.aload_n 0, 1) := by decide +kernel
theorem dX0_isCrossed_5 : decode cX0_isCrossed 5 = .ok (.iconst 0, 1) := by decide +kernel
theorem dX0_isCrossed_6 : decode cX0_isCrossed 6 = .ok (.aload_n 0, 1) := by decide +kernel
theorem dX0_isCrossed_7 : decode cX0_isCrossed 7 = .ok (.getfield 15, 3) := by decide +kernel
theorem dX0_isCrossed_10 : decode cX0_isCrossed 10 = .ok (.aload_n 0, 1) := by decide +kernel
theorem dX0_isCrossed_11 : decode cX0_isCrossed 11 = .ok (.getfield 9, 3) := by decide +kernel
theorem dX0_isCrossed_14 : decode cX0_isCrossed 14 = .ok (.invokestatic 31, 3) := by decide +kernel
theorem dX0_isCrossed_17 : decode cX0_isCrossed 17 = .ok (.invokevirtual 35, 3) := by decide +kernel
theorem dX0_isCrossed_20 : decode cX0_isCrossed 20 = .ok (.aload_n 0, 1) := by decide +kernel
theorem dX0_isCrossed_21 : decode cX0_isCrossed 21 = .ok (.getfield 15, 3) := by decide +kernel
theorem dX0_isCrossed_24 : decode cX0_isCrossed 24 = .ok (.iconst 1, 1) := by decide +kernel
theorem dX0_isCrossed_25 : decode cX0_isCrossed 25 = .ok (.isub, 1) := by decide +kernel
theorem dX0_isCrossed_26 : decode cX0_isCrossed 26 = .ok (.aload_n 0, 1) := by decide +kernel
theorem dX0_isCrossed_27 : decode cX0_isCrossed 27 = .ok (.getfield 15, 3) := by decide +kernel
theorem dX0_isCrossed_30 : decode cX0_isCrossed 30 = .ok (.aload_n 0, 1) := by decide +kernel
theorem dX0_isCrossed_31 : decode cX0_isCrossed 31 = .ok (.getfield 9, 3) := by decide +kernel
theorem dX0_isCrossed_34 : decode cX0_isCrossed 34 = .ok (.invokestatic 31, 3) := by decide +kernel
theorem dX0_isCrossed_37 : decode cX0_isCrossed 37 = .ok (.iand, 1) := by decide +kernel
theorem dX0_isCrossed_38 : decode cX0_isCrossed 38 = .ok (.ifCond .eq 7, 3) := by decide +kernel
theorem dX0_isCrossed_41 : decode cX0_isCrossed 41 = .ok (.iconst 1, 1) := by decide +kernel
theorem dX0_isCrossed_42 : decode cX0_isCrossed 42 = .ok (.goto 4, 3) := by decide +kernel
theorem dX0_isCrossed_45 : decode cX0_isCrossed 45 = .ok (.iconst 0, 1) := by decide +kernel
theorem dX0_isCrossed_46 : decode cX0_isCrossed 46 = .ok (.ireturn, 1) := by decide +kernel
theorem dX0_isCrossed_47 : decode cX0_isCrossed 47 = .ok (.aload_n 0, 1) := by decide +kernel
theorem dX0_isCrossed_48 : decode cX0_isCrossed 48 = .ok (.iconst 0, 1) := by decide +kernel
theorem dX0_isCrossed_49 : decode cX0_isCrossed 49 = .ok (.iconst 1, 1) := by decide +kernel
theorem dX0_isCrossed_50 : decode cX0_isCrossed 50 = .ok (.aload_n 0, 1) := by decide +kernel
theorem dX0_isCrossed_51 : decode cX0_isCrossed 51 = .ok (.getfield 15, 3) := by decide +kernel
theorem dX0_isCrossed_54 : decode cX0_isCrossed 54 = .ok (.invokestatic 31, 3) := by decide +kernel
theorem dX0_isCrossed_57 : decode cX0_isCrossed 57 = .ok (.invokevirtual 35, 3) := by decide +kernel
theorem dX0_isCrossed_60 : decode cX0_isCrossed 60 = .ok (.aload_n 0, 1) := by decide +kernel
theorem dX0_isCrossed_61 : decode cX0_isCrossed 61 = .ok (.getfield 9, 3) := by decide +kernel
theorem dX0_isCrossed_64 : decode cX0_isCrossed 64 = .ok (.iconst 1, 1) := by decide +kernel
theorem dX0_isCrossed_65 : decode cX0_isCrossed 65 = .ok (.isub, 1) := by decide +kernel
theorem dX0_isCrossed_66 : decode cX0_isCrossed 66 = .ok (.aload_n 0, 1) := by decide +kernel
theorem dX0_isCrossed_67 : decode cX0_isCrossed 67 = .ok (.getfield 15, 3) := by decide +kernel
theorem dX0_isCrossed_70 : decode cX0_isCrossed 70 = .ok (.imul, 1) := by decide +kernel
theorem dX0_isCrossed_71 : decode cX0_isCrossed 71 = .ok (.iconst 1, 1) := by decide +kernel
theorem dX0_isCrossed_72 : decode cX0_isCrossed 72 = .ok (.aload_n 0, 1) := by decide +kernel
theorem dX0_isCrossed_73 : decode cX0_isCrossed 73 = .ok (.getfield 15, 3) := by decide +kernel
theorem dX0_isCrossed_76 : decode cX0_isCrossed 76 = .ok (.invokestatic 31, 3) := by decide +kernel
theorem dX0_isCrossed_79 : decode cX0_isCrossed 79 = .ok (.iand, 1) := by decide +kernel
theorem dX0_isCrossed_80 : decode cX0_isCrossed 80 = .ok (.ifCond .eq 7, 3) := by decide +kernel
theorem dX0_isCrossed_83 : decode cX0_isCrossed 83 = .ok (.iconst 1, 1) := by decide +kernel
theorem dX0_isCrossed_84 : decode cX0_isCrossed 84 = .ok (.goto 4, 3) := by decide +kernel
theorem dX0_isCrossed_87 : decode cX0_isCrossed 87 = .ok (.iconst 0, 1) := by decide +kernel
theorem dX0_isCrossed_88 : decode cX0_isCrossed 88 = .ok (.ireturn, 1) := by decide +kernel
theorem dX0_heapAt_0 : decode cX0_heapAt 0 = .ok (.aload_n 0, 1) := by decide +kernel
theorem dX0_heapAt_1 : decode cX0_heapAt 1 = .ok (.iconst 1, 1) := by decide +kernel
theorem dX0_heapAt_2 : decode cX0_heapAt 2 = .ok (.iload_n 1, 1) := by decide +kernel
theorem dX0_heapAt_3 : decode cX0_heapAt 3 = .ok (.ishl, 1) := by decide +kernel
theorem dX0_heapAt_4 : decode cX0_heapAt 4 = .ok (.invokevirtual 35, 3) := by decide +kernel
theorem dX0_heapAt_7 : decode cX0_heapAt 7 = .ok (.ireturn, 1) := by decide +kernel
theorem dX0_heapCount_0 : decode cX0_heapCount 0 = .ok (.iconst 0, 1) := by decide +kernel
theorem dX0_heapCount_1 : decode cX0_heapCount 1 = .ok (.istore_n 1, 1) := by decide +kernel
theorem dX0_heapCount_2 : decode cX0_heapCount 2 = .ok (.aload_n 0, 1) := by decide +kernel
theorem dX0_heapCount_3 : decode cX0_heapCount 3 = .ok (.getfield 18, 3) := by decide +kernel
theorem dX0_heapCount_6 : decode cX0_heapCount 6 = .ok (.istore_n 2, 1) := by decide +kernel
theorem dX0_heapCount_7 : decode cX0_heapCount 7 = .ok (.iconst 0, 1) := by decide +kernel
theorem dX0_heapCount_8 : decode cX0_heapCount 8 = .ok (.istore_n 3, 1) := by decide +kernel
theorem dX0_heapCount_9 : decode cX0_heapCount 9 = .ok (.iload_n 3, 1) := by decide +kernel
theorem dX0_heapCount_10 : decode cX0_heapCount 10 = .ok (.bipush 25, 2) := by decide +kernel
theorem dX0_heapCount_12 : decode cX0_heapCount 12 = .ok (.if_icmp .ge 30, 3) := by decide +kernel
theorem dX0_heapCount_15 : decode cX0_heapCount 15 = .ok (.iload_n 2, 1) := by decide +kernel
theorem dX0_heapCount_16 : decode cX0_heapCount 16 = .ok (.iload_n 3, 1) := by decide +kernel
theorem dX0_heapCount_17 : decode cX0_heapCount 17 = .ok (.invokestatic 27, 3) := by decide +kernel
theorem dX0_heapCount_20 : decode cX0_heapCount 20 = .ok (.ifCond .eq 16, 3) := by decide +kernel
theorem dX0_heapCount_23 : decode cX0_heapCount 23 = .ok (.iload_n 2, 1) := by decide +kernel
theorem dX0_heapCount_24 : decode cX0_heapCount 24 = .ok (.aload_n 0, 1) := by decide +kernel
theorem dX0_heapCount_25 : decode cX0_heapCount 25 = .ok (.iload_n 3, 1) := by decide +kernel
theorem dX0_heapCount_26 : decode cX0_heapCount 26 = .ok (.invokevirtual 39, 3) := by decide +kernel
theorem dX0_heapCount_29 : decode cX0_heapCount 29 = .ok (.iconst (-1), 1) := by decide +kernel
theorem dX0_heapCount_30 : decode cX0_heapCount 30 = .ok (.ixor, 1) := by decide +kernel
theorem dX0_heapCount_31 : decode cX0_heapCount 31 = .ok (.iand, 1) := by decide +kernel
theorem dX0_heapCount_32 : decode cX0_heapCount 32 = .ok (.istore_n 2, 1) := by decide +kernel
theorem dX0_heapCount_33 : decode cX0_heapCount 33 = .ok (.iinc 1 1, 3) := by decide +kernel
theorem dX0_heapCount_36 : decode cX0_heapCount 36 = .ok (.iinc 3 1, 3) := by decide +kernel
theorem dX0_heapCount_39 : decode cX0_heapCount 39 = .ok (.goto (-30), 3) := by decide +kernel
theorem dX0_heapCount_42 : decode cX0_heapCount 42 = .ok (.iload_n 1, 1) := by decide +kernel
theorem dX0_heapCount_43 : decode cX0_heapCount 43 = .ok (.ireturn, 1) := by decide +kernel
theorem dX0_greatestHeap_0 : decode cX0_greatestHeap 0 = .ok (.iconst 0, 1) := by decide +kernel
theorem dX0_greatestHeap_1 : decode cX0_greatestHeap 1 = .ok (.istore_n 1, 1) := by decide +kernel
theorem dX0_greatestHeap_2 : decode cX0_greatestHeap 2 = .ok (.iconst 0, 1) := by decide +kernel
theorem dX0_greatestHeap_3 : decode cX0_greatestHeap 3 = .ok (.istore_n 2, 1) := by decide +kernel
theorem dX0_greatestHeap_4 : decode cX0_greatestHeap 4 = .ok (.iload_n 2, 1) := by decide +kernel
theorem dX0_greatestHeap_5 : decode cX0_greatestHeap 5 = .ok (.bipush 25, 2) := by decide +kernel
theorem dX0_greatestHeap_7 : decode cX0_greatestHeap 7 = .ok (.if_icmp .ge 22, 3) := by decide +kernel
theorem dX0_greatestHeap_10 : decode cX0_greatestHeap 10 = .ok (.iload_n 1, 1) := by decide +kernel
theorem dX0_greatestHeap_11 : decode cX0_greatestHeap 11 = .ok (.aload_n 0, 1) := by decide +kernel
theorem dX0_greatestHeap_12 : decode cX0_greatestHeap 12 = .ok (.iload_n 2, 1) := by decide +kernel
theorem dX0_greatestHeap_13 : decode cX0_greatestHeap 13 = .ok (.invokevirtual 39, 3) := by decide +kernel
theorem dX0_greatestHeap_16 : decode cX0_greatestHeap 16 = .ok (.invokestatic 42, 3) := by decide +kernel
theorem dX0_greatestHeap_19 : decode cX0_greatestHeap 19 = .ok (.invokestatic 47, 3) := by decide +kernel
theorem dX0_greatestHeap_22 : decode cX0_greatestHeap 22 = .ok (.istore_n 1, 1) := by decide +kernel
theorem dX0_greatestHeap_23 : decode cX0_greatestHeap 23 = .ok (.iinc 2 1, 3) := by decide +kernel
theorem dX0_greatestHeap_26 : decode cX0_greatestHeap 26 = .ok (.goto (-22), 3) := by decide +kernel
theorem dX0_greatestHeap_29 : decode cX0_greatestHeap 29 = .ok (.iload_n 1, 1) := by decide +kernel
theorem dX0_greatestHeap_30 : decode cX0_greatestHeap 30 = .ok (.ireturn, 1) := by decide +kernel
theorem dX0_line_0 : decode cX0_line 0 = .ok (.iconst 0, 1) := by decide +kernel
theorem dX0_line_1 : decode cX0_line 1 = .ok (.istore_n 3, 1) := by decide +kernel
theorem dX0_line_2 : decode cX0_line 2 = .ok (.iconst 0, 1) := by decide +kernel
theorem dX0_line_3 : decode cX0_line 3 = .ok (.istore 4, 2) := by decide +kernel
theorem dX0_line_5 : decode cX0_line 5 = .ok (.iload 4, 2) := by decide +kernel
theorem dX0_line_7 : decode cX0_line 7 = .ok (.iload_n 2, 1) := by decide +kernel
theorem dX0_line_8 : decode cX0_line 8 = .ok (.if_icmp .ge 20, 3) := by decide +kernel
theorem dX0_line_11 : decode cX0_line 11 = .ok (.iload_n 3, 1) := by decide +kernel
theorem dX0_line_12 : decode cX0_line 12 = .ok (.iconst 1, 1) := by decide +kernel
theorem dX0_line_13 : decode cX0_line 13 = .ok (.iload_n 0, 1) := by decide +kernel
theorem dX0_line_14 : decode cX0_line 14 = .ok (.iload 4, 2) := by decide +kernel
theorem dX0_line_16 : decode cX0_line 16 = .ok (.iload_n 1, 1) := by decide +kernel
theorem dX0_line_17 : decode cX0_line 17 = .ok (.imul, 1) := by decide +kernel
theorem dX0_line_18 : decode cX0_line 18 = .ok (.iadd, 1) := by decide +kernel
theorem dX0_line_19 : decode cX0_line 19 = .ok (.ishl, 1) := by decide +kernel
theorem dX0_line_20 : decode cX0_line 20 = .ok (.ior, 1) := by decide +kernel
theorem dX0_line_21 : decode cX0_line 21 = .ok (.istore_n 3, 1) := by decide +kernel
theorem dX0_line_22 : decode cX0_line 22 = .ok (.iinc 4 1, 3) := by decide +kernel
theorem dX0_line_25 : decode cX0_line 25 = .ok (.goto (-20), 3) := by decide +kernel
theorem dX0_line_28 : decode cX0_line 28 = .ok (.iload_n 3, 1) := by decide +kernel
theorem dX0_line_29 : decode cX0_line 29 = .ok (.ireturn, 1) := by decide +kernel
theorem dX0_spread_0 : decode cX0_spread 0 = .ok (.iload_n 1, 1) := by decide +kernel
theorem dX0_spread_1 : decode cX0_spread 1 = .ok (.aload_n 0, 1) := by decide +kernel
theorem dX0_spread_2 : decode cX0_spread 2 = .ok (.getfield 18, 3) := by decide +kernel
theorem dX0_spread_5 : decode cX0_spread 5 = .ok (.iand, 1) := by decide +kernel
theorem dX0_spread_6 : decode cX0_spread 6 = .ok (.istore_n 2, 1) := by decide +kernel
theorem dX0_spread_7 : decode cX0_spread 7 = .ok (.iconst 0, 1) := by decide +kernel
theorem dX0_spread_8 : decode cX0_spread 8 = .ok (.istore_n 3, 1) := by decide +kernel
theorem dX0_spread_9 : decode cX0_spread 9 = .ok (.iload_n 3, 1) := by decide +kernel
theorem dX0_spread_10 : decode cX0_spread 10 = .ok (.bipush 25, 2) := by decide +kernel
theorem dX0_spread_12 : decode cX0_spread 12 = .ok (.if_icmp .ge 66, 3) := by decide +kernel
theorem dX0_spread_15 : decode cX0_spread 15 = .ok (.iload_n 2, 1) := by decide +kernel
theorem dX0_spread_16 : decode cX0_spread 16 = .ok (.iload_n 2, 1) := by decide +kernel
theorem dX0_spread_17 : decode cX0_spread 17 = .ok (.aload_n 0, 1) := by decide +kernel
theorem dX0_spread_18 : decode cX0_spread 18 = .ok (.getfield 21, 3) := by decide +kernel
theorem dX0_spread_21 : decode cX0_spread 21 = .ok (.iand, 1) := by decide +kernel
theorem dX0_spread_22 : decode cX0_spread 22 = .ok (.iconst 1, 1) := by decide +kernel
theorem dX0_spread_23 : decode cX0_spread 23 = .ok (.ishl, 1) := by decide +kernel
theorem dX0_spread_24 : decode cX0_spread 24 = .ok (.ior, 1) := by decide +kernel
theorem dX0_spread_25 : decode cX0_spread 25 = .ok (.iload_n 2, 1) := by decide +kernel
theorem dX0_spread_26 : decode cX0_spread 26 = .ok (.iconst 1, 1) := by decide +kernel
theorem dX0_spread_27 : decode cX0_spread 27 = .ok (.iushr, 1) := by decide +kernel
theorem dX0_spread_28 : decode cX0_spread 28 = .ok (.aload_n 0, 1) := by decide +kernel
theorem dX0_spread_29 : decode cX0_spread 29 = .ok (.getfield 21, 3) := by decide +kernel
theorem dX0_spread_32 : decode cX0_spread 32 = .ok (.iand, 1) := by decide +kernel
theorem dX0_spread_33 : decode cX0_spread 33 = .ok (.ior, 1) := by decide +kernel
theorem dX0_spread_34 : decode cX0_spread 34 = .ok (.iload_n 2, 1) := by decide +kernel
theorem dX0_spread_35 : decode cX0_spread 35 = .ok (.aload_n 0, 1) := by decide +kernel
theorem dX0_spread_36 : decode cX0_spread 36 = .ok (.getfield 24, 3) := by decide +kernel
theorem dX0_spread_39 : decode cX0_spread 39 = .ok (.iand, 1) := by decide +kernel
theorem dX0_spread_40 : decode cX0_spread 40 = .ok (.aload_n 0, 1) := by decide +kernel
theorem dX0_spread_41 : decode cX0_spread 41 = .ok (.getfield 15, 3) := by decide +kernel
theorem dX0_spread_44 : decode cX0_spread 44 = .ok (.ishl, 1) := by decide +kernel
theorem dX0_spread_45 : decode cX0_spread 45 = .ok (.ior, 1) := by decide +kernel
theorem dX0_spread_46 : decode cX0_spread 46 = .ok (.iload_n 2, 1) := by decide +kernel
theorem dX0_spread_47 : decode cX0_spread 47 = .ok (.aload_n 0, 1) := by decide +kernel
theorem dX0_spread_48 : decode cX0_spread 48 = .ok (.getfield 15, 3) := by decide +kernel
theorem dX0_spread_51 : decode cX0_spread 51 = .ok (.iushr, 1) := by decide +kernel
theorem dX0_spread_52 : decode cX0_spread 52 = .ok (.aload_n 0, 1) := by decide +kernel
theorem dX0_spread_53 : decode cX0_spread 53 = .ok (.getfield 24, 3) := by decide +kernel
theorem dX0_spread_56 : decode cX0_spread 56 = .ok (.iand, 1) := by decide +kernel
theorem dX0_spread_57 : decode cX0_spread 57 = .ok (.ior, 1) := by decide +kernel
theorem dX0_spread_58 : decode cX0_spread 58 = .ok (.istore 4, 2) := by decide +kernel
theorem dX0_spread_60 : decode cX0_spread 60 = .ok (.iload 4, 2) := by decide +kernel
theorem dX0_spread_62 : decode cX0_spread 62 = .ok (.iload_n 2, 1) := by decide +kernel
theorem dX0_spread_63 : decode cX0_spread 63 = .ok (.if_icmp .ne 6, 3) := by decide +kernel
theorem dX0_spread_66 : decode cX0_spread 66 = .ok (.goto 12, 3) := by decide +kernel
theorem dX0_spread_69 : decode cX0_spread 69 = .ok (.iload 4, 2) := by decide +kernel
theorem dX0_spread_71 : decode cX0_spread 71 = .ok (.istore_n 2, 1) := by decide +kernel
theorem dX0_spread_72 : decode cX0_spread 72 = .ok (.iinc 3 1, 3) := by decide +kernel
theorem dX0_spread_75 : decode cX0_spread 75 = .ok (.goto (-66), 3) := by decide +kernel
theorem dX0_spread_78 : decode cX0_spread 78 = .ok (.iload_n 2, 1) := by decide +kernel
theorem dX0_spread_79 : decode cX0_spread 79 = .ok (.ireturn, 1) := by decide +kernel
theorem dX1_init_0 : decode cX1_init 0 = .ok (.aload_n 0, 1) := by decide +kernel
theorem dX1_init_1 : decode cX1_init 1 = .ok (.invokespecial 3, 3) := by decide +kernel
theorem dX1_init_4 : decode cX1_init 4 = .ok (.aload_n 0, 1) := by decide +kernel
theorem dX1_init_5 : decode cX1_init 5 = .ok (.bipush 40, 2) := by decide +kernel
theorem dX1_init_7 : decode cX1_init 7 = .ok (.newarray .int, 2) := by decide +kernel
theorem dX1_init_9 : decode cX1_init 9 = .ok (.putfield 9, 3) := by decide +kernel
theorem dX1_init_12 : decode cX1_init 12 = .ok (.return_, 1) := by decide +kernel
theorem dX1_lay_0 : decode cX1_lay 0 = .ok (.aload_n 0, 1) := by decide +kernel
theorem dX1_lay_1 : decode cX1_lay 1 = .ok (.iload_n 1, 1) := by decide +kernel
theorem dX1_lay_2 : decode cX1_lay 2 = .ok (.putfield 15, 3) := by decide +kernel
theorem dX1_lay_5 : decode cX1_lay 5 = .ok (.aload_n 0, 1) := by decide +kernel
theorem dX1_lay_6 : decode cX1_lay 6 = .ok (.iload_n 2, 1) := by decide +kernel
theorem dX1_lay_7 : decode cX1_lay 7 = .ok (.putfield 19, 3) := by decide +kernel
theorem dX1_lay_10 : decode cX1_lay 10 = .ok (.aload_n 0, 1) := by decide +kernel
theorem dX1_lay_11 : decode cX1_lay 11 = .ok (.iload_n 3, 1) := by decide +kernel
theorem dX1_lay_12 : decode cX1_lay 12 = .ok (.putfield 22, 3) := by decide +kernel
theorem dX1_lay_15 : decode cX1_lay 15 = .ok (.aload_n 0, 1) := by decide +kernel
theorem dX1_lay_16 : decode cX1_lay 16 = .ok (.aload_n 0, 1) := by decide +kernel
theorem dX1_lay_17 : decode cX1_lay 17 = .ok (.aload_n 0, 1) := by decide +kernel
theorem dX1_lay_18 : decode cX1_lay 18 = .ok (.getfield 15, 3) := by decide +kernel
theorem dX1_lay_21 : decode cX1_lay 21 = .ok (.aload_n 0, 1) := by decide +kernel
theorem dX1_lay_22 : decode cX1_lay 22 = .ok (.getfield 19, 3) := by decide +kernel
theorem dX1_lay_25 : decode cX1_lay 25 = .ok (.invokevirtual 26, 3) := by decide +kernel
theorem dX1_lay_28 : decode cX1_lay 28 = .ok (.putfield 30, 3) := by decide +kernel
theorem dX1_lay_31 : decode cX1_lay 31 = .ok (.aload_n 0, 1) := by decide +kernel
theorem dX1_lay_32 : decode cX1_lay 32 = .ok (.aload_n 0, 1) := by decide +kernel
theorem dX1_lay_33 : decode cX1_lay 33 = .ok (.aload_n 0, 1) := by decide +kernel
theorem dX1_lay_34 : decode cX1_lay 34 = .ok (.getfield 15, 3) := by decide +kernel
theorem dX1_lay_37 : decode cX1_lay 37 = .ok (.aload_n 0, 1) := by decide +kernel
theorem dX1_lay_38 : decode cX1_lay 38 = .ok (.getfield 19, 3) := by decide +kernel
theorem dX1_lay_41 : decode cX1_lay 41 = .ok (.iconst 1, 1) := by decide +kernel
theorem dX1_lay_42 : decode cX1_lay 42 = .ok (.isub, 1) := by decide +kernel
theorem dX1_lay_43 : decode cX1_lay 43 = .ok (.invokevirtual 26, 3) := by decide +kernel
theorem dX1_lay_46 : decode cX1_lay 46 = .ok (.putfield 33, 3) := by decide +kernel
theorem dX1_lay_49 : decode cX1_lay 49 = .ok (.aload_n 0, 1) := by decide +kernel
theorem dX1_lay_50 : decode cX1_lay 50 = .ok (.aload_n 0, 1) := by decide +kernel
theorem dX1_lay_51 : decode cX1_lay 51 = .ok (.aload_n 0, 1) := by decide +kernel
theorem dX1_lay_52 : decode cX1_lay 52 = .ok (.getfield 15, 3) := by decide +kernel
theorem dX1_lay_55 : decode cX1_lay 55 = .ok (.iconst 1, 1) := by decide +kernel
theorem dX1_lay_56 : decode cX1_lay 56 = .ok (.isub, 1) := by decide +kernel
theorem dX1_lay_57 : decode cX1_lay 57 = .ok (.aload_n 0, 1) := by decide +kernel
theorem dX1_lay_58 : decode cX1_lay 58 = .ok (.getfield 19, 3) := by decide +kernel
theorem dX1_lay_61 : decode cX1_lay 61 = .ok (.invokevirtual 26, 3) := by decide +kernel
theorem dX1_lay_64 : decode cX1_lay 64 = .ok (.putfield 36, 3) := by decide +kernel
theorem dX1_lay_67 : decode cX1_lay 67 = .ok (.aload_n 0, 1) := by decide +kernel
theorem dX1_lay_68 : decode cX1_lay 68 = .ok (.iconst 0, 1) := by decide +kernel
theorem dX1_lay_69 : decode cX1_lay 69 = .ok (.putfield 39, 3) := by decide +kernel
theorem dX1_lay_72 : decode cX1_lay 72 = .ok (.aload_n 0, 1) := by decide +kernel
theorem dX1_lay_73 : decode cX1_lay 73 = .ok (.getfield 22, 3) := by decide +kernel
theorem dX1_lay_76 : decode cX1_lay 76 = .ok (.ifCond .eq 15, 3) := by decide +kernel
theorem dX1_lay_79 : decode cX1_lay 79 = .ok (.aload_n 0, 1) := by decide +kernel
theorem dX1_lay_80 : decode cX1_lay 80 = .ok (.aload_n 0, 1) := by decide +kernel
theorem dX1_lay_81 : decode cX1_lay 81 = .ok (.getfield 30, 3) := by decide +kernel
theorem dX1_lay_84 : decode cX1_lay 84 = .ok (.iconst 0, 1) := by decide +kernel
theorem dX1_lay_85 : decode cX1_lay 85 = .ok (.invokevirtual 42, 3) := by decide +kernel
theorem dX1_lay_88 : decode cX1_lay 88 = .ok (.goto 22, 3) := by decide +kernel
theorem dX1_lay_91 : decode cX1_lay 91 = .ok (.aload_n 0, 1) := by decide +kernel
theorem dX1_lay_92 : decode cX1_lay 92 = .ok (.aload_n 0, 1) := by decide +kernel
theorem dX1_lay_93 : decode cX1_lay 93 = .ok (.getfield 33, 3) := by decide +kernel
theorem dX1_lay_96 : decode cX1_lay 96 = .ok (.iconst 0, 1) := by decide +kernel
theorem dX1_lay_97 : decode cX1_lay 97 = .ok (.invokevirtual 42, 3) := by decide +kernel
theorem dX1_lay_100 : decode cX1_lay 100 = .ok (.aload_n 0, 1) := by decide +kernel
theorem dX1_lay_101 : decode cX1_lay 101 = .ok (.aload_n 0, 1) := by decide +kernel
theorem dX1_lay_102 : decode cX1_lay 102 = .ok (.getfield 36, 3) := by decide +kernel
theorem dX1_lay_105 : decode cX1_lay 105 = .ok (.bipush 32, 2) := by decide +kernel
theorem dX1_lay_107 : decode cX1_lay 107 = .ok (.invokevirtual 42, 3) := by decide +kernel
theorem dX1_lay_110 : decode cX1_lay 110 = .ok (.return_, 1) := by decide +kernel
theorem dX1_corner_0 : decode cX1_corner 0 = .ok (.iconst 0, 1) := by decide +kernel
theorem dX1_corner_1 : decode cX1_corner 1 = .ok (.istore_n 3, 1) := by decide +kernel
theorem dX1_corner_2 : decode cX1_corner 2 = .ok (.iconst 0, 1) := by decide +kernel
theorem dX1_corner_3 : decode cX1_corner 3 = .ok (.istore 4, 2) := by decide +kernel
theorem dX1_corner_5 : decode cX1_corner 5 = .ok (.iload 4, 2) := by decide +kernel
theorem dX1_corner_7 : decode cX1_corner 7 = .ok (.iload_n 1, 1) := by decide +kernel
theorem dX1_corner_8 : decode cX1_corner 8 = .ok (.if_icmp .ge 39, 3) := by decide +kernel
theorem dX1_corner_11 : decode cX1_corner 11 = .ok (.iconst 0, 1) := by decide +kernel
theorem dX1_corner_12 : decode cX1_corner 12 = .ok (.istore 5, 2) := by decide +kernel
theorem dX1_corner_14 : decode cX1_corner 14 = .ok (.iload 5, 2) := by decide +kernel
theorem dX1_corner_16 : decode cX1_corner 16 = .ok (.iload_n 2, 1) := by decide +kernel
theorem dX1_corner_17 : decode cX1_corner 17 = .ok (.if_icmp .ge 24, 3) := by decide +kernel
theorem dX1_corner_20 : decode cX1_corner 20 = .ok (.iload_n 3, 1) := by decide +kernel
theorem dX1_corner_21 : decode cX1_corner 21 = .ok (.iconst 1, 1) := by decide +kernel
theorem dX1_corner_22 : decode cX1_corner 22 = .ok (.iload 4, 2) := by decide +kernel
theorem dX1_corner_24 : decode cX1_corner 24 = .ok (.aload_n 0, 1) := by decide +kernel
theorem dX1_corner_25 : decode cX1_corner 25 = .ok (.getfield 19, 3) := by decide +kernel
theorem dX1_corner_28 : decode cX1_corner 28 = .ok (.imul, 1) := by decide +kernel
theorem dX1_corner_29 : decode cX1_corner 29 = .ok (.iload 5, 2) := by decide +kernel
theorem dX1_corner_31 : decode cX1_corner 31 = .ok (.iadd, 1) := by decide +kernel
theorem dX1_corner_32 : decode cX1_corner 32 = .ok (.ishl, 1) := by decide +kernel
theorem dX1_corner_33 : decode cX1_corner 33 = .ok (.ior, 1) := by decide +kernel
theorem dX1_corner_34 : decode cX1_corner 34 = .ok (.istore_n 3, 1) := by decide +kernel
theorem dX1_corner_35 : decode cX1_corner 35 = .ok (.iinc 5 1, 3) := by decide +kernel
theorem dX1_corner_38 : decode cX1_corner 38 = .ok (.goto (-24), 3) := by decide +kernel
theorem dX1_corner_41 : decode cX1_corner 41 = .ok (.iinc 4 1, 3) := by decide +kernel
theorem dX1_corner_44 : decode cX1_corner 44 = .ok (.goto (-39), 3) := by decide +kernel
theorem dX1_corner_47 : decode cX1_corner 47 = .ok (.iload_n 3, 1) := by decide +kernel
theorem dX1_corner_48 : decode cX1_corner 48 = .ok (.ireturn, 1) := by decide +kernel
theorem dX1_addThings_0 : decode cX1_addThings 0 = .ok (.iconst 0, 1) := by decide +kernel
theorem dX1_addThings_1 : decode cX1_addThings 1 = .ok (.istore_n 3, 1) := by decide +kernel
theorem dX1_addThings_2 : decode cX1_addThings 2 = .ok (.iload_n 3, 1) := by decide +kernel
theorem dX1_addThings_3 : decode cX1_addThings 3 = .ok (.bipush 25, 2) := by decide +kernel
theorem dX1_addThings_5 : decode cX1_addThings 5 = .ok (.if_icmp .ge 48, 3) := by decide +kernel
theorem dX1_addThings_8 : decode cX1_addThings 8 = .ok (.iload_n 1, 1) := by decide +kernel
theorem dX1_addThings_9 : decode cX1_addThings 9 = .ok (.iload_n 3, 1) := by decide +kernel
theorem dX1_addThings_10 : decode cX1_addThings 10 = .ok (.invokestatic 46, 3) := by decide +kernel
theorem dX1_addThings_13 : decode cX1_addThings 13 = .ok (.ifCond .eq 34, 3) := by decide +kernel
theorem dX1_addThings_16 : decode cX1_addThings 16 = .ok (.aload_n 0, 1) := by decide +kernel
theorem dX1_addThings_17 : decode cX1_addThings 17 = .ok (.getfield 39, 3) := by decide +kernel
theorem dX1_addThings_20 : decode cX1_addThings 20 = .ok (.bipush 40, 2) := by decide +kernel
theorem dX1_addThings_22 : decode cX1_addThings 22 = .ok (.if_icmp .ge 25, 3) := by decide +kernel
theorem dX1_addThings_25 : decode cX1_addThings 25 = .ok (.aload_n 0, 1) := by decide +kernel
theorem dX1_addThings_26 : decode cX1_addThings 26 = .ok (.getfield 9, 3) := by decide +kernel
theorem dX1_addThings_29 : decode cX1_addThings 29 = .ok (.aload_n 0, 1) := by decide +kernel
theorem dX1_addThings_30 : decode cX1_addThings 30 = .ok (.getfield 39, 3) := by decide +kernel
theorem dX1_addThings_33 : decode cX1_addThings 33 = .ok (.iload_n 2, 1) := by decide +kernel
theorem dX1_addThings_34 : decode cX1_addThings 34 = .ok (.iload_n 3, 1) := by decide +kernel
theorem dX1_addThings_35 : decode cX1_addThings 35 = .ok (.iadd, 1) := by decide +kernel
theorem dX1_addThings_36 : decode cX1_addThings 36 = .ok (.iastore, 1) := by decide +kernel
theorem dX1_addThings_37 : decode cX1_addThings 37 = .ok (.aload_n 0, 1) := by decide +kernel
theorem dX1_addThings_38 : decode cX1_addThings 38 = .ok (.dup, 1) := by decide +kernel
theorem dX1_addThings_39 : decode cX1_addThings 39 = .ok (.getfield 39, 3) := by decide +kernel
theorem dX1_addThings_42 : decode cX1_addThings 42 = .ok (.iconst 1, 1) := by decide +kernel
theorem dX1_addThings_43 : decode cX1_addThings 43 = .ok (.iadd, 1) := by decide +kernel
theorem dX1_addThings_44 : decode cX1_addThings 44 = .ok (.putfield 39, 3) := by decide +kernel
theorem dX1_addThings_47 : decode cX1_addThings 47 = .ok (.iinc 3 1, 3) := by decide +kernel
theorem dX1_addThings_50 : decode cX1_addThings 50 = .ok (.goto (-48), 3) := by decide +kernel
theorem dX1_addThings_53 : decode cX1_addThings 53 = .ok (.return_, 1) := by decide +kernel
theorem dX1_placeOf_0 : decode cX1_placeOf 0 = .ok (.aload_n 0, 1) := by decide +kernel
theorem dX1_placeOf_1 : decode cX1_placeOf 1 = .ok (.getfield 9, 3) := by decide +kernel
theorem dX1_placeOf_4 : decode cX1_placeOf 4 = .ok (.iload_n 1, 1) := by decide +kernel
theorem dX1_placeOf_5 : decode cX1_placeOf 5 = .ok (.iaload, 1) := by decide +kernel
theorem dX1_placeOf_6 : decode cX1_placeOf 6 = .ok (.bipush 32, 2) := by decide +kernel
theorem dX1_placeOf_8 : decode cX1_placeOf 8 = .ok (.irem, 1) := by decide +kernel
theorem dX1_placeOf_9 : decode cX1_placeOf 9 = .ok (.ireturn, 1) := by decide +kernel
theorem dX1_otherPlaceOf_0 : decode cX1_otherPlaceOf 0 = .ok (.aload_n 0, 1) := by decide +kernel
theorem dX1_otherPlaceOf_1 : decode cX1_otherPlaceOf 1 = .ok (.getfield 22, 3) := by decide +kernel
theorem dX1_otherPlaceOf_4 : decode cX1_otherPlaceOf 4 = .ok (.ifCond .eq 9, 3) := by decide +kernel
theorem dX1_otherPlaceOf_7 : decode cX1_otherPlaceOf 7 = .ok (.aload_n 0, 1) := by decide +kernel
theorem dX1_otherPlaceOf_8 : decode cX1_otherPlaceOf 8 = .ok (.iload_n 1, 1) := by decide +kernel
theorem dX1_otherPlaceOf_9 : decode cX1_otherPlaceOf 9 = .ok (.invokevirtual 50, 3) := by decide +kernel
theorem dX1_otherPlaceOf_12 : decode cX1_otherPlaceOf 12 = .ok (.ireturn, 1) := by decide +kernel
theorem dX1_otherPlaceOf_13 : decode cX1_otherPlaceOf 13 = .ok (.aload_n 0, 1) := by decide +kernel
theorem dX1_otherPlaceOf_14 : decode cX1_otherPlaceOf 14 = .ok (.iload_n 1, 1) := by decide +kernel
theorem dX1_otherPlaceOf_15 : decode cX1_otherPlaceOf 15 = .ok (.invokevirtual 50, 3) := by decide +kernel
theorem dX1_otherPlaceOf_18 : decode cX1_otherPlaceOf 18 = .ok (.aload_n 0, 1) := by decide +kernel
theorem dX1_otherPlaceOf_19 : decode cX1_otherPlaceOf 19 = .ok (.getfield 9, 3) := by decide +kernel
theorem dX1_otherPlaceOf_22 : decode cX1_otherPlaceOf 22 = .ok (.iload_n 1, 1) := by decide +kernel
theorem dX1_otherPlaceOf_23 : decode cX1_otherPlaceOf 23 = .ok (.iaload, 1) := by decide +kernel
theorem dX1_otherPlaceOf_24 : decode cX1_otherPlaceOf 24 = .ok (.bipush 32, 2) := by decide +kernel
theorem dX1_otherPlaceOf_26 : decode cX1_otherPlaceOf 26 = .ok (.if_icmp .ge 7, 3) := by decide +kernel
theorem dX1_otherPlaceOf_29 : decode cX1_otherPlaceOf 29 = .ok (.iconst 1, 1) := by decide +kernel
theorem dX1_otherPlaceOf_30 : decode cX1_otherPlaceOf 30 = .ok (.goto 7, 3) := by decide +kernel
theorem dX1_otherPlaceOf_33 : decode cX1_otherPlaceOf 33 = .ok (.aload_n 0, 1) := by decide +kernel
theorem dX1_otherPlaceOf_34 : decode cX1_otherPlaceOf 34 = .ok (.getfield 19, 3) := by decide +kernel
theorem dX1_otherPlaceOf_37 : decode cX1_otherPlaceOf 37 = .ok (.iadd, 1) := by decide +kernel
theorem dX1_otherPlaceOf_38 : decode cX1_otherPlaceOf 38 = .ok (.ireturn, 1) := by decide +kernel
theorem dX1_exchanged_0 : decode cX1_exchanged 0 = .ok (.iconst 0, 1) := by decide +kernel
theorem dX1_exchanged_1 : decode cX1_exchanged 1 = .ok (.istore_n 2, 1) := by decide +kernel
theorem dX1_exchanged_2 : decode cX1_exchanged 2 = .ok (.iconst 0, 1) := by decide +kernel
theorem dX1_exchanged_3 : decode cX1_exchanged 3 = .ok (.istore_n 3, 1) := by decide +kernel
theorem dX1_exchanged_4 : decode cX1_exchanged 4 = .ok (.iload_n 3, 1) := by decide +kernel
theorem dX1_exchanged_5 : decode cX1_exchanged 5 = .ok (.aload_n 0, 1) := by decide +kernel
theorem dX1_exchanged_6 : decode cX1_exchanged 6 = .ok (.getfield 15, 3) := by decide +kernel
theorem dX1_exchanged_9 : decode cX1_exchanged 9 = .ok (.if_icmp .ge 57, 3) := by decide +kernel
theorem dX1_exchanged_12 : decode cX1_exchanged 12 = .ok (.iconst 0, 1) := by decide +kernel
theorem dX1_exchanged_13 : decode cX1_exchanged 13 = .ok (.istore 4, 2) := by decide +kernel
theorem dX1_exchanged_15 : decode cX1_exchanged 15 = .ok (.iload 4, 2) := by decide +kernel
theorem dX1_exchanged_17 : decode cX1_exchanged 17 = .ok (.aload_n 0, 1) := by decide +kernel
theorem dX1_exchanged_18 : decode cX1_exchanged 18 = .ok (.getfield 19, 3) := by decide +kernel
theorem dX1_exchanged_21 : decode cX1_exchanged 21 = .ok (.if_icmp .ge 39, 3) := by decide +kernel
theorem dX1_exchanged_24 : decode cX1_exchanged 24 = .ok (.iload_n 1, 1) := by decide +kernel
theorem dX1_exchanged_25 : decode cX1_exchanged 25 = .ok (.iload_n 3, 1) := by decide +kernel
theorem dX1_exchanged_26 : decode cX1_exchanged 26 = .ok (.aload_n 0, 1) := by decide +kernel
theorem dX1_exchanged_27 : decode cX1_exchanged 27 = .ok (.getfield 19, 3) := by decide +kernel
theorem dX1_exchanged_30 : decode cX1_exchanged 30 = .ok (.imul, 1) := by decide +kernel
theorem dX1_exchanged_31 : decode cX1_exchanged 31 = .ok (.iload 4, 2) := by decide +kernel
theorem dX1_exchanged_33 : decode cX1_exchanged 33 = .ok (.iadd, 1) := by decide +kernel
theorem dX1_exchanged_34 : decode cX1_exchanged 34 = .ok (.invokestatic 46, 3) := by decide +kernel
theorem dX1_exchanged_37 : decode cX1_exchanged 37 = .ok (.ifCond .eq 17, 3) := by decide +kernel
theorem dX1_exchanged_40 : decode cX1_exchanged 40 = .ok (.iload_n 2, 1) := by decide +kernel
theorem dX1_exchanged_41 : decode cX1_exchanged 41 = .ok (.iconst 1, 1) := by decide +kernel
theorem dX1_exchanged_42 : decode cX1_exchanged 42 = .ok (.iload 4, 2) := by decide +kernel
theorem dX1_exchanged_44 : decode cX1_exchanged 44 = .ok (.aload_n 0, 1) := by decide +kernel
theorem dX1_exchanged_45 : decode cX1_exchanged 45 = .ok (.getfield 15, 3) := by decide +kernel
theorem dX1_exchanged_48 : decode cX1_exchanged 48 = .ok (.imul, 1) := by decide +kernel
theorem dX1_exchanged_49 : decode cX1_exchanged 49 = .ok (.iload_n 3, 1) := by decide +kernel
theorem dX1_exchanged_50 : decode cX1_exchanged 50 = .ok (.iadd, 1) := by decide +kernel
theorem dX1_exchanged_51 : decode cX1_exchanged 51 = .ok (.ishl, 1) := by decide +kernel
theorem dX1_exchanged_52 : decode cX1_exchanged 52 = .ok (.ior, 1) := by decide +kernel
theorem dX1_exchanged_53 : decode cX1_exchanged 53 = .ok (.istore_n 2, 1) := by decide +kernel
theorem dX1_exchanged_54 : decode cX1_exchanged 54 = .ok (.iinc 4 1, 3) := by decide +kernel
theorem dX1_exchanged_57 : decode cX1_exchanged 57 = .ok (.goto (-42), 3) := by decide +kernel
theorem dX1_exchanged_60 : decode cX1_exchanged 60 = .ok (.iinc 3 1, 3) := by decide +kernel
theorem dX1_exchanged_63 : decode cX1_exchanged 63 = .ok (.goto (-59), 3) := by decide +kernel
theorem dX1_exchanged_66 : decode cX1_exchanged 66 = .ok (.iload_n 2, 1) := by decide +kernel
theorem dX1_exchanged_67 : decode cX1_exchanged 67 = .ok (.ireturn, 1) := by decide +kernel
theorem dX2_init_0 : decode cX2_init 0 = .ok (.aload_n 0, 1) := by decide +kernel
theorem dX2_init_1 : decode cX2_init 1 = .ok (.invokespecial 1, 3) := by decide +kernel
theorem dX2_init_4 : decode cX2_init 4 = .ok (.aload_n 0, 1) := by decide +kernel
theorem dX2_init_5 : decode cX2_init 5 = .ok (.iload_n 1, 1) := by decide +kernel
theorem dX2_init_6 : decode cX2_init 6 = .ok (.putfield 7, 3) := by decide +kernel
theorem dX2_init_9 : decode cX2_init 9 = .ok (.aload_n 0, 1) := by decide +kernel
theorem dX2_init_10 : decode cX2_init 10 = .ok (.aload_n 2, 1) := by decide +kernel
theorem dX2_init_11 : decode cX2_init 11 = .ok (.putfield 13, 3) := by decide +kernel
theorem dX2_init_14 : decode cX2_init 14 = .ok (.return_, 1) := by decide +kernel
theorem dX2_hasRow_0 : decode cX2_hasRow 0 = .ok (.iconst 0, 1) := by decide +kernel
theorem dX2_hasRow_1 : decode cX2_hasRow 1 = .ok (.iload_n 1, 1) := by decide +kernel
theorem dX2_hasRow_2 : decode cX2_hasRow 2 = .ok (.if_icmp .gt 16, 3) := by decide +kernel
theorem dX2_hasRow_5 : decode cX2_hasRow 5 = .ok (.iload_n 1, 1) := by decide +kernel
theorem dX2_hasRow_6 : decode cX2_hasRow 6 = .ok (.aload_n 0, 1) := by decide +kernel
theorem dX2_hasRow_7 : decode cX2_hasRow 7 = .ok (.getfield 13, 3) := by decide +kernel
theorem dX2_hasRow_10 : decode cX2_hasRow 10 = .ok (.arraylength, 1) := by decide +kernel
theorem dX2_hasRow_11 : decode cX2_hasRow 11 = .ok (.if_icmp .ge 7, 3) := by decide +kernel
theorem dX2_hasRow_14 : decode cX2_hasRow 14 = .ok (.iconst 1, 1) := by decide +kernel
theorem dX2_hasRow_15 : decode cX2_hasRow 15 = .ok (.goto 4, 3) := by decide +kernel
theorem dX2_hasRow_18 : decode cX2_hasRow 18 = .ok (.iconst 0, 1) := by decide +kernel
theorem dX2_hasRow_19 : decode cX2_hasRow 19 = .ok (.ireturn, 1) := by decide +kernel
theorem dX2_holds_0 : decode cX2_holds 0 = .ok (.aload_n 0, 1) := by decide +kernel
theorem dX2_holds_1 : decode cX2_holds 1 = .ok (.getfield 13, 3) := by decide +kernel
theorem dX2_holds_4 : decode cX2_holds 4 = .ok (.iload_n 1, 1) := by decide +kernel
theorem dX2_holds_5 : decode cX2_holds 5 = .ok (.aaload, 1) := by decide +kernel
theorem dX2_holds_6 : decode cX2_holds 6 = .ok (.arraylength, 1) := by decide +kernel
theorem dX2_holds_7 : decode cX2_holds 7 = .ok (.istore 4, 2) := by decide +kernel
theorem dX2_holds_9 : decode cX2_holds 9 = .ok (.iload_n 3, 1) := by decide +kernel
theorem dX2_holds_10 : decode cX2_holds 10 = .ok (.ifCond .lt 25, 3) := by decide +kernel
theorem dX2_holds_13 : decode cX2_holds 13 = .ok (.iload_n 2, 1) := by decide +kernel
theorem dX2_holds_14 : decode cX2_holds 14 = .ok (.ifCond .lt 21, 3) := by decide +kernel
theorem dX2_holds_17 : decode cX2_holds 17 = .ok (.iload_n 3, 1) := by decide +kernel
theorem dX2_holds_18 : decode cX2_holds 18 = .ok (.iload 4, 2) := by decide +kernel
theorem dX2_holds_20 : decode cX2_holds 20 = .ok (.if_icmp .gt 15, 3) := by decide +kernel
theorem dX2_holds_23 : decode cX2_holds 23 = .ok (.iload_n 2, 1) := by decide +kernel
theorem dX2_holds_24 : decode cX2_holds 24 = .ok (.iload 4, 2) := by decide +kernel
theorem dX2_holds_26 : decode cX2_holds 26 = .ok (.iload_n 3, 1) := by decide +kernel
theorem dX2_holds_27 : decode cX2_holds 27 = .ok (.isub, 1) := by decide +kernel
theorem dX2_holds_28 : decode cX2_holds 28 = .ok (.if_icmp .gt 7, 3) := by decide +kernel
theorem dX2_holds_31 : decode cX2_holds 31 = .ok (.iconst 1, 1) := by decide +kernel
theorem dX2_holds_32 : decode cX2_holds 32 = .ok (.goto 4, 3) := by decide +kernel
theorem dX2_holds_35 : decode cX2_holds 35 = .ok (.iconst 0, 1) := by decide +kernel
theorem dX2_holds_36 : decode cX2_holds 36 = .ok (.ireturn, 1) := by decide +kernel
theorem dX3_init_0 : decode cX3_init 0 = .ok (.aload_n 0, 1) := by decide +kernel
theorem dX3_init_1 : decode cX3_init 1 = .ok (.invokespecial 3, 3) := by decide +kernel
theorem dX3_init_4 : decode cX3_init 4 = .ok (.aload_n 0, 1) := by decide +kernel
theorem dX3_init_5 : decode cX3_init 5 = .ok (.bipush 40, 2) := by decide +kernel
theorem dX3_init_7 : decode cX3_init 7 = .ok (.newarray .int, 2) := by decide +kernel
theorem dX3_init_9 : decode cX3_init 9 = .ok (.putfield 9, 3) := by decide +kernel
theorem dX3_init_12 : decode cX3_init 12 = .ok (.aload_n 0, 1) := by decide +kernel
theorem dX3_init_13 : decode cX3_init 13 = .ok (.bipush 40, 2) := by decide +kernel
theorem dX3_init_15 : decode cX3_init 15 = .ok (.newarray .int, 2) := by decide +kernel
theorem dX3_init_17 : decode cX3_init 17 = .ok (.putfield 15, 3) := by decide +kernel
theorem dX3_init_20 : decode cX3_init 20 = .ok (.aload_n 0, 1) := by decide +kernel
theorem dX3_init_21 : decode cX3_init 21 = .ok (.bipush 40, 2) := by decide +kernel
theorem dX3_init_23 : decode cX3_init 23 = .ok (.newarray .int, 2) := by decide +kernel
theorem dX3_init_25 : decode cX3_init 25 = .ok (.putfield 18, 3) := by decide +kernel
theorem dX3_init_28 : decode cX3_init 28 = .ok (.aload_n 0, 1) := by decide +kernel
theorem dX3_init_29 : decode cX3_init 29 = .ok (.bipush 12, 2) := by decide +kernel
theorem dX3_init_31 : decode cX3_init 31 = .ok (.newarray .long, 2) := by decide +kernel
theorem dX3_init_33 : decode cX3_init 33 = .ok (.putfield 21, 3) := by decide +kernel
theorem dX3_init_36 : decode cX3_init 36 = .ok (.aload_n 0, 1) := by decide +kernel
theorem dX3_init_37 : decode cX3_init 37 = .ok (.bipush 12, 2) := by decide +kernel
theorem dX3_init_39 : decode cX3_init 39 = .ok (.newarray .long, 2) := by decide +kernel
theorem dX3_init_41 : decode cX3_init 41 = .ok (.putfield 25, 3) := by decide +kernel
theorem dX3_init_44 : decode cX3_init 44 = .ok (.aload_n 0, 1) := by decide +kernel
theorem dX3_init_45 : decode cX3_init 45 = .ok (.aload_n 1, 1) := by decide +kernel
theorem dX3_init_46 : decode cX3_init 46 = .ok (.putfield 28, 3) := by decide +kernel
theorem dX3_init_49 : decode cX3_init 49 = .ok (.return_, 1) := by decide +kernel
theorem dX3_makeSure_0 : decode cX3_makeSure 0 = .ok (.aload_n 0, 1) := by decide +kernel
theorem dX3_makeSure_1 : decode cX3_makeSure 1 = .ok (.getfield 9, 3) := by decide +kernel
theorem dX3_makeSure_4 : decode cX3_makeSure 4 = .ok (.iconst 1, 1) := by decide +kernel
theorem dX3_makeSure_5 : decode cX3_makeSure 5 = .ok (.invokestatic 32, 3) := by decide +kernel
theorem dX3_makeSure_8 : decode cX3_makeSure 8 = .ok (.aload_n 0, 1) := by decide +kernel
theorem dX3_makeSure_9 : decode cX3_makeSure 9 = .ok (.getfield 15, 3) := by decide +kernel
theorem dX3_makeSure_12 : decode cX3_makeSure 12 = .ok (.bipush (-9), 2) := by decide +kernel
theorem dX3_makeSure_14 : decode cX3_makeSure 14 = .ok (.invokestatic 32, 3) := by decide +kernel
theorem dX3_makeSure_17 : decode cX3_makeSure 17 = .ok (.aload_n 0, 1) := by decide +kernel
theorem dX3_makeSure_18 : decode cX3_makeSure 18 = .ok (.invokevirtual 38, 3) := by decide +kernel
theorem dX3_makeSure_21 : decode cX3_makeSure 21 = .ok (.return_, 1) := by decide +kernel
theorem dX3_become_0 : decode cX3_become 0 = .ok (.aload_n 0, 1) := by decide +kernel
theorem dX3_become_1 : decode cX3_become 1 = .ok (.getfield 9, 3) := by decide +kernel
theorem dX3_become_4 : decode cX3_become 4 = .ok (.iload_n 1, 1) := by decide +kernel
theorem dX3_become_5 : decode cX3_become 5 = .ok (.iaload, 1) := by decide +kernel
theorem dX3_become_6 : decode cX3_become 6 = .ok (.istore 4, 2) := by decide +kernel
theorem dX3_become_8 : decode cX3_become 8 = .ok (.aload_n 0, 1) := by decide +kernel
theorem dX3_become_9 : decode cX3_become 9 = .ok (.getfield 9, 3) := by decide +kernel
theorem dX3_become_12 : decode cX3_become 12 = .ok (.iload_n 1, 1) := by decide +kernel
theorem dX3_become_13 : decode cX3_become 13 = .ok (.iload_n 2, 1) := by decide +kernel
theorem dX3_become_14 : decode cX3_become 14 = .ok (.iastore, 1) := by decide +kernel
theorem dX3_become_15 : decode cX3_become 15 = .ok (.aload_n 0, 1) := by decide +kernel
theorem dX3_become_16 : decode cX3_become 16 = .ok (.getfield 15, 3) := by decide +kernel
theorem dX3_become_19 : decode cX3_become 19 = .ok (.iload_n 1, 1) := by decide +kernel
theorem dX3_become_20 : decode cX3_become 20 = .ok (.iload_n 3, 1) := by decide +kernel
theorem dX3_become_21 : decode cX3_become 21 = .ok (.iastore, 1) := by decide +kernel
theorem dX3_become_22 : decode cX3_become 22 = .ok (.aload_n 0, 1) := by decide +kernel
theorem dX3_become_23 : decode cX3_become 23 = .ok (.invokevirtual 38, 3) := by decide +kernel
theorem dX3_become_26 : decode cX3_become 26 = .ok (.iload 4, 2) := by decide +kernel
theorem dX3_become_28 : decode cX3_become 28 = .ok (.ireturn, 1) := by decide +kernel
theorem dX3_isElder_0 : decode cX3_isElder 0 = .ok (.iconst 0, 1) := by decide +kernel
theorem dX3_isElder_1 : decode cX3_isElder 1 = .ok (.istore_n 2, 1) := by decide +kernel
theorem dX3_isElder_2 : decode cX3_isElder 2 = .ok (.iload_n 2, 1) := by decide +kernel
theorem dX3_isElder_3 : decode cX3_isElder 3 = .ok (.aload_n 0, 1) := by decide +kernel
theorem dX3_isElder_4 : decode cX3_isElder 4 = .ok (.getfield 28, 3) := by decide +kernel
theorem dX3_isElder_7 : decode cX3_isElder 7 = .ok (.getfield 41, 3) := by decide +kernel
theorem dX3_isElder_10 : decode cX3_isElder 10 = .ok (.if_icmp .ge 21, 3) := by decide +kernel
theorem dX3_isElder_13 : decode cX3_isElder 13 = .ok (.aload_n 0, 1) := by decide +kernel
theorem dX3_isElder_14 : decode cX3_isElder 14 = .ok (.getfield 15, 3) := by decide +kernel
theorem dX3_isElder_17 : decode cX3_isElder 17 = .ok (.iload_n 2, 1) := by decide +kernel
theorem dX3_isElder_18 : decode cX3_isElder 18 = .ok (.iaload, 1) := by decide +kernel
theorem dX3_isElder_19 : decode cX3_isElder 19 = .ok (.iload_n 1, 1) := by decide +kernel
theorem dX3_isElder_20 : decode cX3_isElder 20 = .ok (.if_icmp .ne 5, 3) := by decide +kernel
theorem dX3_isElder_23 : decode cX3_isElder 23 = .ok (.iconst 1, 1) := by decide +kernel
theorem dX3_isElder_24 : decode cX3_isElder 24 = .ok (.ireturn, 1) := by decide +kernel
theorem dX3_isElder_25 : decode cX3_isElder 25 = .ok (.iinc 2 1, 3) := by decide +kernel
theorem dX3_isElder_28 : decode cX3_isElder 28 = .ok (.goto (-26), 3) := by decide +kernel
theorem dX3_isElder_31 : decode cX3_isElder 31 = .ok (.iconst 0, 1) := by decide +kernel
theorem dX3_isElder_32 : decode cX3_isElder 32 = .ok (.ireturn, 1) := by decide +kernel
theorem dX3_younger_0 : decode cX3_younger 0 = .ok (.iconst 0, 1) := by decide +kernel
theorem dX3_younger_1 : decode cX3_younger 1 = .ok (.istore_n 1, 1) := by decide +kernel
theorem dX3_younger_2 : decode cX3_younger 2 = .ok (.iconst 0, 1) := by decide +kernel
theorem dX3_younger_3 : decode cX3_younger 3 = .ok (.istore_n 2, 1) := by decide +kernel
theorem dX3_younger_4 : decode cX3_younger 4 = .ok (.iload_n 2, 1) := by decide +kernel
theorem dX3_younger_5 : decode cX3_younger 5 = .ok (.aload_n 0, 1) := by decide +kernel
theorem dX3_younger_6 : decode cX3_younger 6 = .ok (.getfield 28, 3) := by decide +kernel
theorem dX3_younger_9 : decode cX3_younger 9 = .ok (.getfield 41, 3) := by decide +kernel
theorem dX3_younger_12 : decode cX3_younger 12 = .ok (.if_icmp .ge 23, 3) := by decide +kernel
theorem dX3_younger_15 : decode cX3_younger 15 = .ok (.aload_n 0, 1) := by decide +kernel
theorem dX3_younger_16 : decode cX3_younger 16 = .ok (.getfield 15, 3) := by decide +kernel
theorem dX3_younger_19 : decode cX3_younger 19 = .ok (.iload_n 2, 1) := by decide +kernel
theorem dX3_younger_20 : decode cX3_younger 20 = .ok (.iaload, 1) := by decide +kernel
theorem dX3_younger_21 : decode cX3_younger 21 = .ok (.bipush (-9), 2) := by decide +kernel
theorem dX3_younger_23 : decode cX3_younger 23 = .ok (.if_icmp .eq 6, 3) := by decide +kernel
theorem dX3_younger_26 : decode cX3_younger 26 = .ok (.iinc 1 1, 3) := by decide +kernel
theorem dX3_younger_29 : decode cX3_younger 29 = .ok (.iinc 2 1, 3) := by decide +kernel
theorem dX3_younger_32 : decode cX3_younger 32 = .ok (.goto (-28), 3) := by decide +kernel
theorem dX3_younger_35 : decode cX3_younger 35 = .ok (.iload_n 1, 1) := by decide +kernel
theorem dX3_younger_36 : decode cX3_younger 36 = .ok (.ireturn, 1) := by decide +kernel
theorem dX3_openBy_0 : decode cX3_openBy 0 = .ok (.aload_n 0, 1) := by decide +kernel
theorem dX3_openBy_1 : decode cX3_openBy 1 = .ok (.getfield 47, 3) := by decide +kernel
theorem dX3_openBy_4 : decode cX3_openBy 4 = .ok (.lstore_n 2, 1) := by decide +kernel
theorem dX3_openBy_5 : decode cX3_openBy 5 = .ok (.iconst 0, 1) := by decide +kernel
theorem dX3_openBy_6 : decode cX3_openBy 6 = .ok (.istore 4, 2) := by decide +kernel
theorem dX3_openBy_8 : decode cX3_openBy 8 = .ok (.iload 4, 2) := by decide +kernel
theorem dX3_openBy_10 : decode cX3_openBy 10 = .ok (.aload_n 0, 1) := by decide +kernel
theorem dX3_openBy_11 : decode cX3_openBy 11 = .ok (.getfield 51, 3) := by decide +kernel
theorem dX3_openBy_14 : decode cX3_openBy 14 = .ok (.if_icmp .ge 38, 3) := by decide +kernel
theorem dX3_openBy_17 : decode cX3_openBy 17 = .ok (.lload_n 2, 1) := by decide +kernel
theorem dX3_openBy_18 : decode cX3_openBy 18 = .ok (.iload_n 1, 1) := by decide +kernel
theorem dX3_openBy_19 : decode cX3_openBy 19 = .ok (.iload 4, 2) := by decide +kernel
theorem dX3_openBy_21 : decode cX3_openBy 21 = .ok (.invokestatic 54, 3) := by decide +kernel
theorem dX3_openBy_24 : decode cX3_openBy 24 = .ok (.ifCond .eq 13, 3) := by decide +kernel
theorem dX3_openBy_27 : decode cX3_openBy 27 = .ok (.aload_n 0, 1) := by decide +kernel
theorem dX3_openBy_28 : decode cX3_openBy 28 = .ok (.getfield 21, 3) := by decide +kernel
theorem dX3_openBy_31 : decode cX3_openBy 31 = .ok (.iload 4, 2) := by decide +kernel
theorem dX3_openBy_33 : decode cX3_openBy 33 = .ok (.laload, 1) := by decide +kernel
theorem dX3_openBy_34 : decode cX3_openBy 34 = .ok (.goto 10, 3) := by decide +kernel
theorem dX3_openBy_37 : decode cX3_openBy 37 = .ok (.aload_n 0, 1) := by decide +kernel
theorem dX3_openBy_38 : decode cX3_openBy 38 = .ok (.getfield 25, 3) := by decide +kernel
theorem dX3_openBy_41 : decode cX3_openBy 41 = .ok (.iload 4, 2) := by decide +kernel
theorem dX3_openBy_43 : decode cX3_openBy 43 = .ok (.laload, 1) := by decide +kernel
theorem dX3_openBy_44 : decode cX3_openBy 44 = .ok (.lor, 1) := by decide +kernel
theorem dX3_openBy_45 : decode cX3_openBy 45 = .ok (.lstore_n 2, 1) := by decide +kernel
theorem dX3_openBy_46 : decode cX3_openBy 46 = .ok (.iinc 4 1, 3) := by decide +kernel
theorem dX3_openBy_49 : decode cX3_openBy 49 = .ok (.goto (-41), 3) := by decide +kernel
theorem dX3_openBy_52 : decode cX3_openBy 52 = .ok (.lload_n 2, 1) := by decide +kernel
theorem dX3_openBy_53 : decode cX3_openBy 53 = .ok (.lreturn, 1) := by decide +kernel
theorem dX3_settle_0 : decode cX3_settle 0 = .ok (.aload_n 0, 1) := by decide +kernel
theorem dX3_settle_1 : decode cX3_settle 1 = .ok (.invokevirtual 58, 3) := by decide +kernel
theorem dX3_settle_4 : decode cX3_settle 4 = .ok (.aload_n 0, 1) := by decide +kernel
theorem dX3_settle_5 : decode cX3_settle 5 = .ok (.lconst 0, 1) := by decide +kernel
theorem dX3_settle_6 : decode cX3_settle 6 = .ok (.putfield 47, 3) := by decide +kernel
theorem dX3_settle_9 : decode cX3_settle 9 = .ok (.aload_n 0, 1) := by decide +kernel
theorem dX3_settle_10 : decode cX3_settle 10 = .ok (.getfield 21, 3) := by decide +kernel
theorem dX3_settle_13 : decode cX3_settle 13 = .ok (.lconst 0, 1) := by decide +kernel
theorem dX3_settle_14 : decode cX3_settle 14 = .ok (.invokestatic 61, 3) := by decide +kernel
theorem dX3_settle_17 : decode cX3_settle 17 = .ok (.aload_n 0, 1) := by decide +kernel
theorem dX3_settle_18 : decode cX3_settle 18 = .ok (.getfield 25, 3) := by decide +kernel
theorem dX3_settle_21 : decode cX3_settle 21 = .ok (.lconst 0, 1) := by decide +kernel
theorem dX3_settle_22 : decode cX3_settle 22 = .ok (.invokestatic 61, 3) := by decide +kernel
theorem dX3_settle_25 : decode cX3_settle 25 = .ok (.iconst 0, 1) := by decide +kernel
theorem dX3_settle_26 : decode cX3_settle 26 = .ok (.istore_n 1, 1) := by decide +kernel
theorem dX3_settle_27 : decode cX3_settle 27 = .ok (.iload_n 1, 1) := by decide +kernel
theorem dX3_settle_28 : decode cX3_settle 28 = .ok (.aload_n 0, 1) := by decide +kernel
theorem dX3_settle_29 : decode cX3_settle 29 = .ok (.getfield 28, 3) := by decide +kernel
theorem dX3_settle_32 : decode cX3_settle 32 = .ok (.getfield 41, 3) := by decide +kernel
theorem dX3_settle_35 : decode cX3_settle 35 = .ok (.if_icmp .ge 25, 3) := by decide +kernel
theorem dX3_settle_38 : decode cX3_settle 38 = .ok (.aload_n 0, 1) := by decide +kernel
theorem dX3_settle_39 : decode cX3_settle 39 = .ok (.iload_n 1, 1) := by decide +kernel
theorem dX3_settle_40 : decode cX3_settle 40 = .ok (.lconst 1, 1) := by decide +kernel
theorem dX3_settle_41 : decode cX3_settle 41 = .ok (.aload_n 0, 1) := by decide +kernel
theorem dX3_settle_42 : decode cX3_settle 42 = .ok (.getfield 28, 3) := by decide +kernel
theorem dX3_settle_45 : decode cX3_settle 45 = .ok (.getfield 64, 3) := by decide +kernel
theorem dX3_settle_48 : decode cX3_settle 48 = .ok (.iload_n 1, 1) := by decide +kernel
theorem dX3_settle_49 : decode cX3_settle 49 = .ok (.iaload, 1) := by decide +kernel
theorem dX3_settle_50 : decode cX3_settle 50 = .ok (.lshl, 1) := by decide +kernel
theorem dX3_settle_51 : decode cX3_settle 51 = .ok (.invokevirtual 67, 3) := by decide +kernel
theorem dX3_settle_54 : decode cX3_settle 54 = .ok (.iinc 1 1, 3) := by decide +kernel
theorem dX3_settle_57 : decode cX3_settle 57 = .ok (.goto (-30), 3) := by decide +kernel
theorem dX3_settle_60 : decode cX3_settle 60 = .ok (.return_, 1) := by decide +kernel
theorem dX3_numberChances_0 : decode cX3_numberChances 0 = .ok (.aload_n 0, 1) := by decide +kernel
theorem dX3_numberChances_1 : decode cX3_numberChances 1 = .ok (.iconst 0, 1) := by decide +kernel
theorem dX3_numberChances_2 : decode cX3_numberChances 2 = .ok (.putfield 51, 3) := by decide +kernel
theorem dX3_numberChances_5 : decode cX3_numberChances 5 = .ok (.iconst 0, 1) := by decide +kernel
theorem dX3_numberChances_6 : decode cX3_numberChances 6 = .ok (.istore_n 1, 1) := by decide +kernel
theorem dX3_numberChances_7 : decode cX3_numberChances 7 = .ok (.iload_n 1, 1) := by decide +kernel
theorem dX3_numberChances_8 : decode cX3_numberChances 8 = .ok (.aload_n 0, 1) := by decide +kernel
theorem dX3_numberChances_9 : decode cX3_numberChances 9 = .ok (.getfield 28, 3) := by decide +kernel
theorem dX3_numberChances_12 : decode cX3_numberChances 12 = .ok (.getfield 41, 3) := by decide +kernel
theorem dX3_numberChances_15 : decode cX3_numberChances 15 = .ok (.if_icmp .ge 47, 3) := by decide +kernel
theorem dX3_numberChances_18 : decode cX3_numberChances 18 = .ok (.aload_n 0, 1) := by decide +kernel
theorem dX3_numberChances_19 : decode cX3_numberChances 19 = .ok (.getfield 18, 3) := by decide +kernel
theorem dX3_numberChances_22 : decode cX3_numberChances 22 = .ok (.iload_n 1, 1) := by decide +kernel
theorem dX3_numberChances_23 : decode cX3_numberChances 23 = .ok (.bipush (-9), 2) := by decide +kernel
theorem dX3_numberChances_25 : decode cX3_numberChances 25 = .ok (.iastore, 1) := by decide +kernel
theorem dX3_numberChances_26 : decode cX3_numberChances 26 = .ok (.aload_n 0, 1) := by decide +kernel
theorem dX3_numberChances_27 : decode cX3_numberChances 27 = .ok (.getfield 9, 3) := by decide +kernel
theorem dX3_numberChances_30 : decode cX3_numberChances 30 = .ok (.iload_n 1, 1) := by decide +kernel
theorem dX3_numberChances_31 : decode cX3_numberChances 31 = .ok (.iaload, 1) := by decide +kernel
theorem dX3_numberChances_32 : decode cX3_numberChances 32 = .ok (.iconst 2, 1) := by decide +kernel
theorem dX3_numberChances_33 : decode cX3_numberChances 33 = .ok (.if_icmp .ne 23, 3) := by decide +kernel
theorem dX3_numberChances_36 : decode cX3_numberChances 36 = .ok (.aload_n 0, 1) := by decide +kernel
theorem dX3_numberChances_37 : decode cX3_numberChances 37 = .ok (.getfield 18, 3) := by decide +kernel
theorem dX3_numberChances_40 : decode cX3_numberChances 40 = .ok (.iload_n 1, 1) := by decide +kernel
theorem dX3_numberChances_41 : decode cX3_numberChances 41 = .ok (.aload_n 0, 1) := by decide +kernel
theorem dX3_numberChances_42 : decode cX3_numberChances 42 = .ok (.getfield 51, 3) := by decide +kernel
theorem dX3_numberChances_45 : decode cX3_numberChances 45 = .ok (.iastore, 1) := by decide +kernel
theorem dX3_numberChances_46 : decode cX3_numberChances 46 = .ok (.aload_n 0, 1) := by decide +kernel
theorem dX3_numberChances_47 : decode cX3_numberChances 47 = .ok (.dup, 1) := by decide +kernel
theorem dX3_numberChances_48 : decode cX3_numberChances 48 = .ok (.getfield 51, 3) := by decide +kernel
theorem dX3_numberChances_51 : decode cX3_numberChances 51 = .ok (.iconst 1, 1) := by decide +kernel
theorem dX3_numberChances_52 : decode cX3_numberChances 52 = .ok (.iadd, 1) := by decide +kernel
theorem dX3_numberChances_53 : decode cX3_numberChances 53 = .ok (.putfield 51, 3) := by decide +kernel
theorem dX3_numberChances_56 : decode cX3_numberChances 56 = .ok (.iinc 1 1, 3) := by decide +kernel
theorem dX3_numberChances_59 : decode cX3_numberChances 59 = .ok (.goto (-52), 3) := by decide +kernel
theorem dX3_numberChances_62 : decode cX3_numberChances 62 = .ok (.return_, 1) := by decide +kernel
theorem dX3_settleOne_0 : decode cX3_settleOne 0 = .ok (.aload_n 0, 1) := by decide +kernel
theorem dX3_settleOne_1 : decode cX3_settleOne 1 = .ok (.getfield 9, 3) := by decide +kernel
theorem dX3_settleOne_4 : decode cX3_settleOne 4 = .ok (.iload_n 1, 1) := by decide +kernel
theorem dX3_settleOne_5 : decode cX3_settleOne 5 = .ok (.iaload, 1) := by decide +kernel
theorem dX3_settleOne_6 : decode cX3_settleOne 6 = .ok (.tableswitch 107 1 4 #[30, 43, 61, 84], 30) := by decide +kernel
theorem dX3_settleOne_36 : decode cX3_settleOne 36 = .ok (.aload_n 0, 1) := by decide +kernel
theorem dX3_settleOne_37 : decode cX3_settleOne 37 = .ok (.dup, 1) := by decide +kernel
theorem dX3_settleOne_38 : decode cX3_settleOne 38 = .ok (.getfield 47, 3) := by decide +kernel
theorem dX3_settleOne_41 : decode cX3_settleOne 41 = .ok (.lload_n 2, 1) := by decide +kernel
theorem dX3_settleOne_42 : decode cX3_settleOne 42 = .ok (.lor, 1) := by decide +kernel
theorem dX3_settleOne_43 : decode cX3_settleOne 43 = .ok (.putfield 47, 3) := by decide +kernel
theorem dX3_settleOne_46 : decode cX3_settleOne 46 = .ok (.goto 67, 3) := by decide +kernel
theorem dX3_settleOne_49 : decode cX3_settleOne 49 = .ok (.aload_n 0, 1) := by decide +kernel
theorem dX3_settleOne_50 : decode cX3_settleOne 50 = .ok (.getfield 21, 3) := by decide +kernel
theorem dX3_settleOne_53 : decode cX3_settleOne 53 = .ok (.aload_n 0, 1) := by decide +kernel
theorem dX3_settleOne_54 : decode cX3_settleOne 54 = .ok (.getfield 18, 3) := by decide +kernel
theorem dX3_settleOne_57 : decode cX3_settleOne 57 = .ok (.iload_n 1, 1) := by decide +kernel
theorem dX3_settleOne_58 : decode cX3_settleOne 58 = .ok (.iaload, 1) := by decide +kernel
theorem dX3_settleOne_59 : decode cX3_settleOne 59 = .ok (.dup2, 1) := by decide +kernel
theorem dX3_settleOne_60 : decode cX3_settleOne 60 = .ok (.laload, 1) := by decide +kernel
theorem dX3_settleOne_61 : decode cX3_settleOne 61 = .ok (.lload_n 2, 1) := by decide +kernel
theorem dX3_settleOne_62 : decode cX3_settleOne 62 = .ok (.lor, 1) := by decide +kernel
theorem dX3_settleOne_63 : decode cX3_settleOne 63 = .ok (.lastore, 1) := by decide +kernel
theorem dX3_settleOne_64 : decode cX3_settleOne 64 = .ok (.goto 49, 3) := by decide +kernel
theorem dX3_settleOne_67 : decode cX3_settleOne 67 = .ok (.aload_n 0, 1) := by decide +kernel
theorem dX3_settleOne_68 : decode cX3_settleOne 68 = .ok (.getfield 21, 3) := by decide +kernel
theorem dX3_settleOne_71 : decode cX3_settleOne 71 = .ok (.aload_n 0, 1) := by decide +kernel
theorem dX3_settleOne_72 : decode cX3_settleOne 72 = .ok (.getfield 18, 3) := by decide +kernel
theorem dX3_settleOne_75 : decode cX3_settleOne 75 = .ok (.aload_n 0, 1) := by decide +kernel
theorem dX3_settleOne_76 : decode cX3_settleOne 76 = .ok (.getfield 15, 3) := by decide +kernel
theorem dX3_settleOne_79 : decode cX3_settleOne 79 = .ok (.iload_n 1, 1) := by decide +kernel
theorem dX3_settleOne_80 : decode cX3_settleOne 80 = .ok (.iaload, 1) := by decide +kernel
theorem dX3_settleOne_81 : decode cX3_settleOne 81 = .ok (.iaload, 1) := by decide +kernel
theorem dX3_settleOne_82 : decode cX3_settleOne 82 = .ok (.dup2, 1) := by decide +kernel
theorem dX3_settleOne_83 : decode cX3_settleOne 83 = .ok (.laload, 1) := by decide +kernel
theorem dX3_settleOne_84 : decode cX3_settleOne 84 = .ok (.lload_n 2, 1) := by decide +kernel
theorem dX3_settleOne_85 : decode cX3_settleOne 85 = .ok (.lor, 1) := by decide +kernel
theorem dX3_settleOne_86 : decode cX3_settleOne 86 = .ok (.lastore, 1) := by decide +kernel
theorem dX3_settleOne_87 : decode cX3_settleOne 87 = .ok (.goto 26, 3) := by decide +kernel
theorem dX3_settleOne_90 : decode cX3_settleOne 90 = .ok (.aload_n 0, 1) := by decide +kernel
theorem dX3_settleOne_91 : decode cX3_settleOne 91 = .ok (.getfield 25, 3) := by decide +kernel
theorem dX3_settleOne_94 : decode cX3_settleOne 94 = .ok (.aload_n 0, 1) := by decide +kernel
theorem dX3_settleOne_95 : decode cX3_settleOne 95 = .ok (.getfield 18, 3) := by decide +kernel
theorem dX3_settleOne_98 : decode cX3_settleOne 98 = .ok (.aload_n 0, 1) := by decide +kernel
theorem dX3_settleOne_99 : decode cX3_settleOne 99 = .ok (.getfield 15, 3) := by decide +kernel
theorem dX3_settleOne_102 : decode cX3_settleOne 102 = .ok (.iload_n 1, 1) := by decide +kernel
theorem dX3_settleOne_103 : decode cX3_settleOne 103 = .ok (.iaload, 1) := by decide +kernel
theorem dX3_settleOne_104 : decode cX3_settleOne 104 = .ok (.iaload, 1) := by decide +kernel
theorem dX3_settleOne_105 : decode cX3_settleOne 105 = .ok (.dup2, 1) := by decide +kernel
theorem dX3_settleOne_106 : decode cX3_settleOne 106 = .ok (.laload, 1) := by decide +kernel
theorem dX3_settleOne_107 : decode cX3_settleOne 107 = .ok (.lload_n 2, 1) := by decide +kernel
theorem dX3_settleOne_108 : decode cX3_settleOne 108 = .ok (.lor, 1) := by decide +kernel
theorem dX3_settleOne_109 : decode cX3_settleOne 109 = .ok (.lastore, 1) := by decide +kernel
theorem dX3_settleOne_110 : decode cX3_settleOne 110 = .ok (.goto 3, 3) := by decide +kernel
theorem dX3_settleOne_113 : decode cX3_settleOne 113 = .ok (.return_, 1) := by decide +kernel
theorem dJ6_numberOfTrailingZeros_0f7a4_0 : decode cJ6_numberOfTrailingZeros_0f7a4 0 = .ok (.iload_n 0, 1) := by decide +kernel
theorem dJ6_numberOfTrailingZeros_0f7a4_1 : decode cJ6_numberOfTrailingZeros_0f7a4 1 = .ok (.iconst (-1), 1) := by decide +kernel
theorem dJ6_numberOfTrailingZeros_0f7a4_2 : decode cJ6_numberOfTrailingZeros_0f7a4 2 = .ok (.ixor, 1) := by decide +kernel
theorem dJ6_numberOfTrailingZeros_0f7a4_3 : decode cJ6_numberOfTrailingZeros_0f7a4 3 = .ok (.iload_n 0, 1) := by decide +kernel
theorem dJ6_numberOfTrailingZeros_0f7a4_4 : decode cJ6_numberOfTrailingZeros_0f7a4 4 = .ok (.iconst 1, 1) := by decide +kernel
theorem dJ6_numberOfTrailingZeros_0f7a4_5 : decode cJ6_numberOfTrailingZeros_0f7a4 5 = .ok (.isub, 1) := by decide +kernel
theorem dJ6_numberOfTrailingZeros_0f7a4_6 : decode cJ6_numberOfTrailingZeros_0f7a4 6 = .ok (.iand, 1) := by decide +kernel
theorem dJ6_numberOfTrailingZeros_0f7a4_7 : decode cJ6_numberOfTrailingZeros_0f7a4 7 = .ok (.istore_n 0, 1) := by decide +kernel
theorem dJ6_numberOfTrailingZeros_0f7a4_8 : decode cJ6_numberOfTrailingZeros_0f7a4 8 = .ok (.iload_n 0, 1) := by decide +kernel
theorem dJ6_numberOfTrailingZeros_0f7a4_9 : decode cJ6_numberOfTrailingZeros_0f7a4 9 = .ok (.ifCond .gt 8, 3) := by decide +kernel
theorem dJ6_numberOfTrailingZeros_0f7a4_12 : decode cJ6_numberOfTrailingZeros_0f7a4 12 = .ok (.iload_n 0, 1) := by decide +kernel
theorem dJ6_numberOfTrailingZeros_0f7a4_13 : decode cJ6_numberOfTrailingZeros_0f7a4 13 = .ok (.bipush 32, 2) := by decide +kernel
theorem dJ6_numberOfTrailingZeros_0f7a4_15 : decode cJ6_numberOfTrailingZeros_0f7a4 15 = .ok (.iand, 1) := by decide +kernel
theorem dJ6_numberOfTrailingZeros_0f7a4_16 : decode cJ6_numberOfTrailingZeros_0f7a4 16 = .ok (.ireturn, 1) := by decide +kernel
theorem dJ6_numberOfTrailingZeros_0f7a4_17 : decode cJ6_numberOfTrailingZeros_0f7a4 17 = .ok (.iconst 1, 1) := by decide +kernel
theorem dJ6_numberOfTrailingZeros_0f7a4_18 : decode cJ6_numberOfTrailingZeros_0f7a4 18 = .ok (.istore_n 1, 1) := by decide +kernel
theorem dJ6_numberOfTrailingZeros_0f7a4_19 : decode cJ6_numberOfTrailingZeros_0f7a4 19 = .ok (.iload_n 0, 1) := by decide +kernel
theorem dJ6_numberOfTrailingZeros_0f7a4_20 : decode cJ6_numberOfTrailingZeros_0f7a4 20 = .ok (.ldc_w 264, 3) := by decide +kernel
theorem dJ6_numberOfTrailingZeros_0f7a4_23 : decode cJ6_numberOfTrailingZeros_0f7a4 23 = .ok (.if_icmp .le 11, 3) := by decide +kernel
theorem dJ6_numberOfTrailingZeros_0f7a4_26 : decode cJ6_numberOfTrailingZeros_0f7a4 26 = .ok (.iinc 1 16, 3) := by decide +kernel
theorem dJ6_numberOfTrailingZeros_0f7a4_29 : decode cJ6_numberOfTrailingZeros_0f7a4 29 = .ok (.iload_n 0, 1) := by decide +kernel
theorem dJ6_numberOfTrailingZeros_0f7a4_30 : decode cJ6_numberOfTrailingZeros_0f7a4 30 = .ok (.bipush 16, 2) := by decide +kernel
theorem dJ6_numberOfTrailingZeros_0f7a4_32 : decode cJ6_numberOfTrailingZeros_0f7a4 32 = .ok (.iushr, 1) := by decide +kernel
theorem dJ6_numberOfTrailingZeros_0f7a4_33 : decode cJ6_numberOfTrailingZeros_0f7a4 33 = .ok (.istore_n 0, 1) := by decide +kernel
theorem dJ6_numberOfTrailingZeros_0f7a4_34 : decode cJ6_numberOfTrailingZeros_0f7a4 34 = .ok (.iload_n 0, 1) := by decide +kernel
theorem dJ6_numberOfTrailingZeros_0f7a4_35 : decode cJ6_numberOfTrailingZeros_0f7a4 35 = .ok (.sipush 256, 3) := by decide +kernel
theorem dJ6_numberOfTrailingZeros_0f7a4_38 : decode cJ6_numberOfTrailingZeros_0f7a4 38 = .ok (.if_icmp .le 11, 3) := by decide +kernel
theorem dJ6_numberOfTrailingZeros_0f7a4_41 : decode cJ6_numberOfTrailingZeros_0f7a4 41 = .ok (.iinc 1 8, 3) := by decide +kernel
theorem dJ6_numberOfTrailingZeros_0f7a4_44 : decode cJ6_numberOfTrailingZeros_0f7a4 44 = .ok (.iload_n 0, 1) := by decide +kernel
theorem dJ6_numberOfTrailingZeros_0f7a4_45 : decode cJ6_numberOfTrailingZeros_0f7a4 45 = .ok (.bipush 8, 2) := by decide +kernel
theorem dJ6_numberOfTrailingZeros_0f7a4_47 : decode cJ6_numberOfTrailingZeros_0f7a4 47 = .ok (.iushr, 1) := by decide +kernel
theorem dJ6_numberOfTrailingZeros_0f7a4_48 : decode cJ6_numberOfTrailingZeros_0f7a4 48 = .ok (.istore_n 0, 1) := by decide +kernel
theorem dJ6_numberOfTrailingZeros_0f7a4_49 : decode cJ6_numberOfTrailingZeros_0f7a4 49 = .ok (.iload_n 0, 1) := by decide +kernel
theorem dJ6_numberOfTrailingZeros_0f7a4_50 : decode cJ6_numberOfTrailingZeros_0f7a4 50 = .ok (.bipush 16, 2) := by decide +kernel
theorem dJ6_numberOfTrailingZeros_0f7a4_52 : decode cJ6_numberOfTrailingZeros_0f7a4 52 = .ok (.if_icmp .le 10, 3) := by decide +kernel
theorem dJ6_numberOfTrailingZeros_0f7a4_55 : decode cJ6_numberOfTrailingZeros_0f7a4 55 = .ok (.iinc 1 4, 3) := by decide +kernel
theorem dJ6_numberOfTrailingZeros_0f7a4_58 : decode cJ6_numberOfTrailingZeros_0f7a4 58 = .ok (.iload_n 0, 1) := by decide +kernel
theorem dJ6_numberOfTrailingZeros_0f7a4_59 : decode cJ6_numberOfTrailingZeros_0f7a4 59 = .ok (.iconst 4, 1) := by decide +kernel
theorem dJ6_numberOfTrailingZeros_0f7a4_60 : decode cJ6_numberOfTrailingZeros_0f7a4 60 = .ok (.iushr, 1) := by decide +kernel
theorem dJ6_numberOfTrailingZeros_0f7a4_61 : decode cJ6_numberOfTrailingZeros_0f7a4 61 = .ok (.istore_n 0, 1) := by decide +kernel
theorem dJ6_numberOfTrailingZeros_0f7a4_62 : decode cJ6_numberOfTrailingZeros_0f7a4 62 = .ok (.iload_n 0, 1) := by decide +kernel
theorem dJ6_numberOfTrailingZeros_0f7a4_63 : decode cJ6_numberOfTrailingZeros_0f7a4 63 = .ok (.iconst 4, 1) := by decide +kernel
theorem dJ6_numberOfTrailingZeros_0f7a4_64 : decode cJ6_numberOfTrailingZeros_0f7a4 64 = .ok (.if_icmp .le 10, 3) := by decide +kernel
theorem dJ6_numberOfTrailingZeros_0f7a4_67 : decode cJ6_numberOfTrailingZeros_0f7a4 67 = .ok (.iinc 1 2, 3) := by decide +kernel
theorem dJ6_numberOfTrailingZeros_0f7a4_70 : decode cJ6_numberOfTrailingZeros_0f7a4 70 = .ok (.iload_n 0, 1) := by decide +kernel
theorem dJ6_numberOfTrailingZeros_0f7a4_71 : decode cJ6_numberOfTrailingZeros_0f7a4 71 = .ok (.iconst 2, 1) := by decide +kernel
theorem dJ6_numberOfTrailingZeros_0f7a4_72 : decode cJ6_numberOfTrailingZeros_0f7a4 72 = .ok (.iushr, 1) := by decide +kernel
theorem dJ6_numberOfTrailingZeros_0f7a4_73 : decode cJ6_numberOfTrailingZeros_0f7a4 73 = .ok (.istore_n 0, 1) := by decide +kernel
theorem dJ6_numberOfTrailingZeros_0f7a4_74 : decode cJ6_numberOfTrailingZeros_0f7a4 74 = .ok (.iload_n 1, 1) := by decide +kernel
theorem dJ6_numberOfTrailingZeros_0f7a4_75 : decode cJ6_numberOfTrailingZeros_0f7a4 75 = .ok (.iload_n 0, 1) := by decide +kernel
theorem dJ6_numberOfTrailingZeros_0f7a4_76 : decode cJ6_numberOfTrailingZeros_0f7a4 76 = .ok (.iconst 1, 1) := by decide +kernel
theorem dJ6_numberOfTrailingZeros_0f7a4_77 : decode cJ6_numberOfTrailingZeros_0f7a4 77 = .ok (.iushr, 1) := by decide +kernel
theorem dJ6_numberOfTrailingZeros_0f7a4_78 : decode cJ6_numberOfTrailingZeros_0f7a4 78 = .ok (.iadd, 1) := by decide +kernel
theorem dJ6_numberOfTrailingZeros_0f7a4_79 : decode cJ6_numberOfTrailingZeros_0f7a4 79 = .ok (.ireturn, 1) := by decide +kernel
theorem dJ6_bitCount_0f7a4_0 : decode cJ6_bitCount_0f7a4 0 = .ok (.iload_n 0, 1) := by decide +kernel
theorem dJ6_bitCount_0f7a4_1 : decode cJ6_bitCount_0f7a4 1 = .ok (.iload_n 0, 1) := by decide +kernel
theorem dJ6_bitCount_0f7a4_2 : decode cJ6_bitCount_0f7a4 2 = .ok (.iconst 1, 1) := by decide +kernel
theorem dJ6_bitCount_0f7a4_3 : decode cJ6_bitCount_0f7a4 3 = .ok (.iushr, 1) := by decide +kernel
theorem dJ6_bitCount_0f7a4_4 : decode cJ6_bitCount_0f7a4 4 = .ok (.ldc_w 265, 3) := by decide +kernel
theorem dJ6_bitCount_0f7a4_7 : decode cJ6_bitCount_0f7a4 7 = .ok (.iand, 1) := by decide +kernel
theorem dJ6_bitCount_0f7a4_8 : decode cJ6_bitCount_0f7a4 8 = .ok (.isub, 1) := by decide +kernel
theorem dJ6_bitCount_0f7a4_9 : decode cJ6_bitCount_0f7a4 9 = .ok (.istore_n 0, 1) := by decide +kernel
theorem dJ6_bitCount_0f7a4_10 : decode cJ6_bitCount_0f7a4 10 = .ok (.iload_n 0, 1) := by decide +kernel
theorem dJ6_bitCount_0f7a4_11 : decode cJ6_bitCount_0f7a4 11 = .ok (.ldc_w 266, 3) := by decide +kernel
theorem dJ6_bitCount_0f7a4_14 : decode cJ6_bitCount_0f7a4 14 = .ok (.iand, 1) := by decide +kernel
theorem dJ6_bitCount_0f7a4_15 : decode cJ6_bitCount_0f7a4 15 = .ok (.iload_n 0, 1) := by decide +kernel
theorem dJ6_bitCount_0f7a4_16 : decode cJ6_bitCount_0f7a4 16 = .ok (.iconst 2, 1) := by decide +kernel
theorem dJ6_bitCount_0f7a4_17 : decode cJ6_bitCount_0f7a4 17 = .ok (.iushr, 1) := by decide +kernel
theorem dJ6_bitCount_0f7a4_18 : decode cJ6_bitCount_0f7a4 18 = .ok (.ldc_w 266, 3) := by decide +kernel
theorem dJ6_bitCount_0f7a4_21 : decode cJ6_bitCount_0f7a4 21 = .ok (.iand, 1) := by decide +kernel
theorem dJ6_bitCount_0f7a4_22 : decode cJ6_bitCount_0f7a4 22 = .ok (.iadd, 1) := by decide +kernel
theorem dJ6_bitCount_0f7a4_23 : decode cJ6_bitCount_0f7a4 23 = .ok (.istore_n 0, 1) := by decide +kernel
theorem dJ6_bitCount_0f7a4_24 : decode cJ6_bitCount_0f7a4 24 = .ok (.iload_n 0, 1) := by decide +kernel
theorem dJ6_bitCount_0f7a4_25 : decode cJ6_bitCount_0f7a4 25 = .ok (.iload_n 0, 1) := by decide +kernel
theorem dJ6_bitCount_0f7a4_26 : decode cJ6_bitCount_0f7a4 26 = .ok (.iconst 4, 1) := by decide +kernel
theorem dJ6_bitCount_0f7a4_27 : decode cJ6_bitCount_0f7a4 27 = .ok (.iushr, 1) := by decide +kernel
theorem dJ6_bitCount_0f7a4_28 : decode cJ6_bitCount_0f7a4 28 = .ok (.iadd, 1) := by decide +kernel
theorem dJ6_bitCount_0f7a4_29 : decode cJ6_bitCount_0f7a4 29 = .ok (.ldc_w 267, 3) := by decide +kernel
theorem dJ6_bitCount_0f7a4_32 : decode cJ6_bitCount_0f7a4 32 = .ok (.iand, 1) := by decide +kernel
theorem dJ6_bitCount_0f7a4_33 : decode cJ6_bitCount_0f7a4 33 = .ok (.istore_n 0, 1) := by decide +kernel
theorem dJ6_bitCount_0f7a4_34 : decode cJ6_bitCount_0f7a4 34 = .ok (.iload_n 0, 1) := by decide +kernel
theorem dJ6_bitCount_0f7a4_35 : decode cJ6_bitCount_0f7a4 35 = .ok (.iload_n 0, 1) := by decide +kernel
theorem dJ6_bitCount_0f7a4_36 : decode cJ6_bitCount_0f7a4 36 = .ok (.bipush 8, 2) := by decide +kernel
theorem dJ6_bitCount_0f7a4_38 : decode cJ6_bitCount_0f7a4 38 = .ok (.iushr, 1) := by decide +kernel
theorem dJ6_bitCount_0f7a4_39 : decode cJ6_bitCount_0f7a4 39 = .ok (.iadd, 1) := by decide +kernel
theorem dJ6_bitCount_0f7a4_40 : decode cJ6_bitCount_0f7a4 40 = .ok (.istore_n 0, 1) := by decide +kernel
theorem dJ6_bitCount_0f7a4_41 : decode cJ6_bitCount_0f7a4 41 = .ok (.iload_n 0, 1) := by decide +kernel
theorem dJ6_bitCount_0f7a4_42 : decode cJ6_bitCount_0f7a4 42 = .ok (.iload_n 0, 1) := by decide +kernel
theorem dJ6_bitCount_0f7a4_43 : decode cJ6_bitCount_0f7a4 43 = .ok (.bipush 16, 2) := by decide +kernel
theorem dJ6_bitCount_0f7a4_45 : decode cJ6_bitCount_0f7a4 45 = .ok (.iushr, 1) := by decide +kernel
theorem dJ6_bitCount_0f7a4_46 : decode cJ6_bitCount_0f7a4 46 = .ok (.iadd, 1) := by decide +kernel
theorem dJ6_bitCount_0f7a4_47 : decode cJ6_bitCount_0f7a4 47 = .ok (.istore_n 0, 1) := by decide +kernel
theorem dJ6_bitCount_0f7a4_48 : decode cJ6_bitCount_0f7a4 48 = .ok (.iload_n 0, 1) := by decide +kernel
theorem dJ6_bitCount_0f7a4_49 : decode cJ6_bitCount_0f7a4 49 = .ok (.bipush 63, 2) := by decide +kernel
theorem dJ6_bitCount_0f7a4_51 : decode cJ6_bitCount_0f7a4 51 = .ok (.iand, 1) := by decide +kernel
theorem dJ6_bitCount_0f7a4_52 : decode cJ6_bitCount_0f7a4 52 = .ok (.ireturn, 1) := by decide +kernel
theorem dJ9_max_7cf53_0 : decode cJ9_max_7cf53 0 = .ok (.iload_n 0, 1) := by decide +kernel
theorem dJ9_max_7cf53_1 : decode cJ9_max_7cf53 1 = .ok (.iload_n 1, 1) := by decide +kernel
theorem dJ9_max_7cf53_2 : decode cJ9_max_7cf53 2 = .ok (.if_icmp .lt 7, 3) := by decide +kernel
theorem dJ9_max_7cf53_5 : decode cJ9_max_7cf53 5 = .ok (.iload_n 0, 1) := by decide +kernel
theorem dJ9_max_7cf53_6 : decode cJ9_max_7cf53 6 = .ok (.goto 4, 3) := by decide +kernel
theorem dJ9_max_7cf53_9 : decode cJ9_max_7cf53 9 = .ok (.iload_n 1, 1) := by decide +kernel
theorem dJ9_max_7cf53_10 : decode cJ9_max_7cf53 10 = .ok (.ireturn, 1) := by decide +kernel
theorem dJ9_min_7cf53_0 : decode cJ9_min_7cf53 0 = .ok (.iload_n 0, 1) := by decide +kernel
theorem dJ9_min_7cf53_1 : decode cJ9_min_7cf53 1 = .ok (.iload_n 1, 1) := by decide +kernel
theorem dJ9_min_7cf53_2 : decode cJ9_min_7cf53 2 = .ok (.if_icmp .gt 7, 3) := by decide +kernel
theorem dJ9_min_7cf53_5 : decode cJ9_min_7cf53 5 = .ok (.iload_n 0, 1) := by decide +kernel
theorem dJ9_min_7cf53_6 : decode cJ9_min_7cf53 6 = .ok (.goto 4, 3) := by decide +kernel
theorem dJ9_min_7cf53_9 : decode cJ9_min_7cf53 9 = .ok (.iload_n 1, 1) := by decide +kernel
theorem dJ9_min_7cf53_10 : decode cJ9_min_7cf53 10 = .ok (.ireturn, 1) := by decide +kernel
theorem dJ7_fill_d0a16_0 : decode cJ7_fill_d0a16 0 = .ok (.iconst 0, 1) := by decide +kernel
theorem dJ7_fill_d0a16_1 : decode cJ7_fill_d0a16 1 = .ok (.istore_n 3, 1) := by decide +kernel
theorem dJ7_fill_d0a16_2 : decode cJ7_fill_d0a16 2 = .ok (.aload_n 0, 1) := by decide +kernel
theorem dJ7_fill_d0a16_3 : decode cJ7_fill_d0a16 3 = .ok (.arraylength, 1) := by decide +kernel
theorem dJ7_fill_d0a16_4 : decode cJ7_fill_d0a16 4 = .ok (.istore 4, 2) := by decide +kernel
theorem dJ7_fill_d0a16_6 : decode cJ7_fill_d0a16 6 = .ok (.iload_n 3, 1) := by decide +kernel
theorem dJ7_fill_d0a16_7 : decode cJ7_fill_d0a16 7 = .ok (.iload 4, 2) := by decide +kernel
theorem dJ7_fill_d0a16_9 : decode cJ7_fill_d0a16 9 = .ok (.if_icmp .ge 13, 3) := by decide +kernel
theorem dJ7_fill_d0a16_12 : decode cJ7_fill_d0a16 12 = .ok (.aload_n 0, 1) := by decide +kernel
theorem dJ7_fill_d0a16_13 : decode cJ7_fill_d0a16 13 = .ok (.iload_n 3, 1) := by decide +kernel
theorem dJ7_fill_d0a16_14 : decode cJ7_fill_d0a16 14 = .ok (.lload_n 1, 1) := by decide +kernel
theorem dJ7_fill_d0a16_15 : decode cJ7_fill_d0a16 15 = .ok (.lastore, 1) := by decide +kernel
theorem dJ7_fill_d0a16_16 : decode cJ7_fill_d0a16 16 = .ok (.iinc 3 1, 3) := by decide +kernel
theorem dJ7_fill_d0a16_19 : decode cJ7_fill_d0a16 19 = .ok (.goto (-13), 3) := by decide +kernel
theorem dJ7_fill_d0a16_22 : decode cJ7_fill_d0a16 22 = .ok (.return_, 1) := by decide +kernel
theorem dJ7_fill_53178_0 : decode cJ7_fill_53178 0 = .ok (.iconst 0, 1) := by decide +kernel
theorem dJ7_fill_53178_1 : decode cJ7_fill_53178 1 = .ok (.istore_n 2, 1) := by decide +kernel
theorem dJ7_fill_53178_2 : decode cJ7_fill_53178 2 = .ok (.aload_n 0, 1) := by decide +kernel
theorem dJ7_fill_53178_3 : decode cJ7_fill_53178 3 = .ok (.arraylength, 1) := by decide +kernel
theorem dJ7_fill_53178_4 : decode cJ7_fill_53178 4 = .ok (.istore_n 3, 1) := by decide +kernel
theorem dJ7_fill_53178_5 : decode cJ7_fill_53178 5 = .ok (.iload_n 2, 1) := by decide +kernel
theorem dJ7_fill_53178_6 : decode cJ7_fill_53178 6 = .ok (.iload_n 3, 1) := by decide +kernel
theorem dJ7_fill_53178_7 : decode cJ7_fill_53178 7 = .ok (.if_icmp .ge 13, 3) := by decide +kernel
theorem dJ7_fill_53178_10 : decode cJ7_fill_53178 10 = .ok (.aload_n 0, 1) := by decide +kernel
theorem dJ7_fill_53178_11 : decode cJ7_fill_53178 11 = .ok (.iload_n 2, 1) := by decide +kernel
theorem dJ7_fill_53178_12 : decode cJ7_fill_53178 12 = .ok (.iload_n 1, 1) := by decide +kernel
theorem dJ7_fill_53178_13 : decode cJ7_fill_53178 13 = .ok (.iastore, 1) := by decide +kernel
theorem dJ7_fill_53178_14 : decode cJ7_fill_53178 14 = .ok (.iinc 2 1, 3) := by decide +kernel
theorem dJ7_fill_53178_17 : decode cJ7_fill_53178 17 = .ok (.goto (-12), 3) := by decide +kernel
theorem dJ7_fill_53178_20 : decode cJ7_fill_53178 20 = .ok (.return_, 1) := by decide +kernel
end
section
theorem dX4_init_0 : decode cX4_init 0 = .ok (.aload_n 0, 1) := by decide +kernel
theorem dX4_init_1 : decode cX4_init 1 = .ok (.invokespecial 1, 3) := by decide +kernel
theorem dX4_init_4 : decode cX4_init 4 = .ok (.aload_n 0, 1) := by decide +kernel
theorem dX4_init_5 : decode cX4_init 5 = .ok (.new 7, 3) := by decide +kernel
theorem dX4_init_8 : decode cX4_init 8 = .ok (.dup, 1) := by decide +kernel
theorem dX4_init_9 : decode cX4_init 9 = .ok (.invokespecial 9, 3) := by decide +kernel
theorem dX4_init_12 : decode cX4_init 12 = .ok (.putfield 10, 3) := by decide +kernel
theorem dX4_init_15 : decode cX4_init 15 = .ok (.aload_n 0, 1) := by decide +kernel
theorem dX4_init_16 : decode cX4_init 16 = .ok (.new 16, 3) := by decide +kernel
theorem dX4_init_19 : decode cX4_init 19 = .ok (.dup, 1) := by decide +kernel
theorem dX4_init_20 : decode cX4_init 20 = .ok (.aload_n 0, 1) := by decide +kernel
theorem dX4_init_21 : decode cX4_init 21 = .ok (.getfield 10, 3) := by decide +kernel
theorem dX4_init_24 : decode cX4_init 24 = .ok (.invokespecial 18, 3) := by decide +kernel
theorem dX4_init_27 : decode cX4_init 27 = .ok (.putfield 21, 3) := by decide +kernel
theorem dX4_init_30 : decode cX4_init 30 = .ok (.aload_n 0, 1) := by decide +kernel
theorem dX4_init_31 : decode cX4_init 31 = .ok (.new 25, 3) := by decide +kernel
theorem dX4_init_34 : decode cX4_init 34 = .ok (.dup, 1) := by decide +kernel
theorem dX4_init_35 : decode cX4_init 35 = .ok (.invokespecial 27, 3) := by decide +kernel
theorem dX4_init_38 : decode cX4_init 38 = .ok (.putfield 28, 3) := by decide +kernel
theorem dX4_init_41 : decode cX4_init 41 = .ok (.aload_n 0, 1) := by decide +kernel
theorem dX4_init_42 : decode cX4_init 42 = .ok (.new 25, 3) := by decide +kernel
theorem dX4_init_45 : decode cX4_init 45 = .ok (.dup, 1) := by decide +kernel
theorem dX4_init_46 : decode cX4_init 46 = .ok (.invokespecial 27, 3) := by decide +kernel
theorem dX4_init_49 : decode cX4_init 49 = .ok (.putfield 32, 3) := by decide +kernel
theorem dX4_init_52 : decode cX4_init 52 = .ok (.aload_n 0, 1) := by decide +kernel
theorem dX4_init_53 : decode cX4_init 53 = .ok (.iconst 3, 1) := by decide +kernel
theorem dX4_init_54 : decode cX4_init 54 = .ok (.anewarray 35, 3) := by decide +kernel
theorem dX4_init_57 : decode cX4_init 57 = .ok (.putfield 37, 3) := by decide +kernel
theorem dX4_init_60 : decode cX4_init 60 = .ok (.aload_n 0, 1) := by decide +kernel
theorem dX4_init_61 : decode cX4_init 61 = .ok (.lconst 0, 1) := by decide +kernel
theorem dX4_init_62 : decode cX4_init 62 = .ok (.putfield 41, 3) := by decide +kernel
theorem dX4_init_65 : decode cX4_init 65 = .ok (.aload_n 0, 1) := by decide +kernel
theorem dX4_init_66 : decode cX4_init 66 = .ok (.iconst 0, 1) := by decide +kernel
theorem dX4_init_67 : decode cX4_init 67 = .ok (.putfield 45, 3) := by decide +kernel
theorem dX4_init_70 : decode cX4_init 70 = .ok (.aload_n 0, 1) := by decide +kernel
theorem dX4_init_71 : decode cX4_init 71 = .ok (.iconst 2, 1) := by decide +kernel
theorem dX4_init_72 : decode cX4_init 72 = .ok (.iconst 2, 1) := by decide +kernel
theorem dX4_init_73 : decode cX4_init 73 = .ok (.iconst 0, 1) := by decide +kernel
theorem dX4_init_74 : decode cX4_init 74 = .ok (.invokevirtual 49, 3) := by decide +kernel
theorem dX4_init_77 : decode cX4_init 77 = .ok (.return_, 1) := by decide +kernel
theorem dX4_ground_0 : decode cX4_ground 0 = .ok (.iload_n 1, 1) := by decide +kernel
theorem dX4_ground_1 : decode cX4_ground 1 = .ok (.iconst 1, 1) := by decide +kernel
theorem dX4_ground_2 : decode cX4_ground 2 = .ok (.iconst 5, 1) := by decide +kernel
theorem dX4_ground_3 : decode cX4_ground 3 = .ok (.invokestatic 53, 3) := by decide +kernel
theorem dX4_ground_6 : decode cX4_ground 6 = .ok (.ifCond .eq 12, 3) := by decide +kernel
theorem dX4_ground_9 : decode cX4_ground 9 = .ok (.iload_n 2, 1) := by decide +kernel
theorem dX4_ground_10 : decode cX4_ground 10 = .ok (.iconst 1, 1) := by decide +kernel
theorem dX4_ground_11 : decode cX4_ground 11 = .ok (.iconst 5, 1) := by decide +kernel
theorem dX4_ground_12 : decode cX4_ground 12 = .ok (.invokestatic 53, 3) := by decide +kernel
theorem dX4_ground_15 : decode cX4_ground 15 = .ok (.ifCond .ne 5, 3) := by decide +kernel
theorem dX4_ground_18 : decode cX4_ground 18 = .ok (.iconst (-1), 1) := by decide +kernel
theorem dX4_ground_19 : decode cX4_ground 19 = .ok (.ireturn, 1) := by decide +kernel
theorem dX4_ground_20 : decode cX4_ground 20 = .ok (.aload_n 0, 1) := by decide +kernel
theorem dX4_ground_21 : decode cX4_ground 21 = .ok (.iload_n 1, 1) := by decide +kernel
theorem dX4_ground_22 : decode cX4_ground 22 = .ok (.iload_n 2, 1) := by decide +kernel
theorem dX4_ground_23 : decode cX4_ground 23 = .ok (.iload_n 3, 1) := by decide +kernel
theorem dX4_ground_24 : decode cX4_ground 24 = .ok (.invokevirtual 49, 3) := by decide +kernel
theorem dX4_ground_27 : decode cX4_ground 27 = .ok (.aload_n 0, 1) := by decide +kernel
theorem dX4_ground_28 : decode cX4_ground 28 = .ok (.getfield 10, 3) := by decide +kernel
theorem dX4_ground_31 : decode cX4_ground 31 = .ok (.getfield 57, 3) := by decide +kernel
theorem dX4_ground_34 : decode cX4_ground 34 = .ok (.ireturn, 1) := by decide +kernel
theorem dX4_kind_0 : decode cX4_kind 0 = .ok (.aload_n 0, 1) := by decide +kernel
theorem dX4_kind_1 : decode cX4_kind 1 = .ok (.iload_n 1, 1) := by decide +kernel
theorem dX4_kind_2 : decode cX4_kind 2 = .ok (.invokevirtual 59, 3) := by decide +kernel
theorem dX4_kind_5 : decode cX4_kind 5 = .ok (.ifCond .eq 12, 3) := by decide +kernel
theorem dX4_kind_8 : decode cX4_kind 8 = .ok (.iload_n 2, 1) := by decide +kernel
theorem dX4_kind_9 : decode cX4_kind 9 = .ok (.iconst 0, 1) := by decide +kernel
theorem dX4_kind_10 : decode cX4_kind 10 = .ok (.iconst 2, 1) := by decide +kernel
theorem dX4_kind_11 : decode cX4_kind 11 = .ok (.invokestatic 53, 3) := by decide +kernel
theorem dX4_kind_14 : decode cX4_kind 14 = .ok (.ifCond .ne 5, 3) := by decide +kernel
theorem dX4_kind_17 : decode cX4_kind 17 = .ok (.iconst (-1), 1) := by decide +kernel
theorem dX4_kind_18 : decode cX4_kind 18 = .ok (.ireturn, 1) := by decide +kernel
theorem dX4_kind_19 : decode cX4_kind 19 = .ok (.iload_n 2, 1) := by decide +kernel
theorem dX4_kind_20 : decode cX4_kind 20 = .ok (.iconst 2, 1) := by decide +kernel
theorem dX4_kind_21 : decode cX4_kind 21 = .ok (.if_icmp .eq 17, 3) := by decide +kernel
theorem dX4_kind_24 : decode cX4_kind 24 = .ok (.aload_n 0, 1) := by decide +kernel
theorem dX4_kind_25 : decode cX4_kind 25 = .ok (.getfield 21, 3) := by decide +kernel
theorem dX4_kind_28 : decode cX4_kind 28 = .ok (.iload_n 1, 1) := by decide +kernel
theorem dX4_kind_29 : decode cX4_kind 29 = .ok (.invokevirtual 63, 3) := by decide +kernel
theorem dX4_kind_32 : decode cX4_kind 32 = .ok (.ifCond .eq 6, 3) := by decide +kernel
theorem dX4_kind_35 : decode cX4_kind 35 = .ok (.bipush (-2), 2) := by decide +kernel
theorem dX4_kind_37 : decode cX4_kind 37 = .ok (.ireturn, 1) := by decide +kernel
theorem dX4_kind_38 : decode cX4_kind 38 = .ok (.iload_n 2, 1) := by decide +kernel
theorem dX4_kind_39 : decode cX4_kind 39 = .ok (.iconst 2, 1) := by decide +kernel
theorem dX4_kind_40 : decode cX4_kind 40 = .ok (.if_icmp .ne 31, 3) := by decide +kernel
theorem dX4_kind_43 : decode cX4_kind 43 = .ok (.aload_n 0, 1) := by decide +kernel
theorem dX4_kind_44 : decode cX4_kind 44 = .ok (.getfield 21, 3) := by decide +kernel
theorem dX4_kind_47 : decode cX4_kind 47 = .ok (.getfield 66, 3) := by decide +kernel
theorem dX4_kind_50 : decode cX4_kind 50 = .ok (.iload_n 1, 1) := by decide +kernel
theorem dX4_kind_51 : decode cX4_kind 51 = .ok (.iaload, 1) := by decide +kernel
theorem dX4_kind_52 : decode cX4_kind 52 = .ok (.iconst 2, 1) := by decide +kernel
theorem dX4_kind_53 : decode cX4_kind 53 = .ok (.if_icmp .eq 18, 3) := by decide +kernel
theorem dX4_kind_56 : decode cX4_kind 56 = .ok (.aload_n 0, 1) := by decide +kernel
theorem dX4_kind_57 : decode cX4_kind 57 = .ok (.getfield 21, 3) := by decide +kernel
theorem dX4_kind_60 : decode cX4_kind 60 = .ok (.getfield 70, 3) := by decide +kernel
theorem dX4_kind_63 : decode cX4_kind 63 = .ok (.bipush 12, 2) := by decide +kernel
theorem dX4_kind_65 : decode cX4_kind 65 = .ok (.if_icmp .lt 6, 3) := by decide +kernel
theorem dX4_kind_68 : decode cX4_kind 68 = .ok (.bipush (-3), 2) := by decide +kernel
theorem dX4_kind_70 : decode cX4_kind 70 = .ok (.ireturn, 1) := by decide +kernel
theorem dX4_kind_71 : decode cX4_kind 71 = .ok (.aload_n 0, 1) := by decide +kernel
theorem dX4_kind_72 : decode cX4_kind 72 = .ok (.getfield 21, 3) := by decide +kernel
theorem dX4_kind_75 : decode cX4_kind 75 = .ok (.iload_n 1, 1) := by decide +kernel
theorem dX4_kind_76 : decode cX4_kind 76 = .ok (.iload_n 2, 1) := by decide +kernel
theorem dX4_kind_77 : decode cX4_kind 77 = .ok (.bipush (-9), 2) := by decide +kernel
theorem dX4_kind_79 : decode cX4_kind 79 = .ok (.invokevirtual 73, 3) := by decide +kernel
theorem dX4_kind_82 : decode cX4_kind 82 = .ok (.ireturn, 1) := by decide +kernel
theorem dX4_twin_0 : decode cX4_twin 0 = .ok (.aload_n 0, 1) := by decide +kernel
theorem dX4_twin_1 : decode cX4_twin 1 = .ok (.iload_n 1, 1) := by decide +kernel
theorem dX4_twin_2 : decode cX4_twin 2 = .ok (.invokevirtual 59, 3) := by decide +kernel
theorem dX4_twin_5 : decode cX4_twin 5 = .ok (.ifCond .eq 29, 3) := by decide +kernel
theorem dX4_twin_8 : decode cX4_twin 8 = .ok (.aload_n 0, 1) := by decide +kernel
theorem dX4_twin_9 : decode cX4_twin 9 = .ok (.iload_n 2, 1) := by decide +kernel
theorem dX4_twin_10 : decode cX4_twin 10 = .ok (.invokevirtual 59, 3) := by decide +kernel
theorem dX4_twin_13 : decode cX4_twin 13 = .ok (.ifCond .eq 21, 3) := by decide +kernel
theorem dX4_twin_16 : decode cX4_twin 16 = .ok (.iload_n 1, 1) := by decide +kernel
theorem dX4_twin_17 : decode cX4_twin 17 = .ok (.iload_n 2, 1) := by decide +kernel
theorem dX4_twin_18 : decode cX4_twin 18 = .ok (.if_icmp .eq 16, 3) := by decide +kernel
theorem dX4_twin_21 : decode cX4_twin 21 = .ok (.aload_n 0, 1) := by decide +kernel
theorem dX4_twin_22 : decode cX4_twin 22 = .ok (.getfield 21, 3) := by decide +kernel
theorem dX4_twin_25 : decode cX4_twin 25 = .ok (.getfield 66, 3) := by decide +kernel
theorem dX4_twin_28 : decode cX4_twin 28 = .ok (.iload_n 2, 1) := by decide +kernel
theorem dX4_twin_29 : decode cX4_twin 29 = .ok (.iaload, 1) := by decide +kernel
theorem dX4_twin_30 : decode cX4_twin 30 = .ok (.iconst 2, 1) := by decide +kernel
theorem dX4_twin_31 : decode cX4_twin 31 = .ok (.if_icmp .eq 5, 3) := by decide +kernel
theorem dX4_twin_34 : decode cX4_twin 34 = .ok (.iconst (-1), 1) := by decide +kernel
theorem dX4_twin_35 : decode cX4_twin 35 = .ok (.ireturn, 1) := by decide +kernel
theorem dX4_twin_36 : decode cX4_twin 36 = .ok (.aload_n 0, 1) := by decide +kernel
theorem dX4_twin_37 : decode cX4_twin 37 = .ok (.getfield 21, 3) := by decide +kernel
theorem dX4_twin_40 : decode cX4_twin 40 = .ok (.iload_n 1, 1) := by decide +kernel
theorem dX4_twin_41 : decode cX4_twin 41 = .ok (.invokevirtual 63, 3) := by decide +kernel
theorem dX4_twin_44 : decode cX4_twin 44 = .ok (.ifCond .eq 6, 3) := by decide +kernel
theorem dX4_twin_47 : decode cX4_twin 47 = .ok (.bipush (-2), 2) := by decide +kernel
theorem dX4_twin_49 : decode cX4_twin 49 = .ok (.ireturn, 1) := by decide +kernel
theorem dX4_twin_50 : decode cX4_twin 50 = .ok (.aload_n 0, 1) := by decide +kernel
theorem dX4_twin_51 : decode cX4_twin 51 = .ok (.getfield 21, 3) := by decide +kernel
theorem dX4_twin_54 : decode cX4_twin 54 = .ok (.iload_n 1, 1) := by decide +kernel
theorem dX4_twin_55 : decode cX4_twin 55 = .ok (.iload_n 3, 1) := by decide +kernel
theorem dX4_twin_56 : decode cX4_twin 56 = .ok (.ifCond .eq 7, 3) := by decide +kernel
theorem dX4_twin_59 : decode cX4_twin 59 = .ok (.iconst 4, 1) := by decide +kernel
theorem dX4_twin_60 : decode cX4_twin 60 = .ok (.goto 4, 3) := by decide +kernel
theorem dX4_twin_63 : decode cX4_twin 63 = .ok (.iconst 3, 1) := by decide +kernel
theorem dX4_twin_64 : decode cX4_twin 64 = .ok (.iload_n 2, 1) := by decide +kernel
theorem dX4_twin_65 : decode cX4_twin 65 = .ok (.invokevirtual 73, 3) := by decide +kernel
theorem dX4_twin_68 : decode cX4_twin 68 = .ok (.ireturn, 1) := by decide +kernel
theorem dX4_about_0 : decode cX4_about 0 = .ok (.aload_n 0, 1) := by decide +kernel
theorem dX4_about_1 : decode cX4_about 1 = .ok (.iload_n 1, 1) := by decide +kernel
theorem dX4_about_2 : decode cX4_about 2 = .ok (.invokevirtual 59, 3) := by decide +kernel
theorem dX4_about_5 : decode cX4_about 5 = .ok (.ifCond .ne 5, 3) := by decide +kernel
theorem dX4_about_8 : decode cX4_about 8 = .ok (.iconst (-1), 1) := by decide +kernel
theorem dX4_about_9 : decode cX4_about 9 = .ok (.ireturn, 1) := by decide +kernel
theorem dX4_about_10 : decode cX4_about 10 = .ok (.iload_n 2, 1) := by decide +kernel
theorem dX4_about_11 : decode cX4_about 11 = .ok (.tableswitch 81 0 4 #[33, 43, 53, 63, 72], 33) := by decide +kernel
theorem dX4_about_44 : decode cX4_about 44 = .ok (.aload_n 0, 1) := by decide +kernel
theorem dX4_about_45 : decode cX4_about 45 = .ok (.getfield 21, 3) := by decide +kernel
theorem dX4_about_48 : decode cX4_about 48 = .ok (.getfield 66, 3) := by decide +kernel
theorem dX4_about_51 : decode cX4_about 51 = .ok (.iload_n 1, 1) := by decide +kernel
theorem dX4_about_52 : decode cX4_about 52 = .ok (.iaload, 1) := by decide +kernel
theorem dX4_about_53 : decode cX4_about 53 = .ok (.ireturn, 1) := by decide +kernel
theorem dX4_about_54 : decode cX4_about 54 = .ok (.aload_n 0, 1) := by decide +kernel
theorem dX4_about_55 : decode cX4_about 55 = .ok (.getfield 21, 3) := by decide +kernel
theorem dX4_about_58 : decode cX4_about 58 = .ok (.getfield 77, 3) := by decide +kernel
theorem dX4_about_61 : decode cX4_about 61 = .ok (.iload_n 1, 1) := by decide +kernel
theorem dX4_about_62 : decode cX4_about 62 = .ok (.iaload, 1) := by decide +kernel
theorem dX4_about_63 : decode cX4_about 63 = .ok (.ireturn, 1) := by decide +kernel
theorem dX4_about_64 : decode cX4_about 64 = .ok (.aload_n 0, 1) := by decide +kernel
theorem dX4_about_65 : decode cX4_about 65 = .ok (.getfield 21, 3) := by decide +kernel
theorem dX4_about_68 : decode cX4_about 68 = .ok (.getfield 80, 3) := by decide +kernel
theorem dX4_about_71 : decode cX4_about 71 = .ok (.iload_n 1, 1) := by decide +kernel
theorem dX4_about_72 : decode cX4_about 72 = .ok (.iaload, 1) := by decide +kernel
theorem dX4_about_73 : decode cX4_about 73 = .ok (.ireturn, 1) := by decide +kernel
theorem dX4_about_74 : decode cX4_about 74 = .ok (.aload_n 0, 1) := by decide +kernel
theorem dX4_about_75 : decode cX4_about 75 = .ok (.getfield 10, 3) := by decide +kernel
theorem dX4_about_78 : decode cX4_about 78 = .ok (.iload_n 1, 1) := by decide +kernel
theorem dX4_about_79 : decode cX4_about 79 = .ok (.invokevirtual 83, 3) := by decide +kernel
theorem dX4_about_82 : decode cX4_about 82 = .ok (.ireturn, 1) := by decide +kernel
theorem dX4_about_83 : decode cX4_about 83 = .ok (.aload_n 0, 1) := by decide +kernel
theorem dX4_about_84 : decode cX4_about 84 = .ok (.getfield 10, 3) := by decide +kernel
theorem dX4_about_87 : decode cX4_about 87 = .ok (.iload_n 1, 1) := by decide +kernel
theorem dX4_about_88 : decode cX4_about 88 = .ok (.invokevirtual 87, 3) := by decide +kernel
theorem dX4_about_91 : decode cX4_about 91 = .ok (.ireturn, 1) := by decide +kernel
theorem dX4_about_92 : decode cX4_about 92 = .ok (.iconst (-1), 1) := by decide +kernel
theorem dX4_about_93 : decode cX4_about 93 = .ok (.ireturn, 1) := by decide +kernel
theorem dX4_told_0 : decode cX4_told 0 = .ok (.iload_n 1, 1) := by decide +kernel
theorem dX4_told_1 : decode cX4_told 1 = .ok (.tableswitch 90 0 5 #[39, 47, 55, 66, 74, 82], 39) := by decide +kernel
theorem dX4_told_40 : decode cX4_told 40 = .ok (.aload_n 0, 1) := by decide +kernel
theorem dX4_told_41 : decode cX4_told 41 = .ok (.getfield 10, 3) := by decide +kernel
theorem dX4_told_44 : decode cX4_told 44 = .ok (.getfield 90, 3) := by decide +kernel
theorem dX4_told_47 : decode cX4_told 47 = .ok (.ireturn, 1) := by decide +kernel
theorem dX4_told_48 : decode cX4_told 48 = .ok (.aload_n 0, 1) := by decide +kernel
theorem dX4_told_49 : decode cX4_told 49 = .ok (.getfield 10, 3) := by decide +kernel
theorem dX4_told_52 : decode cX4_told 52 = .ok (.getfield 93, 3) := by decide +kernel
theorem dX4_told_55 : decode cX4_told 55 = .ok (.ireturn, 1) := by decide +kernel
theorem dX4_told_56 : decode cX4_told 56 = .ok (.aload_n 0, 1) := by decide +kernel
theorem dX4_told_57 : decode cX4_told 57 = .ok (.getfield 10, 3) := by decide +kernel
theorem dX4_told_60 : decode cX4_told 60 = .ok (.getfield 96, 3) := by decide +kernel
theorem dX4_told_63 : decode cX4_told 63 = .ok (.invokestatic 100, 3) := by decide +kernel
theorem dX4_told_66 : decode cX4_told 66 = .ok (.ireturn, 1) := by decide +kernel
theorem dX4_told_67 : decode cX4_told 67 = .ok (.aload_n 0, 1) := by decide +kernel
theorem dX4_told_68 : decode cX4_told 68 = .ok (.getfield 10, 3) := by decide +kernel
theorem dX4_told_71 : decode cX4_told 71 = .ok (.getfield 57, 3) := by decide +kernel
theorem dX4_told_74 : decode cX4_told 74 = .ok (.ireturn, 1) := by decide +kernel
theorem dX4_told_75 : decode cX4_told 75 = .ok (.aload_n 0, 1) := by decide +kernel
theorem dX4_told_76 : decode cX4_told 76 = .ok (.getfield 21, 3) := by decide +kernel
theorem dX4_told_79 : decode cX4_told 79 = .ok (.getfield 70, 3) := by decide +kernel
theorem dX4_told_82 : decode cX4_told 82 = .ok (.ireturn, 1) := by decide +kernel
theorem dX4_told_83 : decode cX4_told 83 = .ok (.aload_n 0, 1) := by decide +kernel
theorem dX4_told_84 : decode cX4_told 84 = .ok (.getfield 21, 3) := by decide +kernel
theorem dX4_told_87 : decode cX4_told 87 = .ok (.invokevirtual 104, 3) := by decide +kernel
theorem dX4_told_90 : decode cX4_told 90 = .ok (.ireturn, 1) := by decide +kernel
theorem dX4_told_91 : decode cX4_told 91 = .ok (.iconst (-1), 1) := by decide +kernel
theorem dX4_told_92 : decode cX4_told 92 = .ok (.ireturn, 1) := by decide +kernel
theorem dX4_opens_0 : decode cX4_opens 0 = .ok (.aload_n 0, 1) := by decide +kernel
theorem dX4_opens_1 : decode cX4_opens 1 = .ok (.iload_n 1, 1) := by decide +kernel
theorem dX4_opens_2 : decode cX4_opens 2 = .ok (.invokevirtual 59, 3) := by decide +kernel
theorem dX4_opens_5 : decode cX4_opens 5 = .ok (.ifCond .eq 11, 3) := by decide +kernel
theorem dX4_opens_8 : decode cX4_opens 8 = .ok (.aload_n 0, 1) := by decide +kernel
theorem dX4_opens_9 : decode cX4_opens 9 = .ok (.iload_n 2, 1) := by decide +kernel
theorem dX4_opens_10 : decode cX4_opens 10 = .ok (.invokevirtual 108, 3) := by decide +kernel
theorem dX4_opens_13 : decode cX4_opens 13 = .ok (.ifCond .ne 5, 3) := by decide +kernel
theorem dX4_opens_16 : decode cX4_opens 16 = .ok (.iconst (-1), 1) := by decide +kernel
theorem dX4_opens_17 : decode cX4_opens 17 = .ok (.ireturn, 1) := by decide +kernel
theorem dX4_opens_18 : decode cX4_opens 18 = .ok (.aload_n 0, 1) := by decide +kernel
theorem dX4_opens_19 : decode cX4_opens 19 = .ok (.dup, 1) := by decide +kernel
theorem dX4_opens_20 : decode cX4_opens 20 = .ok (.getfield 41, 3) := by decide +kernel
theorem dX4_opens_23 : decode cX4_opens 23 = .ok (.getstatic 111, 3) := by decide +kernel
theorem dX4_opens_26 : decode cX4_opens 26 = .ok (.aload_n 0, 1) := by decide +kernel
theorem dX4_opens_27 : decode cX4_opens 27 = .ok (.getfield 21, 3) := by decide +kernel
theorem dX4_opens_30 : decode cX4_opens 30 = .ok (.getfield 66, 3) := by decide +kernel
theorem dX4_opens_33 : decode cX4_opens 33 = .ok (.iload_n 1, 1) := by decide +kernel
theorem dX4_opens_34 : decode cX4_opens 34 = .ok (.iaload, 1) := by decide +kernel
theorem dX4_opens_35 : decode cX4_opens 35 = .ok (.iaload, 1) := by decide +kernel
theorem dX4_opens_36 : decode cX4_opens 36 = .ok (.i2l, 1) := by decide +kernel
theorem dX4_opens_37 : decode cX4_opens 37 = .ok (.ladd, 1) := by decide +kernel
theorem dX4_opens_38 : decode cX4_opens 38 = .ok (.putfield 41, 3) := by decide +kernel
theorem dX4_opens_41 : decode cX4_opens 41 = .ok (.aload_n 0, 1) := by decide +kernel
theorem dX4_opens_42 : decode cX4_opens 42 = .ok (.getfield 21, 3) := by decide +kernel
theorem dX4_opens_45 : decode cX4_opens 45 = .ok (.iload_n 2, 1) := by decide +kernel
theorem dX4_opens_46 : decode cX4_opens 46 = .ok (.invokevirtual 114, 3) := by decide +kernel
theorem dX4_opens_49 : decode cX4_opens 49 = .ok (.aload_n 0, 1) := by decide +kernel
theorem dX4_opens_50 : decode cX4_opens 50 = .ok (.getfield 10, 3) := by decide +kernel
theorem dX4_opens_53 : decode cX4_opens 53 = .ok (.getfield 118, 3) := by decide +kernel
theorem dX4_opens_56 : decode cX4_opens 56 = .ok (.iload_n 1, 1) := by decide +kernel
theorem dX4_opens_57 : decode cX4_opens 57 = .ok (.iaload, 1) := by decide +kernel
theorem dX4_opens_58 : decode cX4_opens 58 = .ok (.lushr, 1) := by decide +kernel
theorem dX4_opens_59 : decode cX4_opens 59 = .ok (.lconst 1, 1) := by decide +kernel
theorem dX4_opens_60 : decode cX4_opens 60 = .ok (.land, 1) := by decide +kernel
theorem dX4_opens_61 : decode cX4_opens 61 = .ok (.l2i, 1) := by decide +kernel
theorem dX4_opens_62 : decode cX4_opens 62 = .ok (.ireturn, 1) := by decide +kernel
theorem dX4_through_0 : decode cX4_through 0 = .ok (.aload_n 0, 1) := by decide +kernel
theorem dX4_through_1 : decode cX4_through 1 = .ok (.iload_n 1, 1) := by decide +kernel
theorem dX4_through_2 : decode cX4_through 2 = .ok (.invokevirtual 108, 3) := by decide +kernel
theorem dX4_through_5 : decode cX4_through 5 = .ok (.ifCond .eq 12, 3) := by decide +kernel
theorem dX4_through_8 : decode cX4_through 8 = .ok (.iload_n 2, 1) := by decide +kernel
theorem dX4_through_9 : decode cX4_through 9 = .ok (.iconst 0, 1) := by decide +kernel
theorem dX4_through_10 : decode cX4_through 10 = .ok (.iconst 1, 1) := by decide +kernel
theorem dX4_through_11 : decode cX4_through 11 = .ok (.invokestatic 53, 3) := by decide +kernel
theorem dX4_through_14 : decode cX4_through 14 = .ok (.ifCond .ne 5, 3) := by decide +kernel
theorem dX4_through_17 : decode cX4_through 17 = .ok (.iconst (-1), 1) := by decide +kernel
theorem dX4_through_18 : decode cX4_through 18 = .ok (.ireturn, 1) := by decide +kernel
theorem dX4_through_19 : decode cX4_through 19 = .ok (.aload_n 0, 1) := by decide +kernel
theorem dX4_through_20 : decode cX4_through 20 = .ok (.iload_n 1, 1) := by decide +kernel
theorem dX4_through_21 : decode cX4_through 21 = .ok (.invokevirtual 121, 3) := by decide +kernel
theorem dX4_through_24 : decode cX4_through 24 = .ok (.iload_n 2, 1) := by decide +kernel
theorem dX4_through_25 : decode cX4_through 25 = .ok (.invokevirtual 125, 3) := by decide +kernel
theorem dX4_through_28 : decode cX4_through 28 = .ok (.invokestatic 100, 3) := by decide +kernel
theorem dX4_through_31 : decode cX4_through 31 = .ok (.ireturn, 1) := by decide +kernel
theorem dX4_wall_0 : decode cX4_wall 0 = .ok (.aload_n 0, 1) := by decide +kernel
theorem dX4_wall_1 : decode cX4_wall 1 = .ok (.iload_n 1, 1) := by decide +kernel
theorem dX4_wall_2 : decode cX4_wall 2 = .ok (.invokevirtual 108, 3) := by decide +kernel
theorem dX4_wall_5 : decode cX4_wall 5 = .ok (.ifCond .eq 12, 3) := by decide +kernel
theorem dX4_wall_8 : decode cX4_wall 8 = .ok (.iload_n 2, 1) := by decide +kernel
theorem dX4_wall_9 : decode cX4_wall 9 = .ok (.iconst 0, 1) := by decide +kernel
theorem dX4_wall_10 : decode cX4_wall 10 = .ok (.iconst 1, 1) := by decide +kernel
theorem dX4_wall_11 : decode cX4_wall 11 = .ok (.invokestatic 53, 3) := by decide +kernel
theorem dX4_wall_14 : decode cX4_wall 14 = .ok (.ifCond .ne 5, 3) := by decide +kernel
theorem dX4_wall_17 : decode cX4_wall 17 = .ok (.iconst (-1), 1) := by decide +kernel
theorem dX4_wall_18 : decode cX4_wall 18 = .ok (.ireturn, 1) := by decide +kernel
theorem dX4_wall_19 : decode cX4_wall 19 = .ok (.aload_n 0, 1) := by decide +kernel
theorem dX4_wall_20 : decode cX4_wall 20 = .ok (.getfield 10, 3) := by decide +kernel
theorem dX4_wall_23 : decode cX4_wall 23 = .ok (.getfield 96, 3) := by decide +kernel
theorem dX4_wall_26 : decode cX4_wall 26 = .ok (.ifCond .eq 6, 3) := by decide +kernel
theorem dX4_wall_29 : decode cX4_wall 29 = .ok (.bipush (-2), 2) := by decide +kernel
theorem dX4_wall_31 : decode cX4_wall 31 = .ok (.ireturn, 1) := by decide +kernel
theorem dX4_wall_32 : decode cX4_wall 32 = .ok (.aload_n 0, 1) := by decide +kernel
theorem dX4_wall_33 : decode cX4_wall 33 = .ok (.iload_n 1, 1) := by decide +kernel
theorem dX4_wall_34 : decode cX4_wall 34 = .ok (.iload_n 2, 1) := by decide +kernel
theorem dX4_wall_35 : decode cX4_wall 35 = .ok (.invokevirtual 128, 3) := by decide +kernel
theorem dX4_wall_38 : decode cX4_wall 38 = .ok (.invokestatic 100, 3) := by decide +kernel
theorem dX4_wall_41 : decode cX4_wall 41 = .ok (.ireturn, 1) := by decide +kernel
theorem dX4_heap_0 : decode cX4_heap 0 = .ok (.aload_n 0, 1) := by decide +kernel
theorem dX4_heap_1 : decode cX4_heap 1 = .ok (.iload_n 1, 1) := by decide +kernel
theorem dX4_heap_2 : decode cX4_heap 2 = .ok (.invokevirtual 108, 3) := by decide +kernel
theorem dX4_heap_5 : decode cX4_heap 5 = .ok (.ifCond .eq 11, 3) := by decide +kernel
theorem dX4_heap_8 : decode cX4_heap 8 = .ok (.aload_n 0, 1) := by decide +kernel
theorem dX4_heap_9 : decode cX4_heap 9 = .ok (.iload_n 2, 1) := by decide +kernel
theorem dX4_heap_10 : decode cX4_heap 10 = .ok (.invokevirtual 132, 3) := by decide +kernel
theorem dX4_heap_13 : decode cX4_heap 13 = .ok (.ifCond .ne 5, 3) := by decide +kernel
theorem dX4_heap_16 : decode cX4_heap 16 = .ok (.iconst (-1), 1) := by decide +kernel
theorem dX4_heap_17 : decode cX4_heap 17 = .ok (.ireturn, 1) := by decide +kernel
theorem dX4_heap_18 : decode cX4_heap 18 = .ok (.aload_n 0, 1) := by decide +kernel
theorem dX4_heap_19 : decode cX4_heap 19 = .ok (.iload_n 1, 1) := by decide +kernel
theorem dX4_heap_20 : decode cX4_heap 20 = .ok (.invokevirtual 121, 3) := by decide +kernel
theorem dX4_heap_23 : decode cX4_heap 23 = .ok (.iload_n 2, 1) := by decide +kernel
theorem dX4_heap_24 : decode cX4_heap 24 = .ok (.invokevirtual 135, 3) := by decide +kernel
theorem dX4_heap_27 : decode cX4_heap 27 = .ok (.istore_n 3, 1) := by decide +kernel
theorem dX4_heap_28 : decode cX4_heap 28 = .ok (.iload_n 3, 1) := by decide +kernel
theorem dX4_heap_29 : decode cX4_heap 29 = .ok (.ifCond .ne 8, 3) := by decide +kernel
theorem dX4_heap_32 : decode cX4_heap 32 = .ok (.bipush (-9), 2) := by decide +kernel
theorem dX4_heap_34 : decode cX4_heap 34 = .ok (.goto 7, 3) := by decide +kernel
theorem dX4_heap_37 : decode cX4_heap 37 = .ok (.iload_n 3, 1) := by decide +kernel
theorem dX4_heap_38 : decode cX4_heap 38 = .ok (.invokestatic 138, 3) := by decide +kernel
theorem dX4_heap_41 : decode cX4_heap 41 = .ok (.ireturn, 1) := by decide +kernel
theorem dX4_heaps_0 : decode cX4_heaps 0 = .ok (.aload_n 0, 1) := by decide +kernel
theorem dX4_heaps_1 : decode cX4_heaps 1 = .ok (.iload_n 1, 1) := by decide +kernel
theorem dX4_heaps_2 : decode cX4_heaps 2 = .ok (.invokevirtual 108, 3) := by decide +kernel
theorem dX4_heaps_5 : decode cX4_heaps 5 = .ok (.ifCond .eq 12, 3) := by decide +kernel
theorem dX4_heaps_8 : decode cX4_heaps 8 = .ok (.iload_n 2, 1) := by decide +kernel
theorem dX4_heaps_9 : decode cX4_heaps 9 = .ok (.iconst 0, 1) := by decide +kernel
theorem dX4_heaps_10 : decode cX4_heaps 10 = .ok (.iconst 1, 1) := by decide +kernel
theorem dX4_heaps_11 : decode cX4_heaps 11 = .ok (.invokestatic 53, 3) := by decide +kernel
theorem dX4_heaps_14 : decode cX4_heaps 14 = .ok (.ifCond .ne 5, 3) := by decide +kernel
theorem dX4_heaps_17 : decode cX4_heaps 17 = .ok (.iconst (-1), 1) := by decide +kernel
theorem dX4_heaps_18 : decode cX4_heaps 18 = .ok (.ireturn, 1) := by decide +kernel
theorem dX4_heaps_19 : decode cX4_heaps 19 = .ok (.aload_n 0, 1) := by decide +kernel
theorem dX4_heaps_20 : decode cX4_heaps 20 = .ok (.iload_n 1, 1) := by decide +kernel
theorem dX4_heaps_21 : decode cX4_heaps 21 = .ok (.invokevirtual 121, 3) := by decide +kernel
theorem dX4_heaps_24 : decode cX4_heaps 24 = .ok (.astore_n 3, 1) := by decide +kernel
theorem dX4_heaps_25 : decode cX4_heaps 25 = .ok (.iload_n 2, 1) := by decide +kernel
theorem dX4_heaps_26 : decode cX4_heaps 26 = .ok (.ifCond .ne 10, 3) := by decide +kernel
theorem dX4_heaps_29 : decode cX4_heaps 29 = .ok (.aload_n 3, 1) := by decide +kernel
theorem dX4_heaps_30 : decode cX4_heaps 30 = .ok (.invokevirtual 143, 3) := by decide +kernel
theorem dX4_heaps_33 : decode cX4_heaps 33 = .ok (.goto 7, 3) := by decide +kernel
theorem dX4_heaps_36 : decode cX4_heaps 36 = .ok (.aload_n 3, 1) := by decide +kernel
theorem dX4_heaps_37 : decode cX4_heaps 37 = .ok (.invokevirtual 146, 3) := by decide +kernel
theorem dX4_heaps_40 : decode cX4_heaps 40 = .ok (.ireturn, 1) := by decide +kernel
theorem dX4_count_0 : decode cX4_count 0 = .ok (.iload_n 1, 1) := by decide +kernel
theorem dX4_count_1 : decode cX4_count 1 = .ok (.invokestatic 149, 3) := by decide +kernel
theorem dX4_count_4 : decode cX4_count 4 = .ok (.ifCond .eq 11, 3) := by decide +kernel
theorem dX4_count_7 : decode cX4_count 7 = .ok (.aload_n 0, 1) := by decide +kernel
theorem dX4_count_8 : decode cX4_count 8 = .ok (.iload_n 2, 1) := by decide +kernel
theorem dX4_count_9 : decode cX4_count 9 = .ok (.invokevirtual 152, 3) := by decide +kernel
theorem dX4_count_12 : decode cX4_count 12 = .ok (.ifCond .ne 5, 3) := by decide +kernel
theorem dX4_count_15 : decode cX4_count 15 = .ok (.iconst (-1), 1) := by decide +kernel
theorem dX4_count_16 : decode cX4_count 16 = .ok (.ireturn, 1) := by decide +kernel
theorem dX4_count_17 : decode cX4_count 17 = .ok (.aload_n 0, 1) := by decide +kernel
theorem dX4_count_18 : decode cX4_count 18 = .ok (.iload_n 1, 1) := by decide +kernel
theorem dX4_count_19 : decode cX4_count 19 = .ok (.iload_n 2, 1) := by decide +kernel
theorem dX4_count_20 : decode cX4_count 20 = .ok (.invokevirtual 155, 3) := by decide +kernel
theorem dX4_count_23 : decode cX4_count 23 = .ok (.ireturn, 1) := by decide +kernel
theorem dX4_walls_0 : decode cX4_walls 0 = .ok (.aload_n 0, 1) := by decide +kernel
theorem dX4_walls_1 : decode cX4_walls 1 = .ok (.getfield 10, 3) := by decide +kernel
theorem dX4_walls_4 : decode cX4_walls 4 = .ok (.getfield 96, 3) := by decide +kernel
theorem dX4_walls_7 : decode cX4_walls 7 = .ok (.ifCond .eq 6, 3) := by decide +kernel
theorem dX4_walls_10 : decode cX4_walls 10 = .ok (.bipush (-2), 2) := by decide +kernel
theorem dX4_walls_12 : decode cX4_walls 12 = .ok (.ireturn, 1) := by decide +kernel
theorem dX4_walls_13 : decode cX4_walls 13 = .ok (.iload_n 1, 1) := by decide +kernel
theorem dX4_walls_14 : decode cX4_walls 14 = .ok (.iconst 0, 1) := by decide +kernel
theorem dX4_walls_15 : decode cX4_walls 15 = .ok (.iconst 1, 1) := by decide +kernel
theorem dX4_walls_16 : decode cX4_walls 16 = .ok (.invokestatic 53, 3) := by decide +kernel
theorem dX4_walls_19 : decode cX4_walls 19 = .ok (.ifCond .eq 11, 3) := by decide +kernel
theorem dX4_walls_22 : decode cX4_walls 22 = .ok (.aload_n 0, 1) := by decide +kernel
theorem dX4_walls_23 : decode cX4_walls 23 = .ok (.iload_n 2, 1) := by decide +kernel
theorem dX4_walls_24 : decode cX4_walls 24 = .ok (.invokevirtual 152, 3) := by decide +kernel
theorem dX4_walls_27 : decode cX4_walls 27 = .ok (.ifCond .ne 5, 3) := by decide +kernel
theorem dX4_walls_30 : decode cX4_walls 30 = .ok (.iconst (-1), 1) := by decide +kernel
theorem dX4_walls_31 : decode cX4_walls 31 = .ok (.ireturn, 1) := by decide +kernel
theorem dX4_walls_32 : decode cX4_walls 32 = .ok (.iconst 0, 1) := by decide +kernel
theorem dX4_walls_33 : decode cX4_walls 33 = .ok (.istore_n 3, 1) := by decide +kernel
theorem dX4_walls_34 : decode cX4_walls 34 = .ok (.iconst 0, 1) := by decide +kernel
theorem dX4_walls_35 : decode cX4_walls 35 = .ok (.istore 4, 2) := by decide +kernel
theorem dX4_walls_37 : decode cX4_walls 37 = .ok (.iload 4, 2) := by decide +kernel
theorem dX4_walls_39 : decode cX4_walls 39 = .ok (.aload_n 0, 1) := by decide +kernel
theorem dX4_walls_40 : decode cX4_walls 40 = .ok (.invokevirtual 159, 3) := by decide +kernel
theorem dX4_walls_43 : decode cX4_walls 43 = .ok (.if_icmp .ge 31, 3) := by decide +kernel
theorem dX4_walls_46 : decode cX4_walls 46 = .ok (.iload 4, 2) := by decide +kernel
theorem dX4_walls_48 : decode cX4_walls 48 = .ok (.invokestatic 162, 3) := by decide +kernel
theorem dX4_walls_51 : decode cX4_walls 51 = .ok (.iload_n 2, 1) := by decide +kernel
theorem dX4_walls_52 : decode cX4_walls 52 = .ok (.if_icmp .ne 16, 3) := by decide +kernel
theorem dX4_walls_55 : decode cX4_walls 55 = .ok (.aload_n 0, 1) := by decide +kernel
theorem dX4_walls_56 : decode cX4_walls 56 = .ok (.iload 4, 2) := by decide +kernel
theorem dX4_walls_58 : decode cX4_walls 58 = .ok (.iload_n 1, 1) := by decide +kernel
theorem dX4_walls_59 : decode cX4_walls 59 = .ok (.invokevirtual 128, 3) := by decide +kernel
theorem dX4_walls_62 : decode cX4_walls 62 = .ok (.ifCond .eq 6, 3) := by decide +kernel
theorem dX4_walls_65 : decode cX4_walls 65 = .ok (.iinc 3 1, 3) := by decide +kernel
theorem dX4_walls_68 : decode cX4_walls 68 = .ok (.iinc 4 1, 3) := by decide +kernel
theorem dX4_walls_71 : decode cX4_walls 71 = .ok (.goto (-34), 3) := by decide +kernel
theorem dX4_walls_74 : decode cX4_walls 74 = .ok (.iload_n 3, 1) := by decide +kernel
theorem dX4_walls_75 : decode cX4_walls 75 = .ok (.ireturn, 1) := by decide +kernel
theorem dX4_joined_0 : decode cX4_joined 0 = .ok (.aload_n 0, 1) := by decide +kernel
theorem dX4_joined_1 : decode cX4_joined 1 = .ok (.iload_n 1, 1) := by decide +kernel
theorem dX4_joined_2 : decode cX4_joined 2 = .ok (.invokevirtual 132, 3) := by decide +kernel
theorem dX4_joined_5 : decode cX4_joined 5 = .ok (.ifCond .eq 19, 3) := by decide +kernel
theorem dX4_joined_8 : decode cX4_joined 8 = .ok (.aload_n 0, 1) := by decide +kernel
theorem dX4_joined_9 : decode cX4_joined 9 = .ok (.iload_n 2, 1) := by decide +kernel
theorem dX4_joined_10 : decode cX4_joined 10 = .ok (.invokevirtual 132, 3) := by decide +kernel
theorem dX4_joined_13 : decode cX4_joined 13 = .ok (.ifCond .eq 11, 3) := by decide +kernel
theorem dX4_joined_16 : decode cX4_joined 16 = .ok (.aload_n 0, 1) := by decide +kernel
theorem dX4_joined_17 : decode cX4_joined 17 = .ok (.iload_n 3, 1) := by decide +kernel
theorem dX4_joined_18 : decode cX4_joined 18 = .ok (.invokevirtual 152, 3) := by decide +kernel
theorem dX4_joined_21 : decode cX4_joined 21 = .ok (.ifCond .ne 5, 3) := by decide +kernel
theorem dX4_joined_24 : decode cX4_joined 24 = .ok (.iconst (-1), 1) := by decide +kernel
theorem dX4_joined_25 : decode cX4_joined 25 = .ok (.ireturn, 1) := by decide +kernel
theorem dX4_joined_26 : decode cX4_joined 26 = .ok (.iconst 0, 1) := by decide +kernel
theorem dX4_joined_27 : decode cX4_joined 27 = .ok (.istore 4, 2) := by decide +kernel
theorem dX4_joined_29 : decode cX4_joined 29 = .ok (.iconst 0, 1) := by decide +kernel
theorem dX4_joined_30 : decode cX4_joined 30 = .ok (.istore 5, 2) := by decide +kernel
theorem dX4_joined_32 : decode cX4_joined 32 = .ok (.iload 5, 2) := by decide +kernel
theorem dX4_joined_34 : decode cX4_joined 34 = .ok (.aload_n 0, 1) := by decide +kernel
theorem dX4_joined_35 : decode cX4_joined 35 = .ok (.invokevirtual 159, 3) := by decide +kernel
theorem dX4_joined_38 : decode cX4_joined 38 = .ok (.if_icmp .ge 38, 3) := by decide +kernel
theorem dX4_joined_41 : decode cX4_joined 41 = .ok (.iload 5, 2) := by decide +kernel
theorem dX4_joined_43 : decode cX4_joined 43 = .ok (.invokestatic 162, 3) := by decide +kernel
theorem dX4_joined_46 : decode cX4_joined 46 = .ok (.iload_n 3, 1) := by decide +kernel
theorem dX4_joined_47 : decode cX4_joined 47 = .ok (.if_icmp .ne 23, 3) := by decide +kernel
theorem dX4_joined_50 : decode cX4_joined 50 = .ok (.aload_n 0, 1) := by decide +kernel
theorem dX4_joined_51 : decode cX4_joined 51 = .ok (.iload 5, 2) := by decide +kernel
theorem dX4_joined_53 : decode cX4_joined 53 = .ok (.invokevirtual 121, 3) := by decide +kernel
theorem dX4_joined_56 : decode cX4_joined 56 = .ok (.iload_n 1, 1) := by decide +kernel
theorem dX4_joined_57 : decode cX4_joined 57 = .ok (.invokevirtual 135, 3) := by decide +kernel
theorem dX4_joined_60 : decode cX4_joined 60 = .ok (.iload_n 2, 1) := by decide +kernel
theorem dX4_joined_61 : decode cX4_joined 61 = .ok (.invokestatic 165, 3) := by decide +kernel
theorem dX4_joined_64 : decode cX4_joined 64 = .ok (.ifCond .eq 6, 3) := by decide +kernel
theorem dX4_joined_67 : decode cX4_joined 67 = .ok (.iinc 4 1, 3) := by decide +kernel
theorem dX4_joined_70 : decode cX4_joined 70 = .ok (.iinc 5 1, 3) := by decide +kernel
theorem dX4_joined_73 : decode cX4_joined 73 = .ok (.goto (-41), 3) := by decide +kernel
theorem dX4_joined_76 : decode cX4_joined 76 = .ok (.iload 4, 2) := by decide +kernel
theorem dX4_joined_78 : decode cX4_joined 78 = .ok (.ireturn, 1) := by decide +kernel
theorem dX4_sized_0 : decode cX4_sized 0 = .ok (.aload_n 0, 1) := by decide +kernel
theorem dX4_sized_1 : decode cX4_sized 1 = .ok (.iload_n 1, 1) := by decide +kernel
theorem dX4_sized_2 : decode cX4_sized 2 = .ok (.invokevirtual 132, 3) := by decide +kernel
theorem dX4_sized_5 : decode cX4_sized 5 = .ok (.ifCond .eq 21, 3) := by decide +kernel
theorem dX4_sized_8 : decode cX4_sized 8 = .ok (.iload_n 2, 1) := by decide +kernel
theorem dX4_sized_9 : decode cX4_sized 9 = .ok (.iconst 0, 1) := by decide +kernel
theorem dX4_sized_10 : decode cX4_sized 10 = .ok (.bipush 25, 2) := by decide +kernel
theorem dX4_sized_12 : decode cX4_sized 12 = .ok (.invokestatic 53, 3) := by decide +kernel
theorem dX4_sized_15 : decode cX4_sized 15 = .ok (.ifCond .eq 11, 3) := by decide +kernel
theorem dX4_sized_18 : decode cX4_sized 18 = .ok (.aload_n 0, 1) := by decide +kernel
theorem dX4_sized_19 : decode cX4_sized 19 = .ok (.iload_n 3, 1) := by decide +kernel
theorem dX4_sized_20 : decode cX4_sized 20 = .ok (.invokevirtual 152, 3) := by decide +kernel
theorem dX4_sized_23 : decode cX4_sized 23 = .ok (.ifCond .ne 5, 3) := by decide +kernel
theorem dX4_sized_26 : decode cX4_sized 26 = .ok (.iconst (-1), 1) := by decide +kernel
theorem dX4_sized_27 : decode cX4_sized 27 = .ok (.ireturn, 1) := by decide +kernel
theorem dX4_sized_28 : decode cX4_sized 28 = .ok (.iconst 0, 1) := by decide +kernel
theorem dX4_sized_29 : decode cX4_sized 29 = .ok (.istore 4, 2) := by decide +kernel
theorem dX4_sized_31 : decode cX4_sized 31 = .ok (.iconst 0, 1) := by decide +kernel
theorem dX4_sized_32 : decode cX4_sized 32 = .ok (.istore 5, 2) := by decide +kernel
theorem dX4_sized_34 : decode cX4_sized 34 = .ok (.iload 5, 2) := by decide +kernel
theorem dX4_sized_36 : decode cX4_sized 36 = .ok (.aload_n 0, 1) := by decide +kernel
theorem dX4_sized_37 : decode cX4_sized 37 = .ok (.invokevirtual 159, 3) := by decide +kernel
theorem dX4_sized_40 : decode cX4_sized 40 = .ok (.if_icmp .ge 38, 3) := by decide +kernel
theorem dX4_sized_43 : decode cX4_sized 43 = .ok (.iload 5, 2) := by decide +kernel
theorem dX4_sized_45 : decode cX4_sized 45 = .ok (.invokestatic 162, 3) := by decide +kernel
theorem dX4_sized_48 : decode cX4_sized 48 = .ok (.iload_n 3, 1) := by decide +kernel
theorem dX4_sized_49 : decode cX4_sized 49 = .ok (.if_icmp .ne 23, 3) := by decide +kernel
theorem dX4_sized_52 : decode cX4_sized 52 = .ok (.aload_n 0, 1) := by decide +kernel
theorem dX4_sized_53 : decode cX4_sized 53 = .ok (.iload 5, 2) := by decide +kernel
theorem dX4_sized_55 : decode cX4_sized 55 = .ok (.invokevirtual 121, 3) := by decide +kernel
theorem dX4_sized_58 : decode cX4_sized 58 = .ok (.iload_n 1, 1) := by decide +kernel
theorem dX4_sized_59 : decode cX4_sized 59 = .ok (.invokevirtual 135, 3) := by decide +kernel
theorem dX4_sized_62 : decode cX4_sized 62 = .ok (.invokestatic 162, 3) := by decide +kernel
theorem dX4_sized_65 : decode cX4_sized 65 = .ok (.iload_n 2, 1) := by decide +kernel
theorem dX4_sized_66 : decode cX4_sized 66 = .ok (.if_icmp .ne 6, 3) := by decide +kernel
theorem dX4_sized_69 : decode cX4_sized 69 = .ok (.iinc 4 1, 3) := by decide +kernel
theorem dX4_sized_72 : decode cX4_sized 72 = .ok (.iinc 5 1, 3) := by decide +kernel
theorem dX4_sized_75 : decode cX4_sized 75 = .ok (.goto (-41), 3) := by decide +kernel
theorem dX4_sized_78 : decode cX4_sized 78 = .ok (.iload 4, 2) := by decide +kernel
theorem dX4_sized_80 : decode cX4_sized 80 = .ok (.ireturn, 1) := by decide +kernel
theorem dX4_heapSum_0 : decode cX4_heapSum 0 = .ok (.aload_n 0, 1) := by decide +kernel
theorem dX4_heapSum_1 : decode cX4_heapSum 1 = .ok (.iload_n 1, 1) := by decide +kernel
theorem dX4_heapSum_2 : decode cX4_heapSum 2 = .ok (.invokevirtual 152, 3) := by decide +kernel
theorem dX4_heapSum_5 : decode cX4_heapSum 5 = .ok (.ifCond .ne 5, 3) := by decide +kernel
theorem dX4_heapSum_8 : decode cX4_heapSum 8 = .ok (.iconst (-1), 1) := by decide +kernel
theorem dX4_heapSum_9 : decode cX4_heapSum 9 = .ok (.ireturn, 1) := by decide +kernel
theorem dX4_heapSum_10 : decode cX4_heapSum 10 = .ok (.iconst 0, 1) := by decide +kernel
theorem dX4_heapSum_11 : decode cX4_heapSum 11 = .ok (.istore_n 2, 1) := by decide +kernel
theorem dX4_heapSum_12 : decode cX4_heapSum 12 = .ok (.iconst 0, 1) := by decide +kernel
theorem dX4_heapSum_13 : decode cX4_heapSum 13 = .ok (.istore_n 3, 1) := by decide +kernel
theorem dX4_heapSum_14 : decode cX4_heapSum 14 = .ok (.iload_n 3, 1) := by decide +kernel
theorem dX4_heapSum_15 : decode cX4_heapSum 15 = .ok (.aload_n 0, 1) := by decide +kernel
theorem dX4_heapSum_16 : decode cX4_heapSum 16 = .ok (.invokevirtual 159, 3) := by decide +kernel
theorem dX4_heapSum_19 : decode cX4_heapSum 19 = .ok (.if_icmp .ge 28, 3) := by decide +kernel
theorem dX4_heapSum_22 : decode cX4_heapSum 22 = .ok (.iload_n 3, 1) := by decide +kernel
theorem dX4_heapSum_23 : decode cX4_heapSum 23 = .ok (.invokestatic 162, 3) := by decide +kernel
theorem dX4_heapSum_26 : decode cX4_heapSum 26 = .ok (.iload_n 1, 1) := by decide +kernel
theorem dX4_heapSum_27 : decode cX4_heapSum 27 = .ok (.if_icmp .ne 14, 3) := by decide +kernel
theorem dX4_heapSum_30 : decode cX4_heapSum 30 = .ok (.iload_n 2, 1) := by decide +kernel
theorem dX4_heapSum_31 : decode cX4_heapSum 31 = .ok (.aload_n 0, 1) := by decide +kernel
theorem dX4_heapSum_32 : decode cX4_heapSum 32 = .ok (.iload_n 3, 1) := by decide +kernel
theorem dX4_heapSum_33 : decode cX4_heapSum 33 = .ok (.invokevirtual 121, 3) := by decide +kernel
theorem dX4_heapSum_36 : decode cX4_heapSum 36 = .ok (.invokevirtual 143, 3) := by decide +kernel
theorem dX4_heapSum_39 : decode cX4_heapSum 39 = .ok (.iadd, 1) := by decide +kernel
theorem dX4_heapSum_40 : decode cX4_heapSum 40 = .ok (.istore_n 2, 1) := by decide +kernel
theorem dX4_heapSum_41 : decode cX4_heapSum 41 = .ok (.iinc 3 1, 3) := by decide +kernel
theorem dX4_heapSum_44 : decode cX4_heapSum 44 = .ok (.goto (-30), 3) := by decide +kernel
theorem dX4_heapSum_47 : decode cX4_heapSum 47 = .ok (.iload_n 2, 1) := by decide +kernel
theorem dX4_heapSum_48 : decode cX4_heapSum 48 = .ok (.ireturn, 1) := by decide +kernel
theorem dX4_chance_0 : decode cX4_chance 0 = .ok (.iload_n 1, 1) := by decide +kernel
theorem dX4_chance_1 : decode cX4_chance 1 = .ok (.invokestatic 149, 3) := by decide +kernel
theorem dX4_chance_4 : decode cX4_chance 4 = .ok (.ifCond .eq 22, 3) := by decide +kernel
theorem dX4_chance_7 : decode cX4_chance 7 = .ok (.iload_n 3, 1) := by decide +kernel
theorem dX4_chance_8 : decode cX4_chance 8 = .ok (.iconst 1, 1) := by decide +kernel
theorem dX4_chance_9 : decode cX4_chance 9 = .ok (.bipush 9, 2) := by decide +kernel
theorem dX4_chance_11 : decode cX4_chance 11 = .ok (.invokestatic 53, 3) := by decide +kernel
theorem dX4_chance_14 : decode cX4_chance 14 = .ok (.ifCond .eq 12, 3) := by decide +kernel
theorem dX4_chance_17 : decode cX4_chance 17 = .ok (.iload_n 2, 1) := by decide +kernel
theorem dX4_chance_18 : decode cX4_chance 18 = .ok (.iconst 0, 1) := by decide +kernel
theorem dX4_chance_19 : decode cX4_chance 19 = .ok (.iload_n 3, 1) := by decide +kernel
theorem dX4_chance_20 : decode cX4_chance 20 = .ok (.invokestatic 53, 3) := by decide +kernel
theorem dX4_chance_23 : decode cX4_chance 23 = .ok (.ifCond .ne 7, 3) := by decide +kernel
theorem dX4_chance_26 : decode cX4_chance 26 = .ok (.ldc2_w 168, 3) := by decide +kernel
theorem dX4_chance_29 : decode cX4_chance 29 = .ok (.lreturn, 1) := by decide +kernel
theorem dX4_chance_30 : decode cX4_chance 30 = .ok (.lconst 0, 1) := by decide +kernel
theorem dX4_chance_31 : decode cX4_chance 31 = .ok (.lstore 4, 2) := by decide +kernel
theorem dX4_chance_33 : decode cX4_chance 33 = .ok (.iconst 0, 1) := by decide +kernel
theorem dX4_chance_34 : decode cX4_chance 34 = .ok (.istore 6, 2) := by decide +kernel
theorem dX4_chance_36 : decode cX4_chance 36 = .ok (.iload 6, 2) := by decide +kernel
theorem dX4_chance_38 : decode cX4_chance 38 = .ok (.aload_n 0, 1) := by decide +kernel
theorem dX4_chance_39 : decode cX4_chance 39 = .ok (.getfield 21, 3) := by decide +kernel
theorem dX4_chance_42 : decode cX4_chance 42 = .ok (.getfield 70, 3) := by decide +kernel
theorem dX4_chance_45 : decode cX4_chance 45 = .ok (.if_icmp .gt 46, 3) := by decide +kernel
theorem dX4_chance_48 : decode cX4_chance 48 = .ok (.lload 4, 2) := by decide +kernel
theorem dX4_chance_50 : decode cX4_chance 50 = .ok (.aload_n 0, 1) := by decide +kernel
theorem dX4_chance_51 : decode cX4_chance 51 = .ok (.iload_n 1, 1) := by decide +kernel
theorem dX4_chance_52 : decode cX4_chance 52 = .ok (.iload 6, 2) := by decide +kernel
theorem dX4_chance_54 : decode cX4_chance 54 = .ok (.invokevirtual 155, 3) := by decide +kernel
theorem dX4_chance_57 : decode cX4_chance 57 = .ok (.i2l, 1) := by decide +kernel
theorem dX4_chance_58 : decode cX4_chance 58 = .ok (.iload_n 2, 1) := by decide +kernel
theorem dX4_chance_59 : decode cX4_chance 59 = .ok (.iload 6, 2) := by decide +kernel
theorem dX4_chance_61 : decode cX4_chance 61 = .ok (.invokestatic 170, 3) := by decide +kernel
theorem dX4_chance_64 : decode cX4_chance 64 = .ok (.lmul, 1) := by decide +kernel
theorem dX4_chance_65 : decode cX4_chance 65 = .ok (.iload_n 3, 1) := by decide +kernel
theorem dX4_chance_66 : decode cX4_chance 66 = .ok (.iload_n 2, 1) := by decide +kernel
theorem dX4_chance_67 : decode cX4_chance 67 = .ok (.isub, 1) := by decide +kernel
theorem dX4_chance_68 : decode cX4_chance 68 = .ok (.aload_n 0, 1) := by decide +kernel
theorem dX4_chance_69 : decode cX4_chance 69 = .ok (.getfield 21, 3) := by decide +kernel
theorem dX4_chance_72 : decode cX4_chance 72 = .ok (.getfield 70, 3) := by decide +kernel
theorem dX4_chance_75 : decode cX4_chance 75 = .ok (.iload 6, 2) := by decide +kernel
theorem dX4_chance_77 : decode cX4_chance 77 = .ok (.isub, 1) := by decide +kernel
theorem dX4_chance_78 : decode cX4_chance 78 = .ok (.invokestatic 170, 3) := by decide +kernel
theorem dX4_chance_81 : decode cX4_chance 81 = .ok (.lmul, 1) := by decide +kernel
theorem dX4_chance_82 : decode cX4_chance 82 = .ok (.ladd, 1) := by decide +kernel
theorem dX4_chance_83 : decode cX4_chance 83 = .ok (.lstore 4, 2) := by decide +kernel
theorem dX4_chance_85 : decode cX4_chance 85 = .ok (.iinc 6 1, 3) := by decide +kernel
theorem dX4_chance_88 : decode cX4_chance 88 = .ok (.goto (-52), 3) := by decide +kernel
theorem dX4_chance_91 : decode cX4_chance 91 = .ok (.lload 4, 2) := by decide +kernel
theorem dX4_chance_93 : decode cX4_chance 93 = .ok (.lreturn, 1) := by decide +kernel
theorem dX4_pivot_0 : decode cX4_pivot 0 = .ok (.iload_n 1, 1) := by decide +kernel
theorem dX4_pivot_1 : decode cX4_pivot 1 = .ok (.invokestatic 149, 3) := by decide +kernel
theorem dX4_pivot_4 : decode cX4_pivot 4 = .ok (.ifCond .eq 20, 3) := by decide +kernel
theorem dX4_pivot_7 : decode cX4_pivot 7 = .ok (.iload_n 2, 1) := by decide +kernel
theorem dX4_pivot_8 : decode cX4_pivot 8 = .ok (.iconst 0, 1) := by decide +kernel
theorem dX4_pivot_9 : decode cX4_pivot 9 = .ok (.aload_n 0, 1) := by decide +kernel
theorem dX4_pivot_10 : decode cX4_pivot 10 = .ok (.getfield 21, 3) := by decide +kernel
theorem dX4_pivot_13 : decode cX4_pivot 13 = .ok (.getfield 70, 3) := by decide +kernel
theorem dX4_pivot_16 : decode cX4_pivot 16 = .ok (.iconst 1, 1) := by decide +kernel
theorem dX4_pivot_17 : decode cX4_pivot 17 = .ok (.isub, 1) := by decide +kernel
theorem dX4_pivot_18 : decode cX4_pivot 18 = .ok (.invokestatic 53, 3) := by decide +kernel
theorem dX4_pivot_21 : decode cX4_pivot 21 = .ok (.ifCond .ne 5, 3) := by decide +kernel
theorem dX4_pivot_24 : decode cX4_pivot 24 = .ok (.iconst (-1), 1) := by decide +kernel
theorem dX4_pivot_25 : decode cX4_pivot 25 = .ok (.ireturn, 1) := by decide +kernel
theorem dX4_pivot_26 : decode cX4_pivot 26 = .ok (.iconst 0, 1) := by decide +kernel
theorem dX4_pivot_27 : decode cX4_pivot 27 = .ok (.istore_n 3, 1) := by decide +kernel
theorem dX4_pivot_28 : decode cX4_pivot 28 = .ok (.iconst 0, 1) := by decide +kernel
theorem dX4_pivot_29 : decode cX4_pivot 29 = .ok (.istore 4, 2) := by decide +kernel
theorem dX4_pivot_31 : decode cX4_pivot 31 = .ok (.iload 4, 2) := by decide +kernel
theorem dX4_pivot_33 : decode cX4_pivot 33 = .ok (.aload_n 0, 1) := by decide +kernel
theorem dX4_pivot_34 : decode cX4_pivot 34 = .ok (.invokevirtual 159, 3) := by decide +kernel
theorem dX4_pivot_37 : decode cX4_pivot 37 = .ok (.if_icmp .ge 47, 3) := by decide +kernel
theorem dX4_pivot_40 : decode cX4_pivot 40 = .ok (.iload 4, 2) := by decide +kernel
theorem dX4_pivot_42 : decode cX4_pivot 42 = .ok (.iload_n 2, 1) := by decide +kernel
theorem dX4_pivot_43 : decode cX4_pivot 43 = .ok (.invokestatic 165, 3) := by decide +kernel
theorem dX4_pivot_46 : decode cX4_pivot 46 = .ok (.ifCond .eq 32, 3) := by decide +kernel
theorem dX4_pivot_49 : decode cX4_pivot 49 = .ok (.aload_n 0, 1) := by decide +kernel
theorem dX4_pivot_50 : decode cX4_pivot 50 = .ok (.iload 4, 2) := by decide +kernel
theorem dX4_pivot_52 : decode cX4_pivot 52 = .ok (.iload_n 1, 1) := by decide +kernel
theorem dX4_pivot_53 : decode cX4_pivot 53 = .ok (.invokevirtual 174, 3) := by decide +kernel
theorem dX4_pivot_56 : decode cX4_pivot 56 = .ok (.ifCond .eq 22, 3) := by decide +kernel
theorem dX4_pivot_59 : decode cX4_pivot 59 = .ok (.aload_n 0, 1) := by decide +kernel
theorem dX4_pivot_60 : decode cX4_pivot 60 = .ok (.iload 4, 2) := by decide +kernel
theorem dX4_pivot_62 : decode cX4_pivot 62 = .ok (.iconst 1, 1) := by decide +kernel
theorem dX4_pivot_63 : decode cX4_pivot 63 = .ok (.iload_n 2, 1) := by decide +kernel
theorem dX4_pivot_64 : decode cX4_pivot 64 = .ok (.ishl, 1) := by decide +kernel
theorem dX4_pivot_65 : decode cX4_pivot 65 = .ok (.iconst (-1), 1) := by decide +kernel
theorem dX4_pivot_66 : decode cX4_pivot 66 = .ok (.ixor, 1) := by decide +kernel
theorem dX4_pivot_67 : decode cX4_pivot 67 = .ok (.iand, 1) := by decide +kernel
theorem dX4_pivot_68 : decode cX4_pivot 68 = .ok (.iload_n 1, 1) := by decide +kernel
theorem dX4_pivot_69 : decode cX4_pivot 69 = .ok (.invokevirtual 174, 3) := by decide +kernel
theorem dX4_pivot_72 : decode cX4_pivot 72 = .ok (.ifCond .ne 6, 3) := by decide +kernel
theorem dX4_pivot_75 : decode cX4_pivot 75 = .ok (.iinc 3 1, 3) := by decide +kernel
theorem dX4_pivot_78 : decode cX4_pivot 78 = .ok (.iinc 4 1, 3) := by decide +kernel
theorem dX4_pivot_81 : decode cX4_pivot 81 = .ok (.goto (-50), 3) := by decide +kernel
theorem dX4_pivot_84 : decode cX4_pivot 84 = .ok (.iload_n 3, 1) := by decide +kernel
theorem dX4_pivot_85 : decode cX4_pivot 85 = .ok (.ireturn, 1) := by decide +kernel
theorem dX4_first_0 : decode cX4_first 0 = .ok (.iload_n 1, 1) := by decide +kernel
theorem dX4_first_1 : decode cX4_first 1 = .ok (.invokestatic 149, 3) := by decide +kernel
theorem dX4_first_4 : decode cX4_first 4 = .ok (.ifCond .eq 11, 3) := by decide +kernel
theorem dX4_first_7 : decode cX4_first 7 = .ok (.aload_n 0, 1) := by decide +kernel
theorem dX4_first_8 : decode cX4_first 8 = .ok (.iload_n 2, 1) := by decide +kernel
theorem dX4_first_9 : decode cX4_first 9 = .ok (.invokevirtual 152, 3) := by decide +kernel
theorem dX4_first_12 : decode cX4_first 12 = .ok (.ifCond .ne 5, 3) := by decide +kernel
theorem dX4_first_15 : decode cX4_first 15 = .ok (.iconst (-1), 1) := by decide +kernel
theorem dX4_first_16 : decode cX4_first 16 = .ok (.ireturn, 1) := by decide +kernel
theorem dX4_first_17 : decode cX4_first 17 = .ok (.iconst 0, 1) := by decide +kernel
theorem dX4_first_18 : decode cX4_first 18 = .ok (.istore_n 3, 1) := by decide +kernel
theorem dX4_first_19 : decode cX4_first 19 = .ok (.iload_n 3, 1) := by decide +kernel
theorem dX4_first_20 : decode cX4_first 20 = .ok (.aload_n 0, 1) := by decide +kernel
theorem dX4_first_21 : decode cX4_first 21 = .ok (.invokevirtual 159, 3) := by decide +kernel
theorem dX4_first_24 : decode cX4_first 24 = .ok (.if_icmp .ge 28, 3) := by decide +kernel
theorem dX4_first_27 : decode cX4_first 27 = .ok (.iload_n 3, 1) := by decide +kernel
theorem dX4_first_28 : decode cX4_first 28 = .ok (.invokestatic 162, 3) := by decide +kernel
theorem dX4_first_31 : decode cX4_first 31 = .ok (.iload_n 2, 1) := by decide +kernel
theorem dX4_first_32 : decode cX4_first 32 = .ok (.if_icmp .ne 14, 3) := by decide +kernel
theorem dX4_first_35 : decode cX4_first 35 = .ok (.aload_n 0, 1) := by decide +kernel
theorem dX4_first_36 : decode cX4_first 36 = .ok (.iload_n 3, 1) := by decide +kernel
theorem dX4_first_37 : decode cX4_first 37 = .ok (.iload_n 1, 1) := by decide +kernel
theorem dX4_first_38 : decode cX4_first 38 = .ok (.invokevirtual 174, 3) := by decide +kernel
theorem dX4_first_41 : decode cX4_first 41 = .ok (.ifCond .eq 5, 3) := by decide +kernel
theorem dX4_first_44 : decode cX4_first 44 = .ok (.iload_n 3, 1) := by decide +kernel
theorem dX4_first_45 : decode cX4_first 45 = .ok (.ireturn, 1) := by decide +kernel
theorem dX4_first_46 : decode cX4_first 46 = .ok (.iinc 3 1, 3) := by decide +kernel
theorem dX4_first_49 : decode cX4_first 49 = .ok (.goto (-30), 3) := by decide +kernel
theorem dX4_first_52 : decode cX4_first 52 = .ok (.bipush (-9), 2) := by decide +kernel
theorem dX4_first_54 : decode cX4_first 54 = .ok (.ireturn, 1) := by decide +kernel
theorem dX4_sheet_0 : decode cX4_sheet 0 = .ok (.aload_n 0, 1) := by decide +kernel
theorem dX4_sheet_1 : decode cX4_sheet 1 = .ok (.iload_n 1, 1) := by decide +kernel
theorem dX4_sheet_2 : decode cX4_sheet 2 = .ok (.iload_n 2, 1) := by decide +kernel
theorem dX4_sheet_3 : decode cX4_sheet 3 = .ok (.iload_n 3, 1) := by decide +kernel
theorem dX4_sheet_4 : decode cX4_sheet 4 = .ok (.invokestatic 177, 3) := by decide +kernel
theorem dX4_sheet_7 : decode cX4_sheet 7 = .ok (.putfield 45, 3) := by decide +kernel
theorem dX4_sheet_10 : decode cX4_sheet 10 = .ok (.aload_n 0, 1) := by decide +kernel
theorem dX4_sheet_11 : decode cX4_sheet 11 = .ok (.getfield 45, 3) := by decide +kernel
theorem dX4_sheet_14 : decode cX4_sheet 14 = .ok (.ifCond .eq 8, 3) := by decide +kernel
theorem dX4_sheet_17 : decode cX4_sheet 17 = .ok (.aload_n 0, 1) := by decide +kernel
theorem dX4_sheet_18 : decode cX4_sheet 18 = .ok (.getfield 45, 3) := by decide +kernel
theorem dX4_sheet_21 : decode cX4_sheet 21 = .ok (.ireturn, 1) := by decide +kernel
theorem dX4_sheet_22 : decode cX4_sheet 22 = .ok (.aload_n 0, 1) := by decide +kernel
theorem dX4_sheet_23 : decode cX4_sheet 23 = .ok (.getfield 37, 3) := by decide +kernel
theorem dX4_sheet_26 : decode cX4_sheet 26 = .ok (.iload_n 1, 1) := by decide +kernel
theorem dX4_sheet_27 : decode cX4_sheet 27 = .ok (.new 35, 3) := by decide +kernel
theorem dX4_sheet_30 : decode cX4_sheet 30 = .ok (.dup, 1) := by decide +kernel
theorem dX4_sheet_31 : decode cX4_sheet 31 = .ok (.iload_n 2, 1) := by decide +kernel
theorem dX4_sheet_32 : decode cX4_sheet 32 = .ok (.iload_n 3, 1) := by decide +kernel
theorem dX4_sheet_33 : decode cX4_sheet 33 = .ok (.anewarray 180, 3) := by decide +kernel
theorem dX4_sheet_36 : decode cX4_sheet 36 = .ok (.invokespecial 181, 3) := by decide +kernel
theorem dX4_sheet_39 : decode cX4_sheet 39 = .ok (.aastore, 1) := by decide +kernel
theorem dX4_sheet_40 : decode cX4_sheet 40 = .ok (.iconst 1, 1) := by decide +kernel
theorem dX4_sheet_41 : decode cX4_sheet 41 = .ok (.ireturn, 1) := by decide +kernel
theorem dX4_row_0 : decode cX4_row 0 = .ok (.aload_n 0, 1) := by decide +kernel
theorem dX4_row_1 : decode cX4_row 1 = .ok (.aload_n 0, 1) := by decide +kernel
theorem dX4_row_2 : decode cX4_row 2 = .ok (.iload_n 1, 1) := by decide +kernel
theorem dX4_row_3 : decode cX4_row 3 = .ok (.iload_n 2, 1) := by decide +kernel
theorem dX4_row_4 : decode cX4_row 4 = .ok (.iload_n 3, 1) := by decide +kernel
theorem dX4_row_5 : decode cX4_row 5 = .ok (.invokevirtual 184, 3) := by decide +kernel
theorem dX4_row_8 : decode cX4_row 8 = .ok (.putfield 45, 3) := by decide +kernel
theorem dX4_row_11 : decode cX4_row 11 = .ok (.aload_n 0, 1) := by decide +kernel
theorem dX4_row_12 : decode cX4_row 12 = .ok (.getfield 45, 3) := by decide +kernel
theorem dX4_row_15 : decode cX4_row 15 = .ok (.ifCond .eq 8, 3) := by decide +kernel
theorem dX4_row_18 : decode cX4_row 18 = .ok (.aload_n 0, 1) := by decide +kernel
theorem dX4_row_19 : decode cX4_row 19 = .ok (.getfield 45, 3) := by decide +kernel
theorem dX4_row_22 : decode cX4_row 22 = .ok (.ireturn, 1) := by decide +kernel
theorem dX4_row_23 : decode cX4_row 23 = .ok (.aload_n 0, 1) := by decide +kernel
theorem dX4_row_24 : decode cX4_row 24 = .ok (.getfield 37, 3) := by decide +kernel
theorem dX4_row_27 : decode cX4_row 27 = .ok (.iload_n 1, 1) := by decide +kernel
theorem dX4_row_28 : decode cX4_row 28 = .ok (.aaload, 1) := by decide +kernel
theorem dX4_row_29 : decode cX4_row 29 = .ok (.getfield 187, 3) := by decide +kernel
theorem dX4_row_32 : decode cX4_row 32 = .ok (.iload_n 2, 1) := by decide +kernel
theorem dX4_row_33 : decode cX4_row 33 = .ok (.iload_n 3, 1) := by decide +kernel
theorem dX4_row_34 : decode cX4_row 34 = .ok (.newarray .int, 2) := by decide +kernel
theorem dX4_row_36 : decode cX4_row 36 = .ok (.aastore, 1) := by decide +kernel
theorem dX4_row_37 : decode cX4_row 37 = .ok (.iconst 1, 1) := by decide +kernel
theorem dX4_row_38 : decode cX4_row 38 = .ok (.ireturn, 1) := by decide +kernel
theorem dX4_put_0 : decode cX4_put 0 = .ok (.aload_n 0, 1) := by decide +kernel
theorem dX4_put_1 : decode cX4_put 1 = .ok (.aload_n 0, 1) := by decide +kernel
theorem dX4_put_2 : decode cX4_put 2 = .ok (.iload_n 1, 1) := by decide +kernel
theorem dX4_put_3 : decode cX4_put 3 = .ok (.iload_n 2, 1) := by decide +kernel
theorem dX4_put_4 : decode cX4_put 4 = .ok (.iload_n 3, 1) := by decide +kernel
theorem dX4_put_5 : decode cX4_put 5 = .ok (.iload 4, 2) := by decide +kernel
theorem dX4_put_7 : decode cX4_put 7 = .ok (.invokevirtual 190, 3) := by decide +kernel
theorem dX4_put_10 : decode cX4_put 10 = .ok (.putfield 45, 3) := by decide +kernel
theorem dX4_put_13 : decode cX4_put 13 = .ok (.aload_n 0, 1) := by decide +kernel
theorem dX4_put_14 : decode cX4_put 14 = .ok (.getfield 45, 3) := by decide +kernel
theorem dX4_put_17 : decode cX4_put 17 = .ok (.ifCond .eq 8, 3) := by decide +kernel
theorem dX4_put_20 : decode cX4_put 20 = .ok (.aload_n 0, 1) := by decide +kernel
theorem dX4_put_21 : decode cX4_put 21 = .ok (.getfield 45, 3) := by decide +kernel
theorem dX4_put_24 : decode cX4_put 24 = .ok (.ireturn, 1) := by decide +kernel
theorem dX4_put_25 : decode cX4_put 25 = .ok (.aload_n 0, 1) := by decide +kernel
theorem dX4_put_26 : decode cX4_put 26 = .ok (.getfield 37, 3) := by decide +kernel
theorem dX4_put_29 : decode cX4_put 29 = .ok (.iload_n 1, 1) := by decide +kernel
theorem dX4_put_30 : decode cX4_put 30 = .ok (.aaload, 1) := by decide +kernel
theorem dX4_put_31 : decode cX4_put 31 = .ok (.getfield 187, 3) := by decide +kernel
theorem dX4_put_34 : decode cX4_put 34 = .ok (.iload_n 3, 1) := by decide +kernel
theorem dX4_put_35 : decode cX4_put 35 = .ok (.aaload, 1) := by decide +kernel
theorem dX4_put_36 : decode cX4_put 36 = .ok (.iload 4, 2) := by decide +kernel
theorem dX4_put_38 : decode cX4_put 38 = .ok (.iload_n 2, 1) := by decide +kernel
theorem dX4_put_39 : decode cX4_put 39 = .ok (.ifCond .ne 9, 3) := by decide +kernel
theorem dX4_put_42 : decode cX4_put 42 = .ok (.iload 5, 2) := by decide +kernel
theorem dX4_put_44 : decode cX4_put 44 = .ok (.i2b, 1) := by decide +kernel
theorem dX4_put_45 : decode cX4_put 45 = .ok (.goto 5, 3) := by decide +kernel
theorem dX4_put_48 : decode cX4_put 48 = .ok (.iload 5, 2) := by decide +kernel
theorem dX4_put_50 : decode cX4_put 50 = .ok (.iastore, 1) := by decide +kernel
theorem dX4_put_51 : decode cX4_put 51 = .ok (.iconst 1, 1) := by decide +kernel
theorem dX4_put_52 : decode cX4_put 52 = .ok (.ireturn, 1) := by decide +kernel
theorem dX4_copy_0 : decode cX4_copy 0 = .ok (.aload_n 0, 1) := by decide +kernel
theorem dX4_copy_1 : decode cX4_copy 1 = .ok (.aload_n 0, 1) := by decide +kernel
theorem dX4_copy_2 : decode cX4_copy 2 = .ok (.iload_n 1, 1) := by decide +kernel
theorem dX4_copy_3 : decode cX4_copy 3 = .ok (.iload_n 2, 1) := by decide +kernel
theorem dX4_copy_4 : decode cX4_copy 4 = .ok (.iload_n 3, 1) := by decide +kernel
theorem dX4_copy_5 : decode cX4_copy 5 = .ok (.iload 4, 2) := by decide +kernel
theorem dX4_copy_7 : decode cX4_copy 7 = .ok (.iload 5, 2) := by decide +kernel
theorem dX4_copy_9 : decode cX4_copy 9 = .ok (.iload 6, 2) := by decide +kernel
theorem dX4_copy_11 : decode cX4_copy 11 = .ok (.iload 7, 2) := by decide +kernel
theorem dX4_copy_13 : decode cX4_copy 13 = .ok (.invokevirtual 194, 3) := by decide +kernel
theorem dX4_copy_16 : decode cX4_copy 16 = .ok (.putfield 45, 3) := by decide +kernel
theorem dX4_copy_19 : decode cX4_copy 19 = .ok (.aload_n 0, 1) := by decide +kernel
theorem dX4_copy_20 : decode cX4_copy 20 = .ok (.getfield 45, 3) := by decide +kernel
theorem dX4_copy_23 : decode cX4_copy 23 = .ok (.ifCond .eq 8, 3) := by decide +kernel
theorem dX4_copy_26 : decode cX4_copy 26 = .ok (.aload_n 0, 1) := by decide +kernel
theorem dX4_copy_27 : decode cX4_copy 27 = .ok (.getfield 45, 3) := by decide +kernel
theorem dX4_copy_30 : decode cX4_copy 30 = .ok (.ireturn, 1) := by decide +kernel
theorem dX4_copy_31 : decode cX4_copy 31 = .ok (.aload_n 0, 1) := by decide +kernel
theorem dX4_copy_32 : decode cX4_copy 32 = .ok (.getfield 37, 3) := by decide +kernel
theorem dX4_copy_35 : decode cX4_copy 35 = .ok (.iload_n 1, 1) := by decide +kernel
theorem dX4_copy_36 : decode cX4_copy 36 = .ok (.aaload, 1) := by decide +kernel
theorem dX4_copy_37 : decode cX4_copy 37 = .ok (.getfield 187, 3) := by decide +kernel
theorem dX4_copy_40 : decode cX4_copy 40 = .ok (.iload_n 2, 1) := by decide +kernel
theorem dX4_copy_41 : decode cX4_copy 41 = .ok (.aaload, 1) := by decide +kernel
theorem dX4_copy_42 : decode cX4_copy 42 = .ok (.iload_n 3, 1) := by decide +kernel
theorem dX4_copy_43 : decode cX4_copy 43 = .ok (.aload_n 0, 1) := by decide +kernel
theorem dX4_copy_44 : decode cX4_copy 44 = .ok (.getfield 37, 3) := by decide +kernel
theorem dX4_copy_47 : decode cX4_copy 47 = .ok (.iload 4, 2) := by decide +kernel
theorem dX4_copy_49 : decode cX4_copy 49 = .ok (.aaload, 1) := by decide +kernel
theorem dX4_copy_50 : decode cX4_copy 50 = .ok (.getfield 187, 3) := by decide +kernel
theorem dX4_copy_53 : decode cX4_copy 53 = .ok (.iload 5, 2) := by decide +kernel
theorem dX4_copy_55 : decode cX4_copy 55 = .ok (.aaload, 1) := by decide +kernel
theorem dX4_copy_56 : decode cX4_copy 56 = .ok (.iload 6, 2) := by decide +kernel
theorem dX4_copy_58 : decode cX4_copy 58 = .ok (.iload 7, 2) := by decide +kernel
theorem dX4_copy_60 : decode cX4_copy 60 = .ok (.invokestatic 198, 3) := by decide +kernel
theorem dX4_copy_63 : decode cX4_copy 63 = .ok (.iload 7, 2) := by decide +kernel
theorem dX4_copy_65 : decode cX4_copy 65 = .ok (.ireturn, 1) := by decide +kernel
theorem dX4_read_0 : decode cX4_read 0 = .ok (.iload_n 1, 1) := by decide +kernel
theorem dX4_read_1 : decode cX4_read 1 = .ok (.invokestatic 204, 3) := by decide +kernel
theorem dX4_read_4 : decode cX4_read 4 = .ok (.ifCond .ne 10, 3) := by decide +kernel
theorem dX4_read_7 : decode cX4_read 7 = .ok (.aload_n 0, 1) := by decide +kernel
theorem dX4_read_8 : decode cX4_read 8 = .ok (.iconst (-1), 1) := by decide +kernel
theorem dX4_read_9 : decode cX4_read 9 = .ok (.putfield 45, 3) := by decide +kernel
theorem dX4_read_12 : decode cX4_read 12 = .ok (.iconst (-1), 1) := by decide +kernel
theorem dX4_read_13 : decode cX4_read 13 = .ok (.ireturn, 1) := by decide +kernel
theorem dX4_read_14 : decode cX4_read 14 = .ok (.aload_n 0, 1) := by decide +kernel
theorem dX4_read_15 : decode cX4_read 15 = .ok (.aload_n 0, 1) := by decide +kernel
theorem dX4_read_16 : decode cX4_read 16 = .ok (.getfield 37, 3) := by decide +kernel
theorem dX4_read_19 : decode cX4_read 19 = .ok (.iload_n 1, 1) := by decide +kernel
theorem dX4_read_20 : decode cX4_read 20 = .ok (.aaload, 1) := by decide +kernel
theorem dX4_read_21 : decode cX4_read 21 = .ok (.iload_n 2, 1) := by decide +kernel
theorem dX4_read_22 : decode cX4_read 22 = .ok (.invokestatic 207, 3) := by decide +kernel
theorem dX4_read_25 : decode cX4_read 25 = .ok (.putfield 45, 3) := by decide +kernel
theorem dX4_read_28 : decode cX4_read 28 = .ok (.aload_n 0, 1) := by decide +kernel
theorem dX4_read_29 : decode cX4_read 29 = .ok (.getfield 45, 3) := by decide +kernel
theorem dX4_read_32 : decode cX4_read 32 = .ok (.ifCond .eq 5, 3) := by decide +kernel
theorem dX4_read_35 : decode cX4_read 35 = .ok (.iconst 0, 1) := by decide +kernel
theorem dX4_read_36 : decode cX4_read 36 = .ok (.ireturn, 1) := by decide +kernel
theorem dX4_read_37 : decode cX4_read 37 = .ok (.aload_n 0, 1) := by decide +kernel
theorem dX4_read_38 : decode cX4_read 38 = .ok (.aload_n 0, 1) := by decide +kernel
theorem dX4_read_39 : decode cX4_read 39 = .ok (.getfield 37, 3) := by decide +kernel
theorem dX4_read_42 : decode cX4_read 42 = .ok (.iload_n 1, 1) := by decide +kernel
theorem dX4_read_43 : decode cX4_read 43 = .ok (.aaload, 1) := by decide +kernel
theorem dX4_read_44 : decode cX4_read 44 = .ok (.getfield 187, 3) := by decide +kernel
theorem dX4_read_47 : decode cX4_read 47 = .ok (.iload_n 2, 1) := by decide +kernel
theorem dX4_read_48 : decode cX4_read 48 = .ok (.aaload, 1) := by decide +kernel
theorem dX4_read_49 : decode cX4_read 49 = .ok (.invokevirtual 211, 3) := by decide +kernel
theorem dX4_read_52 : decode cX4_read 52 = .ok (.ireturn, 1) := by decide +kernel
theorem dX4_trace_0 : decode cX4_trace 0 = .ok (.aload_n 0, 1) := by decide +kernel
theorem dX4_trace_1 : decode cX4_trace 1 = .ok (.getfield 41, 3) := by decide +kernel
theorem dX4_trace_4 : decode cX4_trace 4 = .ok (.lreturn, 1) := by decide +kernel
theorem dX4_status_0 : decode cX4_status 0 = .ok (.aload_n 0, 1) := by decide +kernel
theorem dX4_status_1 : decode cX4_status 1 = .ok (.getfield 45, 3) := by decide +kernel
theorem dX4_status_4 : decode cX4_status 4 = .ok (.ireturn, 1) := by decide +kernel
theorem dX4_isWithin_0 : decode cX4_isWithin 0 = .ok (.iload_n 1, 1) := by decide +kernel
theorem dX4_isWithin_1 : decode cX4_isWithin 1 = .ok (.iload_n 0, 1) := by decide +kernel
theorem dX4_isWithin_2 : decode cX4_isWithin 2 = .ok (.if_icmp .gt 12, 3) := by decide +kernel
theorem dX4_isWithin_5 : decode cX4_isWithin 5 = .ok (.iload_n 0, 1) := by decide +kernel
theorem dX4_isWithin_6 : decode cX4_isWithin 6 = .ok (.iload_n 2, 1) := by decide +kernel
theorem dX4_isWithin_7 : decode cX4_isWithin 7 = .ok (.if_icmp .gt 7, 3) := by decide +kernel
theorem dX4_isWithin_10 : decode cX4_isWithin 10 = .ok (.iconst 1, 1) := by decide +kernel
theorem dX4_isWithin_11 : decode cX4_isWithin 11 = .ok (.goto 4, 3) := by decide +kernel
theorem dX4_isWithin_14 : decode cX4_isWithin 14 = .ok (.iconst 0, 1) := by decide +kernel
theorem dX4_isWithin_15 : decode cX4_isWithin 15 = .ok (.ireturn, 1) := by decide +kernel
theorem dX4_isThing_0 : decode cX4_isThing 0 = .ok (.iload_n 1, 1) := by decide +kernel
theorem dX4_isThing_1 : decode cX4_isThing 1 = .ok (.iconst 0, 1) := by decide +kernel
theorem dX4_isThing_2 : decode cX4_isThing 2 = .ok (.aload_n 0, 1) := by decide +kernel
theorem dX4_isThing_3 : decode cX4_isThing 3 = .ok (.getfield 10, 3) := by decide +kernel
theorem dX4_isThing_6 : decode cX4_isThing 6 = .ok (.getfield 57, 3) := by decide +kernel
theorem dX4_isThing_9 : decode cX4_isThing 9 = .ok (.iconst 1, 1) := by decide +kernel
theorem dX4_isThing_10 : decode cX4_isThing 10 = .ok (.isub, 1) := by decide +kernel
theorem dX4_isThing_11 : decode cX4_isThing 11 = .ok (.invokestatic 53, 3) := by decide +kernel
theorem dX4_isThing_14 : decode cX4_isThing 14 = .ok (.ireturn, 1) := by decide +kernel
theorem dX4_isPlace_0 : decode cX4_isPlace 0 = .ok (.iload_n 1, 1) := by decide +kernel
theorem dX4_isPlace_1 : decode cX4_isPlace 1 = .ok (.iconst 0, 1) := by decide +kernel
theorem dX4_isPlace_2 : decode cX4_isPlace 2 = .ok (.aload_n 0, 1) := by decide +kernel
theorem dX4_isPlace_3 : decode cX4_isPlace 3 = .ok (.getfield 10, 3) := by decide +kernel
theorem dX4_isPlace_6 : decode cX4_isPlace 6 = .ok (.getfield 90, 3) := by decide +kernel
theorem dX4_isPlace_9 : decode cX4_isPlace 9 = .ok (.aload_n 0, 1) := by decide +kernel
theorem dX4_isPlace_10 : decode cX4_isPlace 10 = .ok (.getfield 10, 3) := by decide +kernel
theorem dX4_isPlace_13 : decode cX4_isPlace 13 = .ok (.getfield 93, 3) := by decide +kernel
theorem dX4_isPlace_16 : decode cX4_isPlace 16 = .ok (.imul, 1) := by decide +kernel
theorem dX4_isPlace_17 : decode cX4_isPlace 17 = .ok (.iconst 1, 1) := by decide +kernel
theorem dX4_isPlace_18 : decode cX4_isPlace 18 = .ok (.isub, 1) := by decide +kernel
theorem dX4_isPlace_19 : decode cX4_isPlace 19 = .ok (.invokestatic 53, 3) := by decide +kernel
theorem dX4_isPlace_22 : decode cX4_isPlace 22 = .ok (.ireturn, 1) := by decide +kernel
theorem dX4_isSetting_0 : decode cX4_isSetting 0 = .ok (.iload_n 1, 1) := by decide +kernel
theorem dX4_isSetting_1 : decode cX4_isSetting 1 = .ok (.iconst 0, 1) := by decide +kernel
theorem dX4_isSetting_2 : decode cX4_isSetting 2 = .ok (.aload_n 0, 1) := by decide +kernel
theorem dX4_isSetting_3 : decode cX4_isSetting 3 = .ok (.invokevirtual 159, 3) := by decide +kernel
theorem dX4_isSetting_6 : decode cX4_isSetting 6 = .ok (.iconst 1, 1) := by decide +kernel
theorem dX4_isSetting_7 : decode cX4_isSetting 7 = .ok (.isub, 1) := by decide +kernel
theorem dX4_isSetting_8 : decode cX4_isSetting 8 = .ok (.invokestatic 53, 3) := by decide +kernel
theorem dX4_isSetting_11 : decode cX4_isSetting 11 = .ok (.ireturn, 1) := by decide +kernel
theorem dX4_isSize_0 : decode cX4_isSize 0 = .ok (.iload_n 1, 1) := by decide +kernel
theorem dX4_isSize_1 : decode cX4_isSize 1 = .ok (.iconst 0, 1) := by decide +kernel
theorem dX4_isSize_2 : decode cX4_isSize 2 = .ok (.aload_n 0, 1) := by decide +kernel
theorem dX4_isSize_3 : decode cX4_isSize 3 = .ok (.getfield 21, 3) := by decide +kernel
theorem dX4_isSize_6 : decode cX4_isSize 6 = .ok (.getfield 70, 3) := by decide +kernel
theorem dX4_isSize_9 : decode cX4_isSize 9 = .ok (.invokestatic 53, 3) := by decide +kernel
theorem dX4_isSize_12 : decode cX4_isSize 12 = .ok (.ireturn, 1) := by decide +kernel
theorem dX4_isWay_0 : decode cX4_isWay 0 = .ok (.iload_n 0, 1) := by decide +kernel
theorem dX4_isWay_1 : decode cX4_isWay 1 = .ok (.iconst 0, 1) := by decide +kernel
theorem dX4_isWay_2 : decode cX4_isWay 2 = .ok (.iconst 3, 1) := by decide +kernel
theorem dX4_isWay_3 : decode cX4_isWay 3 = .ok (.invokestatic 53, 3) := by decide +kernel
theorem dX4_isWay_6 : decode cX4_isWay 6 = .ok (.ireturn, 1) := by decide +kernel
theorem dX4_isSheet_0 : decode cX4_isSheet 0 = .ok (.iload_n 0, 1) := by decide +kernel
theorem dX4_isSheet_1 : decode cX4_isSheet 1 = .ok (.iconst 0, 1) := by decide +kernel
theorem dX4_isSheet_2 : decode cX4_isSheet 2 = .ok (.iconst 2, 1) := by decide +kernel
theorem dX4_isSheet_3 : decode cX4_isSheet 3 = .ok (.invokestatic 53, 3) := by decide +kernel
theorem dX4_isSheet_6 : decode cX4_isSheet 6 = .ok (.ireturn, 1) := by decide +kernel
theorem dX4_isSort_0 : decode cX4_isSort 0 = .ok (.iload_n 0, 1) := by decide +kernel
theorem dX4_isSort_1 : decode cX4_isSort 1 = .ok (.ifCond .eq 8, 3) := by decide +kernel
theorem dX4_isSort_4 : decode cX4_isSort 4 = .ok (.iload_n 0, 1) := by decide +kernel
theorem dX4_isSort_5 : decode cX4_isSort 5 = .ok (.iconst 1, 1) := by decide +kernel
theorem dX4_isSort_6 : decode cX4_isSort 6 = .ok (.if_icmp .ne 7, 3) := by decide +kernel
theorem dX4_isSort_9 : decode cX4_isSort 9 = .ok (.iconst 1, 1) := by decide +kernel
theorem dX4_isSort_10 : decode cX4_isSort 10 = .ok (.goto 4, 3) := by decide +kernel
theorem dX4_isSort_13 : decode cX4_isSort 13 = .ok (.iconst 0, 1) := by decide +kernel
theorem dX4_isSort_14 : decode cX4_isSort 14 = .ok (.ireturn, 1) := by decide +kernel
theorem dX4_oneIf_0 : decode cX4_oneIf 0 = .ok (.iload_n 0, 1) := by decide +kernel
theorem dX4_oneIf_1 : decode cX4_oneIf 1 = .ok (.ifCond .eq 7, 3) := by decide +kernel
theorem dX4_oneIf_4 : decode cX4_oneIf 4 = .ok (.iconst 1, 1) := by decide +kernel
theorem dX4_oneIf_5 : decode cX4_oneIf 5 = .ok (.goto 4, 3) := by decide +kernel
theorem dX4_oneIf_8 : decode cX4_oneIf 8 = .ok (.iconst 0, 1) := by decide +kernel
theorem dX4_oneIf_9 : decode cX4_oneIf 9 = .ok (.ireturn, 1) := by decide +kernel
theorem dX4_has_0 : decode cX4_has 0 = .ok (.iload_n 0, 1) := by decide +kernel
theorem dX4_has_1 : decode cX4_has 1 = .ok (.iload_n 1, 1) := by decide +kernel
theorem dX4_has_2 : decode cX4_has 2 = .ok (.iushr, 1) := by decide +kernel
theorem dX4_has_3 : decode cX4_has 3 = .ok (.iconst 1, 1) := by decide +kernel
theorem dX4_has_4 : decode cX4_has 4 = .ok (.iand, 1) := by decide +kernel
theorem dX4_has_5 : decode cX4_has 5 = .ok (.iconst 1, 1) := by decide +kernel
theorem dX4_has_6 : decode cX4_has 6 = .ok (.if_icmp .ne 7, 3) := by decide +kernel
theorem dX4_has_9 : decode cX4_has 9 = .ok (.iconst 1, 1) := by decide +kernel
theorem dX4_has_10 : decode cX4_has 10 = .ok (.goto 4, 3) := by decide +kernel
theorem dX4_has_13 : decode cX4_has 13 = .ok (.iconst 0, 1) := by decide +kernel
theorem dX4_has_14 : decode cX4_has 14 = .ok (.ireturn, 1) := by decide +kernel
theorem dX4_layGround_0 : decode cX4_layGround 0 = .ok (.aload_n 0, 1) := by decide +kernel
theorem dX4_layGround_1 : decode cX4_layGround 1 = .ok (.getfield 10, 3) := by decide +kernel
theorem dX4_layGround_4 : decode cX4_layGround 4 = .ok (.iload_n 1, 1) := by decide +kernel
theorem dX4_layGround_5 : decode cX4_layGround 5 = .ok (.iload_n 2, 1) := by decide +kernel
theorem dX4_layGround_6 : decode cX4_layGround 6 = .ok (.iload_n 3, 1) := by decide +kernel
theorem dX4_layGround_7 : decode cX4_layGround 7 = .ok (.invokevirtual 215, 3) := by decide +kernel
theorem dX4_layGround_10 : decode cX4_layGround 10 = .ok (.aload_n 0, 1) := by decide +kernel
theorem dX4_layGround_11 : decode cX4_layGround 11 = .ok (.getfield 21, 3) := by decide +kernel
theorem dX4_layGround_14 : decode cX4_layGround 14 = .ok (.invokevirtual 218, 3) := by decide +kernel
theorem dX4_layGround_17 : decode cX4_layGround 17 = .ok (.aload_n 0, 1) := by decide +kernel
theorem dX4_layGround_18 : decode cX4_layGround 18 = .ok (.getfield 28, 3) := by decide +kernel
theorem dX4_layGround_21 : decode cX4_layGround 21 = .ok (.iload_n 1, 1) := by decide +kernel
theorem dX4_layGround_22 : decode cX4_layGround 22 = .ok (.putfield 221, 3) := by decide +kernel
theorem dX4_layGround_25 : decode cX4_layGround 25 = .ok (.aload_n 0, 1) := by decide +kernel
theorem dX4_layGround_26 : decode cX4_layGround 26 = .ok (.getfield 28, 3) := by decide +kernel
theorem dX4_layGround_29 : decode cX4_layGround 29 = .ok (.iload_n 2, 1) := by decide +kernel
theorem dX4_layGround_30 : decode cX4_layGround 30 = .ok (.putfield 222, 3) := by decide +kernel
theorem dX4_layGround_33 : decode cX4_layGround 33 = .ok (.return_, 1) := by decide +kernel
theorem dX4_settings_0 : decode cX4_settings 0 = .ok (.iconst 1, 1) := by decide +kernel
theorem dX4_settings_1 : decode cX4_settings 1 = .ok (.aload_n 0, 1) := by decide +kernel
theorem dX4_settings_2 : decode cX4_settings 2 = .ok (.getfield 21, 3) := by decide +kernel
theorem dX4_settings_5 : decode cX4_settings 5 = .ok (.getfield 70, 3) := by decide +kernel
theorem dX4_settings_8 : decode cX4_settings 8 = .ok (.ishl, 1) := by decide +kernel
theorem dX4_settings_9 : decode cX4_settings 9 = .ok (.ireturn, 1) := by decide +kernel
theorem dX4_placesBy_0 : decode cX4_placesBy 0 = .ok (.aload_n 0, 1) := by decide +kernel
theorem dX4_placesBy_1 : decode cX4_placesBy 1 = .ok (.getfield 21, 3) := by decide +kernel
theorem dX4_placesBy_4 : decode cX4_placesBy 4 = .ok (.iload_n 1, 1) := by decide +kernel
theorem dX4_placesBy_5 : decode cX4_placesBy 5 = .ok (.invokevirtual 114, 3) := by decide +kernel
theorem dX4_placesBy_8 : decode cX4_placesBy 8 = .ok (.lstore_n 2, 1) := by decide +kernel
theorem dX4_placesBy_9 : decode cX4_placesBy 9 = .ok (.aload_n 0, 1) := by decide +kernel
theorem dX4_placesBy_10 : decode cX4_placesBy 10 = .ok (.getfield 10, 3) := by decide +kernel
theorem dX4_placesBy_13 : decode cX4_placesBy 13 = .ok (.getfield 96, 3) := by decide +kernel
theorem dX4_placesBy_16 : decode cX4_placesBy 16 = .ok (.ifCond .eq 69, 3) := by decide +kernel
theorem dX4_placesBy_19 : decode cX4_placesBy 19 = .ok (.lload_n 2, 1) := by decide +kernel
theorem dX4_placesBy_20 : decode cX4_placesBy 20 = .ok (.l2i, 1) := by decide +kernel
theorem dX4_placesBy_21 : decode cX4_placesBy 21 = .ok (.istore 4, 2) := by decide +kernel
theorem dX4_placesBy_23 : decode cX4_placesBy 23 = .ok (.aload_n 0, 1) := by decide +kernel
theorem dX4_placesBy_24 : decode cX4_placesBy 24 = .ok (.getfield 28, 3) := by decide +kernel
theorem dX4_placesBy_27 : decode cX4_placesBy 27 = .ok (.iload 4, 2) := by decide +kernel
theorem dX4_placesBy_29 : decode cX4_placesBy 29 = .ok (.putfield 223, 3) := by decide +kernel
theorem dX4_placesBy_32 : decode cX4_placesBy 32 = .ok (.aload_n 0, 1) := by decide +kernel
theorem dX4_placesBy_33 : decode cX4_placesBy 33 = .ok (.getfield 28, 3) := by decide +kernel
theorem dX4_placesBy_36 : decode cX4_placesBy 36 = .ok (.aload_n 0, 1) := by decide +kernel
theorem dX4_placesBy_37 : decode cX4_placesBy 37 = .ok (.getfield 10, 3) := by decide +kernel
theorem dX4_placesBy_40 : decode cX4_placesBy 40 = .ok (.getfield 226, 3) := by decide +kernel
theorem dX4_placesBy_43 : decode cX4_placesBy 43 = .ok (.iload 4, 2) := by decide +kernel
theorem dX4_placesBy_45 : decode cX4_placesBy 45 = .ok (.iand, 1) := by decide +kernel
theorem dX4_placesBy_46 : decode cX4_placesBy 46 = .ok (.iload 4, 2) := by decide +kernel
theorem dX4_placesBy_48 : decode cX4_placesBy 48 = .ok (.iconst 1, 1) := by decide +kernel
theorem dX4_placesBy_49 : decode cX4_placesBy 49 = .ok (.iushr, 1) := by decide +kernel
theorem dX4_placesBy_50 : decode cX4_placesBy 50 = .ok (.iand, 1) := by decide +kernel
theorem dX4_placesBy_51 : decode cX4_placesBy 51 = .ok (.putfield 229, 3) := by decide +kernel
theorem dX4_placesBy_54 : decode cX4_placesBy 54 = .ok (.aload_n 0, 1) := by decide +kernel
theorem dX4_placesBy_55 : decode cX4_placesBy 55 = .ok (.getfield 28, 3) := by decide +kernel
theorem dX4_placesBy_58 : decode cX4_placesBy 58 = .ok (.aload_n 0, 1) := by decide +kernel
theorem dX4_placesBy_59 : decode cX4_placesBy 59 = .ok (.getfield 10, 3) := by decide +kernel
theorem dX4_placesBy_62 : decode cX4_placesBy 62 = .ok (.getfield 232, 3) := by decide +kernel
theorem dX4_placesBy_65 : decode cX4_placesBy 65 = .ok (.iload 4, 2) := by decide +kernel
theorem dX4_placesBy_67 : decode cX4_placesBy 67 = .ok (.iand, 1) := by decide +kernel
theorem dX4_placesBy_68 : decode cX4_placesBy 68 = .ok (.iload 4, 2) := by decide +kernel
theorem dX4_placesBy_70 : decode cX4_placesBy 70 = .ok (.aload_n 0, 1) := by decide +kernel
theorem dX4_placesBy_71 : decode cX4_placesBy 71 = .ok (.getfield 10, 3) := by decide +kernel
theorem dX4_placesBy_74 : decode cX4_placesBy 74 = .ok (.getfield 93, 3) := by decide +kernel
theorem dX4_placesBy_77 : decode cX4_placesBy 77 = .ok (.iushr, 1) := by decide +kernel
theorem dX4_placesBy_78 : decode cX4_placesBy 78 = .ok (.iand, 1) := by decide +kernel
theorem dX4_placesBy_79 : decode cX4_placesBy 79 = .ok (.putfield 235, 3) := by decide +kernel
theorem dX4_placesBy_82 : decode cX4_placesBy 82 = .ok (.goto 38, 3) := by decide +kernel
theorem dX4_placesBy_85 : decode cX4_placesBy 85 = .ok (.aload_n 0, 1) := by decide +kernel
theorem dX4_placesBy_86 : decode cX4_placesBy 86 = .ok (.getfield 28, 3) := by decide +kernel
theorem dX4_placesBy_89 : decode cX4_placesBy 89 = .ok (.aload_n 0, 1) := by decide +kernel
theorem dX4_placesBy_90 : decode cX4_placesBy 90 = .ok (.getfield 10, 3) := by decide +kernel
theorem dX4_placesBy_93 : decode cX4_placesBy 93 = .ok (.getfield 238, 3) := by decide +kernel
theorem dX4_placesBy_96 : decode cX4_placesBy 96 = .ok (.putfield 223, 3) := by decide +kernel
theorem dX4_placesBy_99 : decode cX4_placesBy 99 = .ok (.aload_n 0, 1) := by decide +kernel
theorem dX4_placesBy_100 : decode cX4_placesBy 100 = .ok (.getfield 28, 3) := by decide +kernel
theorem dX4_placesBy_103 : decode cX4_placesBy 103 = .ok (.lload_n 2, 1) := by decide +kernel
theorem dX4_placesBy_104 : decode cX4_placesBy 104 = .ok (.l2i, 1) := by decide +kernel
theorem dX4_placesBy_105 : decode cX4_placesBy 105 = .ok (.putfield 229, 3) := by decide +kernel
theorem dX4_placesBy_108 : decode cX4_placesBy 108 = .ok (.aload_n 0, 1) := by decide +kernel
theorem dX4_placesBy_109 : decode cX4_placesBy 109 = .ok (.getfield 28, 3) := by decide +kernel
theorem dX4_placesBy_112 : decode cX4_placesBy 112 = .ok (.lload_n 2, 1) := by decide +kernel
theorem dX4_placesBy_113 : decode cX4_placesBy 113 = .ok (.bipush 32, 2) := by decide +kernel
theorem dX4_placesBy_115 : decode cX4_placesBy 115 = .ok (.lushr, 1) := by decide +kernel
theorem dX4_placesBy_116 : decode cX4_placesBy 116 = .ok (.l2i, 1) := by decide +kernel
theorem dX4_placesBy_117 : decode cX4_placesBy 117 = .ok (.putfield 235, 3) := by decide +kernel
theorem dX4_placesBy_120 : decode cX4_placesBy 120 = .ok (.aload_n 0, 1) := by decide +kernel
theorem dX4_placesBy_121 : decode cX4_placesBy 121 = .ok (.getfield 28, 3) := by decide +kernel
theorem dX4_placesBy_124 : decode cX4_placesBy 124 = .ok (.areturn, 1) := by decide +kernel
theorem dX4_isWalled_0 : decode cX4_isWalled 0 = .ok (.aload_n 0, 1) := by decide +kernel
theorem dX4_isWalled_1 : decode cX4_isWalled 1 = .ok (.getfield 21, 3) := by decide +kernel
theorem dX4_isWalled_4 : decode cX4_isWalled 4 = .ok (.iload_n 1, 1) := by decide +kernel
theorem dX4_isWalled_5 : decode cX4_isWalled 5 = .ok (.invokevirtual 114, 3) := by decide +kernel
theorem dX4_isWalled_8 : decode cX4_isWalled 8 = .ok (.lstore_n 3, 1) := by decide +kernel
theorem dX4_isWalled_9 : decode cX4_isWalled 9 = .ok (.aload_n 0, 1) := by decide +kernel
theorem dX4_isWalled_10 : decode cX4_isWalled 10 = .ok (.getfield 10, 3) := by decide +kernel
theorem dX4_isWalled_13 : decode cX4_isWalled 13 = .ok (.getfield 226, 3) := by decide +kernel
theorem dX4_isWalled_16 : decode cX4_isWalled 16 = .ok (.lload_n 3, 1) := by decide +kernel
theorem dX4_isWalled_17 : decode cX4_isWalled 17 = .ok (.l2i, 1) := by decide +kernel
theorem dX4_isWalled_18 : decode cX4_isWalled 18 = .ok (.iconst (-1), 1) := by decide +kernel
theorem dX4_isWalled_19 : decode cX4_isWalled 19 = .ok (.ixor, 1) := by decide +kernel
theorem dX4_isWalled_20 : decode cX4_isWalled 20 = .ok (.iand, 1) := by decide +kernel
theorem dX4_isWalled_21 : decode cX4_isWalled 21 = .ok (.istore 5, 2) := by decide +kernel
theorem dX4_isWalled_23 : decode cX4_isWalled 23 = .ok (.aload_n 0, 1) := by decide +kernel
theorem dX4_isWalled_24 : decode cX4_isWalled 24 = .ok (.getfield 10, 3) := by decide +kernel
theorem dX4_isWalled_27 : decode cX4_isWalled 27 = .ok (.getfield 232, 3) := by decide +kernel
theorem dX4_isWalled_30 : decode cX4_isWalled 30 = .ok (.lload_n 3, 1) := by decide +kernel
theorem dX4_isWalled_31 : decode cX4_isWalled 31 = .ok (.bipush 32, 2) := by decide +kernel
theorem dX4_isWalled_33 : decode cX4_isWalled 33 = .ok (.lushr, 1) := by decide +kernel
theorem dX4_isWalled_34 : decode cX4_isWalled 34 = .ok (.l2i, 1) := by decide +kernel
theorem dX4_isWalled_35 : decode cX4_isWalled 35 = .ok (.iconst (-1), 1) := by decide +kernel
theorem dX4_isWalled_36 : decode cX4_isWalled 36 = .ok (.ixor, 1) := by decide +kernel
theorem dX4_isWalled_37 : decode cX4_isWalled 37 = .ok (.iand, 1) := by decide +kernel
theorem dX4_isWalled_38 : decode cX4_isWalled 38 = .ok (.istore 6, 2) := by decide +kernel
theorem dX4_isWalled_40 : decode cX4_isWalled 40 = .ok (.iload_n 2, 1) := by decide +kernel
theorem dX4_isWalled_41 : decode cX4_isWalled 41 = .ok (.ifCond .ne 31, 3) := by decide +kernel
theorem dX4_isWalled_44 : decode cX4_isWalled 44 = .ok (.aload_n 0, 1) := by decide +kernel
theorem dX4_isWalled_45 : decode cX4_isWalled 45 = .ok (.getfield 32, 3) := by decide +kernel
theorem dX4_isWalled_48 : decode cX4_isWalled 48 = .ok (.aload_n 0, 1) := by decide +kernel
theorem dX4_isWalled_49 : decode cX4_isWalled 49 = .ok (.getfield 10, 3) := by decide +kernel
theorem dX4_isWalled_52 : decode cX4_isWalled 52 = .ok (.getfield 90, 3) := by decide +kernel
theorem dX4_isWalled_55 : decode cX4_isWalled 55 = .ok (.aload_n 0, 1) := by decide +kernel
theorem dX4_isWalled_56 : decode cX4_isWalled 56 = .ok (.getfield 10, 3) := by decide +kernel
theorem dX4_isWalled_59 : decode cX4_isWalled 59 = .ok (.getfield 93, 3) := by decide +kernel
theorem dX4_isWalled_62 : decode cX4_isWalled 62 = .ok (.iload 5, 2) := by decide +kernel
theorem dX4_isWalled_64 : decode cX4_isWalled 64 = .ok (.iload 6, 2) := by decide +kernel
theorem dX4_isWalled_66 : decode cX4_isWalled 66 = .ok (.invokevirtual 241, 3) := by decide +kernel
theorem dX4_isWalled_69 : decode cX4_isWalled 69 = .ok (.goto 42, 3) := by decide +kernel
theorem dX4_isWalled_72 : decode cX4_isWalled 72 = .ok (.aload_n 0, 1) := by decide +kernel
theorem dX4_isWalled_73 : decode cX4_isWalled 73 = .ok (.getfield 32, 3) := by decide +kernel
theorem dX4_isWalled_76 : decode cX4_isWalled 76 = .ok (.aload_n 0, 1) := by decide +kernel
theorem dX4_isWalled_77 : decode cX4_isWalled 77 = .ok (.getfield 10, 3) := by decide +kernel
theorem dX4_isWalled_80 : decode cX4_isWalled 80 = .ok (.getfield 93, 3) := by decide +kernel
theorem dX4_isWalled_83 : decode cX4_isWalled 83 = .ok (.aload_n 0, 1) := by decide +kernel
theorem dX4_isWalled_84 : decode cX4_isWalled 84 = .ok (.getfield 10, 3) := by decide +kernel
theorem dX4_isWalled_87 : decode cX4_isWalled 87 = .ok (.getfield 90, 3) := by decide +kernel
theorem dX4_isWalled_90 : decode cX4_isWalled 90 = .ok (.aload_n 0, 1) := by decide +kernel
theorem dX4_isWalled_91 : decode cX4_isWalled 91 = .ok (.getfield 10, 3) := by decide +kernel
theorem dX4_isWalled_94 : decode cX4_isWalled 94 = .ok (.iload 6, 2) := by decide +kernel
theorem dX4_isWalled_96 : decode cX4_isWalled 96 = .ok (.invokevirtual 245, 3) := by decide +kernel
theorem dX4_isWalled_99 : decode cX4_isWalled 99 = .ok (.aload_n 0, 1) := by decide +kernel
theorem dX4_isWalled_100 : decode cX4_isWalled 100 = .ok (.getfield 10, 3) := by decide +kernel
theorem dX4_isWalled_103 : decode cX4_isWalled 103 = .ok (.iload 5, 2) := by decide +kernel
theorem dX4_isWalled_105 : decode cX4_isWalled 105 = .ok (.invokevirtual 245, 3) := by decide +kernel
theorem dX4_isWalled_108 : decode cX4_isWalled 108 = .ok (.invokevirtual 241, 3) := by decide +kernel
theorem dX4_isWalled_111 : decode cX4_isWalled 111 = .ok (.aload_n 0, 1) := by decide +kernel
theorem dX4_isWalled_112 : decode cX4_isWalled 112 = .ok (.getfield 32, 3) := by decide +kernel
theorem dX4_isWalled_115 : decode cX4_isWalled 115 = .ok (.iconst 1, 1) := by decide +kernel
theorem dX4_isWalled_116 : decode cX4_isWalled 116 = .ok (.invokevirtual 125, 3) := by decide +kernel
theorem dX4_isWalled_119 : decode cX4_isWalled 119 = .ok (.ireturn, 1) := by decide +kernel
theorem dX4_comesThrough_0 : decode cX4_comesThrough 0 = .ok (.aload_n 0, 1) := by decide +kernel
theorem dX4_comesThrough_1 : decode cX4_comesThrough 1 = .ok (.iload_n 1, 1) := by decide +kernel
theorem dX4_comesThrough_2 : decode cX4_comesThrough 2 = .ok (.invokevirtual 121, 3) := by decide +kernel
theorem dX4_comesThrough_5 : decode cX4_comesThrough 5 = .ok (.astore_n 3, 1) := by decide +kernel
theorem dX4_comesThrough_6 : decode cX4_comesThrough 6 = .ok (.iload_n 2, 1) := by decide +kernel
theorem dX4_comesThrough_7 : decode cX4_comesThrough 7 = .ok (.lookupswitch 69 #[(2, 25), (3, 47)], 25) := by decide +kernel
theorem dX4_comesThrough_32 : decode cX4_comesThrough 32 = .ok (.aload_n 3, 1) := by decide +kernel
theorem dX4_comesThrough_33 : decode cX4_comesThrough 33 = .ok (.iconst 0, 1) := by decide +kernel
theorem dX4_comesThrough_34 : decode cX4_comesThrough 34 = .ok (.invokevirtual 125, 3) := by decide +kernel
theorem dX4_comesThrough_37 : decode cX4_comesThrough 37 = .ok (.ifCond .eq 15, 3) := by decide +kernel
theorem dX4_comesThrough_40 : decode cX4_comesThrough 40 = .ok (.aload_n 3, 1) := by decide +kernel
theorem dX4_comesThrough_41 : decode cX4_comesThrough 41 = .ok (.iconst 1, 1) := by decide +kernel
theorem dX4_comesThrough_42 : decode cX4_comesThrough 42 = .ok (.invokevirtual 125, 3) := by decide +kernel
theorem dX4_comesThrough_45 : decode cX4_comesThrough 45 = .ok (.ifCond .eq 7, 3) := by decide +kernel
theorem dX4_comesThrough_48 : decode cX4_comesThrough 48 = .ok (.iconst 1, 1) := by decide +kernel
theorem dX4_comesThrough_49 : decode cX4_comesThrough 49 = .ok (.goto 4, 3) := by decide +kernel
theorem dX4_comesThrough_52 : decode cX4_comesThrough 52 = .ok (.iconst 0, 1) := by decide +kernel
theorem dX4_comesThrough_53 : decode cX4_comesThrough 53 = .ok (.ireturn, 1) := by decide +kernel
theorem dX4_comesThrough_54 : decode cX4_comesThrough 54 = .ok (.aload_n 3, 1) := by decide +kernel
theorem dX4_comesThrough_55 : decode cX4_comesThrough 55 = .ok (.iconst 0, 1) := by decide +kernel
theorem dX4_comesThrough_56 : decode cX4_comesThrough 56 = .ok (.invokevirtual 125, 3) := by decide +kernel
theorem dX4_comesThrough_59 : decode cX4_comesThrough 59 = .ok (.ifCond .ne 11, 3) := by decide +kernel
theorem dX4_comesThrough_62 : decode cX4_comesThrough 62 = .ok (.aload_n 3, 1) := by decide +kernel
theorem dX4_comesThrough_63 : decode cX4_comesThrough 63 = .ok (.iconst 1, 1) := by decide +kernel
theorem dX4_comesThrough_64 : decode cX4_comesThrough 64 = .ok (.invokevirtual 125, 3) := by decide +kernel
theorem dX4_comesThrough_67 : decode cX4_comesThrough 67 = .ok (.ifCond .eq 7, 3) := by decide +kernel
theorem dX4_comesThrough_70 : decode cX4_comesThrough 70 = .ok (.iconst 1, 1) := by decide +kernel
theorem dX4_comesThrough_71 : decode cX4_comesThrough 71 = .ok (.goto 4, 3) := by decide +kernel
theorem dX4_comesThrough_74 : decode cX4_comesThrough 74 = .ok (.iconst 0, 1) := by decide +kernel
theorem dX4_comesThrough_75 : decode cX4_comesThrough 75 = .ok (.ireturn, 1) := by decide +kernel
theorem dX4_comesThrough_76 : decode cX4_comesThrough 76 = .ok (.aload_n 3, 1) := by decide +kernel
theorem dX4_comesThrough_77 : decode cX4_comesThrough 77 = .ok (.iload_n 2, 1) := by decide +kernel
theorem dX4_comesThrough_78 : decode cX4_comesThrough 78 = .ok (.invokevirtual 125, 3) := by decide +kernel
theorem dX4_comesThrough_81 : decode cX4_comesThrough 81 = .ok (.ireturn, 1) := by decide +kernel
theorem dX4_waysOfSize_0 : decode cX4_waysOfSize 0 = .ok (.iconst 0, 1) := by decide +kernel
theorem dX4_waysOfSize_1 : decode cX4_waysOfSize 1 = .ok (.istore_n 3, 1) := by decide +kernel
theorem dX4_waysOfSize_2 : decode cX4_waysOfSize 2 = .ok (.iconst 0, 1) := by decide +kernel
theorem dX4_waysOfSize_3 : decode cX4_waysOfSize 3 = .ok (.istore 4, 2) := by decide +kernel
theorem dX4_waysOfSize_5 : decode cX4_waysOfSize 5 = .ok (.iload 4, 2) := by decide +kernel
theorem dX4_waysOfSize_7 : decode cX4_waysOfSize 7 = .ok (.aload_n 0, 1) := by decide +kernel
theorem dX4_waysOfSize_8 : decode cX4_waysOfSize 8 = .ok (.invokevirtual 159, 3) := by decide +kernel
theorem dX4_waysOfSize_11 : decode cX4_waysOfSize 11 = .ok (.if_icmp .ge 31, 3) := by decide +kernel
theorem dX4_waysOfSize_14 : decode cX4_waysOfSize 14 = .ok (.iload 4, 2) := by decide +kernel
theorem dX4_waysOfSize_16 : decode cX4_waysOfSize 16 = .ok (.invokestatic 162, 3) := by decide +kernel
theorem dX4_waysOfSize_19 : decode cX4_waysOfSize 19 = .ok (.iload_n 2, 1) := by decide +kernel
theorem dX4_waysOfSize_20 : decode cX4_waysOfSize 20 = .ok (.if_icmp .ne 16, 3) := by decide +kernel
theorem dX4_waysOfSize_23 : decode cX4_waysOfSize 23 = .ok (.aload_n 0, 1) := by decide +kernel
theorem dX4_waysOfSize_24 : decode cX4_waysOfSize 24 = .ok (.iload 4, 2) := by decide +kernel
theorem dX4_waysOfSize_26 : decode cX4_waysOfSize 26 = .ok (.iload_n 1, 1) := by decide +kernel
theorem dX4_waysOfSize_27 : decode cX4_waysOfSize 27 = .ok (.invokevirtual 174, 3) := by decide +kernel
theorem dX4_waysOfSize_30 : decode cX4_waysOfSize 30 = .ok (.ifCond .eq 6, 3) := by decide +kernel
theorem dX4_waysOfSize_33 : decode cX4_waysOfSize 33 = .ok (.iinc 3 1, 3) := by decide +kernel
theorem dX4_waysOfSize_36 : decode cX4_waysOfSize 36 = .ok (.iinc 4 1, 3) := by decide +kernel
theorem dX4_waysOfSize_39 : decode cX4_waysOfSize 39 = .ok (.goto (-34), 3) := by decide +kernel
theorem dX4_waysOfSize_42 : decode cX4_waysOfSize 42 = .ok (.iload_n 3, 1) := by decide +kernel
theorem dX4_waysOfSize_43 : decode cX4_waysOfSize 43 = .ok (.ireturn, 1) := by decide +kernel
theorem dX4_power_0 : decode cX4_power 0 = .ok (.lconst 1, 1) := by decide +kernel
theorem dX4_power_1 : decode cX4_power 1 = .ok (.lstore_n 2, 1) := by decide +kernel
theorem dX4_power_2 : decode cX4_power 2 = .ok (.iconst 0, 1) := by decide +kernel
theorem dX4_power_3 : decode cX4_power 3 = .ok (.istore 4, 2) := by decide +kernel
theorem dX4_power_5 : decode cX4_power 5 = .ok (.iload 4, 2) := by decide +kernel
theorem dX4_power_7 : decode cX4_power 7 = .ok (.iload_n 1, 1) := by decide +kernel
theorem dX4_power_8 : decode cX4_power 8 = .ok (.if_icmp .ge 14, 3) := by decide +kernel
theorem dX4_power_11 : decode cX4_power 11 = .ok (.lload_n 2, 1) := by decide +kernel
theorem dX4_power_12 : decode cX4_power 12 = .ok (.iload_n 0, 1) := by decide +kernel
theorem dX4_power_13 : decode cX4_power 13 = .ok (.i2l, 1) := by decide +kernel
theorem dX4_power_14 : decode cX4_power 14 = .ok (.lmul, 1) := by decide +kernel
theorem dX4_power_15 : decode cX4_power 15 = .ok (.lstore_n 2, 1) := by decide +kernel
theorem dX4_power_16 : decode cX4_power 16 = .ok (.iinc 4 1, 3) := by decide +kernel
theorem dX4_power_19 : decode cX4_power 19 = .ok (.goto (-14), 3) := by decide +kernel
theorem dX4_power_22 : decode cX4_power 22 = .ok (.lload_n 2, 1) := by decide +kernel
theorem dX4_power_23 : decode cX4_power 23 = .ok (.lreturn, 1) := by decide +kernel
theorem dX4_sheetFinding_0 : decode cX4_sheetFinding 0 = .ok (.iload_n 0, 1) := by decide +kernel
theorem dX4_sheetFinding_1 : decode cX4_sheetFinding 1 = .ok (.invokestatic 204, 3) := by decide +kernel
theorem dX4_sheetFinding_4 : decode cX4_sheetFinding 4 = .ok (.ifCond .eq 15, 3) := by decide +kernel
theorem dX4_sheetFinding_7 : decode cX4_sheetFinding 7 = .ok (.iload_n 1, 1) := by decide +kernel
theorem dX4_sheetFinding_8 : decode cX4_sheetFinding 8 = .ok (.invokestatic 248, 3) := by decide +kernel
theorem dX4_sheetFinding_11 : decode cX4_sheetFinding 11 = .ok (.ifCond .eq 8, 3) := by decide +kernel
theorem dX4_sheetFinding_14 : decode cX4_sheetFinding 14 = .ok (.iload_n 2, 1) := by decide +kernel
theorem dX4_sheetFinding_15 : decode cX4_sheetFinding 15 = .ok (.iconst 4, 1) := by decide +kernel
theorem dX4_sheetFinding_16 : decode cX4_sheetFinding 16 = .ok (.if_icmp .le 5, 3) := by decide +kernel
theorem dX4_sheetFinding_19 : decode cX4_sheetFinding 19 = .ok (.iconst (-1), 1) := by decide +kernel
theorem dX4_sheetFinding_20 : decode cX4_sheetFinding 20 = .ok (.ireturn, 1) := by decide +kernel
theorem dX4_sheetFinding_21 : decode cX4_sheetFinding 21 = .ok (.iload_n 2, 1) := by decide +kernel
theorem dX4_sheetFinding_22 : decode cX4_sheetFinding 22 = .ok (.ifCond .ge 8, 3) := by decide +kernel
theorem dX4_sheetFinding_25 : decode cX4_sheetFinding 25 = .ok (.bipush (-15), 2) := by decide +kernel
theorem dX4_sheetFinding_27 : decode cX4_sheetFinding 27 = .ok (.goto 4, 3) := by decide +kernel
theorem dX4_sheetFinding_30 : decode cX4_sheetFinding 30 = .ok (.iconst 0, 1) := by decide +kernel
theorem dX4_sheetFinding_31 : decode cX4_sheetFinding 31 = .ok (.ireturn, 1) := by decide +kernel
theorem dX4_newRowFinding_0 : decode cX4_newRowFinding 0 = .ok (.iload_n 1, 1) := by decide +kernel
theorem dX4_newRowFinding_1 : decode cX4_newRowFinding 1 = .ok (.invokestatic 204, 3) := by decide +kernel
theorem dX4_newRowFinding_4 : decode cX4_newRowFinding 4 = .ok (.ifCond .eq 9, 3) := by decide +kernel
theorem dX4_newRowFinding_7 : decode cX4_newRowFinding 7 = .ok (.iload_n 3, 1) := by decide +kernel
theorem dX4_newRowFinding_8 : decode cX4_newRowFinding 8 = .ok (.bipush 40, 2) := by decide +kernel
theorem dX4_newRowFinding_10 : decode cX4_newRowFinding 10 = .ok (.if_icmp .le 5, 3) := by decide +kernel
theorem dX4_newRowFinding_13 : decode cX4_newRowFinding 13 = .ok (.iconst (-1), 1) := by decide +kernel
theorem dX4_newRowFinding_14 : decode cX4_newRowFinding 14 = .ok (.ireturn, 1) := by decide +kernel
theorem dX4_newRowFinding_15 : decode cX4_newRowFinding 15 = .ok (.aload_n 0, 1) := by decide +kernel
theorem dX4_newRowFinding_16 : decode cX4_newRowFinding 16 = .ok (.getfield 37, 3) := by decide +kernel
theorem dX4_newRowFinding_19 : decode cX4_newRowFinding 19 = .ok (.iload_n 1, 1) := by decide +kernel
theorem dX4_newRowFinding_20 : decode cX4_newRowFinding 20 = .ok (.aaload, 1) := by decide +kernel
theorem dX4_newRowFinding_21 : decode cX4_newRowFinding 21 = .ok (.ifnonnull 6, 3) := by decide +kernel
theorem dX4_newRowFinding_24 : decode cX4_newRowFinding 24 = .ok (.bipush (-11), 2) := by decide +kernel
theorem dX4_newRowFinding_26 : decode cX4_newRowFinding 26 = .ok (.ireturn, 1) := by decide +kernel
theorem dX4_newRowFinding_27 : decode cX4_newRowFinding 27 = .ok (.aload_n 0, 1) := by decide +kernel
theorem dX4_newRowFinding_28 : decode cX4_newRowFinding 28 = .ok (.getfield 37, 3) := by decide +kernel
theorem dX4_newRowFinding_31 : decode cX4_newRowFinding 31 = .ok (.iload_n 1, 1) := by decide +kernel
theorem dX4_newRowFinding_32 : decode cX4_newRowFinding 32 = .ok (.aaload, 1) := by decide +kernel
theorem dX4_newRowFinding_33 : decode cX4_newRowFinding 33 = .ok (.iload_n 2, 1) := by decide +kernel
theorem dX4_newRowFinding_34 : decode cX4_newRowFinding 34 = .ok (.invokevirtual 251, 3) := by decide +kernel
theorem dX4_newRowFinding_37 : decode cX4_newRowFinding 37 = .ok (.ifCond .ne 6, 3) := by decide +kernel
theorem dX4_newRowFinding_40 : decode cX4_newRowFinding 40 = .ok (.bipush (-12), 2) := by decide +kernel
theorem dX4_newRowFinding_42 : decode cX4_newRowFinding 42 = .ok (.ireturn, 1) := by decide +kernel
theorem dX4_newRowFinding_43 : decode cX4_newRowFinding 43 = .ok (.iload_n 3, 1) := by decide +kernel
theorem dX4_newRowFinding_44 : decode cX4_newRowFinding 44 = .ok (.ifCond .ge 8, 3) := by decide +kernel
theorem dX4_newRowFinding_47 : decode cX4_newRowFinding 47 = .ok (.bipush (-15), 2) := by decide +kernel
theorem dX4_newRowFinding_49 : decode cX4_newRowFinding 49 = .ok (.goto 4, 3) := by decide +kernel
theorem dX4_newRowFinding_52 : decode cX4_newRowFinding 52 = .ok (.iconst 0, 1) := by decide +kernel
theorem dX4_newRowFinding_53 : decode cX4_newRowFinding 53 = .ok (.ireturn, 1) := by decide +kernel
theorem dX4_putFinding_0 : decode cX4_putFinding 0 = .ok (.iload_n 1, 1) := by decide +kernel
theorem dX4_putFinding_1 : decode cX4_putFinding 1 = .ok (.invokestatic 204, 3) := by decide +kernel
theorem dX4_putFinding_4 : decode cX4_putFinding 4 = .ok (.ifCond .eq 10, 3) := by decide +kernel
theorem dX4_putFinding_7 : decode cX4_putFinding 7 = .ok (.iload_n 2, 1) := by decide +kernel
theorem dX4_putFinding_8 : decode cX4_putFinding 8 = .ok (.invokestatic 248, 3) := by decide +kernel
theorem dX4_putFinding_11 : decode cX4_putFinding 11 = .ok (.ifCond .ne 5, 3) := by decide +kernel
theorem dX4_putFinding_14 : decode cX4_putFinding 14 = .ok (.iconst (-1), 1) := by decide +kernel
theorem dX4_putFinding_15 : decode cX4_putFinding 15 = .ok (.ireturn, 1) := by decide +kernel
theorem dX4_putFinding_16 : decode cX4_putFinding 16 = .ok (.aload_n 0, 1) := by decide +kernel
theorem dX4_putFinding_17 : decode cX4_putFinding 17 = .ok (.getfield 37, 3) := by decide +kernel
theorem dX4_putFinding_20 : decode cX4_putFinding 20 = .ok (.iload_n 1, 1) := by decide +kernel
theorem dX4_putFinding_21 : decode cX4_putFinding 21 = .ok (.aaload, 1) := by decide +kernel
theorem dX4_putFinding_22 : decode cX4_putFinding 22 = .ok (.astore 5, 2) := by decide +kernel
theorem dX4_putFinding_24 : decode cX4_putFinding 24 = .ok (.aload 5, 2) := by decide +kernel
theorem dX4_putFinding_26 : decode cX4_putFinding 26 = .ok (.ifnull 15, 3) := by decide +kernel
theorem dX4_putFinding_29 : decode cX4_putFinding 29 = .ok (.aload 5, 2) := by decide +kernel
theorem dX4_putFinding_31 : decode cX4_putFinding 31 = .ok (.getfield 254, 3) := by decide +kernel
theorem dX4_putFinding_34 : decode cX4_putFinding 34 = .ok (.iload_n 2, 1) := by decide +kernel
theorem dX4_putFinding_35 : decode cX4_putFinding 35 = .ok (.if_icmp .eq 6, 3) := by decide +kernel
theorem dX4_putFinding_38 : decode cX4_putFinding 38 = .ok (.bipush (-13), 2) := by decide +kernel
theorem dX4_putFinding_40 : decode cX4_putFinding 40 = .ok (.ireturn, 1) := by decide +kernel
theorem dX4_putFinding_41 : decode cX4_putFinding 41 = .ok (.aload 5, 2) := by decide +kernel
theorem dX4_putFinding_43 : decode cX4_putFinding 43 = .ok (.iload_n 3, 1) := by decide +kernel
theorem dX4_putFinding_44 : decode cX4_putFinding 44 = .ok (.invokestatic 207, 3) := by decide +kernel
theorem dX4_putFinding_47 : decode cX4_putFinding 47 = .ok (.istore 6, 2) := by decide +kernel
theorem dX4_putFinding_49 : decode cX4_putFinding 49 = .ok (.iload 6, 2) := by decide +kernel
theorem dX4_putFinding_51 : decode cX4_putFinding 51 = .ok (.ifCond .eq 6, 3) := by decide +kernel
theorem dX4_putFinding_54 : decode cX4_putFinding 54 = .ok (.iload 6, 2) := by decide +kernel
theorem dX4_putFinding_56 : decode cX4_putFinding 56 = .ok (.ireturn, 1) := by decide +kernel
theorem dX4_putFinding_57 : decode cX4_putFinding 57 = .ok (.aload 5, 2) := by decide +kernel
theorem dX4_putFinding_59 : decode cX4_putFinding 59 = .ok (.iload_n 3, 1) := by decide +kernel
theorem dX4_putFinding_60 : decode cX4_putFinding 60 = .ok (.iload 4, 2) := by decide +kernel
theorem dX4_putFinding_62 : decode cX4_putFinding 62 = .ok (.iconst 1, 1) := by decide +kernel
theorem dX4_putFinding_63 : decode cX4_putFinding 63 = .ok (.invokevirtual 257, 3) := by decide +kernel
theorem dX4_putFinding_66 : decode cX4_putFinding 66 = .ok (.ifCond .eq 7, 3) := by decide +kernel
theorem dX4_putFinding_69 : decode cX4_putFinding 69 = .ok (.iconst 0, 1) := by decide +kernel
theorem dX4_putFinding_70 : decode cX4_putFinding 70 = .ok (.goto 5, 3) := by decide +kernel
theorem dX4_putFinding_73 : decode cX4_putFinding 73 = .ok (.bipush (-12), 2) := by decide +kernel
theorem dX4_putFinding_75 : decode cX4_putFinding 75 = .ok (.ireturn, 1) := by decide +kernel
theorem dX4_copyFinding_0 : decode cX4_copyFinding 0 = .ok (.iload_n 1, 1) := by decide +kernel
theorem dX4_copyFinding_1 : decode cX4_copyFinding 1 = .ok (.invokestatic 204, 3) := by decide +kernel
theorem dX4_copyFinding_4 : decode cX4_copyFinding 4 = .ok (.ifCond .eq 11, 3) := by decide +kernel
theorem dX4_copyFinding_7 : decode cX4_copyFinding 7 = .ok (.iload 4, 2) := by decide +kernel
theorem dX4_copyFinding_9 : decode cX4_copyFinding 9 = .ok (.invokestatic 204, 3) := by decide +kernel
theorem dX4_copyFinding_12 : decode cX4_copyFinding 12 = .ok (.ifCond .ne 5, 3) := by decide +kernel
theorem dX4_copyFinding_15 : decode cX4_copyFinding 15 = .ok (.iconst (-1), 1) := by decide +kernel
theorem dX4_copyFinding_16 : decode cX4_copyFinding 16 = .ok (.ireturn, 1) := by decide +kernel
theorem dX4_copyFinding_17 : decode cX4_copyFinding 17 = .ok (.aload_n 0, 1) := by decide +kernel
theorem dX4_copyFinding_18 : decode cX4_copyFinding 18 = .ok (.getfield 37, 3) := by decide +kernel
theorem dX4_copyFinding_21 : decode cX4_copyFinding 21 = .ok (.iload_n 1, 1) := by decide +kernel
theorem dX4_copyFinding_22 : decode cX4_copyFinding 22 = .ok (.aaload, 1) := by decide +kernel
theorem dX4_copyFinding_23 : decode cX4_copyFinding 23 = .ok (.astore 8, 2) := by decide +kernel
theorem dX4_copyFinding_25 : decode cX4_copyFinding 25 = .ok (.aload_n 0, 1) := by decide +kernel
theorem dX4_copyFinding_26 : decode cX4_copyFinding 26 = .ok (.getfield 37, 3) := by decide +kernel
theorem dX4_copyFinding_29 : decode cX4_copyFinding 29 = .ok (.iload 4, 2) := by decide +kernel
theorem dX4_copyFinding_31 : decode cX4_copyFinding 31 = .ok (.aaload, 1) := by decide +kernel
theorem dX4_copyFinding_32 : decode cX4_copyFinding 32 = .ok (.astore 9, 2) := by decide +kernel
theorem dX4_copyFinding_34 : decode cX4_copyFinding 34 = .ok (.aload 8, 2) := by decide +kernel
theorem dX4_copyFinding_36 : decode cX4_copyFinding 36 = .ok (.ifnull 8, 3) := by decide +kernel
theorem dX4_copyFinding_39 : decode cX4_copyFinding 39 = .ok (.aload 9, 2) := by decide +kernel
theorem dX4_copyFinding_41 : decode cX4_copyFinding 41 = .ok (.ifnonnull 6, 3) := by decide +kernel
theorem dX4_copyFinding_44 : decode cX4_copyFinding 44 = .ok (.bipush (-11), 2) := by decide +kernel
theorem dX4_copyFinding_46 : decode cX4_copyFinding 46 = .ok (.ireturn, 1) := by decide +kernel
theorem dX4_copyFinding_47 : decode cX4_copyFinding 47 = .ok (.aload 8, 2) := by decide +kernel
theorem dX4_copyFinding_49 : decode cX4_copyFinding 49 = .ok (.getfield 254, 3) := by decide +kernel
theorem dX4_copyFinding_52 : decode cX4_copyFinding 52 = .ok (.aload 9, 2) := by decide +kernel
theorem dX4_copyFinding_54 : decode cX4_copyFinding 54 = .ok (.getfield 254, 3) := by decide +kernel
theorem dX4_copyFinding_57 : decode cX4_copyFinding 57 = .ok (.if_icmp .eq 6, 3) := by decide +kernel
theorem dX4_copyFinding_60 : decode cX4_copyFinding 60 = .ok (.bipush (-13), 2) := by decide +kernel
theorem dX4_copyFinding_62 : decode cX4_copyFinding 62 = .ok (.ireturn, 1) := by decide +kernel
theorem dX4_copyFinding_63 : decode cX4_copyFinding 63 = .ok (.aload 8, 2) := by decide +kernel
theorem dX4_copyFinding_65 : decode cX4_copyFinding 65 = .ok (.iload_n 2, 1) := by decide +kernel
theorem dX4_copyFinding_66 : decode cX4_copyFinding 66 = .ok (.invokevirtual 251, 3) := by decide +kernel
theorem dX4_copyFinding_69 : decode cX4_copyFinding 69 = .ok (.ifCond .eq 13, 3) := by decide +kernel
theorem dX4_copyFinding_72 : decode cX4_copyFinding 72 = .ok (.aload 9, 2) := by decide +kernel
theorem dX4_copyFinding_74 : decode cX4_copyFinding 74 = .ok (.iload 5, 2) := by decide +kernel
theorem dX4_copyFinding_76 : decode cX4_copyFinding 76 = .ok (.invokevirtual 251, 3) := by decide +kernel
theorem dX4_copyFinding_79 : decode cX4_copyFinding 79 = .ok (.ifCond .ne 6, 3) := by decide +kernel
theorem dX4_copyFinding_82 : decode cX4_copyFinding 82 = .ok (.bipush (-12), 2) := by decide +kernel
theorem dX4_copyFinding_84 : decode cX4_copyFinding 84 = .ok (.ireturn, 1) := by decide +kernel
theorem dX4_copyFinding_85 : decode cX4_copyFinding 85 = .ok (.aload 8, 2) := by decide +kernel
theorem dX4_copyFinding_87 : decode cX4_copyFinding 87 = .ok (.getfield 187, 3) := by decide +kernel
theorem dX4_copyFinding_90 : decode cX4_copyFinding 90 = .ok (.iload_n 2, 1) := by decide +kernel
theorem dX4_copyFinding_91 : decode cX4_copyFinding 91 = .ok (.aaload, 1) := by decide +kernel
theorem dX4_copyFinding_92 : decode cX4_copyFinding 92 = .ok (.ifnull 14, 3) := by decide +kernel
theorem dX4_copyFinding_95 : decode cX4_copyFinding 95 = .ok (.aload 9, 2) := by decide +kernel
theorem dX4_copyFinding_97 : decode cX4_copyFinding 97 = .ok (.getfield 187, 3) := by decide +kernel
theorem dX4_copyFinding_100 : decode cX4_copyFinding 100 = .ok (.iload 5, 2) := by decide +kernel
theorem dX4_copyFinding_102 : decode cX4_copyFinding 102 = .ok (.aaload, 1) := by decide +kernel
theorem dX4_copyFinding_103 : decode cX4_copyFinding 103 = .ok (.ifnonnull 6, 3) := by decide +kernel
theorem dX4_copyFinding_106 : decode cX4_copyFinding 106 = .ok (.bipush (-11), 2) := by decide +kernel
theorem dX4_copyFinding_108 : decode cX4_copyFinding 108 = .ok (.ireturn, 1) := by decide +kernel
theorem dX4_copyFinding_109 : decode cX4_copyFinding 109 = .ok (.aload 8, 2) := by decide +kernel
theorem dX4_copyFinding_111 : decode cX4_copyFinding 111 = .ok (.iload_n 2, 1) := by decide +kernel
theorem dX4_copyFinding_112 : decode cX4_copyFinding 112 = .ok (.iload_n 3, 1) := by decide +kernel
theorem dX4_copyFinding_113 : decode cX4_copyFinding 113 = .ok (.iload 7, 2) := by decide +kernel
theorem dX4_copyFinding_115 : decode cX4_copyFinding 115 = .ok (.invokevirtual 257, 3) := by decide +kernel
theorem dX4_copyFinding_118 : decode cX4_copyFinding 118 = .ok (.ifCond .eq 21, 3) := by decide +kernel
theorem dX4_copyFinding_121 : decode cX4_copyFinding 121 = .ok (.aload 9, 2) := by decide +kernel
theorem dX4_copyFinding_123 : decode cX4_copyFinding 123 = .ok (.iload 5, 2) := by decide +kernel
theorem dX4_copyFinding_125 : decode cX4_copyFinding 125 = .ok (.iload 6, 2) := by decide +kernel
theorem dX4_copyFinding_127 : decode cX4_copyFinding 127 = .ok (.iload 7, 2) := by decide +kernel
theorem dX4_copyFinding_129 : decode cX4_copyFinding 129 = .ok (.invokevirtual 257, 3) := by decide +kernel
theorem dX4_copyFinding_132 : decode cX4_copyFinding 132 = .ok (.ifCond .eq 7, 3) := by decide +kernel
theorem dX4_copyFinding_135 : decode cX4_copyFinding 135 = .ok (.iconst 0, 1) := by decide +kernel
theorem dX4_copyFinding_136 : decode cX4_copyFinding 136 = .ok (.goto 5, 3) := by decide +kernel
theorem dX4_copyFinding_139 : decode cX4_copyFinding 139 = .ok (.bipush (-12), 2) := by decide +kernel
theorem dX4_copyFinding_141 : decode cX4_copyFinding 141 = .ok (.ireturn, 1) := by decide +kernel
theorem dX4_rowFinding_0 : decode cX4_rowFinding 0 = .ok (.aload_n 0, 1) := by decide +kernel
theorem dX4_rowFinding_1 : decode cX4_rowFinding 1 = .ok (.ifnonnull 6, 3) := by decide +kernel
theorem dX4_rowFinding_4 : decode cX4_rowFinding 4 = .ok (.bipush (-11), 2) := by decide +kernel
theorem dX4_rowFinding_6 : decode cX4_rowFinding 6 = .ok (.ireturn, 1) := by decide +kernel
theorem dX4_rowFinding_7 : decode cX4_rowFinding 7 = .ok (.aload_n 0, 1) := by decide +kernel
theorem dX4_rowFinding_8 : decode cX4_rowFinding 8 = .ok (.iload_n 1, 1) := by decide +kernel
theorem dX4_rowFinding_9 : decode cX4_rowFinding 9 = .ok (.invokevirtual 251, 3) := by decide +kernel
theorem dX4_rowFinding_12 : decode cX4_rowFinding 12 = .ok (.ifCond .ne 6, 3) := by decide +kernel
theorem dX4_rowFinding_15 : decode cX4_rowFinding 15 = .ok (.bipush (-12), 2) := by decide +kernel
theorem dX4_rowFinding_17 : decode cX4_rowFinding 17 = .ok (.ireturn, 1) := by decide +kernel
theorem dX4_rowFinding_18 : decode cX4_rowFinding 18 = .ok (.aload_n 0, 1) := by decide +kernel
theorem dX4_rowFinding_19 : decode cX4_rowFinding 19 = .ok (.getfield 187, 3) := by decide +kernel
theorem dX4_rowFinding_22 : decode cX4_rowFinding 22 = .ok (.iload_n 1, 1) := by decide +kernel
theorem dX4_rowFinding_23 : decode cX4_rowFinding 23 = .ok (.aaload, 1) := by decide +kernel
theorem dX4_rowFinding_24 : decode cX4_rowFinding 24 = .ok (.ifnonnull 8, 3) := by decide +kernel
theorem dX4_rowFinding_27 : decode cX4_rowFinding 27 = .ok (.bipush (-11), 2) := by decide +kernel
theorem dX4_rowFinding_29 : decode cX4_rowFinding 29 = .ok (.goto 4, 3) := by decide +kernel
theorem dX4_rowFinding_32 : decode cX4_rowFinding 32 = .ok (.iconst 0, 1) := by decide +kernel
theorem dX4_rowFinding_33 : decode cX4_rowFinding 33 = .ok (.ireturn, 1) := by decide +kernel
theorem dX4_readKinds_0 : decode cX4_readKinds 0 = .ok (.aload_n 1, 1) := by decide +kernel
theorem dX4_readKinds_1 : decode cX4_readKinds 1 = .ok (.arraylength, 1) := by decide +kernel
theorem dX4_readKinds_2 : decode cX4_readKinds 2 = .ok (.aload_n 0, 1) := by decide +kernel
theorem dX4_readKinds_3 : decode cX4_readKinds 3 = .ok (.getfield 10, 3) := by decide +kernel
theorem dX4_readKinds_6 : decode cX4_readKinds 6 = .ok (.getfield 57, 3) := by decide +kernel
theorem dX4_readKinds_9 : decode cX4_readKinds 9 = .ok (.invokestatic 260, 3) := by decide +kernel
theorem dX4_readKinds_12 : decode cX4_readKinds 12 = .ok (.istore_n 2, 1) := by decide +kernel
theorem dX4_readKinds_13 : decode cX4_readKinds 13 = .ok (.iconst 0, 1) := by decide +kernel
theorem dX4_readKinds_14 : decode cX4_readKinds 14 = .ok (.istore_n 3, 1) := by decide +kernel
theorem dX4_readKinds_15 : decode cX4_readKinds 15 = .ok (.iload_n 3, 1) := by decide +kernel
theorem dX4_readKinds_16 : decode cX4_readKinds 16 = .ok (.iload_n 2, 1) := by decide +kernel
theorem dX4_readKinds_17 : decode cX4_readKinds 17 = .ok (.if_icmp .ge 32, 3) := by decide +kernel
theorem dX4_readKinds_20 : decode cX4_readKinds 20 = .ok (.aload_n 0, 1) := by decide +kernel
theorem dX4_readKinds_21 : decode cX4_readKinds 21 = .ok (.iload_n 3, 1) := by decide +kernel
theorem dX4_readKinds_22 : decode cX4_readKinds 22 = .ok (.aload_n 1, 1) := by decide +kernel
theorem dX4_readKinds_23 : decode cX4_readKinds 23 = .ok (.iload_n 3, 1) := by decide +kernel
theorem dX4_readKinds_24 : decode cX4_readKinds 24 = .ok (.iaload, 1) := by decide +kernel
theorem dX4_readKinds_25 : decode cX4_readKinds 25 = .ok (.invokevirtual 265, 3) := by decide +kernel
theorem dX4_readKinds_28 : decode cX4_readKinds 28 = .ok (.istore 4, 2) := by decide +kernel
theorem dX4_readKinds_30 : decode cX4_readKinds 30 = .ok (.iload 4, 2) := by decide +kernel
theorem dX4_readKinds_32 : decode cX4_readKinds 32 = .ok (.ifCond .ge 11, 3) := by decide +kernel
theorem dX4_readKinds_35 : decode cX4_readKinds 35 = .ok (.aload_n 0, 1) := by decide +kernel
theorem dX4_readKinds_36 : decode cX4_readKinds 36 = .ok (.iload 4, 2) := by decide +kernel
theorem dX4_readKinds_38 : decode cX4_readKinds 38 = .ok (.putfield 45, 3) := by decide +kernel
theorem dX4_readKinds_41 : decode cX4_readKinds 41 = .ok (.iload_n 3, 1) := by decide +kernel
theorem dX4_readKinds_42 : decode cX4_readKinds 42 = .ok (.ireturn, 1) := by decide +kernel
theorem dX4_readKinds_43 : decode cX4_readKinds 43 = .ok (.iinc 3 1, 3) := by decide +kernel
theorem dX4_readKinds_46 : decode cX4_readKinds 46 = .ok (.goto (-31), 3) := by decide +kernel
theorem dX4_readKinds_49 : decode cX4_readKinds 49 = .ok (.iload_n 2, 1) := by decide +kernel
theorem dX4_readKinds_50 : decode cX4_readKinds 50 = .ok (.ireturn, 1) := by decide +kernel
end
section
theorem dX5_init_0 : decode cX5_init 0 = .ok (.aload_n 0, 1) := by decide +kernel
theorem dX5_init_1 : decode cX5_init 1 = .ok (.invokespecial 1, 3) := by decide +kernel
theorem dX5_init_4 : decode cX5_init 4 = .ok (.aload_n 0, 1) := by decide +kernel
theorem dX5_init_5 : decode cX5_init 5 = .ok (.iconst 2, 1) := by decide +kernel
theorem dX5_init_6 : decode cX5_init 6 = .ok (.putfield 7, 3) := by decide +kernel
theorem dX5_init_9 : decode cX5_init 9 = .ok (.aload_n 0, 1) := by decide +kernel
theorem dX5_init_10 : decode cX5_init 10 = .ok (.iconst 2, 1) := by decide +kernel
theorem dX5_init_11 : decode cX5_init 11 = .ok (.putfield 13, 3) := by decide +kernel
theorem dX5_init_14 : decode cX5_init 14 = .ok (.aload_n 0, 1) := by decide +kernel
theorem dX5_init_15 : decode cX5_init 15 = .ok (.bipush 40, 2) := by decide +kernel
theorem dX5_init_17 : decode cX5_init 17 = .ok (.newarray .int, 2) := by decide +kernel
theorem dX5_init_19 : decode cX5_init 19 = .ok (.putfield 16, 3) := by decide +kernel
theorem dX5_init_22 : decode cX5_init 22 = .ok (.aload_n 0, 1) := by decide +kernel
theorem dX5_init_23 : decode cX5_init 23 = .ok (.bipush 40, 2) := by decide +kernel
theorem dX5_init_25 : decode cX5_init 25 = .ok (.newarray .int, 2) := by decide +kernel
theorem dX5_init_27 : decode cX5_init 27 = .ok (.putfield 20, 3) := by decide +kernel
theorem dX5_init_30 : decode cX5_init 30 = .ok (.aload_n 0, 1) := by decide +kernel
theorem dX5_init_31 : decode cX5_init 31 = .ok (.bipush 25, 2) := by decide +kernel
theorem dX5_init_33 : decode cX5_init 33 = .ok (.newarray .int, 2) := by decide +kernel
theorem dX5_init_35 : decode cX5_init 35 = .ok (.putfield 23, 3) := by decide +kernel
theorem dX5_init_38 : decode cX5_init 38 = .ok (.aload_n 0, 1) := by decide +kernel
theorem dX5_init_39 : decode cX5_init 39 = .ok (.bipush 40, 2) := by decide +kernel
theorem dX5_init_41 : decode cX5_init 41 = .ok (.newarray .boolean, 2) := by decide +kernel
theorem dX5_init_43 : decode cX5_init 43 = .ok (.putfield 26, 3) := by decide +kernel
theorem dX5_init_46 : decode cX5_init 46 = .ok (.aload_n 0, 1) := by decide +kernel
theorem dX5_init_47 : decode cX5_init 47 = .ok (.sipush 4096, 3) := by decide +kernel
theorem dX5_init_50 : decode cX5_init 50 = .ok (.newarray .int, 2) := by decide +kernel
theorem dX5_init_52 : decode cX5_init 52 = .ok (.putfield 30, 3) := by decide +kernel
theorem dX5_init_55 : decode cX5_init 55 = .ok (.aload_n 0, 1) := by decide +kernel
theorem dX5_init_56 : decode cX5_init 56 = .ok (.bipush 36, 2) := by decide +kernel
theorem dX5_init_58 : decode cX5_init 58 = .ok (.newarray .boolean, 2) := by decide +kernel
theorem dX5_init_60 : decode cX5_init 60 = .ok (.putfield 33, 3) := by decide +kernel
theorem dX5_init_63 : decode cX5_init 63 = .ok (.aload_n 0, 1) := by decide +kernel
theorem dX5_init_64 : decode cX5_init 64 = .ok (.iconst 3, 1) := by decide +kernel
theorem dX5_init_65 : decode cX5_init 65 = .ok (.newarray .boolean, 2) := by decide +kernel
theorem dX5_init_67 : decode cX5_init 67 = .ok (.putfield 36, 3) := by decide +kernel
theorem dX5_init_70 : decode cX5_init 70 = .ok (.aload_n 0, 1) := by decide +kernel
theorem dX5_init_71 : decode cX5_init 71 = .ok (.iconst 3, 1) := by decide +kernel
theorem dX5_init_72 : decode cX5_init 72 = .ok (.newarray .int, 2) := by decide +kernel
theorem dX5_init_74 : decode cX5_init 74 = .ok (.putfield 39, 3) := by decide +kernel
theorem dX5_init_77 : decode cX5_init 77 = .ok (.aload_n 0, 1) := by decide +kernel
theorem dX5_init_78 : decode cX5_init 78 = .ok (.iconst 3, 1) := by decide +kernel
theorem dX5_init_79 : decode cX5_init 79 = .ok (.newarray .int, 2) := by decide +kernel
theorem dX5_init_81 : decode cX5_init 81 = .ok (.putfield 42, 3) := by decide +kernel
theorem dX5_init_84 : decode cX5_init 84 = .ok (.aload_n 0, 1) := by decide +kernel
theorem dX5_init_85 : decode cX5_init 85 = .ok (.bipush 12, 2) := by decide +kernel
theorem dX5_init_87 : decode cX5_init 87 = .ok (.newarray .int, 2) := by decide +kernel
theorem dX5_init_89 : decode cX5_init 89 = .ok (.putfield 45, 3) := by decide +kernel
theorem dX5_init_92 : decode cX5_init 92 = .ok (.aload_n 0, 1) := by decide +kernel
theorem dX5_init_93 : decode cX5_init 93 = .ok (.sipush 480, 3) := by decide +kernel
theorem dX5_init_96 : decode cX5_init 96 = .ok (.newarray .int, 2) := by decide +kernel
theorem dX5_init_98 : decode cX5_init 98 = .ok (.putfield 48, 3) := by decide +kernel
theorem dX5_init_101 : decode cX5_init 101 = .ok (.aload_n 0, 1) := by decide +kernel
theorem dX5_init_102 : decode cX5_init 102 = .ok (.bipush 40, 2) := by decide +kernel
theorem dX5_init_104 : decode cX5_init 104 = .ok (.newarray .int, 2) := by decide +kernel
theorem dX5_init_106 : decode cX5_init 106 = .ok (.putfield 51, 3) := by decide +kernel
theorem dX5_init_109 : decode cX5_init 109 = .ok (.aload_n 0, 1) := by decide +kernel
theorem dX5_init_110 : decode cX5_init 110 = .ok (.iconst 1, 1) := by decide +kernel
theorem dX5_init_111 : decode cX5_init 111 = .ok (.invokevirtual 54, 3) := by decide +kernel
theorem dX5_init_114 : decode cX5_init 114 = .ok (.return_, 1) := by decide +kernel
theorem dX5_in_0 : decode cX5_in 0 = .ok (.iload_n 0, 1) := by decide +kernel
theorem dX5_in_1 : decode cX5_in 1 = .ok (.iload_n 1, 1) := by decide +kernel
theorem dX5_in_2 : decode cX5_in 2 = .ok (.if_icmp .lt 12, 3) := by decide +kernel
theorem dX5_in_5 : decode cX5_in 5 = .ok (.iload_n 0, 1) := by decide +kernel
theorem dX5_in_6 : decode cX5_in 6 = .ok (.iload_n 2, 1) := by decide +kernel
theorem dX5_in_7 : decode cX5_in 7 = .ok (.if_icmp .gt 7, 3) := by decide +kernel
theorem dX5_in_10 : decode cX5_in 10 = .ok (.iconst 1, 1) := by decide +kernel
theorem dX5_in_11 : decode cX5_in 11 = .ok (.goto 4, 3) := by decide +kernel
theorem dX5_in_14 : decode cX5_in 14 = .ok (.iconst 0, 1) := by decide +kernel
theorem dX5_in_15 : decode cX5_in 15 = .ok (.ireturn, 1) := by decide +kernel
theorem dX5_all_0 : decode cX5_all 0 = .ok (.iconst 0, 1) := by decide +kernel
theorem dX5_all_1 : decode cX5_all 1 = .ok (.istore_n 2, 1) := by decide +kernel
theorem dX5_all_2 : decode cX5_all 2 = .ok (.iload_n 2, 1) := by decide +kernel
theorem dX5_all_3 : decode cX5_all 3 = .ok (.bipush 40, 2) := by decide +kernel
theorem dX5_all_5 : decode cX5_all 5 = .ok (.if_icmp .ge 24, 3) := by decide +kernel
theorem dX5_all_8 : decode cX5_all 8 = .ok (.aload_n 0, 1) := by decide +kernel
theorem dX5_all_9 : decode cX5_all 9 = .ok (.getfield 16, 3) := by decide +kernel
theorem dX5_all_12 : decode cX5_all 12 = .ok (.iload_n 2, 1) := by decide +kernel
theorem dX5_all_13 : decode cX5_all 13 = .ok (.iload_n 1, 1) := by decide +kernel
theorem dX5_all_14 : decode cX5_all 14 = .ok (.iastore, 1) := by decide +kernel
theorem dX5_all_15 : decode cX5_all 15 = .ok (.aload_n 0, 1) := by decide +kernel
theorem dX5_all_16 : decode cX5_all 16 = .ok (.getfield 20, 3) := by decide +kernel
theorem dX5_all_19 : decode cX5_all 19 = .ok (.iload_n 2, 1) := by decide +kernel
theorem dX5_all_20 : decode cX5_all 20 = .ok (.bipush (-9), 2) := by decide +kernel
theorem dX5_all_22 : decode cX5_all 22 = .ok (.iastore, 1) := by decide +kernel
theorem dX5_all_23 : decode cX5_all 23 = .ok (.iinc 2 1, 3) := by decide +kernel
theorem dX5_all_26 : decode cX5_all 26 = .ok (.goto (-24), 3) := by decide +kernel
theorem dX5_all_29 : decode cX5_all 29 = .ok (.aload_n 0, 1) := by decide +kernel
theorem dX5_all_30 : decode cX5_all 30 = .ok (.iconst 0, 1) := by decide +kernel
theorem dX5_all_31 : decode cX5_all 31 = .ok (.putfield 61, 3) := by decide +kernel
theorem dX5_all_34 : decode cX5_all 34 = .ok (.return_, 1) := by decide +kernel
theorem dX5_places_0 : decode cX5_places 0 = .ok (.aload_n 0, 1) := by decide +kernel
theorem dX5_places_1 : decode cX5_places 1 = .ok (.getfield 7, 3) := by decide +kernel
theorem dX5_places_4 : decode cX5_places 4 = .ok (.aload_n 0, 1) := by decide +kernel
theorem dX5_places_5 : decode cX5_places 5 = .ok (.getfield 13, 3) := by decide +kernel
theorem dX5_places_8 : decode cX5_places 8 = .ok (.imul, 1) := by decide +kernel
theorem dX5_places_9 : decode cX5_places 9 = .ok (.ireturn, 1) := by decide +kernel
theorem dX5_across_0 : decode cX5_across 0 = .ok (.aload_n 0, 1) := by decide +kernel
theorem dX5_across_1 : decode cX5_across 1 = .ok (.getfield 7, 3) := by decide +kernel
theorem dX5_across_4 : decode cX5_across 4 = .ok (.aload_n 0, 1) := by decide +kernel
theorem dX5_across_5 : decode cX5_across 5 = .ok (.getfield 13, 3) := by decide +kernel
theorem dX5_across_8 : decode cX5_across 8 = .ok (.iconst 1, 1) := by decide +kernel
theorem dX5_across_9 : decode cX5_across 9 = .ok (.isub, 1) := by decide +kernel
theorem dX5_across_10 : decode cX5_across 10 = .ok (.imul, 1) := by decide +kernel
theorem dX5_across_11 : decode cX5_across 11 = .ok (.ireturn, 1) := by decide +kernel
theorem dX5_roads_0 : decode cX5_roads 0 = .ok (.aload_n 0, 1) := by decide +kernel
theorem dX5_roads_1 : decode cX5_roads 1 = .ok (.invokevirtual 65, 3) := by decide +kernel
theorem dX5_roads_4 : decode cX5_roads 4 = .ok (.aload_n 0, 1) := by decide +kernel
theorem dX5_roads_5 : decode cX5_roads 5 = .ok (.getfield 7, 3) := by decide +kernel
theorem dX5_roads_8 : decode cX5_roads 8 = .ok (.iconst 1, 1) := by decide +kernel
theorem dX5_roads_9 : decode cX5_roads 9 = .ok (.isub, 1) := by decide +kernel
theorem dX5_roads_10 : decode cX5_roads 10 = .ok (.aload_n 0, 1) := by decide +kernel
theorem dX5_roads_11 : decode cX5_roads 11 = .ok (.getfield 13, 3) := by decide +kernel
theorem dX5_roads_14 : decode cX5_roads 14 = .ok (.imul, 1) := by decide +kernel
theorem dX5_roads_15 : decode cX5_roads 15 = .ok (.iadd, 1) := by decide +kernel
theorem dX5_roads_16 : decode cX5_roads 16 = .ok (.ireturn, 1) := by decide +kernel
theorem dX5_things_0 : decode cX5_things 0 = .ok (.aload_n 0, 1) := by decide +kernel
theorem dX5_things_1 : decode cX5_things 1 = .ok (.getfield 69, 3) := by decide +kernel
theorem dX5_things_4 : decode cX5_things 4 = .ok (.ifCond .eq 10, 3) := by decide +kernel
theorem dX5_things_7 : decode cX5_things 7 = .ok (.aload_n 0, 1) := by decide +kernel
theorem dX5_things_8 : decode cX5_things 8 = .ok (.invokevirtual 72, 3) := by decide +kernel
theorem dX5_things_11 : decode cX5_things 11 = .ok (.goto 7, 3) := by decide +kernel
theorem dX5_things_14 : decode cX5_things 14 = .ok (.aload_n 0, 1) := by decide +kernel
theorem dX5_things_15 : decode cX5_things 15 = .ok (.invokevirtual 75, 3) := by decide +kernel
theorem dX5_things_18 : decode cX5_things 18 = .ok (.ireturn, 1) := by decide +kernel
theorem dX5_isThing_0 : decode cX5_isThing 0 = .ok (.iload_n 1, 1) := by decide +kernel
theorem dX5_isThing_1 : decode cX5_isThing 1 = .ok (.iconst 0, 1) := by decide +kernel
theorem dX5_isThing_2 : decode cX5_isThing 2 = .ok (.aload_n 0, 1) := by decide +kernel
theorem dX5_isThing_3 : decode cX5_isThing 3 = .ok (.invokevirtual 78, 3) := by decide +kernel
theorem dX5_isThing_6 : decode cX5_isThing 6 = .ok (.iconst 1, 1) := by decide +kernel
theorem dX5_isThing_7 : decode cX5_isThing 7 = .ok (.isub, 1) := by decide +kernel
theorem dX5_isThing_8 : decode cX5_isThing 8 = .ok (.invokestatic 81, 3) := by decide +kernel
theorem dX5_isThing_11 : decode cX5_isThing 11 = .ok (.ireturn, 1) := by decide +kernel
theorem dX5_isPlace_0 : decode cX5_isPlace 0 = .ok (.iload_n 1, 1) := by decide +kernel
theorem dX5_isPlace_1 : decode cX5_isPlace 1 = .ok (.iconst 0, 1) := by decide +kernel
theorem dX5_isPlace_2 : decode cX5_isPlace 2 = .ok (.aload_n 0, 1) := by decide +kernel
theorem dX5_isPlace_3 : decode cX5_isPlace 3 = .ok (.invokevirtual 72, 3) := by decide +kernel
theorem dX5_isPlace_6 : decode cX5_isPlace 6 = .ok (.iconst 1, 1) := by decide +kernel
theorem dX5_isPlace_7 : decode cX5_isPlace 7 = .ok (.isub, 1) := by decide +kernel
theorem dX5_isPlace_8 : decode cX5_isPlace 8 = .ok (.invokestatic 81, 3) := by decide +kernel
theorem dX5_isPlace_11 : decode cX5_isPlace 11 = .ok (.ireturn, 1) := by decide +kernel
theorem dX5_end_0 : decode cX5_end 0 = .ok (.iload_n 1, 1) := by decide +kernel
theorem dX5_end_1 : decode cX5_end 1 = .ok (.aload_n 0, 1) := by decide +kernel
theorem dX5_end_2 : decode cX5_end 2 = .ok (.invokevirtual 65, 3) := by decide +kernel
theorem dX5_end_5 : decode cX5_end 5 = .ok (.if_icmp .ge 38, 3) := by decide +kernel
theorem dX5_end_8 : decode cX5_end 8 = .ok (.iload_n 1, 1) := by decide +kernel
theorem dX5_end_9 : decode cX5_end 9 = .ok (.aload_n 0, 1) := by decide +kernel
theorem dX5_end_10 : decode cX5_end 10 = .ok (.getfield 13, 3) := by decide +kernel
theorem dX5_end_13 : decode cX5_end 13 = .ok (.iconst 1, 1) := by decide +kernel
theorem dX5_end_14 : decode cX5_end 14 = .ok (.isub, 1) := by decide +kernel
theorem dX5_end_15 : decode cX5_end 15 = .ok (.idiv, 1) := by decide +kernel
theorem dX5_end_16 : decode cX5_end 16 = .ok (.aload_n 0, 1) := by decide +kernel
theorem dX5_end_17 : decode cX5_end 17 = .ok (.getfield 13, 3) := by decide +kernel
theorem dX5_end_20 : decode cX5_end 20 = .ok (.imul, 1) := by decide +kernel
theorem dX5_end_21 : decode cX5_end 21 = .ok (.iload_n 1, 1) := by decide +kernel
theorem dX5_end_22 : decode cX5_end 22 = .ok (.aload_n 0, 1) := by decide +kernel
theorem dX5_end_23 : decode cX5_end 23 = .ok (.getfield 13, 3) := by decide +kernel
theorem dX5_end_26 : decode cX5_end 26 = .ok (.iconst 1, 1) := by decide +kernel
theorem dX5_end_27 : decode cX5_end 27 = .ok (.isub, 1) := by decide +kernel
theorem dX5_end_28 : decode cX5_end 28 = .ok (.irem, 1) := by decide +kernel
theorem dX5_end_29 : decode cX5_end 29 = .ok (.iadd, 1) := by decide +kernel
theorem dX5_end_30 : decode cX5_end 30 = .ok (.istore_n 3, 1) := by decide +kernel
theorem dX5_end_31 : decode cX5_end 31 = .ok (.iload_n 2, 1) := by decide +kernel
theorem dX5_end_32 : decode cX5_end 32 = .ok (.ifCond .eq 9, 3) := by decide +kernel
theorem dX5_end_35 : decode cX5_end 35 = .ok (.iload_n 3, 1) := by decide +kernel
theorem dX5_end_36 : decode cX5_end 36 = .ok (.iconst 1, 1) := by decide +kernel
theorem dX5_end_37 : decode cX5_end 37 = .ok (.iadd, 1) := by decide +kernel
theorem dX5_end_38 : decode cX5_end 38 = .ok (.goto 4, 3) := by decide +kernel
theorem dX5_end_41 : decode cX5_end 41 = .ok (.iload_n 3, 1) := by decide +kernel
theorem dX5_end_42 : decode cX5_end 42 = .ok (.ireturn, 1) := by decide +kernel
theorem dX5_end_43 : decode cX5_end 43 = .ok (.iload_n 1, 1) := by decide +kernel
theorem dX5_end_44 : decode cX5_end 44 = .ok (.aload_n 0, 1) := by decide +kernel
theorem dX5_end_45 : decode cX5_end 45 = .ok (.invokevirtual 65, 3) := by decide +kernel
theorem dX5_end_48 : decode cX5_end 48 = .ok (.isub, 1) := by decide +kernel
theorem dX5_end_49 : decode cX5_end 49 = .ok (.istore_n 3, 1) := by decide +kernel
theorem dX5_end_50 : decode cX5_end 50 = .ok (.iload_n 2, 1) := by decide +kernel
theorem dX5_end_51 : decode cX5_end 51 = .ok (.ifCond .eq 12, 3) := by decide +kernel
theorem dX5_end_54 : decode cX5_end 54 = .ok (.iload_n 3, 1) := by decide +kernel
theorem dX5_end_55 : decode cX5_end 55 = .ok (.aload_n 0, 1) := by decide +kernel
theorem dX5_end_56 : decode cX5_end 56 = .ok (.getfield 13, 3) := by decide +kernel
theorem dX5_end_59 : decode cX5_end 59 = .ok (.iadd, 1) := by decide +kernel
theorem dX5_end_60 : decode cX5_end 60 = .ok (.goto 4, 3) := by decide +kernel
theorem dX5_end_63 : decode cX5_end 63 = .ok (.iload_n 3, 1) := by decide +kernel
theorem dX5_end_64 : decode cX5_end 64 = .ok (.ireturn, 1) := by decide +kernel
theorem dX5_chances_0 : decode cX5_chances 0 = .ok (.iconst 0, 1) := by decide +kernel
theorem dX5_chances_1 : decode cX5_chances 1 = .ok (.istore_n 1, 1) := by decide +kernel
theorem dX5_chances_2 : decode cX5_chances 2 = .ok (.iconst 0, 1) := by decide +kernel
theorem dX5_chances_3 : decode cX5_chances 3 = .ok (.istore_n 2, 1) := by decide +kernel
theorem dX5_chances_4 : decode cX5_chances 4 = .ok (.iload_n 2, 1) := by decide +kernel
theorem dX5_chances_5 : decode cX5_chances 5 = .ok (.aload_n 0, 1) := by decide +kernel
theorem dX5_chances_6 : decode cX5_chances 6 = .ok (.invokevirtual 78, 3) := by decide +kernel
theorem dX5_chances_9 : decode cX5_chances 9 = .ok (.if_icmp .ge 27, 3) := by decide +kernel
theorem dX5_chances_12 : decode cX5_chances 12 = .ok (.iload_n 1, 1) := by decide +kernel
theorem dX5_chances_13 : decode cX5_chances 13 = .ok (.aload_n 0, 1) := by decide +kernel
theorem dX5_chances_14 : decode cX5_chances 14 = .ok (.getfield 16, 3) := by decide +kernel
theorem dX5_chances_17 : decode cX5_chances 17 = .ok (.iload_n 2, 1) := by decide +kernel
theorem dX5_chances_18 : decode cX5_chances 18 = .ok (.iaload, 1) := by decide +kernel
theorem dX5_chances_19 : decode cX5_chances 19 = .ok (.iconst 2, 1) := by decide +kernel
theorem dX5_chances_20 : decode cX5_chances 20 = .ok (.if_icmp .ne 7, 3) := by decide +kernel
theorem dX5_chances_23 : decode cX5_chances 23 = .ok (.iconst 1, 1) := by decide +kernel
theorem dX5_chances_24 : decode cX5_chances 24 = .ok (.goto 4, 3) := by decide +kernel
theorem dX5_chances_27 : decode cX5_chances 27 = .ok (.iconst 0, 1) := by decide +kernel
theorem dX5_chances_28 : decode cX5_chances 28 = .ok (.iadd, 1) := by decide +kernel
theorem dX5_chances_29 : decode cX5_chances 29 = .ok (.istore_n 1, 1) := by decide +kernel
theorem dX5_chances_30 : decode cX5_chances 30 = .ok (.iinc 2 1, 3) := by decide +kernel
theorem dX5_chances_33 : decode cX5_chances 33 = .ok (.goto (-29), 3) := by decide +kernel
theorem dX5_chances_36 : decode cX5_chances 36 = .ok (.iload_n 1, 1) := by decide +kernel
theorem dX5_chances_37 : decode cX5_chances 37 = .ok (.ireturn, 1) := by decide +kernel
theorem dX5_numberOf_0 : decode cX5_numberOf 0 = .ok (.iconst 0, 1) := by decide +kernel
theorem dX5_numberOf_1 : decode cX5_numberOf 1 = .ok (.istore_n 2, 1) := by decide +kernel
theorem dX5_numberOf_2 : decode cX5_numberOf 2 = .ok (.iconst 0, 1) := by decide +kernel
theorem dX5_numberOf_3 : decode cX5_numberOf 3 = .ok (.istore_n 3, 1) := by decide +kernel
theorem dX5_numberOf_4 : decode cX5_numberOf 4 = .ok (.iload_n 3, 1) := by decide +kernel
theorem dX5_numberOf_5 : decode cX5_numberOf 5 = .ok (.iload_n 1, 1) := by decide +kernel
theorem dX5_numberOf_6 : decode cX5_numberOf 6 = .ok (.if_icmp .ge 27, 3) := by decide +kernel
theorem dX5_numberOf_9 : decode cX5_numberOf 9 = .ok (.iload_n 2, 1) := by decide +kernel
theorem dX5_numberOf_10 : decode cX5_numberOf 10 = .ok (.aload_n 0, 1) := by decide +kernel
theorem dX5_numberOf_11 : decode cX5_numberOf 11 = .ok (.getfield 16, 3) := by decide +kernel
theorem dX5_numberOf_14 : decode cX5_numberOf 14 = .ok (.iload_n 3, 1) := by decide +kernel
theorem dX5_numberOf_15 : decode cX5_numberOf 15 = .ok (.iaload, 1) := by decide +kernel
theorem dX5_numberOf_16 : decode cX5_numberOf 16 = .ok (.iconst 2, 1) := by decide +kernel
theorem dX5_numberOf_17 : decode cX5_numberOf 17 = .ok (.if_icmp .ne 7, 3) := by decide +kernel
theorem dX5_numberOf_20 : decode cX5_numberOf 20 = .ok (.iconst 1, 1) := by decide +kernel
theorem dX5_numberOf_21 : decode cX5_numberOf 21 = .ok (.goto 4, 3) := by decide +kernel
theorem dX5_numberOf_24 : decode cX5_numberOf 24 = .ok (.iconst 0, 1) := by decide +kernel
theorem dX5_numberOf_25 : decode cX5_numberOf 25 = .ok (.iadd, 1) := by decide +kernel
theorem dX5_numberOf_26 : decode cX5_numberOf 26 = .ok (.istore_n 2, 1) := by decide +kernel
theorem dX5_numberOf_27 : decode cX5_numberOf 27 = .ok (.iinc 3 1, 3) := by decide +kernel
theorem dX5_numberOf_30 : decode cX5_numberOf 30 = .ok (.goto (-26), 3) := by decide +kernel
theorem dX5_numberOf_33 : decode cX5_numberOf 33 = .ok (.iload_n 2, 1) := by decide +kernel
theorem dX5_numberOf_34 : decode cX5_numberOf 34 = .ok (.ireturn, 1) := by decide +kernel
theorem dX5_isElder_0 : decode cX5_isElder 0 = .ok (.iconst 0, 1) := by decide +kernel
theorem dX5_isElder_1 : decode cX5_isElder 1 = .ok (.istore_n 2, 1) := by decide +kernel
theorem dX5_isElder_2 : decode cX5_isElder 2 = .ok (.iconst 0, 1) := by decide +kernel
theorem dX5_isElder_3 : decode cX5_isElder 3 = .ok (.istore_n 3, 1) := by decide +kernel
theorem dX5_isElder_4 : decode cX5_isElder 4 = .ok (.iload_n 3, 1) := by decide +kernel
theorem dX5_isElder_5 : decode cX5_isElder 5 = .ok (.aload_n 0, 1) := by decide +kernel
theorem dX5_isElder_6 : decode cX5_isElder 6 = .ok (.invokevirtual 78, 3) := by decide +kernel
theorem dX5_isElder_9 : decode cX5_isElder 9 = .ok (.if_icmp .ge 27, 3) := by decide +kernel
theorem dX5_isElder_12 : decode cX5_isElder 12 = .ok (.iload_n 2, 1) := by decide +kernel
theorem dX5_isElder_13 : decode cX5_isElder 13 = .ok (.aload_n 0, 1) := by decide +kernel
theorem dX5_isElder_14 : decode cX5_isElder 14 = .ok (.getfield 20, 3) := by decide +kernel
theorem dX5_isElder_17 : decode cX5_isElder 17 = .ok (.iload_n 3, 1) := by decide +kernel
theorem dX5_isElder_18 : decode cX5_isElder 18 = .ok (.iaload, 1) := by decide +kernel
theorem dX5_isElder_19 : decode cX5_isElder 19 = .ok (.iload_n 1, 1) := by decide +kernel
theorem dX5_isElder_20 : decode cX5_isElder 20 = .ok (.if_icmp .ne 7, 3) := by decide +kernel
theorem dX5_isElder_23 : decode cX5_isElder 23 = .ok (.iconst 1, 1) := by decide +kernel
theorem dX5_isElder_24 : decode cX5_isElder 24 = .ok (.goto 4, 3) := by decide +kernel
theorem dX5_isElder_27 : decode cX5_isElder 27 = .ok (.iconst 0, 1) := by decide +kernel
theorem dX5_isElder_28 : decode cX5_isElder 28 = .ok (.ior, 1) := by decide +kernel
theorem dX5_isElder_29 : decode cX5_isElder 29 = .ok (.istore_n 2, 1) := by decide +kernel
theorem dX5_isElder_30 : decode cX5_isElder 30 = .ok (.iinc 3 1, 3) := by decide +kernel
theorem dX5_isElder_33 : decode cX5_isElder 33 = .ok (.goto (-29), 3) := by decide +kernel
theorem dX5_isElder_36 : decode cX5_isElder 36 = .ok (.iload_n 2, 1) := by decide +kernel
theorem dX5_isElder_37 : decode cX5_isElder 37 = .ok (.ireturn, 1) := by decide +kernel
theorem dX5_isSetting_0 : decode cX5_isSetting 0 = .ok (.iload_n 1, 1) := by decide +kernel
theorem dX5_isSetting_1 : decode cX5_isSetting 1 = .ok (.iconst 0, 1) := by decide +kernel
theorem dX5_isSetting_2 : decode cX5_isSetting 2 = .ok (.iconst 1, 1) := by decide +kernel
theorem dX5_isSetting_3 : decode cX5_isSetting 3 = .ok (.aload_n 0, 1) := by decide +kernel
theorem dX5_isSetting_4 : decode cX5_isSetting 4 = .ok (.invokevirtual 85, 3) := by decide +kernel
theorem dX5_isSetting_7 : decode cX5_isSetting 7 = .ok (.ishl, 1) := by decide +kernel
theorem dX5_isSetting_8 : decode cX5_isSetting 8 = .ok (.iconst 1, 1) := by decide +kernel
theorem dX5_isSetting_9 : decode cX5_isSetting 9 = .ok (.isub, 1) := by decide +kernel
theorem dX5_isSetting_10 : decode cX5_isSetting 10 = .ok (.invokestatic 81, 3) := by decide +kernel
theorem dX5_isSetting_13 : decode cX5_isSetting 13 = .ok (.ireturn, 1) := by decide +kernel
theorem dX5_ground_0 : decode cX5_ground 0 = .ok (.aload_n 0, 1) := by decide +kernel
theorem dX5_ground_1 : decode cX5_ground 1 = .ok (.iconst 0, 1) := by decide +kernel
theorem dX5_ground_2 : decode cX5_ground 2 = .ok (.putfield 58, 3) := by decide +kernel
theorem dX5_ground_5 : decode cX5_ground 5 = .ok (.iload_n 1, 1) := by decide +kernel
theorem dX5_ground_6 : decode cX5_ground 6 = .ok (.iconst 1, 1) := by decide +kernel
theorem dX5_ground_7 : decode cX5_ground 7 = .ok (.iconst 5, 1) := by decide +kernel
theorem dX5_ground_8 : decode cX5_ground 8 = .ok (.invokestatic 81, 3) := by decide +kernel
theorem dX5_ground_11 : decode cX5_ground 11 = .ok (.ifCond .eq 12, 3) := by decide +kernel
theorem dX5_ground_14 : decode cX5_ground 14 = .ok (.iload_n 2, 1) := by decide +kernel
theorem dX5_ground_15 : decode cX5_ground 15 = .ok (.iconst 1, 1) := by decide +kernel
theorem dX5_ground_16 : decode cX5_ground 16 = .ok (.iconst 5, 1) := by decide +kernel
theorem dX5_ground_17 : decode cX5_ground 17 = .ok (.invokestatic 81, 3) := by decide +kernel
theorem dX5_ground_20 : decode cX5_ground 20 = .ok (.ifCond .ne 5, 3) := by decide +kernel
theorem dX5_ground_23 : decode cX5_ground 23 = .ok (.iconst (-1), 1) := by decide +kernel
theorem dX5_ground_24 : decode cX5_ground 24 = .ok (.ireturn, 1) := by decide +kernel
theorem dX5_ground_25 : decode cX5_ground 25 = .ok (.aload_n 0, 1) := by decide +kernel
theorem dX5_ground_26 : decode cX5_ground 26 = .ok (.iload_n 1, 1) := by decide +kernel
theorem dX5_ground_27 : decode cX5_ground 27 = .ok (.putfield 7, 3) := by decide +kernel
theorem dX5_ground_30 : decode cX5_ground 30 = .ok (.aload_n 0, 1) := by decide +kernel
theorem dX5_ground_31 : decode cX5_ground 31 = .ok (.iload_n 2, 1) := by decide +kernel
theorem dX5_ground_32 : decode cX5_ground 32 = .ok (.putfield 13, 3) := by decide +kernel
theorem dX5_ground_35 : decode cX5_ground 35 = .ok (.aload_n 0, 1) := by decide +kernel
theorem dX5_ground_36 : decode cX5_ground 36 = .ok (.iload_n 3, 1) := by decide +kernel
theorem dX5_ground_37 : decode cX5_ground 37 = .ok (.putfield 69, 3) := by decide +kernel
theorem dX5_ground_40 : decode cX5_ground 40 = .ok (.aload_n 0, 1) := by decide +kernel
theorem dX5_ground_41 : decode cX5_ground 41 = .ok (.iconst 1, 1) := by decide +kernel
theorem dX5_ground_42 : decode cX5_ground 42 = .ok (.invokevirtual 54, 3) := by decide +kernel
theorem dX5_ground_45 : decode cX5_ground 45 = .ok (.aload_n 0, 1) := by decide +kernel
theorem dX5_ground_46 : decode cX5_ground 46 = .ok (.invokevirtual 78, 3) := by decide +kernel
theorem dX5_ground_49 : decode cX5_ground 49 = .ok (.ireturn, 1) := by decide +kernel
theorem dX5_becomes_0 : decode cX5_becomes 0 = .ok (.aload_n 0, 1) := by decide +kernel
theorem dX5_becomes_1 : decode cX5_becomes 1 = .ok (.iload_n 1, 1) := by decide +kernel
theorem dX5_becomes_2 : decode cX5_becomes 2 = .ok (.invokevirtual 88, 3) := by decide +kernel
theorem dX5_becomes_5 : decode cX5_becomes 5 = .ok (.ifCond .eq 12, 3) := by decide +kernel
theorem dX5_becomes_8 : decode cX5_becomes 8 = .ok (.iload_n 2, 1) := by decide +kernel
theorem dX5_becomes_9 : decode cX5_becomes 9 = .ok (.iconst 0, 1) := by decide +kernel
theorem dX5_becomes_10 : decode cX5_becomes 10 = .ok (.iconst 2, 1) := by decide +kernel
theorem dX5_becomes_11 : decode cX5_becomes 11 = .ok (.invokestatic 81, 3) := by decide +kernel
theorem dX5_becomes_14 : decode cX5_becomes 14 = .ok (.ifCond .ne 5, 3) := by decide +kernel
theorem dX5_becomes_17 : decode cX5_becomes 17 = .ok (.iconst (-1), 1) := by decide +kernel
theorem dX5_becomes_18 : decode cX5_becomes 18 = .ok (.ireturn, 1) := by decide +kernel
theorem dX5_becomes_19 : decode cX5_becomes 19 = .ok (.iload_n 2, 1) := by decide +kernel
theorem dX5_becomes_20 : decode cX5_becomes 20 = .ok (.iconst 2, 1) := by decide +kernel
theorem dX5_becomes_21 : decode cX5_becomes 21 = .ok (.if_icmp .eq 14, 3) := by decide +kernel
theorem dX5_becomes_24 : decode cX5_becomes 24 = .ok (.aload_n 0, 1) := by decide +kernel
theorem dX5_becomes_25 : decode cX5_becomes 25 = .ok (.iload_n 1, 1) := by decide +kernel
theorem dX5_becomes_26 : decode cX5_becomes 26 = .ok (.invokevirtual 92, 3) := by decide +kernel
theorem dX5_becomes_29 : decode cX5_becomes 29 = .ok (.ifCond .eq 6, 3) := by decide +kernel
theorem dX5_becomes_32 : decode cX5_becomes 32 = .ok (.bipush (-2), 2) := by decide +kernel
theorem dX5_becomes_34 : decode cX5_becomes 34 = .ok (.ireturn, 1) := by decide +kernel
theorem dX5_becomes_35 : decode cX5_becomes 35 = .ok (.iload_n 2, 1) := by decide +kernel
theorem dX5_becomes_36 : decode cX5_becomes 36 = .ok (.iconst 2, 1) := by decide +kernel
theorem dX5_becomes_37 : decode cX5_becomes 37 = .ok (.if_icmp .ne 25, 3) := by decide +kernel
theorem dX5_becomes_40 : decode cX5_becomes 40 = .ok (.aload_n 0, 1) := by decide +kernel
theorem dX5_becomes_41 : decode cX5_becomes 41 = .ok (.getfield 16, 3) := by decide +kernel
theorem dX5_becomes_44 : decode cX5_becomes 44 = .ok (.iload_n 1, 1) := by decide +kernel
theorem dX5_becomes_45 : decode cX5_becomes 45 = .ok (.iaload, 1) := by decide +kernel
theorem dX5_becomes_46 : decode cX5_becomes 46 = .ok (.iconst 2, 1) := by decide +kernel
theorem dX5_becomes_47 : decode cX5_becomes 47 = .ok (.if_icmp .eq 15, 3) := by decide +kernel
theorem dX5_becomes_50 : decode cX5_becomes 50 = .ok (.aload_n 0, 1) := by decide +kernel
theorem dX5_becomes_51 : decode cX5_becomes 51 = .ok (.invokevirtual 85, 3) := by decide +kernel
theorem dX5_becomes_54 : decode cX5_becomes 54 = .ok (.bipush 12, 2) := by decide +kernel
theorem dX5_becomes_56 : decode cX5_becomes 56 = .ok (.if_icmp .ne 6, 3) := by decide +kernel
theorem dX5_becomes_59 : decode cX5_becomes 59 = .ok (.bipush (-3), 2) := by decide +kernel
theorem dX5_becomes_61 : decode cX5_becomes 61 = .ok (.ireturn, 1) := by decide +kernel
theorem dX5_becomes_62 : decode cX5_becomes 62 = .ok (.aload_n 0, 1) := by decide +kernel
theorem dX5_becomes_63 : decode cX5_becomes 63 = .ok (.getfield 16, 3) := by decide +kernel
theorem dX5_becomes_66 : decode cX5_becomes 66 = .ok (.iload_n 1, 1) := by decide +kernel
theorem dX5_becomes_67 : decode cX5_becomes 67 = .ok (.iaload, 1) := by decide +kernel
theorem dX5_becomes_68 : decode cX5_becomes 68 = .ok (.istore_n 3, 1) := by decide +kernel
theorem dX5_becomes_69 : decode cX5_becomes 69 = .ok (.aload_n 0, 1) := by decide +kernel
theorem dX5_becomes_70 : decode cX5_becomes 70 = .ok (.getfield 16, 3) := by decide +kernel
theorem dX5_becomes_73 : decode cX5_becomes 73 = .ok (.iload_n 1, 1) := by decide +kernel
theorem dX5_becomes_74 : decode cX5_becomes 74 = .ok (.iload_n 2, 1) := by decide +kernel
theorem dX5_becomes_75 : decode cX5_becomes 75 = .ok (.iastore, 1) := by decide +kernel
theorem dX5_becomes_76 : decode cX5_becomes 76 = .ok (.aload_n 0, 1) := by decide +kernel
theorem dX5_becomes_77 : decode cX5_becomes 77 = .ok (.getfield 20, 3) := by decide +kernel
theorem dX5_becomes_80 : decode cX5_becomes 80 = .ok (.iload_n 1, 1) := by decide +kernel
theorem dX5_becomes_81 : decode cX5_becomes 81 = .ok (.bipush (-9), 2) := by decide +kernel
theorem dX5_becomes_83 : decode cX5_becomes 83 = .ok (.iastore, 1) := by decide +kernel
theorem dX5_becomes_84 : decode cX5_becomes 84 = .ok (.aload_n 0, 1) := by decide +kernel
theorem dX5_becomes_85 : decode cX5_becomes 85 = .ok (.iconst 0, 1) := by decide +kernel
theorem dX5_becomes_86 : decode cX5_becomes 86 = .ok (.putfield 61, 3) := by decide +kernel
theorem dX5_becomes_89 : decode cX5_becomes 89 = .ok (.iload_n 3, 1) := by decide +kernel
theorem dX5_becomes_90 : decode cX5_becomes 90 = .ok (.ireturn, 1) := by decide +kernel
theorem dX5_kind_0 : decode cX5_kind 0 = .ok (.aload_n 0, 1) := by decide +kernel
theorem dX5_kind_1 : decode cX5_kind 1 = .ok (.iconst 0, 1) := by decide +kernel
theorem dX5_kind_2 : decode cX5_kind 2 = .ok (.putfield 58, 3) := by decide +kernel
theorem dX5_kind_5 : decode cX5_kind 5 = .ok (.aload_n 0, 1) := by decide +kernel
theorem dX5_kind_6 : decode cX5_kind 6 = .ok (.iload_n 1, 1) := by decide +kernel
theorem dX5_kind_7 : decode cX5_kind 7 = .ok (.iload_n 2, 1) := by decide +kernel
theorem dX5_kind_8 : decode cX5_kind 8 = .ok (.invokevirtual 95, 3) := by decide +kernel
theorem dX5_kind_11 : decode cX5_kind 11 = .ok (.ireturn, 1) := by decide +kernel
theorem dX5_twin_0 : decode cX5_twin 0 = .ok (.aload_n 0, 1) := by decide +kernel
theorem dX5_twin_1 : decode cX5_twin 1 = .ok (.iconst 0, 1) := by decide +kernel
theorem dX5_twin_2 : decode cX5_twin 2 = .ok (.putfield 58, 3) := by decide +kernel
theorem dX5_twin_5 : decode cX5_twin 5 = .ok (.aload_n 0, 1) := by decide +kernel
theorem dX5_twin_6 : decode cX5_twin 6 = .ok (.iload_n 1, 1) := by decide +kernel
theorem dX5_twin_7 : decode cX5_twin 7 = .ok (.invokevirtual 88, 3) := by decide +kernel
theorem dX5_twin_10 : decode cX5_twin 10 = .ok (.ifCond .eq 26, 3) := by decide +kernel
theorem dX5_twin_13 : decode cX5_twin 13 = .ok (.aload_n 0, 1) := by decide +kernel
theorem dX5_twin_14 : decode cX5_twin 14 = .ok (.iload_n 2, 1) := by decide +kernel
theorem dX5_twin_15 : decode cX5_twin 15 = .ok (.invokevirtual 88, 3) := by decide +kernel
theorem dX5_twin_18 : decode cX5_twin 18 = .ok (.ifCond .eq 18, 3) := by decide +kernel
theorem dX5_twin_21 : decode cX5_twin 21 = .ok (.iload_n 1, 1) := by decide +kernel
theorem dX5_twin_22 : decode cX5_twin 22 = .ok (.iload_n 2, 1) := by decide +kernel
theorem dX5_twin_23 : decode cX5_twin 23 = .ok (.if_icmp .eq 13, 3) := by decide +kernel
theorem dX5_twin_26 : decode cX5_twin 26 = .ok (.aload_n 0, 1) := by decide +kernel
theorem dX5_twin_27 : decode cX5_twin 27 = .ok (.getfield 16, 3) := by decide +kernel
theorem dX5_twin_30 : decode cX5_twin 30 = .ok (.iload_n 2, 1) := by decide +kernel
theorem dX5_twin_31 : decode cX5_twin 31 = .ok (.iaload, 1) := by decide +kernel
theorem dX5_twin_32 : decode cX5_twin 32 = .ok (.iconst 2, 1) := by decide +kernel
theorem dX5_twin_33 : decode cX5_twin 33 = .ok (.if_icmp .eq 5, 3) := by decide +kernel
theorem dX5_twin_36 : decode cX5_twin 36 = .ok (.iconst (-1), 1) := by decide +kernel
theorem dX5_twin_37 : decode cX5_twin 37 = .ok (.ireturn, 1) := by decide +kernel
theorem dX5_twin_38 : decode cX5_twin 38 = .ok (.aload_n 0, 1) := by decide +kernel
theorem dX5_twin_39 : decode cX5_twin 39 = .ok (.iload_n 1, 1) := by decide +kernel
theorem dX5_twin_40 : decode cX5_twin 40 = .ok (.invokevirtual 92, 3) := by decide +kernel
theorem dX5_twin_43 : decode cX5_twin 43 = .ok (.ifCond .eq 6, 3) := by decide +kernel
theorem dX5_twin_46 : decode cX5_twin 46 = .ok (.bipush (-2), 2) := by decide +kernel
theorem dX5_twin_48 : decode cX5_twin 48 = .ok (.ireturn, 1) := by decide +kernel
theorem dX5_twin_49 : decode cX5_twin 49 = .ok (.aload_n 0, 1) := by decide +kernel
theorem dX5_twin_50 : decode cX5_twin 50 = .ok (.getfield 16, 3) := by decide +kernel
theorem dX5_twin_53 : decode cX5_twin 53 = .ok (.iload_n 1, 1) := by decide +kernel
theorem dX5_twin_54 : decode cX5_twin 54 = .ok (.iaload, 1) := by decide +kernel
theorem dX5_twin_55 : decode cX5_twin 55 = .ok (.istore 4, 2) := by decide +kernel
theorem dX5_twin_57 : decode cX5_twin 57 = .ok (.aload_n 0, 1) := by decide +kernel
theorem dX5_twin_58 : decode cX5_twin 58 = .ok (.getfield 16, 3) := by decide +kernel
theorem dX5_twin_61 : decode cX5_twin 61 = .ok (.iload_n 1, 1) := by decide +kernel
theorem dX5_twin_62 : decode cX5_twin 62 = .ok (.iload_n 3, 1) := by decide +kernel
theorem dX5_twin_63 : decode cX5_twin 63 = .ok (.ifCond .eq 7, 3) := by decide +kernel
theorem dX5_twin_66 : decode cX5_twin 66 = .ok (.iconst 4, 1) := by decide +kernel
theorem dX5_twin_67 : decode cX5_twin 67 = .ok (.goto 4, 3) := by decide +kernel
theorem dX5_twin_70 : decode cX5_twin 70 = .ok (.iconst 3, 1) := by decide +kernel
theorem dX5_twin_71 : decode cX5_twin 71 = .ok (.iastore, 1) := by decide +kernel
theorem dX5_twin_72 : decode cX5_twin 72 = .ok (.aload_n 0, 1) := by decide +kernel
theorem dX5_twin_73 : decode cX5_twin 73 = .ok (.getfield 20, 3) := by decide +kernel
theorem dX5_twin_76 : decode cX5_twin 76 = .ok (.iload_n 1, 1) := by decide +kernel
theorem dX5_twin_77 : decode cX5_twin 77 = .ok (.iload_n 2, 1) := by decide +kernel
theorem dX5_twin_78 : decode cX5_twin 78 = .ok (.iastore, 1) := by decide +kernel
theorem dX5_twin_79 : decode cX5_twin 79 = .ok (.aload_n 0, 1) := by decide +kernel
theorem dX5_twin_80 : decode cX5_twin 80 = .ok (.iconst 0, 1) := by decide +kernel
theorem dX5_twin_81 : decode cX5_twin 81 = .ok (.putfield 61, 3) := by decide +kernel
theorem dX5_twin_84 : decode cX5_twin 84 = .ok (.iload 4, 2) := by decide +kernel
theorem dX5_twin_86 : decode cX5_twin 86 = .ok (.ireturn, 1) := by decide +kernel
theorem dX5_about_0 : decode cX5_about 0 = .ok (.aload_n 0, 1) := by decide +kernel
theorem dX5_about_1 : decode cX5_about 1 = .ok (.iconst 0, 1) := by decide +kernel
theorem dX5_about_2 : decode cX5_about 2 = .ok (.putfield 58, 3) := by decide +kernel
theorem dX5_about_5 : decode cX5_about 5 = .ok (.aload_n 0, 1) := by decide +kernel
theorem dX5_about_6 : decode cX5_about 6 = .ok (.iload_n 1, 1) := by decide +kernel
theorem dX5_about_7 : decode cX5_about 7 = .ok (.invokevirtual 88, 3) := by decide +kernel
theorem dX5_about_10 : decode cX5_about 10 = .ok (.ifCond .eq 12, 3) := by decide +kernel
theorem dX5_about_13 : decode cX5_about 13 = .ok (.iload_n 2, 1) := by decide +kernel
theorem dX5_about_14 : decode cX5_about 14 = .ok (.iconst 0, 1) := by decide +kernel
theorem dX5_about_15 : decode cX5_about 15 = .ok (.iconst 4, 1) := by decide +kernel
theorem dX5_about_16 : decode cX5_about 16 = .ok (.invokestatic 81, 3) := by decide +kernel
theorem dX5_about_19 : decode cX5_about 19 = .ok (.ifCond .ne 5, 3) := by decide +kernel
theorem dX5_about_22 : decode cX5_about 22 = .ok (.iconst (-1), 1) := by decide +kernel
theorem dX5_about_23 : decode cX5_about 23 = .ok (.ireturn, 1) := by decide +kernel
theorem dX5_about_24 : decode cX5_about 24 = .ok (.iload_n 2, 1) := by decide +kernel
theorem dX5_about_25 : decode cX5_about 25 = .ok (.tableswitch 84 0 3 #[31, 38, 45, 66], 31) := by decide +kernel
theorem dX5_about_56 : decode cX5_about 56 = .ok (.aload_n 0, 1) := by decide +kernel
theorem dX5_about_57 : decode cX5_about 57 = .ok (.getfield 16, 3) := by decide +kernel
theorem dX5_about_60 : decode cX5_about 60 = .ok (.iload_n 1, 1) := by decide +kernel
theorem dX5_about_61 : decode cX5_about 61 = .ok (.iaload, 1) := by decide +kernel
theorem dX5_about_62 : decode cX5_about 62 = .ok (.ireturn, 1) := by decide +kernel
theorem dX5_about_63 : decode cX5_about 63 = .ok (.aload_n 0, 1) := by decide +kernel
theorem dX5_about_64 : decode cX5_about 64 = .ok (.getfield 20, 3) := by decide +kernel
theorem dX5_about_67 : decode cX5_about 67 = .ok (.iload_n 1, 1) := by decide +kernel
theorem dX5_about_68 : decode cX5_about 68 = .ok (.iaload, 1) := by decide +kernel
theorem dX5_about_69 : decode cX5_about 69 = .ok (.ireturn, 1) := by decide +kernel
theorem dX5_about_70 : decode cX5_about 70 = .ok (.aload_n 0, 1) := by decide +kernel
theorem dX5_about_71 : decode cX5_about 71 = .ok (.getfield 16, 3) := by decide +kernel
theorem dX5_about_74 : decode cX5_about 74 = .ok (.iload_n 1, 1) := by decide +kernel
theorem dX5_about_75 : decode cX5_about 75 = .ok (.iaload, 1) := by decide +kernel
theorem dX5_about_76 : decode cX5_about 76 = .ok (.iconst 2, 1) := by decide +kernel
theorem dX5_about_77 : decode cX5_about 77 = .ok (.if_icmp .ne 11, 3) := by decide +kernel
theorem dX5_about_80 : decode cX5_about 80 = .ok (.aload_n 0, 1) := by decide +kernel
theorem dX5_about_81 : decode cX5_about 81 = .ok (.iload_n 1, 1) := by decide +kernel
theorem dX5_about_82 : decode cX5_about 82 = .ok (.invokevirtual 99, 3) := by decide +kernel
theorem dX5_about_85 : decode cX5_about 85 = .ok (.goto 5, 3) := by decide +kernel
theorem dX5_about_88 : decode cX5_about 88 = .ok (.bipush (-9), 2) := by decide +kernel
theorem dX5_about_90 : decode cX5_about 90 = .ok (.ireturn, 1) := by decide +kernel
theorem dX5_about_91 : decode cX5_about 91 = .ok (.aload_n 0, 1) := by decide +kernel
theorem dX5_about_92 : decode cX5_about 92 = .ok (.getfield 69, 3) := by decide +kernel
theorem dX5_about_95 : decode cX5_about 95 = .ok (.ifCond .eq 7, 3) := by decide +kernel
theorem dX5_about_98 : decode cX5_about 98 = .ok (.iload_n 1, 1) := by decide +kernel
theorem dX5_about_99 : decode cX5_about 99 = .ok (.goto 9, 3) := by decide +kernel
theorem dX5_about_102 : decode cX5_about 102 = .ok (.aload_n 0, 1) := by decide +kernel
theorem dX5_about_103 : decode cX5_about 103 = .ok (.iload_n 1, 1) := by decide +kernel
theorem dX5_about_104 : decode cX5_about 104 = .ok (.iconst 0, 1) := by decide +kernel
theorem dX5_about_105 : decode cX5_about 105 = .ok (.invokevirtual 103, 3) := by decide +kernel
theorem dX5_about_108 : decode cX5_about 108 = .ok (.ireturn, 1) := by decide +kernel
theorem dX5_about_109 : decode cX5_about 109 = .ok (.aload_n 0, 1) := by decide +kernel
theorem dX5_about_110 : decode cX5_about 110 = .ok (.getfield 69, 3) := by decide +kernel
theorem dX5_about_113 : decode cX5_about 113 = .ok (.ifCond .eq 7, 3) := by decide +kernel
theorem dX5_about_116 : decode cX5_about 116 = .ok (.iload_n 1, 1) := by decide +kernel
theorem dX5_about_117 : decode cX5_about 117 = .ok (.goto 9, 3) := by decide +kernel
theorem dX5_about_120 : decode cX5_about 120 = .ok (.aload_n 0, 1) := by decide +kernel
theorem dX5_about_121 : decode cX5_about 121 = .ok (.iload_n 1, 1) := by decide +kernel
theorem dX5_about_122 : decode cX5_about 122 = .ok (.iconst 1, 1) := by decide +kernel
theorem dX5_about_123 : decode cX5_about 123 = .ok (.invokevirtual 103, 3) := by decide +kernel
theorem dX5_about_126 : decode cX5_about 126 = .ok (.ireturn, 1) := by decide +kernel
theorem dX5_told_0 : decode cX5_told 0 = .ok (.aload_n 0, 1) := by decide +kernel
theorem dX5_told_1 : decode cX5_told 1 = .ok (.iconst 0, 1) := by decide +kernel
theorem dX5_told_2 : decode cX5_told 2 = .ok (.putfield 58, 3) := by decide +kernel
theorem dX5_told_5 : decode cX5_told 5 = .ok (.iconst 0, 1) := by decide +kernel
theorem dX5_told_6 : decode cX5_told 6 = .ok (.istore_n 2, 1) := by decide +kernel
theorem dX5_told_7 : decode cX5_told 7 = .ok (.iconst 0, 1) := by decide +kernel
theorem dX5_told_8 : decode cX5_told 8 = .ok (.istore_n 3, 1) := by decide +kernel
theorem dX5_told_9 : decode cX5_told 9 = .ok (.iload_n 3, 1) := by decide +kernel
theorem dX5_told_10 : decode cX5_told 10 = .ok (.aload_n 0, 1) := by decide +kernel
theorem dX5_told_11 : decode cX5_told 11 = .ok (.invokevirtual 78, 3) := by decide +kernel
theorem dX5_told_14 : decode cX5_told 14 = .ok (.if_icmp .ge 27, 3) := by decide +kernel
theorem dX5_told_17 : decode cX5_told 17 = .ok (.iload_n 2, 1) := by decide +kernel
theorem dX5_told_18 : decode cX5_told 18 = .ok (.aload_n 0, 1) := by decide +kernel
theorem dX5_told_19 : decode cX5_told 19 = .ok (.getfield 16, 3) := by decide +kernel
theorem dX5_told_22 : decode cX5_told 22 = .ok (.iload_n 3, 1) := by decide +kernel
theorem dX5_told_23 : decode cX5_told 23 = .ok (.iaload, 1) := by decide +kernel
theorem dX5_told_24 : decode cX5_told 24 = .ok (.iconst 3, 1) := by decide +kernel
theorem dX5_told_25 : decode cX5_told 25 = .ok (.if_icmp .lt 7, 3) := by decide +kernel
theorem dX5_told_28 : decode cX5_told 28 = .ok (.iconst 1, 1) := by decide +kernel
theorem dX5_told_29 : decode cX5_told 29 = .ok (.goto 4, 3) := by decide +kernel
theorem dX5_told_32 : decode cX5_told 32 = .ok (.iconst 0, 1) := by decide +kernel
theorem dX5_told_33 : decode cX5_told 33 = .ok (.iadd, 1) := by decide +kernel
theorem dX5_told_34 : decode cX5_told 34 = .ok (.istore_n 2, 1) := by decide +kernel
theorem dX5_told_35 : decode cX5_told 35 = .ok (.iinc 3 1, 3) := by decide +kernel
theorem dX5_told_38 : decode cX5_told 38 = .ok (.goto (-29), 3) := by decide +kernel
theorem dX5_told_41 : decode cX5_told 41 = .ok (.iload_n 1, 1) := by decide +kernel
theorem dX5_told_42 : decode cX5_told 42 = .ok (.tableswitch 73 0 5 #[38, 43, 48, 61, 66, 71], 38) := by decide +kernel
theorem dX5_told_80 : decode cX5_told 80 = .ok (.aload_n 0, 1) := by decide +kernel
theorem dX5_told_81 : decode cX5_told 81 = .ok (.getfield 7, 3) := by decide +kernel
theorem dX5_told_84 : decode cX5_told 84 = .ok (.ireturn, 1) := by decide +kernel
theorem dX5_told_85 : decode cX5_told 85 = .ok (.aload_n 0, 1) := by decide +kernel
theorem dX5_told_86 : decode cX5_told 86 = .ok (.getfield 13, 3) := by decide +kernel
theorem dX5_told_89 : decode cX5_told 89 = .ok (.ireturn, 1) := by decide +kernel
theorem dX5_told_90 : decode cX5_told 90 = .ok (.aload_n 0, 1) := by decide +kernel
theorem dX5_told_91 : decode cX5_told 91 = .ok (.getfield 69, 3) := by decide +kernel
theorem dX5_told_94 : decode cX5_told 94 = .ok (.ifCond .eq 7, 3) := by decide +kernel
theorem dX5_told_97 : decode cX5_told 97 = .ok (.iconst 1, 1) := by decide +kernel
theorem dX5_told_98 : decode cX5_told 98 = .ok (.goto 4, 3) := by decide +kernel
theorem dX5_told_101 : decode cX5_told 101 = .ok (.iconst 0, 1) := by decide +kernel
theorem dX5_told_102 : decode cX5_told 102 = .ok (.ireturn, 1) := by decide +kernel
theorem dX5_told_103 : decode cX5_told 103 = .ok (.aload_n 0, 1) := by decide +kernel
theorem dX5_told_104 : decode cX5_told 104 = .ok (.invokevirtual 78, 3) := by decide +kernel
theorem dX5_told_107 : decode cX5_told 107 = .ok (.ireturn, 1) := by decide +kernel
theorem dX5_told_108 : decode cX5_told 108 = .ok (.aload_n 0, 1) := by decide +kernel
theorem dX5_told_109 : decode cX5_told 109 = .ok (.invokevirtual 85, 3) := by decide +kernel
theorem dX5_told_112 : decode cX5_told 112 = .ok (.ireturn, 1) := by decide +kernel
theorem dX5_told_113 : decode cX5_told 113 = .ok (.iload_n 2, 1) := by decide +kernel
theorem dX5_told_114 : decode cX5_told 114 = .ok (.ireturn, 1) := by decide +kernel
theorem dX5_told_115 : decode cX5_told 115 = .ok (.iconst (-1), 1) := by decide +kernel
theorem dX5_told_116 : decode cX5_told 116 = .ok (.ireturn, 1) := by decide +kernel
theorem dX5_opensBy_0 : decode cX5_opensBy 0 = .ok (.aload_n 0, 1) := by decide +kernel
theorem dX5_opensBy_1 : decode cX5_opensBy 1 = .ok (.getfield 16, 3) := by decide +kernel
theorem dX5_opensBy_4 : decode cX5_opensBy 4 = .ok (.iload_n 1, 1) := by decide +kernel
theorem dX5_opensBy_5 : decode cX5_opensBy 5 = .ok (.iaload, 1) := by decide +kernel
theorem dX5_opensBy_6 : decode cX5_opensBy 6 = .ok (.tableswitch 77 0 3 #[30, 32, 34, 53], 30) := by decide +kernel
theorem dX5_opensBy_36 : decode cX5_opensBy 36 = .ok (.iconst 0, 1) := by decide +kernel
theorem dX5_opensBy_37 : decode cX5_opensBy 37 = .ok (.ireturn, 1) := by decide +kernel
theorem dX5_opensBy_38 : decode cX5_opensBy 38 = .ok (.iconst 1, 1) := by decide +kernel
theorem dX5_opensBy_39 : decode cX5_opensBy 39 = .ok (.ireturn, 1) := by decide +kernel
theorem dX5_opensBy_40 : decode cX5_opensBy 40 = .ok (.iload_n 2, 1) := by decide +kernel
theorem dX5_opensBy_41 : decode cX5_opensBy 41 = .ok (.aload_n 0, 1) := by decide +kernel
theorem dX5_opensBy_42 : decode cX5_opensBy 42 = .ok (.iload_n 1, 1) := by decide +kernel
theorem dX5_opensBy_43 : decode cX5_opensBy 43 = .ok (.invokevirtual 99, 3) := by decide +kernel
theorem dX5_opensBy_46 : decode cX5_opensBy 46 = .ok (.ishr, 1) := by decide +kernel
theorem dX5_opensBy_47 : decode cX5_opensBy 47 = .ok (.iconst 1, 1) := by decide +kernel
theorem dX5_opensBy_48 : decode cX5_opensBy 48 = .ok (.iand, 1) := by decide +kernel
theorem dX5_opensBy_49 : decode cX5_opensBy 49 = .ok (.iconst 1, 1) := by decide +kernel
theorem dX5_opensBy_50 : decode cX5_opensBy 50 = .ok (.if_icmp .ne 7, 3) := by decide +kernel
theorem dX5_opensBy_53 : decode cX5_opensBy 53 = .ok (.iconst 1, 1) := by decide +kernel
theorem dX5_opensBy_54 : decode cX5_opensBy 54 = .ok (.goto 4, 3) := by decide +kernel
theorem dX5_opensBy_57 : decode cX5_opensBy 57 = .ok (.iconst 0, 1) := by decide +kernel
theorem dX5_opensBy_58 : decode cX5_opensBy 58 = .ok (.ireturn, 1) := by decide +kernel
theorem dX5_opensBy_59 : decode cX5_opensBy 59 = .ok (.iload_n 2, 1) := by decide +kernel
theorem dX5_opensBy_60 : decode cX5_opensBy 60 = .ok (.aload_n 0, 1) := by decide +kernel
theorem dX5_opensBy_61 : decode cX5_opensBy 61 = .ok (.aload_n 0, 1) := by decide +kernel
theorem dX5_opensBy_62 : decode cX5_opensBy 62 = .ok (.getfield 20, 3) := by decide +kernel
theorem dX5_opensBy_65 : decode cX5_opensBy 65 = .ok (.iload_n 1, 1) := by decide +kernel
theorem dX5_opensBy_66 : decode cX5_opensBy 66 = .ok (.iaload, 1) := by decide +kernel
theorem dX5_opensBy_67 : decode cX5_opensBy 67 = .ok (.invokevirtual 99, 3) := by decide +kernel
theorem dX5_opensBy_70 : decode cX5_opensBy 70 = .ok (.ishr, 1) := by decide +kernel
theorem dX5_opensBy_71 : decode cX5_opensBy 71 = .ok (.iconst 1, 1) := by decide +kernel
theorem dX5_opensBy_72 : decode cX5_opensBy 72 = .ok (.iand, 1) := by decide +kernel
theorem dX5_opensBy_73 : decode cX5_opensBy 73 = .ok (.iconst 1, 1) := by decide +kernel
theorem dX5_opensBy_74 : decode cX5_opensBy 74 = .ok (.if_icmp .ne 7, 3) := by decide +kernel
theorem dX5_opensBy_77 : decode cX5_opensBy 77 = .ok (.iconst 1, 1) := by decide +kernel
theorem dX5_opensBy_78 : decode cX5_opensBy 78 = .ok (.goto 4, 3) := by decide +kernel
theorem dX5_opensBy_81 : decode cX5_opensBy 81 = .ok (.iconst 0, 1) := by decide +kernel
theorem dX5_opensBy_82 : decode cX5_opensBy 82 = .ok (.ireturn, 1) := by decide +kernel
theorem dX5_opensBy_83 : decode cX5_opensBy 83 = .ok (.iload_n 2, 1) := by decide +kernel
theorem dX5_opensBy_84 : decode cX5_opensBy 84 = .ok (.aload_n 0, 1) := by decide +kernel
theorem dX5_opensBy_85 : decode cX5_opensBy 85 = .ok (.aload_n 0, 1) := by decide +kernel
theorem dX5_opensBy_86 : decode cX5_opensBy 86 = .ok (.getfield 20, 3) := by decide +kernel
theorem dX5_opensBy_89 : decode cX5_opensBy 89 = .ok (.iload_n 1, 1) := by decide +kernel
theorem dX5_opensBy_90 : decode cX5_opensBy 90 = .ok (.iaload, 1) := by decide +kernel
theorem dX5_opensBy_91 : decode cX5_opensBy 91 = .ok (.invokevirtual 99, 3) := by decide +kernel
theorem dX5_opensBy_94 : decode cX5_opensBy 94 = .ok (.ishr, 1) := by decide +kernel
theorem dX5_opensBy_95 : decode cX5_opensBy 95 = .ok (.iconst 1, 1) := by decide +kernel
theorem dX5_opensBy_96 : decode cX5_opensBy 96 = .ok (.iand, 1) := by decide +kernel
theorem dX5_opensBy_97 : decode cX5_opensBy 97 = .ok (.ifCond .ne 7, 3) := by decide +kernel
theorem dX5_opensBy_100 : decode cX5_opensBy 100 = .ok (.iconst 1, 1) := by decide +kernel
theorem dX5_opensBy_101 : decode cX5_opensBy 101 = .ok (.goto 4, 3) := by decide +kernel
theorem dX5_opensBy_104 : decode cX5_opensBy 104 = .ok (.iconst 0, 1) := by decide +kernel
theorem dX5_opensBy_105 : decode cX5_opensBy 105 = .ok (.ireturn, 1) := by decide +kernel
theorem dX5_opens_0 : decode cX5_opens 0 = .ok (.aload_n 0, 1) := by decide +kernel
theorem dX5_opens_1 : decode cX5_opens 1 = .ok (.iconst 0, 1) := by decide +kernel
theorem dX5_opens_2 : decode cX5_opens 2 = .ok (.putfield 58, 3) := by decide +kernel
theorem dX5_opens_5 : decode cX5_opens 5 = .ok (.aload_n 0, 1) := by decide +kernel
theorem dX5_opens_6 : decode cX5_opens 6 = .ok (.iload_n 1, 1) := by decide +kernel
theorem dX5_opens_7 : decode cX5_opens 7 = .ok (.invokevirtual 88, 3) := by decide +kernel
theorem dX5_opens_10 : decode cX5_opens 10 = .ok (.ifCond .eq 11, 3) := by decide +kernel
theorem dX5_opens_13 : decode cX5_opens 13 = .ok (.aload_n 0, 1) := by decide +kernel
theorem dX5_opens_14 : decode cX5_opens 14 = .ok (.iload_n 2, 1) := by decide +kernel
theorem dX5_opens_15 : decode cX5_opens 15 = .ok (.invokevirtual 107, 3) := by decide +kernel
theorem dX5_opens_18 : decode cX5_opens 18 = .ok (.ifCond .ne 5, 3) := by decide +kernel
theorem dX5_opens_21 : decode cX5_opens 21 = .ok (.iconst (-1), 1) := by decide +kernel
theorem dX5_opens_22 : decode cX5_opens 22 = .ok (.ireturn, 1) := by decide +kernel
theorem dX5_opens_23 : decode cX5_opens 23 = .ok (.aload_n 0, 1) := by decide +kernel
theorem dX5_opens_24 : decode cX5_opens 24 = .ok (.getfield 16, 3) := by decide +kernel
theorem dX5_opens_27 : decode cX5_opens 27 = .ok (.iload_n 1, 1) := by decide +kernel
theorem dX5_opens_28 : decode cX5_opens 28 = .ok (.iaload, 1) := by decide +kernel
theorem dX5_opens_29 : decode cX5_opens 29 = .ok (.istore_n 3, 1) := by decide +kernel
theorem dX5_opens_30 : decode cX5_opens 30 = .ok (.aload_n 0, 1) := by decide +kernel
theorem dX5_opens_31 : decode cX5_opens 31 = .ok (.dup, 1) := by decide +kernel
theorem dX5_opens_32 : decode cX5_opens 32 = .ok (.getfield 110, 3) := by decide +kernel
theorem dX5_opens_35 : decode cX5_opens 35 = .ok (.iload_n 3, 1) := by decide +kernel
theorem dX5_opens_36 : decode cX5_opens 36 = .ok (.ifCond .ne 7, 3) := by decide +kernel
theorem dX5_opens_39 : decode cX5_opens 39 = .ok (.lconst 1, 1) := by decide +kernel
theorem dX5_opens_40 : decode cX5_opens 40 = .ok (.goto 39, 3) := by decide +kernel
theorem dX5_opens_43 : decode cX5_opens 43 = .ok (.iload_n 3, 1) := by decide +kernel
theorem dX5_opens_44 : decode cX5_opens 44 = .ok (.iconst 1, 1) := by decide +kernel
theorem dX5_opens_45 : decode cX5_opens 45 = .ok (.if_icmp .ne 9, 3) := by decide +kernel
theorem dX5_opens_48 : decode cX5_opens 48 = .ok (.ldc2_w 114, 3) := by decide +kernel
theorem dX5_opens_51 : decode cX5_opens 51 = .ok (.goto 28, 3) := by decide +kernel
theorem dX5_opens_54 : decode cX5_opens 54 = .ok (.iload_n 3, 1) := by decide +kernel
theorem dX5_opens_55 : decode cX5_opens 55 = .ok (.iconst 2, 1) := by decide +kernel
theorem dX5_opens_56 : decode cX5_opens 56 = .ok (.if_icmp .ne 9, 3) := by decide +kernel
theorem dX5_opens_59 : decode cX5_opens 59 = .ok (.ldc2_w 116, 3) := by decide +kernel
theorem dX5_opens_62 : decode cX5_opens 62 = .ok (.goto 17, 3) := by decide +kernel
theorem dX5_opens_65 : decode cX5_opens 65 = .ok (.iload_n 3, 1) := by decide +kernel
theorem dX5_opens_66 : decode cX5_opens 66 = .ok (.iconst 3, 1) := by decide +kernel
theorem dX5_opens_67 : decode cX5_opens 67 = .ok (.if_icmp .ne 9, 3) := by decide +kernel
theorem dX5_opens_70 : decode cX5_opens 70 = .ok (.ldc2_w 118, 3) := by decide +kernel
theorem dX5_opens_73 : decode cX5_opens 73 = .ok (.goto 6, 3) := by decide +kernel
theorem dX5_opens_76 : decode cX5_opens 76 = .ok (.ldc2_w 120, 3) := by decide +kernel
theorem dX5_opens_79 : decode cX5_opens 79 = .ok (.ladd, 1) := by decide +kernel
theorem dX5_opens_80 : decode cX5_opens 80 = .ok (.putfield 110, 3) := by decide +kernel
theorem dX5_opens_83 : decode cX5_opens 83 = .ok (.aload_n 0, 1) := by decide +kernel
theorem dX5_opens_84 : decode cX5_opens 84 = .ok (.iload_n 1, 1) := by decide +kernel
theorem dX5_opens_85 : decode cX5_opens 85 = .ok (.iload_n 2, 1) := by decide +kernel
theorem dX5_opens_86 : decode cX5_opens 86 = .ok (.invokevirtual 122, 3) := by decide +kernel
theorem dX5_opens_89 : decode cX5_opens 89 = .ok (.ifCond .eq 7, 3) := by decide +kernel
theorem dX5_opens_92 : decode cX5_opens 92 = .ok (.iconst 1, 1) := by decide +kernel
theorem dX5_opens_93 : decode cX5_opens 93 = .ok (.goto 4, 3) := by decide +kernel
theorem dX5_opens_96 : decode cX5_opens 96 = .ok (.iconst 0, 1) := by decide +kernel
theorem dX5_opens_97 : decode cX5_opens 97 = .ok (.ireturn, 1) := by decide +kernel
theorem dX5_root_0 : decode cX5_root 0 = .ok (.iload_n 1, 1) := by decide +kernel
theorem dX5_root_1 : decode cX5_root 1 = .ok (.istore_n 2, 1) := by decide +kernel
theorem dX5_root_2 : decode cX5_root 2 = .ok (.aload_n 0, 1) := by decide +kernel
theorem dX5_root_3 : decode cX5_root 3 = .ok (.getfield 23, 3) := by decide +kernel
theorem dX5_root_6 : decode cX5_root 6 = .ok (.iload_n 2, 1) := by decide +kernel
theorem dX5_root_7 : decode cX5_root 7 = .ok (.iaload, 1) := by decide +kernel
theorem dX5_root_8 : decode cX5_root 8 = .ok (.iload_n 2, 1) := by decide +kernel
theorem dX5_root_9 : decode cX5_root 9 = .ok (.if_icmp .eq 13, 3) := by decide +kernel
theorem dX5_root_12 : decode cX5_root 12 = .ok (.aload_n 0, 1) := by decide +kernel
theorem dX5_root_13 : decode cX5_root 13 = .ok (.getfield 23, 3) := by decide +kernel
theorem dX5_root_16 : decode cX5_root 16 = .ok (.iload_n 2, 1) := by decide +kernel
theorem dX5_root_17 : decode cX5_root 17 = .ok (.iaload, 1) := by decide +kernel
theorem dX5_root_18 : decode cX5_root 18 = .ok (.istore_n 2, 1) := by decide +kernel
theorem dX5_root_19 : decode cX5_root 19 = .ok (.goto (-17), 3) := by decide +kernel
theorem dX5_root_22 : decode cX5_root 22 = .ok (.iload_n 2, 1) := by decide +kernel
theorem dX5_root_23 : decode cX5_root 23 = .ok (.ireturn, 1) := by decide +kernel
theorem dX5_joins_0 : decode cX5_joins 0 = .ok (.iconst 0, 1) := by decide +kernel
theorem dX5_joins_1 : decode cX5_joins 1 = .ok (.istore_n 2, 1) := by decide +kernel
theorem dX5_joins_2 : decode cX5_joins 2 = .ok (.iload_n 2, 1) := by decide +kernel
theorem dX5_joins_3 : decode cX5_joins 3 = .ok (.aload_n 0, 1) := by decide +kernel
theorem dX5_joins_4 : decode cX5_joins 4 = .ok (.invokevirtual 78, 3) := by decide +kernel
theorem dX5_joins_7 : decode cX5_joins 7 = .ok (.if_icmp .ge 21, 3) := by decide +kernel
theorem dX5_joins_10 : decode cX5_joins 10 = .ok (.aload_n 0, 1) := by decide +kernel
theorem dX5_joins_11 : decode cX5_joins 11 = .ok (.getfield 26, 3) := by decide +kernel
theorem dX5_joins_14 : decode cX5_joins 14 = .ok (.iload_n 2, 1) := by decide +kernel
theorem dX5_joins_15 : decode cX5_joins 15 = .ok (.aload_n 0, 1) := by decide +kernel
theorem dX5_joins_16 : decode cX5_joins 16 = .ok (.iload_n 2, 1) := by decide +kernel
theorem dX5_joins_17 : decode cX5_joins 17 = .ok (.iload_n 1, 1) := by decide +kernel
theorem dX5_joins_18 : decode cX5_joins 18 = .ok (.invokevirtual 122, 3) := by decide +kernel
theorem dX5_joins_21 : decode cX5_joins 21 = .ok (.bastore, 1) := by decide +kernel
theorem dX5_joins_22 : decode cX5_joins 22 = .ok (.iinc 2 1, 3) := by decide +kernel
theorem dX5_joins_25 : decode cX5_joins 25 = .ok (.goto (-23), 3) := by decide +kernel
theorem dX5_joins_28 : decode cX5_joins 28 = .ok (.iconst 0, 1) := by decide +kernel
theorem dX5_joins_29 : decode cX5_joins 29 = .ok (.istore_n 2, 1) := by decide +kernel
theorem dX5_joins_30 : decode cX5_joins 30 = .ok (.iload_n 2, 1) := by decide +kernel
theorem dX5_joins_31 : decode cX5_joins 31 = .ok (.aload_n 0, 1) := by decide +kernel
theorem dX5_joins_32 : decode cX5_joins 32 = .ok (.invokevirtual 72, 3) := by decide +kernel
theorem dX5_joins_35 : decode cX5_joins 35 = .ok (.if_icmp .ge 37, 3) := by decide +kernel
theorem dX5_joins_38 : decode cX5_joins 38 = .ok (.aload_n 0, 1) := by decide +kernel
theorem dX5_joins_39 : decode cX5_joins 39 = .ok (.getfield 23, 3) := by decide +kernel
theorem dX5_joins_42 : decode cX5_joins 42 = .ok (.iload_n 2, 1) := by decide +kernel
theorem dX5_joins_43 : decode cX5_joins 43 = .ok (.aload_n 0, 1) := by decide +kernel
theorem dX5_joins_44 : decode cX5_joins 44 = .ok (.getfield 69, 3) := by decide +kernel
theorem dX5_joins_47 : decode cX5_joins 47 = .ok (.ifCond .eq 12, 3) := by decide +kernel
theorem dX5_joins_50 : decode cX5_joins 50 = .ok (.aload_n 0, 1) := by decide +kernel
theorem dX5_joins_51 : decode cX5_joins 51 = .ok (.getfield 26, 3) := by decide +kernel
theorem dX5_joins_54 : decode cX5_joins 54 = .ok (.iload_n 2, 1) := by decide +kernel
theorem dX5_joins_55 : decode cX5_joins 55 = .ok (.baload, 1) := by decide +kernel
theorem dX5_joins_56 : decode cX5_joins 56 = .ok (.ifCond .eq 7, 3) := by decide +kernel
theorem dX5_joins_59 : decode cX5_joins 59 = .ok (.iload_n 2, 1) := by decide +kernel
theorem dX5_joins_60 : decode cX5_joins 60 = .ok (.goto 5, 3) := by decide +kernel
theorem dX5_joins_63 : decode cX5_joins 63 = .ok (.bipush (-9), 2) := by decide +kernel
theorem dX5_joins_65 : decode cX5_joins 65 = .ok (.iastore, 1) := by decide +kernel
theorem dX5_joins_66 : decode cX5_joins 66 = .ok (.iinc 2 1, 3) := by decide +kernel
theorem dX5_joins_69 : decode cX5_joins 69 = .ok (.goto (-39), 3) := by decide +kernel
theorem dX5_joins_72 : decode cX5_joins 72 = .ok (.iconst 0, 1) := by decide +kernel
theorem dX5_joins_73 : decode cX5_joins 73 = .ok (.istore_n 2, 1) := by decide +kernel
theorem dX5_joins_74 : decode cX5_joins 74 = .ok (.iload_n 2, 1) := by decide +kernel
theorem dX5_joins_75 : decode cX5_joins 75 = .ok (.aload_n 0, 1) := by decide +kernel
theorem dX5_joins_76 : decode cX5_joins 76 = .ok (.invokevirtual 75, 3) := by decide +kernel
theorem dX5_joins_79 : decode cX5_joins 79 = .ok (.if_icmp .ge 118, 3) := by decide +kernel
theorem dX5_joins_82 : decode cX5_joins 82 = .ok (.aload_n 0, 1) := by decide +kernel
theorem dX5_joins_83 : decode cX5_joins 83 = .ok (.iload_n 2, 1) := by decide +kernel
theorem dX5_joins_84 : decode cX5_joins 84 = .ok (.iconst 0, 1) := by decide +kernel
theorem dX5_joins_85 : decode cX5_joins 85 = .ok (.invokevirtual 103, 3) := by decide +kernel
theorem dX5_joins_88 : decode cX5_joins 88 = .ok (.istore_n 3, 1) := by decide +kernel
theorem dX5_joins_89 : decode cX5_joins 89 = .ok (.aload_n 0, 1) := by decide +kernel
theorem dX5_joins_90 : decode cX5_joins 90 = .ok (.iload_n 2, 1) := by decide +kernel
theorem dX5_joins_91 : decode cX5_joins 91 = .ok (.iconst 1, 1) := by decide +kernel
theorem dX5_joins_92 : decode cX5_joins 92 = .ok (.invokevirtual 103, 3) := by decide +kernel
theorem dX5_joins_95 : decode cX5_joins 95 = .ok (.istore 4, 2) := by decide +kernel
theorem dX5_joins_97 : decode cX5_joins 97 = .ok (.aload_n 0, 1) := by decide +kernel
theorem dX5_joins_98 : decode cX5_joins 98 = .ok (.getfield 23, 3) := by decide +kernel
theorem dX5_joins_101 : decode cX5_joins 101 = .ok (.iload_n 3, 1) := by decide +kernel
theorem dX5_joins_102 : decode cX5_joins 102 = .ok (.iaload, 1) := by decide +kernel
theorem dX5_joins_103 : decode cX5_joins 103 = .ok (.bipush (-9), 2) := by decide +kernel
theorem dX5_joins_105 : decode cX5_joins 105 = .ok (.if_icmp .eq 86, 3) := by decide +kernel
theorem dX5_joins_108 : decode cX5_joins 108 = .ok (.aload_n 0, 1) := by decide +kernel
theorem dX5_joins_109 : decode cX5_joins 109 = .ok (.getfield 23, 3) := by decide +kernel
theorem dX5_joins_112 : decode cX5_joins 112 = .ok (.iload 4, 2) := by decide +kernel
theorem dX5_joins_114 : decode cX5_joins 114 = .ok (.iaload, 1) := by decide +kernel
theorem dX5_joins_115 : decode cX5_joins 115 = .ok (.bipush (-9), 2) := by decide +kernel
theorem dX5_joins_117 : decode cX5_joins 117 = .ok (.if_icmp .eq 74, 3) := by decide +kernel
theorem dX5_joins_120 : decode cX5_joins 120 = .ok (.aload_n 0, 1) := by decide +kernel
theorem dX5_joins_121 : decode cX5_joins 121 = .ok (.getfield 69, 3) := by decide +kernel
theorem dX5_joins_124 : decode cX5_joins 124 = .ok (.ifCond .ne 12, 3) := by decide +kernel
theorem dX5_joins_127 : decode cX5_joins 127 = .ok (.aload_n 0, 1) := by decide +kernel
theorem dX5_joins_128 : decode cX5_joins 128 = .ok (.getfield 26, 3) := by decide +kernel
theorem dX5_joins_131 : decode cX5_joins 131 = .ok (.iload_n 2, 1) := by decide +kernel
theorem dX5_joins_132 : decode cX5_joins 132 = .ok (.baload, 1) := by decide +kernel
theorem dX5_joins_133 : decode cX5_joins 133 = .ok (.ifCond .eq 58, 3) := by decide +kernel
theorem dX5_joins_136 : decode cX5_joins 136 = .ok (.aload_n 0, 1) := by decide +kernel
theorem dX5_joins_137 : decode cX5_joins 137 = .ok (.iload_n 3, 1) := by decide +kernel
theorem dX5_joins_138 : decode cX5_joins 138 = .ok (.invokevirtual 126, 3) := by decide +kernel
theorem dX5_joins_141 : decode cX5_joins 141 = .ok (.istore 5, 2) := by decide +kernel
theorem dX5_joins_143 : decode cX5_joins 143 = .ok (.aload_n 0, 1) := by decide +kernel
theorem dX5_joins_144 : decode cX5_joins 144 = .ok (.iload 4, 2) := by decide +kernel
theorem dX5_joins_146 : decode cX5_joins 146 = .ok (.invokevirtual 126, 3) := by decide +kernel
theorem dX5_joins_149 : decode cX5_joins 149 = .ok (.istore 6, 2) := by decide +kernel
theorem dX5_joins_151 : decode cX5_joins 151 = .ok (.iload 5, 2) := by decide +kernel
theorem dX5_joins_153 : decode cX5_joins 153 = .ok (.iload 6, 2) := by decide +kernel
theorem dX5_joins_155 : decode cX5_joins 155 = .ok (.if_icmp .eq 36, 3) := by decide +kernel
theorem dX5_joins_158 : decode cX5_joins 158 = .ok (.aload_n 0, 1) := by decide +kernel
theorem dX5_joins_159 : decode cX5_joins 159 = .ok (.getfield 23, 3) := by decide +kernel
theorem dX5_joins_162 : decode cX5_joins 162 = .ok (.iload 5, 2) := by decide +kernel
theorem dX5_joins_164 : decode cX5_joins 164 = .ok (.iload 6, 2) := by decide +kernel
theorem dX5_joins_166 : decode cX5_joins 166 = .ok (.if_icmp .le 8, 3) := by decide +kernel
theorem dX5_joins_169 : decode cX5_joins 169 = .ok (.iload 5, 2) := by decide +kernel
theorem dX5_joins_171 : decode cX5_joins 171 = .ok (.goto 5, 3) := by decide +kernel
theorem dX5_joins_174 : decode cX5_joins 174 = .ok (.iload 6, 2) := by decide +kernel
theorem dX5_joins_176 : decode cX5_joins 176 = .ok (.iload 5, 2) := by decide +kernel
theorem dX5_joins_178 : decode cX5_joins 178 = .ok (.iload 6, 2) := by decide +kernel
theorem dX5_joins_180 : decode cX5_joins 180 = .ok (.if_icmp .ge 8, 3) := by decide +kernel
theorem dX5_joins_183 : decode cX5_joins 183 = .ok (.iload 5, 2) := by decide +kernel
theorem dX5_joins_185 : decode cX5_joins 185 = .ok (.goto 5, 3) := by decide +kernel
theorem dX5_joins_188 : decode cX5_joins 188 = .ok (.iload 6, 2) := by decide +kernel
theorem dX5_joins_190 : decode cX5_joins 190 = .ok (.iastore, 1) := by decide +kernel
theorem dX5_joins_191 : decode cX5_joins 191 = .ok (.iinc 2 1, 3) := by decide +kernel
theorem dX5_joins_194 : decode cX5_joins 194 = .ok (.goto (-120), 3) := by decide +kernel
theorem dX5_joins_197 : decode cX5_joins 197 = .ok (.return_, 1) := by decide +kernel
theorem dX5_heapOf_0 : decode cX5_heapOf 0 = .ok (.aload_n 0, 1) := by decide +kernel
theorem dX5_heapOf_1 : decode cX5_heapOf 1 = .ok (.getfield 23, 3) := by decide +kernel
theorem dX5_heapOf_4 : decode cX5_heapOf 4 = .ok (.iload_n 1, 1) := by decide +kernel
theorem dX5_heapOf_5 : decode cX5_heapOf 5 = .ok (.iaload, 1) := by decide +kernel
theorem dX5_heapOf_6 : decode cX5_heapOf 6 = .ok (.bipush (-9), 2) := by decide +kernel
theorem dX5_heapOf_8 : decode cX5_heapOf 8 = .ok (.if_icmp .ne 8, 3) := by decide +kernel
theorem dX5_heapOf_11 : decode cX5_heapOf 11 = .ok (.bipush (-9), 2) := by decide +kernel
theorem dX5_heapOf_13 : decode cX5_heapOf 13 = .ok (.goto 8, 3) := by decide +kernel
theorem dX5_heapOf_16 : decode cX5_heapOf 16 = .ok (.aload_n 0, 1) := by decide +kernel
theorem dX5_heapOf_17 : decode cX5_heapOf 17 = .ok (.iload_n 1, 1) := by decide +kernel
theorem dX5_heapOf_18 : decode cX5_heapOf 18 = .ok (.invokevirtual 126, 3) := by decide +kernel
theorem dX5_heapOf_21 : decode cX5_heapOf 21 = .ok (.ireturn, 1) := by decide +kernel
theorem dX5_isThrough_0 : decode cX5_isThrough 0 = .ok (.iconst 0, 1) := by decide +kernel
theorem dX5_isThrough_1 : decode cX5_isThrough 1 = .ok (.istore_n 2, 1) := by decide +kernel
theorem dX5_isThrough_2 : decode cX5_isThrough 2 = .ok (.iload_n 2, 1) := by decide +kernel
theorem dX5_isThrough_3 : decode cX5_isThrough 3 = .ok (.iload_n 1, 1) := by decide +kernel
theorem dX5_isThrough_4 : decode cX5_isThrough 4 = .ok (.ifCond .ne 10, 3) := by decide +kernel
theorem dX5_isThrough_7 : decode cX5_isThrough 7 = .ok (.aload_n 0, 1) := by decide +kernel
theorem dX5_isThrough_8 : decode cX5_isThrough 8 = .ok (.getfield 7, 3) := by decide +kernel
theorem dX5_isThrough_11 : decode cX5_isThrough 11 = .ok (.goto 7, 3) := by decide +kernel
theorem dX5_isThrough_14 : decode cX5_isThrough 14 = .ok (.aload_n 0, 1) := by decide +kernel
theorem dX5_isThrough_15 : decode cX5_isThrough 15 = .ok (.getfield 13, 3) := by decide +kernel
theorem dX5_isThrough_18 : decode cX5_isThrough 18 = .ok (.if_icmp .ge 111, 3) := by decide +kernel
theorem dX5_isThrough_21 : decode cX5_isThrough 21 = .ok (.iconst 0, 1) := by decide +kernel
theorem dX5_isThrough_22 : decode cX5_isThrough 22 = .ok (.istore_n 3, 1) := by decide +kernel
theorem dX5_isThrough_23 : decode cX5_isThrough 23 = .ok (.iload_n 3, 1) := by decide +kernel
theorem dX5_isThrough_24 : decode cX5_isThrough 24 = .ok (.iload_n 1, 1) := by decide +kernel
theorem dX5_isThrough_25 : decode cX5_isThrough 25 = .ok (.ifCond .ne 10, 3) := by decide +kernel
theorem dX5_isThrough_28 : decode cX5_isThrough 28 = .ok (.aload_n 0, 1) := by decide +kernel
theorem dX5_isThrough_29 : decode cX5_isThrough 29 = .ok (.getfield 7, 3) := by decide +kernel
theorem dX5_isThrough_32 : decode cX5_isThrough 32 = .ok (.goto 7, 3) := by decide +kernel
theorem dX5_isThrough_35 : decode cX5_isThrough 35 = .ok (.aload_n 0, 1) := by decide +kernel
theorem dX5_isThrough_36 : decode cX5_isThrough 36 = .ok (.getfield 13, 3) := by decide +kernel
theorem dX5_isThrough_39 : decode cX5_isThrough 39 = .ok (.if_icmp .ge 84, 3) := by decide +kernel
theorem dX5_isThrough_42 : decode cX5_isThrough 42 = .ok (.aload_n 0, 1) := by decide +kernel
theorem dX5_isThrough_43 : decode cX5_isThrough 43 = .ok (.iload_n 1, 1) := by decide +kernel
theorem dX5_isThrough_44 : decode cX5_isThrough 44 = .ok (.ifCond .ne 12, 3) := by decide +kernel
theorem dX5_isThrough_47 : decode cX5_isThrough 47 = .ok (.iload_n 2, 1) := by decide +kernel
theorem dX5_isThrough_48 : decode cX5_isThrough 48 = .ok (.aload_n 0, 1) := by decide +kernel
theorem dX5_isThrough_49 : decode cX5_isThrough 49 = .ok (.getfield 13, 3) := by decide +kernel
theorem dX5_isThrough_52 : decode cX5_isThrough 52 = .ok (.imul, 1) := by decide +kernel
theorem dX5_isThrough_53 : decode cX5_isThrough 53 = .ok (.goto 4, 3) := by decide +kernel
theorem dX5_isThrough_56 : decode cX5_isThrough 56 = .ok (.iload_n 2, 1) := by decide +kernel
theorem dX5_isThrough_57 : decode cX5_isThrough 57 = .ok (.invokevirtual 129, 3) := by decide +kernel
theorem dX5_isThrough_60 : decode cX5_isThrough 60 = .ok (.istore 4, 2) := by decide +kernel
theorem dX5_isThrough_62 : decode cX5_isThrough 62 = .ok (.aload_n 0, 1) := by decide +kernel
theorem dX5_isThrough_63 : decode cX5_isThrough 63 = .ok (.iload_n 1, 1) := by decide +kernel
theorem dX5_isThrough_64 : decode cX5_isThrough 64 = .ok (.ifCond .ne 19, 3) := by decide +kernel
theorem dX5_isThrough_67 : decode cX5_isThrough 67 = .ok (.iload_n 3, 1) := by decide +kernel
theorem dX5_isThrough_68 : decode cX5_isThrough 68 = .ok (.aload_n 0, 1) := by decide +kernel
theorem dX5_isThrough_69 : decode cX5_isThrough 69 = .ok (.getfield 13, 3) := by decide +kernel
theorem dX5_isThrough_72 : decode cX5_isThrough 72 = .ok (.imul, 1) := by decide +kernel
theorem dX5_isThrough_73 : decode cX5_isThrough 73 = .ok (.aload_n 0, 1) := by decide +kernel
theorem dX5_isThrough_74 : decode cX5_isThrough 74 = .ok (.getfield 13, 3) := by decide +kernel
theorem dX5_isThrough_77 : decode cX5_isThrough 77 = .ok (.iadd, 1) := by decide +kernel
theorem dX5_isThrough_78 : decode cX5_isThrough 78 = .ok (.iconst 1, 1) := by decide +kernel
theorem dX5_isThrough_79 : decode cX5_isThrough 79 = .ok (.isub, 1) := by decide +kernel
theorem dX5_isThrough_80 : decode cX5_isThrough 80 = .ok (.goto 16, 3) := by decide +kernel
theorem dX5_isThrough_83 : decode cX5_isThrough 83 = .ok (.aload_n 0, 1) := by decide +kernel
theorem dX5_isThrough_84 : decode cX5_isThrough 84 = .ok (.getfield 7, 3) := by decide +kernel
theorem dX5_isThrough_87 : decode cX5_isThrough 87 = .ok (.iconst 1, 1) := by decide +kernel
theorem dX5_isThrough_88 : decode cX5_isThrough 88 = .ok (.isub, 1) := by decide +kernel
theorem dX5_isThrough_89 : decode cX5_isThrough 89 = .ok (.aload_n 0, 1) := by decide +kernel
theorem dX5_isThrough_90 : decode cX5_isThrough 90 = .ok (.getfield 13, 3) := by decide +kernel
theorem dX5_isThrough_93 : decode cX5_isThrough 93 = .ok (.imul, 1) := by decide +kernel
theorem dX5_isThrough_94 : decode cX5_isThrough 94 = .ok (.iload_n 3, 1) := by decide +kernel
theorem dX5_isThrough_95 : decode cX5_isThrough 95 = .ok (.iadd, 1) := by decide +kernel
theorem dX5_isThrough_96 : decode cX5_isThrough 96 = .ok (.invokevirtual 129, 3) := by decide +kernel
theorem dX5_isThrough_99 : decode cX5_isThrough 99 = .ok (.istore 5, 2) := by decide +kernel
theorem dX5_isThrough_101 : decode cX5_isThrough 101 = .ok (.iload 4, 2) := by decide +kernel
theorem dX5_isThrough_103 : decode cX5_isThrough 103 = .ok (.bipush (-9), 2) := by decide +kernel
theorem dX5_isThrough_105 : decode cX5_isThrough 105 = .ok (.if_icmp .eq 12, 3) := by decide +kernel
theorem dX5_isThrough_108 : decode cX5_isThrough 108 = .ok (.iload 4, 2) := by decide +kernel
theorem dX5_isThrough_110 : decode cX5_isThrough 110 = .ok (.iload 5, 2) := by decide +kernel
theorem dX5_isThrough_112 : decode cX5_isThrough 112 = .ok (.if_icmp .ne 5, 3) := by decide +kernel
theorem dX5_isThrough_115 : decode cX5_isThrough 115 = .ok (.iconst 1, 1) := by decide +kernel
theorem dX5_isThrough_116 : decode cX5_isThrough 116 = .ok (.ireturn, 1) := by decide +kernel
theorem dX5_isThrough_117 : decode cX5_isThrough 117 = .ok (.iinc 3 1, 3) := by decide +kernel
theorem dX5_isThrough_120 : decode cX5_isThrough 120 = .ok (.goto (-97), 3) := by decide +kernel
theorem dX5_isThrough_123 : decode cX5_isThrough 123 = .ok (.iinc 2 1, 3) := by decide +kernel
theorem dX5_isThrough_126 : decode cX5_isThrough 126 = .ok (.goto (-124), 3) := by decide +kernel
theorem dX5_isThrough_129 : decode cX5_isThrough 129 = .ok (.iconst 0, 1) := by decide +kernel
theorem dX5_isThrough_130 : decode cX5_isThrough 130 = .ok (.ireturn, 1) := by decide +kernel
theorem dX5_needWays_0 : decode cX5_needWays 0 = .ok (.aload_n 0, 1) := by decide +kernel
theorem dX5_needWays_1 : decode cX5_needWays 1 = .ok (.getfield 61, 3) := by decide +kernel
theorem dX5_needWays_4 : decode cX5_needWays 4 = .ok (.ifCond .ne 64, 3) := by decide +kernel
theorem dX5_needWays_7 : decode cX5_needWays 7 = .ok (.iconst 0, 1) := by decide +kernel
theorem dX5_needWays_8 : decode cX5_needWays 8 = .ok (.istore_n 1, 1) := by decide +kernel
theorem dX5_needWays_9 : decode cX5_needWays 9 = .ok (.iload_n 1, 1) := by decide +kernel
theorem dX5_needWays_10 : decode cX5_needWays 10 = .ok (.iconst 1, 1) := by decide +kernel
theorem dX5_needWays_11 : decode cX5_needWays 11 = .ok (.aload_n 0, 1) := by decide +kernel
theorem dX5_needWays_12 : decode cX5_needWays 12 = .ok (.invokevirtual 85, 3) := by decide +kernel
theorem dX5_needWays_15 : decode cX5_needWays 15 = .ok (.ishl, 1) := by decide +kernel
theorem dX5_needWays_16 : decode cX5_needWays 16 = .ok (.if_icmp .ge 47, 3) := by decide +kernel
theorem dX5_needWays_19 : decode cX5_needWays 19 = .ok (.aload_n 0, 1) := by decide +kernel
theorem dX5_needWays_20 : decode cX5_needWays 20 = .ok (.iload_n 1, 1) := by decide +kernel
theorem dX5_needWays_21 : decode cX5_needWays 21 = .ok (.invokevirtual 132, 3) := by decide +kernel
theorem dX5_needWays_24 : decode cX5_needWays 24 = .ok (.aload_n 0, 1) := by decide +kernel
theorem dX5_needWays_25 : decode cX5_needWays 25 = .ok (.getfield 30, 3) := by decide +kernel
theorem dX5_needWays_28 : decode cX5_needWays 28 = .ok (.iload_n 1, 1) := by decide +kernel
theorem dX5_needWays_29 : decode cX5_needWays 29 = .ok (.aload_n 0, 1) := by decide +kernel
theorem dX5_needWays_30 : decode cX5_needWays 30 = .ok (.iconst 0, 1) := by decide +kernel
theorem dX5_needWays_31 : decode cX5_needWays 31 = .ok (.invokevirtual 135, 3) := by decide +kernel
theorem dX5_needWays_34 : decode cX5_needWays 34 = .ok (.ifCond .eq 7, 3) := by decide +kernel
theorem dX5_needWays_37 : decode cX5_needWays 37 = .ok (.iconst 1, 1) := by decide +kernel
theorem dX5_needWays_38 : decode cX5_needWays 38 = .ok (.goto 4, 3) := by decide +kernel
theorem dX5_needWays_41 : decode cX5_needWays 41 = .ok (.iconst 0, 1) := by decide +kernel
theorem dX5_needWays_42 : decode cX5_needWays 42 = .ok (.aload_n 0, 1) := by decide +kernel
theorem dX5_needWays_43 : decode cX5_needWays 43 = .ok (.iconst 1, 1) := by decide +kernel
theorem dX5_needWays_44 : decode cX5_needWays 44 = .ok (.invokevirtual 135, 3) := by decide +kernel
theorem dX5_needWays_47 : decode cX5_needWays 47 = .ok (.ifCond .eq 7, 3) := by decide +kernel
theorem dX5_needWays_50 : decode cX5_needWays 50 = .ok (.iconst 2, 1) := by decide +kernel
theorem dX5_needWays_51 : decode cX5_needWays 51 = .ok (.goto 4, 3) := by decide +kernel
theorem dX5_needWays_54 : decode cX5_needWays 54 = .ok (.iconst 0, 1) := by decide +kernel
theorem dX5_needWays_55 : decode cX5_needWays 55 = .ok (.iadd, 1) := by decide +kernel
theorem dX5_needWays_56 : decode cX5_needWays 56 = .ok (.iastore, 1) := by decide +kernel
theorem dX5_needWays_57 : decode cX5_needWays 57 = .ok (.iinc 1 1, 3) := by decide +kernel
theorem dX5_needWays_60 : decode cX5_needWays 60 = .ok (.goto (-51), 3) := by decide +kernel
theorem dX5_needWays_63 : decode cX5_needWays 63 = .ok (.aload_n 0, 1) := by decide +kernel
theorem dX5_needWays_64 : decode cX5_needWays 64 = .ok (.iconst 1, 1) := by decide +kernel
theorem dX5_needWays_65 : decode cX5_needWays 65 = .ok (.putfield 61, 3) := by decide +kernel
theorem dX5_needWays_68 : decode cX5_needWays 68 = .ok (.return_, 1) := by decide +kernel
theorem dX5_is_0 : decode cX5_is 0 = .ok (.aload_n 0, 1) := by decide +kernel
theorem dX5_is_1 : decode cX5_is 1 = .ok (.getfield 30, 3) := by decide +kernel
theorem dX5_is_4 : decode cX5_is 4 = .ok (.iload_n 1, 1) := by decide +kernel
theorem dX5_is_5 : decode cX5_is 5 = .ok (.iaload, 1) := by decide +kernel
theorem dX5_is_6 : decode cX5_is 6 = .ok (.istore_n 3, 1) := by decide +kernel
theorem dX5_is_7 : decode cX5_is 7 = .ok (.iload_n 2, 1) := by decide +kernel
theorem dX5_is_8 : decode cX5_is 8 = .ok (.ifCond .ne 18, 3) := by decide +kernel
theorem dX5_is_11 : decode cX5_is 11 = .ok (.iload_n 3, 1) := by decide +kernel
theorem dX5_is_12 : decode cX5_is 12 = .ok (.iconst 2, 1) := by decide +kernel
theorem dX5_is_13 : decode cX5_is 13 = .ok (.irem, 1) := by decide +kernel
theorem dX5_is_14 : decode cX5_is 14 = .ok (.iconst 1, 1) := by decide +kernel
theorem dX5_is_15 : decode cX5_is 15 = .ok (.if_icmp .ne 7, 3) := by decide +kernel
theorem dX5_is_18 : decode cX5_is 18 = .ok (.iconst 1, 1) := by decide +kernel
theorem dX5_is_19 : decode cX5_is 19 = .ok (.goto 52, 3) := by decide +kernel
theorem dX5_is_22 : decode cX5_is 22 = .ok (.iconst 0, 1) := by decide +kernel
theorem dX5_is_23 : decode cX5_is 23 = .ok (.goto 48, 3) := by decide +kernel
theorem dX5_is_26 : decode cX5_is 26 = .ok (.iload_n 2, 1) := by decide +kernel
theorem dX5_is_27 : decode cX5_is 27 = .ok (.iconst 1, 1) := by decide +kernel
theorem dX5_is_28 : decode cX5_is 28 = .ok (.if_icmp .ne 16, 3) := by decide +kernel
theorem dX5_is_31 : decode cX5_is 31 = .ok (.iload_n 3, 1) := by decide +kernel
theorem dX5_is_32 : decode cX5_is 32 = .ok (.iconst 1, 1) := by decide +kernel
theorem dX5_is_33 : decode cX5_is 33 = .ok (.if_icmp .le 7, 3) := by decide +kernel
theorem dX5_is_36 : decode cX5_is 36 = .ok (.iconst 1, 1) := by decide +kernel
theorem dX5_is_37 : decode cX5_is 37 = .ok (.goto 34, 3) := by decide +kernel
theorem dX5_is_40 : decode cX5_is 40 = .ok (.iconst 0, 1) := by decide +kernel
theorem dX5_is_41 : decode cX5_is 41 = .ok (.goto 30, 3) := by decide +kernel
theorem dX5_is_44 : decode cX5_is 44 = .ok (.iload_n 2, 1) := by decide +kernel
theorem dX5_is_45 : decode cX5_is 45 = .ok (.iconst 2, 1) := by decide +kernel
theorem dX5_is_46 : decode cX5_is 46 = .ok (.if_icmp .ne 16, 3) := by decide +kernel
theorem dX5_is_49 : decode cX5_is 49 = .ok (.iload_n 3, 1) := by decide +kernel
theorem dX5_is_50 : decode cX5_is 50 = .ok (.iconst 3, 1) := by decide +kernel
theorem dX5_is_51 : decode cX5_is 51 = .ok (.if_icmp .ne 7, 3) := by decide +kernel
theorem dX5_is_54 : decode cX5_is 54 = .ok (.iconst 1, 1) := by decide +kernel
theorem dX5_is_55 : decode cX5_is 55 = .ok (.goto 16, 3) := by decide +kernel
theorem dX5_is_58 : decode cX5_is 58 = .ok (.iconst 0, 1) := by decide +kernel
theorem dX5_is_59 : decode cX5_is 59 = .ok (.goto 12, 3) := by decide +kernel
theorem dX5_is_62 : decode cX5_is 62 = .ok (.iload_n 3, 1) := by decide +kernel
theorem dX5_is_63 : decode cX5_is 63 = .ok (.ifCond .le 7, 3) := by decide +kernel
theorem dX5_is_66 : decode cX5_is 66 = .ok (.iconst 1, 1) := by decide +kernel
theorem dX5_is_67 : decode cX5_is 67 = .ok (.goto 4, 3) := by decide +kernel
theorem dX5_is_70 : decode cX5_is 70 = .ok (.iconst 0, 1) := by decide +kernel
theorem dX5_is_71 : decode cX5_is 71 = .ok (.ireturn, 1) := by decide +kernel
theorem dX5_through_0 : decode cX5_through 0 = .ok (.aload_n 0, 1) := by decide +kernel
theorem dX5_through_1 : decode cX5_through 1 = .ok (.iconst 0, 1) := by decide +kernel
theorem dX5_through_2 : decode cX5_through 2 = .ok (.putfield 58, 3) := by decide +kernel
theorem dX5_through_5 : decode cX5_through 5 = .ok (.aload_n 0, 1) := by decide +kernel
theorem dX5_through_6 : decode cX5_through 6 = .ok (.iload_n 1, 1) := by decide +kernel
theorem dX5_through_7 : decode cX5_through 7 = .ok (.invokevirtual 107, 3) := by decide +kernel
theorem dX5_through_10 : decode cX5_through 10 = .ok (.ifCond .eq 12, 3) := by decide +kernel
theorem dX5_through_13 : decode cX5_through 13 = .ok (.iload_n 2, 1) := by decide +kernel
theorem dX5_through_14 : decode cX5_through 14 = .ok (.iconst 0, 1) := by decide +kernel
theorem dX5_through_15 : decode cX5_through 15 = .ok (.iconst 1, 1) := by decide +kernel
theorem dX5_through_16 : decode cX5_through 16 = .ok (.invokestatic 81, 3) := by decide +kernel
theorem dX5_through_19 : decode cX5_through 19 = .ok (.ifCond .ne 5, 3) := by decide +kernel
theorem dX5_through_22 : decode cX5_through 22 = .ok (.iconst (-1), 1) := by decide +kernel
theorem dX5_through_23 : decode cX5_through 23 = .ok (.ireturn, 1) := by decide +kernel
theorem dX5_through_24 : decode cX5_through 24 = .ok (.aload_n 0, 1) := by decide +kernel
theorem dX5_through_25 : decode cX5_through 25 = .ok (.invokevirtual 138, 3) := by decide +kernel
theorem dX5_through_28 : decode cX5_through 28 = .ok (.aload_n 0, 1) := by decide +kernel
theorem dX5_through_29 : decode cX5_through 29 = .ok (.iload_n 1, 1) := by decide +kernel
theorem dX5_through_30 : decode cX5_through 30 = .ok (.iload_n 2, 1) := by decide +kernel
theorem dX5_through_31 : decode cX5_through 31 = .ok (.invokevirtual 141, 3) := by decide +kernel
theorem dX5_through_34 : decode cX5_through 34 = .ok (.ifCond .eq 7, 3) := by decide +kernel
theorem dX5_through_37 : decode cX5_through 37 = .ok (.iconst 1, 1) := by decide +kernel
theorem dX5_through_38 : decode cX5_through 38 = .ok (.goto 4, 3) := by decide +kernel
theorem dX5_through_41 : decode cX5_through 41 = .ok (.iconst 0, 1) := by decide +kernel
theorem dX5_through_42 : decode cX5_through 42 = .ok (.ireturn, 1) := by decide +kernel
theorem dX5_roadRight_0 : decode cX5_roadRight 0 = .ok (.iload_n 3, 1) := by decide +kernel
theorem dX5_roadRight_1 : decode cX5_roadRight 1 = .ok (.ifCond .eq 19, 3) := by decide +kernel
theorem dX5_roadRight_4 : decode cX5_roadRight 4 = .ok (.aload_n 0, 1) := by decide +kernel
theorem dX5_roadRight_5 : decode cX5_roadRight 5 = .ok (.invokevirtual 65, 3) := by decide +kernel
theorem dX5_roadRight_8 : decode cX5_roadRight 8 = .ok (.iload_n 2, 1) := by decide +kernel
theorem dX5_roadRight_9 : decode cX5_roadRight 9 = .ok (.aload_n 0, 1) := by decide +kernel
theorem dX5_roadRight_10 : decode cX5_roadRight 10 = .ok (.getfield 13, 3) := by decide +kernel
theorem dX5_roadRight_13 : decode cX5_roadRight 13 = .ok (.imul, 1) := by decide +kernel
theorem dX5_roadRight_14 : decode cX5_roadRight 14 = .ok (.iadd, 1) := by decide +kernel
theorem dX5_roadRight_15 : decode cX5_roadRight 15 = .ok (.iload_n 1, 1) := by decide +kernel
theorem dX5_roadRight_16 : decode cX5_roadRight 16 = .ok (.iadd, 1) := by decide +kernel
theorem dX5_roadRight_17 : decode cX5_roadRight 17 = .ok (.goto 13, 3) := by decide +kernel
theorem dX5_roadRight_20 : decode cX5_roadRight 20 = .ok (.iload_n 1, 1) := by decide +kernel
theorem dX5_roadRight_21 : decode cX5_roadRight 21 = .ok (.aload_n 0, 1) := by decide +kernel
theorem dX5_roadRight_22 : decode cX5_roadRight 22 = .ok (.getfield 13, 3) := by decide +kernel
theorem dX5_roadRight_25 : decode cX5_roadRight 25 = .ok (.iconst 1, 1) := by decide +kernel
theorem dX5_roadRight_26 : decode cX5_roadRight 26 = .ok (.isub, 1) := by decide +kernel
theorem dX5_roadRight_27 : decode cX5_roadRight 27 = .ok (.imul, 1) := by decide +kernel
theorem dX5_roadRight_28 : decode cX5_roadRight 28 = .ok (.iload_n 2, 1) := by decide +kernel
theorem dX5_roadRight_29 : decode cX5_roadRight 29 = .ok (.iadd, 1) := by decide +kernel
theorem dX5_roadRight_30 : decode cX5_roadRight 30 = .ok (.ireturn, 1) := by decide +kernel
theorem dX5_roadDown_0 : decode cX5_roadDown 0 = .ok (.iload_n 3, 1) := by decide +kernel
theorem dX5_roadDown_1 : decode cX5_roadDown 1 = .ok (.ifCond .eq 16, 3) := by decide +kernel
theorem dX5_roadDown_4 : decode cX5_roadDown 4 = .ok (.iload_n 2, 1) := by decide +kernel
theorem dX5_roadDown_5 : decode cX5_roadDown 5 = .ok (.aload_n 0, 1) := by decide +kernel
theorem dX5_roadDown_6 : decode cX5_roadDown 6 = .ok (.getfield 13, 3) := by decide +kernel
theorem dX5_roadDown_9 : decode cX5_roadDown 9 = .ok (.iconst 1, 1) := by decide +kernel
theorem dX5_roadDown_10 : decode cX5_roadDown 10 = .ok (.isub, 1) := by decide +kernel
theorem dX5_roadDown_11 : decode cX5_roadDown 11 = .ok (.imul, 1) := by decide +kernel
theorem dX5_roadDown_12 : decode cX5_roadDown 12 = .ok (.iload_n 1, 1) := by decide +kernel
theorem dX5_roadDown_13 : decode cX5_roadDown 13 = .ok (.iadd, 1) := by decide +kernel
theorem dX5_roadDown_14 : decode cX5_roadDown 14 = .ok (.goto 16, 3) := by decide +kernel
theorem dX5_roadDown_17 : decode cX5_roadDown 17 = .ok (.aload_n 0, 1) := by decide +kernel
theorem dX5_roadDown_18 : decode cX5_roadDown 18 = .ok (.invokevirtual 65, 3) := by decide +kernel
theorem dX5_roadDown_21 : decode cX5_roadDown 21 = .ok (.iload_n 1, 1) := by decide +kernel
theorem dX5_roadDown_22 : decode cX5_roadDown 22 = .ok (.aload_n 0, 1) := by decide +kernel
theorem dX5_roadDown_23 : decode cX5_roadDown 23 = .ok (.getfield 13, 3) := by decide +kernel
theorem dX5_roadDown_26 : decode cX5_roadDown 26 = .ok (.imul, 1) := by decide +kernel
theorem dX5_roadDown_27 : decode cX5_roadDown 27 = .ok (.iadd, 1) := by decide +kernel
theorem dX5_roadDown_28 : decode cX5_roadDown 28 = .ok (.iload_n 2, 1) := by decide +kernel
theorem dX5_roadDown_29 : decode cX5_roadDown 29 = .ok (.iadd, 1) := by decide +kernel
theorem dX5_roadDown_30 : decode cX5_roadDown 30 = .ok (.ireturn, 1) := by decide +kernel
theorem dX5_isWall_0 : decode cX5_isWall 0 = .ok (.iload_n 1, 1) := by decide +kernel
theorem dX5_isWall_1 : decode cX5_isWall 1 = .ok (.ifCond .eq 10, 3) := by decide +kernel
theorem dX5_isWall_4 : decode cX5_isWall 4 = .ok (.aload_n 0, 1) := by decide +kernel
theorem dX5_isWall_5 : decode cX5_isWall 5 = .ok (.getfield 13, 3) := by decide +kernel
theorem dX5_isWall_8 : decode cX5_isWall 8 = .ok (.goto 7, 3) := by decide +kernel
theorem dX5_isWall_11 : decode cX5_isWall 11 = .ok (.aload_n 0, 1) := by decide +kernel
theorem dX5_isWall_12 : decode cX5_isWall 12 = .ok (.getfield 7, 3) := by decide +kernel
theorem dX5_isWall_15 : decode cX5_isWall 15 = .ok (.istore_n 2, 1) := by decide +kernel
theorem dX5_isWall_16 : decode cX5_isWall 16 = .ok (.iload_n 1, 1) := by decide +kernel
theorem dX5_isWall_17 : decode cX5_isWall 17 = .ok (.ifCond .eq 10, 3) := by decide +kernel
theorem dX5_isWall_20 : decode cX5_isWall 20 = .ok (.aload_n 0, 1) := by decide +kernel
theorem dX5_isWall_21 : decode cX5_isWall 21 = .ok (.getfield 7, 3) := by decide +kernel
theorem dX5_isWall_24 : decode cX5_isWall 24 = .ok (.goto 7, 3) := by decide +kernel
theorem dX5_isWall_27 : decode cX5_isWall 27 = .ok (.aload_n 0, 1) := by decide +kernel
theorem dX5_isWall_28 : decode cX5_isWall 28 = .ok (.getfield 13, 3) := by decide +kernel
theorem dX5_isWall_31 : decode cX5_isWall 31 = .ok (.iconst 1, 1) := by decide +kernel
theorem dX5_isWall_32 : decode cX5_isWall 32 = .ok (.isub, 1) := by decide +kernel
theorem dX5_isWall_33 : decode cX5_isWall 33 = .ok (.istore_n 3, 1) := by decide +kernel
theorem dX5_isWall_34 : decode cX5_isWall 34 = .ok (.iconst 0, 1) := by decide +kernel
theorem dX5_isWall_35 : decode cX5_isWall 35 = .ok (.istore 4, 2) := by decide +kernel
theorem dX5_isWall_37 : decode cX5_isWall 37 = .ok (.iload 4, 2) := by decide +kernel
theorem dX5_isWall_39 : decode cX5_isWall 39 = .ok (.bipush 36, 2) := by decide +kernel
theorem dX5_isWall_41 : decode cX5_isWall 41 = .ok (.if_icmp .ge 27, 3) := by decide +kernel
theorem dX5_isWall_44 : decode cX5_isWall 44 = .ok (.aload_n 0, 1) := by decide +kernel
theorem dX5_isWall_45 : decode cX5_isWall 45 = .ok (.getfield 33, 3) := by decide +kernel
theorem dX5_isWall_48 : decode cX5_isWall 48 = .ok (.iload 4, 2) := by decide +kernel
theorem dX5_isWall_50 : decode cX5_isWall 50 = .ok (.iload 4, 2) := by decide +kernel
theorem dX5_isWall_52 : decode cX5_isWall 52 = .ok (.iload_n 3, 1) := by decide +kernel
theorem dX5_isWall_53 : decode cX5_isWall 53 = .ok (.if_icmp .ge 7, 3) := by decide +kernel
theorem dX5_isWall_56 : decode cX5_isWall 56 = .ok (.iconst 1, 1) := by decide +kernel
theorem dX5_isWall_57 : decode cX5_isWall 57 = .ok (.goto 4, 3) := by decide +kernel
theorem dX5_isWall_60 : decode cX5_isWall 60 = .ok (.iconst 0, 1) := by decide +kernel
theorem dX5_isWall_61 : decode cX5_isWall 61 = .ok (.bastore, 1) := by decide +kernel
theorem dX5_isWall_62 : decode cX5_isWall 62 = .ok (.iinc 4 1, 3) := by decide +kernel
theorem dX5_isWall_65 : decode cX5_isWall 65 = .ok (.goto (-28), 3) := by decide +kernel
theorem dX5_isWall_68 : decode cX5_isWall 68 = .ok (.iconst 1, 1) := by decide +kernel
theorem dX5_isWall_69 : decode cX5_isWall 69 = .ok (.istore 4, 2) := by decide +kernel
theorem dX5_isWall_71 : decode cX5_isWall 71 = .ok (.iload 4, 2) := by decide +kernel
theorem dX5_isWall_73 : decode cX5_isWall 73 = .ok (.ifCond .eq 194, 3) := by decide +kernel
theorem dX5_isWall_76 : decode cX5_isWall 76 = .ok (.iconst 0, 1) := by decide +kernel
theorem dX5_isWall_77 : decode cX5_isWall 77 = .ok (.istore 4, 2) := by decide +kernel
theorem dX5_isWall_79 : decode cX5_isWall 79 = .ok (.iconst 0, 1) := by decide +kernel
theorem dX5_isWall_80 : decode cX5_isWall 80 = .ok (.istore 5, 2) := by decide +kernel
theorem dX5_isWall_82 : decode cX5_isWall 82 = .ok (.iload 5, 2) := by decide +kernel
theorem dX5_isWall_84 : decode cX5_isWall 84 = .ok (.iload_n 2, 1) := by decide +kernel
theorem dX5_isWall_85 : decode cX5_isWall 85 = .ok (.if_icmp .gt 179, 3) := by decide +kernel
theorem dX5_isWall_88 : decode cX5_isWall 88 = .ok (.iconst 0, 1) := by decide +kernel
theorem dX5_isWall_89 : decode cX5_isWall 89 = .ok (.istore 6, 2) := by decide +kernel
theorem dX5_isWall_91 : decode cX5_isWall 91 = .ok (.iload 6, 2) := by decide +kernel
theorem dX5_isWall_93 : decode cX5_isWall 93 = .ok (.iload_n 3, 1) := by decide +kernel
theorem dX5_isWall_94 : decode cX5_isWall 94 = .ok (.if_icmp .ge 164, 3) := by decide +kernel
theorem dX5_isWall_97 : decode cX5_isWall 97 = .ok (.bipush 6, 2) := by decide +kernel
theorem dX5_isWall_99 : decode cX5_isWall 99 = .ok (.iload 5, 2) := by decide +kernel
theorem dX5_isWall_101 : decode cX5_isWall 101 = .ok (.imul, 1) := by decide +kernel
theorem dX5_isWall_102 : decode cX5_isWall 102 = .ok (.iload 6, 2) := by decide +kernel
theorem dX5_isWall_104 : decode cX5_isWall 104 = .ok (.iadd, 1) := by decide +kernel
theorem dX5_isWall_105 : decode cX5_isWall 105 = .ok (.istore 7, 2) := by decide +kernel
theorem dX5_isWall_107 : decode cX5_isWall 107 = .ok (.iload 5, 2) := by decide +kernel
theorem dX5_isWall_109 : decode cX5_isWall 109 = .ok (.iload_n 2, 1) := by decide +kernel
theorem dX5_isWall_110 : decode cX5_isWall 110 = .ok (.if_icmp .ge 62, 3) := by decide +kernel
theorem dX5_isWall_113 : decode cX5_isWall 113 = .ok (.aload_n 0, 1) := by decide +kernel
theorem dX5_isWall_114 : decode cX5_isWall 114 = .ok (.getfield 26, 3) := by decide +kernel
theorem dX5_isWall_117 : decode cX5_isWall 117 = .ok (.aload_n 0, 1) := by decide +kernel
theorem dX5_isWall_118 : decode cX5_isWall 118 = .ok (.iload 5, 2) := by decide +kernel
theorem dX5_isWall_120 : decode cX5_isWall 120 = .ok (.iload 6, 2) := by decide +kernel
theorem dX5_isWall_122 : decode cX5_isWall 122 = .ok (.iload_n 1, 1) := by decide +kernel
theorem dX5_isWall_123 : decode cX5_isWall 123 = .ok (.invokevirtual 144, 3) := by decide +kernel
theorem dX5_isWall_126 : decode cX5_isWall 126 = .ok (.baload, 1) := by decide +kernel
theorem dX5_isWall_127 : decode cX5_isWall 127 = .ok (.ifCond .ne 45, 3) := by decide +kernel
theorem dX5_isWall_130 : decode cX5_isWall 130 = .ok (.aload_n 0, 1) := by decide +kernel
theorem dX5_isWall_131 : decode cX5_isWall 131 = .ok (.getfield 33, 3) := by decide +kernel
theorem dX5_isWall_134 : decode cX5_isWall 134 = .ok (.iload 7, 2) := by decide +kernel
theorem dX5_isWall_136 : decode cX5_isWall 136 = .ok (.baload, 1) := by decide +kernel
theorem dX5_isWall_137 : decode cX5_isWall 137 = .ok (.aload_n 0, 1) := by decide +kernel
theorem dX5_isWall_138 : decode cX5_isWall 138 = .ok (.getfield 33, 3) := by decide +kernel
theorem dX5_isWall_141 : decode cX5_isWall 141 = .ok (.iload 7, 2) := by decide +kernel
theorem dX5_isWall_143 : decode cX5_isWall 143 = .ok (.bipush 6, 2) := by decide +kernel
theorem dX5_isWall_145 : decode cX5_isWall 145 = .ok (.iadd, 1) := by decide +kernel
theorem dX5_isWall_146 : decode cX5_isWall 146 = .ok (.baload, 1) := by decide +kernel
theorem dX5_isWall_147 : decode cX5_isWall 147 = .ok (.if_icmp .eq 25, 3) := by decide +kernel
theorem dX5_isWall_150 : decode cX5_isWall 150 = .ok (.aload_n 0, 1) := by decide +kernel
theorem dX5_isWall_151 : decode cX5_isWall 151 = .ok (.getfield 33, 3) := by decide +kernel
theorem dX5_isWall_154 : decode cX5_isWall 154 = .ok (.iload 7, 2) := by decide +kernel
theorem dX5_isWall_156 : decode cX5_isWall 156 = .ok (.iconst 1, 1) := by decide +kernel
theorem dX5_isWall_157 : decode cX5_isWall 157 = .ok (.bastore, 1) := by decide +kernel
theorem dX5_isWall_158 : decode cX5_isWall 158 = .ok (.aload_n 0, 1) := by decide +kernel
theorem dX5_isWall_159 : decode cX5_isWall 159 = .ok (.getfield 33, 3) := by decide +kernel
theorem dX5_isWall_162 : decode cX5_isWall 162 = .ok (.iload 7, 2) := by decide +kernel
theorem dX5_isWall_164 : decode cX5_isWall 164 = .ok (.bipush 6, 2) := by decide +kernel
theorem dX5_isWall_166 : decode cX5_isWall 166 = .ok (.iadd, 1) := by decide +kernel
theorem dX5_isWall_167 : decode cX5_isWall 167 = .ok (.iconst 1, 1) := by decide +kernel
theorem dX5_isWall_168 : decode cX5_isWall 168 = .ok (.bastore, 1) := by decide +kernel
theorem dX5_isWall_169 : decode cX5_isWall 169 = .ok (.iconst 1, 1) := by decide +kernel
theorem dX5_isWall_170 : decode cX5_isWall 170 = .ok (.istore 4, 2) := by decide +kernel
theorem dX5_isWall_172 : decode cX5_isWall 172 = .ok (.iload 5, 2) := by decide +kernel
theorem dX5_isWall_174 : decode cX5_isWall 174 = .ok (.ifCond .le 78, 3) := by decide +kernel
theorem dX5_isWall_177 : decode cX5_isWall 177 = .ok (.iload 5, 2) := by decide +kernel
theorem dX5_isWall_179 : decode cX5_isWall 179 = .ok (.iload_n 2, 1) := by decide +kernel
theorem dX5_isWall_180 : decode cX5_isWall 180 = .ok (.if_icmp .ge 72, 3) := by decide +kernel
theorem dX5_isWall_183 : decode cX5_isWall 183 = .ok (.iload 6, 2) := by decide +kernel
theorem dX5_isWall_185 : decode cX5_isWall 185 = .ok (.iconst 1, 1) := by decide +kernel
theorem dX5_isWall_186 : decode cX5_isWall 186 = .ok (.iadd, 1) := by decide +kernel
theorem dX5_isWall_187 : decode cX5_isWall 187 = .ok (.iload_n 3, 1) := by decide +kernel
theorem dX5_isWall_188 : decode cX5_isWall 188 = .ok (.if_icmp .ge 64, 3) := by decide +kernel
theorem dX5_isWall_191 : decode cX5_isWall 191 = .ok (.aload_n 0, 1) := by decide +kernel
theorem dX5_isWall_192 : decode cX5_isWall 192 = .ok (.getfield 26, 3) := by decide +kernel
theorem dX5_isWall_195 : decode cX5_isWall 195 = .ok (.aload_n 0, 1) := by decide +kernel
theorem dX5_isWall_196 : decode cX5_isWall 196 = .ok (.iload 5, 2) := by decide +kernel
theorem dX5_isWall_198 : decode cX5_isWall 198 = .ok (.iconst 1, 1) := by decide +kernel
theorem dX5_isWall_199 : decode cX5_isWall 199 = .ok (.isub, 1) := by decide +kernel
theorem dX5_isWall_200 : decode cX5_isWall 200 = .ok (.iload 6, 2) := by decide +kernel
theorem dX5_isWall_202 : decode cX5_isWall 202 = .ok (.iconst 1, 1) := by decide +kernel
theorem dX5_isWall_203 : decode cX5_isWall 203 = .ok (.iadd, 1) := by decide +kernel
theorem dX5_isWall_204 : decode cX5_isWall 204 = .ok (.iload_n 1, 1) := by decide +kernel
theorem dX5_isWall_205 : decode cX5_isWall 205 = .ok (.invokevirtual 148, 3) := by decide +kernel
theorem dX5_isWall_208 : decode cX5_isWall 208 = .ok (.baload, 1) := by decide +kernel
theorem dX5_isWall_209 : decode cX5_isWall 209 = .ok (.ifCond .ne 43, 3) := by decide +kernel
theorem dX5_isWall_212 : decode cX5_isWall 212 = .ok (.aload_n 0, 1) := by decide +kernel
theorem dX5_isWall_213 : decode cX5_isWall 213 = .ok (.getfield 33, 3) := by decide +kernel
theorem dX5_isWall_216 : decode cX5_isWall 216 = .ok (.iload 7, 2) := by decide +kernel
theorem dX5_isWall_218 : decode cX5_isWall 218 = .ok (.baload, 1) := by decide +kernel
theorem dX5_isWall_219 : decode cX5_isWall 219 = .ok (.aload_n 0, 1) := by decide +kernel
theorem dX5_isWall_220 : decode cX5_isWall 220 = .ok (.getfield 33, 3) := by decide +kernel
theorem dX5_isWall_223 : decode cX5_isWall 223 = .ok (.iload 7, 2) := by decide +kernel
theorem dX5_isWall_225 : decode cX5_isWall 225 = .ok (.iconst 1, 1) := by decide +kernel
theorem dX5_isWall_226 : decode cX5_isWall 226 = .ok (.iadd, 1) := by decide +kernel
theorem dX5_isWall_227 : decode cX5_isWall 227 = .ok (.baload, 1) := by decide +kernel
theorem dX5_isWall_228 : decode cX5_isWall 228 = .ok (.if_icmp .eq 24, 3) := by decide +kernel
theorem dX5_isWall_231 : decode cX5_isWall 231 = .ok (.aload_n 0, 1) := by decide +kernel
theorem dX5_isWall_232 : decode cX5_isWall 232 = .ok (.getfield 33, 3) := by decide +kernel
theorem dX5_isWall_235 : decode cX5_isWall 235 = .ok (.iload 7, 2) := by decide +kernel
theorem dX5_isWall_237 : decode cX5_isWall 237 = .ok (.iconst 1, 1) := by decide +kernel
theorem dX5_isWall_238 : decode cX5_isWall 238 = .ok (.bastore, 1) := by decide +kernel
theorem dX5_isWall_239 : decode cX5_isWall 239 = .ok (.aload_n 0, 1) := by decide +kernel
theorem dX5_isWall_240 : decode cX5_isWall 240 = .ok (.getfield 33, 3) := by decide +kernel
theorem dX5_isWall_243 : decode cX5_isWall 243 = .ok (.iload 7, 2) := by decide +kernel
theorem dX5_isWall_245 : decode cX5_isWall 245 = .ok (.iconst 1, 1) := by decide +kernel
theorem dX5_isWall_246 : decode cX5_isWall 246 = .ok (.iadd, 1) := by decide +kernel
theorem dX5_isWall_247 : decode cX5_isWall 247 = .ok (.iconst 1, 1) := by decide +kernel
theorem dX5_isWall_248 : decode cX5_isWall 248 = .ok (.bastore, 1) := by decide +kernel
theorem dX5_isWall_249 : decode cX5_isWall 249 = .ok (.iconst 1, 1) := by decide +kernel
theorem dX5_isWall_250 : decode cX5_isWall 250 = .ok (.istore 4, 2) := by decide +kernel
theorem dX5_isWall_252 : decode cX5_isWall 252 = .ok (.iinc 6 1, 3) := by decide +kernel
theorem dX5_isWall_255 : decode cX5_isWall 255 = .ok (.goto (-164), 3) := by decide +kernel
theorem dX5_isWall_258 : decode cX5_isWall 258 = .ok (.iinc 5 1, 3) := by decide +kernel
theorem dX5_isWall_261 : decode cX5_isWall 261 = .ok (.goto (-179), 3) := by decide +kernel
theorem dX5_isWall_264 : decode cX5_isWall 264 = .ok (.goto (-193), 3) := by decide +kernel
theorem dX5_isWall_267 : decode cX5_isWall 267 = .ok (.iconst 0, 1) := by decide +kernel
theorem dX5_isWall_268 : decode cX5_isWall 268 = .ok (.istore 5, 2) := by decide +kernel
theorem dX5_isWall_270 : decode cX5_isWall 270 = .ok (.iconst 0, 1) := by decide +kernel
theorem dX5_isWall_271 : decode cX5_isWall 271 = .ok (.istore 6, 2) := by decide +kernel
theorem dX5_isWall_273 : decode cX5_isWall 273 = .ok (.iload 6, 2) := by decide +kernel
theorem dX5_isWall_275 : decode cX5_isWall 275 = .ok (.iload_n 3, 1) := by decide +kernel
theorem dX5_isWall_276 : decode cX5_isWall 276 = .ok (.if_icmp .ge 26, 3) := by decide +kernel
theorem dX5_isWall_279 : decode cX5_isWall 279 = .ok (.iload 5, 2) := by decide +kernel
theorem dX5_isWall_281 : decode cX5_isWall 281 = .ok (.aload_n 0, 1) := by decide +kernel
theorem dX5_isWall_282 : decode cX5_isWall 282 = .ok (.getfield 33, 3) := by decide +kernel
theorem dX5_isWall_285 : decode cX5_isWall 285 = .ok (.bipush 6, 2) := by decide +kernel
theorem dX5_isWall_287 : decode cX5_isWall 287 = .ok (.iload_n 2, 1) := by decide +kernel
theorem dX5_isWall_288 : decode cX5_isWall 288 = .ok (.imul, 1) := by decide +kernel
theorem dX5_isWall_289 : decode cX5_isWall 289 = .ok (.iload 6, 2) := by decide +kernel
theorem dX5_isWall_291 : decode cX5_isWall 291 = .ok (.iadd, 1) := by decide +kernel
theorem dX5_isWall_292 : decode cX5_isWall 292 = .ok (.baload, 1) := by decide +kernel
theorem dX5_isWall_293 : decode cX5_isWall 293 = .ok (.ior, 1) := by decide +kernel
theorem dX5_isWall_294 : decode cX5_isWall 294 = .ok (.istore 5, 2) := by decide +kernel
theorem dX5_isWall_296 : decode cX5_isWall 296 = .ok (.iinc 6 1, 3) := by decide +kernel
theorem dX5_isWall_299 : decode cX5_isWall 299 = .ok (.goto (-26), 3) := by decide +kernel
theorem dX5_isWall_302 : decode cX5_isWall 302 = .ok (.iload 5, 2) := by decide +kernel
theorem dX5_isWall_304 : decode cX5_isWall 304 = .ok (.ireturn, 1) := by decide +kernel
theorem dX5_wall_0 : decode cX5_wall 0 = .ok (.aload_n 0, 1) := by decide +kernel
theorem dX5_wall_1 : decode cX5_wall 1 = .ok (.iconst 0, 1) := by decide +kernel
theorem dX5_wall_2 : decode cX5_wall 2 = .ok (.putfield 58, 3) := by decide +kernel
theorem dX5_wall_5 : decode cX5_wall 5 = .ok (.aload_n 0, 1) := by decide +kernel
theorem dX5_wall_6 : decode cX5_wall 6 = .ok (.iload_n 1, 1) := by decide +kernel
theorem dX5_wall_7 : decode cX5_wall 7 = .ok (.invokevirtual 107, 3) := by decide +kernel
theorem dX5_wall_10 : decode cX5_wall 10 = .ok (.ifCond .eq 12, 3) := by decide +kernel
theorem dX5_wall_13 : decode cX5_wall 13 = .ok (.iload_n 2, 1) := by decide +kernel
theorem dX5_wall_14 : decode cX5_wall 14 = .ok (.iconst 0, 1) := by decide +kernel
theorem dX5_wall_15 : decode cX5_wall 15 = .ok (.iconst 1, 1) := by decide +kernel
theorem dX5_wall_16 : decode cX5_wall 16 = .ok (.invokestatic 81, 3) := by decide +kernel
theorem dX5_wall_19 : decode cX5_wall 19 = .ok (.ifCond .ne 5, 3) := by decide +kernel
theorem dX5_wall_22 : decode cX5_wall 22 = .ok (.iconst (-1), 1) := by decide +kernel
theorem dX5_wall_23 : decode cX5_wall 23 = .ok (.ireturn, 1) := by decide +kernel
theorem dX5_wall_24 : decode cX5_wall 24 = .ok (.aload_n 0, 1) := by decide +kernel
theorem dX5_wall_25 : decode cX5_wall 25 = .ok (.getfield 69, 3) := by decide +kernel
theorem dX5_wall_28 : decode cX5_wall 28 = .ok (.ifCond .eq 6, 3) := by decide +kernel
theorem dX5_wall_31 : decode cX5_wall 31 = .ok (.bipush (-2), 2) := by decide +kernel
theorem dX5_wall_33 : decode cX5_wall 33 = .ok (.ireturn, 1) := by decide +kernel
theorem dX5_wall_34 : decode cX5_wall 34 = .ok (.aload_n 0, 1) := by decide +kernel
theorem dX5_wall_35 : decode cX5_wall 35 = .ok (.iload_n 1, 1) := by decide +kernel
theorem dX5_wall_36 : decode cX5_wall 36 = .ok (.invokevirtual 132, 3) := by decide +kernel
theorem dX5_wall_39 : decode cX5_wall 39 = .ok (.aload_n 0, 1) := by decide +kernel
theorem dX5_wall_40 : decode cX5_wall 40 = .ok (.iload_n 2, 1) := by decide +kernel
theorem dX5_wall_41 : decode cX5_wall 41 = .ok (.iconst 1, 1) := by decide +kernel
theorem dX5_wall_42 : decode cX5_wall 42 = .ok (.if_icmp .ne 7, 3) := by decide +kernel
theorem dX5_wall_45 : decode cX5_wall 45 = .ok (.iconst 1, 1) := by decide +kernel
theorem dX5_wall_46 : decode cX5_wall 46 = .ok (.goto 4, 3) := by decide +kernel
theorem dX5_wall_49 : decode cX5_wall 49 = .ok (.iconst 0, 1) := by decide +kernel
theorem dX5_wall_50 : decode cX5_wall 50 = .ok (.invokevirtual 151, 3) := by decide +kernel
theorem dX5_wall_53 : decode cX5_wall 53 = .ok (.ifCond .eq 7, 3) := by decide +kernel
theorem dX5_wall_56 : decode cX5_wall 56 = .ok (.iconst 1, 1) := by decide +kernel
theorem dX5_wall_57 : decode cX5_wall 57 = .ok (.goto 4, 3) := by decide +kernel
theorem dX5_wall_60 : decode cX5_wall 60 = .ok (.iconst 0, 1) := by decide +kernel
theorem dX5_wall_61 : decode cX5_wall 61 = .ok (.ireturn, 1) := by decide +kernel
theorem dX5_heap_0 : decode cX5_heap 0 = .ok (.aload_n 0, 1) := by decide +kernel
theorem dX5_heap_1 : decode cX5_heap 1 = .ok (.iconst 0, 1) := by decide +kernel
theorem dX5_heap_2 : decode cX5_heap 2 = .ok (.putfield 58, 3) := by decide +kernel
theorem dX5_heap_5 : decode cX5_heap 5 = .ok (.aload_n 0, 1) := by decide +kernel
theorem dX5_heap_6 : decode cX5_heap 6 = .ok (.iload_n 1, 1) := by decide +kernel
theorem dX5_heap_7 : decode cX5_heap 7 = .ok (.invokevirtual 107, 3) := by decide +kernel
theorem dX5_heap_10 : decode cX5_heap 10 = .ok (.ifCond .eq 11, 3) := by decide +kernel
theorem dX5_heap_13 : decode cX5_heap 13 = .ok (.aload_n 0, 1) := by decide +kernel
theorem dX5_heap_14 : decode cX5_heap 14 = .ok (.iload_n 2, 1) := by decide +kernel
theorem dX5_heap_15 : decode cX5_heap 15 = .ok (.invokevirtual 155, 3) := by decide +kernel
theorem dX5_heap_18 : decode cX5_heap 18 = .ok (.ifCond .ne 5, 3) := by decide +kernel
theorem dX5_heap_21 : decode cX5_heap 21 = .ok (.iconst (-1), 1) := by decide +kernel
theorem dX5_heap_22 : decode cX5_heap 22 = .ok (.ireturn, 1) := by decide +kernel
theorem dX5_heap_23 : decode cX5_heap 23 = .ok (.aload_n 0, 1) := by decide +kernel
theorem dX5_heap_24 : decode cX5_heap 24 = .ok (.iload_n 1, 1) := by decide +kernel
theorem dX5_heap_25 : decode cX5_heap 25 = .ok (.invokevirtual 132, 3) := by decide +kernel
theorem dX5_heap_28 : decode cX5_heap 28 = .ok (.aload_n 0, 1) := by decide +kernel
theorem dX5_heap_29 : decode cX5_heap 29 = .ok (.iload_n 2, 1) := by decide +kernel
theorem dX5_heap_30 : decode cX5_heap 30 = .ok (.invokevirtual 129, 3) := by decide +kernel
theorem dX5_heap_33 : decode cX5_heap 33 = .ok (.ireturn, 1) := by decide +kernel
theorem dX5_sizeOf_0 : decode cX5_sizeOf 0 = .ok (.iconst 0, 1) := by decide +kernel
theorem dX5_sizeOf_1 : decode cX5_sizeOf 1 = .ok (.istore_n 2, 1) := by decide +kernel
end
section
theorem dX5_sizeOf_2 : decode cX5_sizeOf 2 = .ok (.iconst 0, 1) := by decide +kernel
theorem dX5_sizeOf_3 : decode cX5_sizeOf 3 = .ok (.istore_n 3, 1) := by decide +kernel
theorem dX5_sizeOf_4 : decode cX5_sizeOf 4 = .ok (.iload_n 3, 1) := by decide +kernel
theorem dX5_sizeOf_5 : decode cX5_sizeOf 5 = .ok (.aload_n 0, 1) := by decide +kernel
theorem dX5_sizeOf_6 : decode cX5_sizeOf 6 = .ok (.invokevirtual 72, 3) := by decide +kernel
theorem dX5_sizeOf_9 : decode cX5_sizeOf 9 = .ok (.if_icmp .ge 32, 3) := by decide +kernel
theorem dX5_sizeOf_12 : decode cX5_sizeOf 12 = .ok (.iload_n 2, 1) := by decide +kernel
theorem dX5_sizeOf_13 : decode cX5_sizeOf 13 = .ok (.iload_n 1, 1) := by decide +kernel
theorem dX5_sizeOf_14 : decode cX5_sizeOf 14 = .ok (.bipush (-9), 2) := by decide +kernel
theorem dX5_sizeOf_16 : decode cX5_sizeOf 16 = .ok (.if_icmp .eq 16, 3) := by decide +kernel
theorem dX5_sizeOf_19 : decode cX5_sizeOf 19 = .ok (.aload_n 0, 1) := by decide +kernel
theorem dX5_sizeOf_20 : decode cX5_sizeOf 20 = .ok (.iload_n 3, 1) := by decide +kernel
theorem dX5_sizeOf_21 : decode cX5_sizeOf 21 = .ok (.invokevirtual 129, 3) := by decide +kernel
theorem dX5_sizeOf_24 : decode cX5_sizeOf 24 = .ok (.iload_n 1, 1) := by decide +kernel
theorem dX5_sizeOf_25 : decode cX5_sizeOf 25 = .ok (.if_icmp .ne 7, 3) := by decide +kernel
theorem dX5_sizeOf_28 : decode cX5_sizeOf 28 = .ok (.iconst 1, 1) := by decide +kernel
theorem dX5_sizeOf_29 : decode cX5_sizeOf 29 = .ok (.goto 4, 3) := by decide +kernel
theorem dX5_sizeOf_32 : decode cX5_sizeOf 32 = .ok (.iconst 0, 1) := by decide +kernel
theorem dX5_sizeOf_33 : decode cX5_sizeOf 33 = .ok (.iadd, 1) := by decide +kernel
theorem dX5_sizeOf_34 : decode cX5_sizeOf 34 = .ok (.istore_n 2, 1) := by decide +kernel
theorem dX5_sizeOf_35 : decode cX5_sizeOf 35 = .ok (.iinc 3 1, 3) := by decide +kernel
theorem dX5_sizeOf_38 : decode cX5_sizeOf 38 = .ok (.goto (-34), 3) := by decide +kernel
theorem dX5_sizeOf_41 : decode cX5_sizeOf 41 = .ok (.iload_n 2, 1) := by decide +kernel
theorem dX5_sizeOf_42 : decode cX5_sizeOf 42 = .ok (.ireturn, 1) := by decide +kernel
theorem dX5_heapCount_0 : decode cX5_heapCount 0 = .ok (.iconst 0, 1) := by decide +kernel
theorem dX5_heapCount_1 : decode cX5_heapCount 1 = .ok (.istore_n 1, 1) := by decide +kernel
theorem dX5_heapCount_2 : decode cX5_heapCount 2 = .ok (.iconst 0, 1) := by decide +kernel
theorem dX5_heapCount_3 : decode cX5_heapCount 3 = .ok (.istore_n 2, 1) := by decide +kernel
theorem dX5_heapCount_4 : decode cX5_heapCount 4 = .ok (.iload_n 2, 1) := by decide +kernel
theorem dX5_heapCount_5 : decode cX5_heapCount 5 = .ok (.aload_n 0, 1) := by decide +kernel
theorem dX5_heapCount_6 : decode cX5_heapCount 6 = .ok (.invokevirtual 72, 3) := by decide +kernel
theorem dX5_heapCount_9 : decode cX5_heapCount 9 = .ok (.if_icmp .ge 26, 3) := by decide +kernel
theorem dX5_heapCount_12 : decode cX5_heapCount 12 = .ok (.iload_n 1, 1) := by decide +kernel
theorem dX5_heapCount_13 : decode cX5_heapCount 13 = .ok (.aload_n 0, 1) := by decide +kernel
theorem dX5_heapCount_14 : decode cX5_heapCount 14 = .ok (.iload_n 2, 1) := by decide +kernel
theorem dX5_heapCount_15 : decode cX5_heapCount 15 = .ok (.invokevirtual 129, 3) := by decide +kernel
theorem dX5_heapCount_18 : decode cX5_heapCount 18 = .ok (.iload_n 2, 1) := by decide +kernel
theorem dX5_heapCount_19 : decode cX5_heapCount 19 = .ok (.if_icmp .ne 7, 3) := by decide +kernel
theorem dX5_heapCount_22 : decode cX5_heapCount 22 = .ok (.iconst 1, 1) := by decide +kernel
theorem dX5_heapCount_23 : decode cX5_heapCount 23 = .ok (.goto 4, 3) := by decide +kernel
theorem dX5_heapCount_26 : decode cX5_heapCount 26 = .ok (.iconst 0, 1) := by decide +kernel
theorem dX5_heapCount_27 : decode cX5_heapCount 27 = .ok (.iadd, 1) := by decide +kernel
theorem dX5_heapCount_28 : decode cX5_heapCount 28 = .ok (.istore_n 1, 1) := by decide +kernel
theorem dX5_heapCount_29 : decode cX5_heapCount 29 = .ok (.iinc 2 1, 3) := by decide +kernel
theorem dX5_heapCount_32 : decode cX5_heapCount 32 = .ok (.goto (-28), 3) := by decide +kernel
theorem dX5_heapCount_35 : decode cX5_heapCount 35 = .ok (.iload_n 1, 1) := by decide +kernel
theorem dX5_heapCount_36 : decode cX5_heapCount 36 = .ok (.ireturn, 1) := by decide +kernel
theorem dX5_heaps_0 : decode cX5_heaps 0 = .ok (.aload_n 0, 1) := by decide +kernel
theorem dX5_heaps_1 : decode cX5_heaps 1 = .ok (.iconst 0, 1) := by decide +kernel
theorem dX5_heaps_2 : decode cX5_heaps 2 = .ok (.putfield 58, 3) := by decide +kernel
theorem dX5_heaps_5 : decode cX5_heaps 5 = .ok (.aload_n 0, 1) := by decide +kernel
theorem dX5_heaps_6 : decode cX5_heaps 6 = .ok (.iload_n 1, 1) := by decide +kernel
theorem dX5_heaps_7 : decode cX5_heaps 7 = .ok (.invokevirtual 107, 3) := by decide +kernel
theorem dX5_heaps_10 : decode cX5_heaps 10 = .ok (.ifCond .eq 12, 3) := by decide +kernel
theorem dX5_heaps_13 : decode cX5_heaps 13 = .ok (.iload_n 2, 1) := by decide +kernel
theorem dX5_heaps_14 : decode cX5_heaps 14 = .ok (.iconst 0, 1) := by decide +kernel
theorem dX5_heaps_15 : decode cX5_heaps 15 = .ok (.iconst 1, 1) := by decide +kernel
theorem dX5_heaps_16 : decode cX5_heaps 16 = .ok (.invokestatic 81, 3) := by decide +kernel
theorem dX5_heaps_19 : decode cX5_heaps 19 = .ok (.ifCond .ne 5, 3) := by decide +kernel
theorem dX5_heaps_22 : decode cX5_heaps 22 = .ok (.iconst (-1), 1) := by decide +kernel
theorem dX5_heaps_23 : decode cX5_heaps 23 = .ok (.ireturn, 1) := by decide +kernel
theorem dX5_heaps_24 : decode cX5_heaps 24 = .ok (.aload_n 0, 1) := by decide +kernel
theorem dX5_heaps_25 : decode cX5_heaps 25 = .ok (.iload_n 1, 1) := by decide +kernel
theorem dX5_heaps_26 : decode cX5_heaps 26 = .ok (.invokevirtual 132, 3) := by decide +kernel
theorem dX5_heaps_29 : decode cX5_heaps 29 = .ok (.iload_n 2, 1) := by decide +kernel
theorem dX5_heaps_30 : decode cX5_heaps 30 = .ok (.ifCond .ne 8, 3) := by decide +kernel
theorem dX5_heaps_33 : decode cX5_heaps 33 = .ok (.aload_n 0, 1) := by decide +kernel
theorem dX5_heaps_34 : decode cX5_heaps 34 = .ok (.invokevirtual 158, 3) := by decide +kernel
theorem dX5_heaps_37 : decode cX5_heaps 37 = .ok (.ireturn, 1) := by decide +kernel
theorem dX5_heaps_38 : decode cX5_heaps 38 = .ok (.iconst 0, 1) := by decide +kernel
theorem dX5_heaps_39 : decode cX5_heaps 39 = .ok (.istore_n 3, 1) := by decide +kernel
theorem dX5_heaps_40 : decode cX5_heaps 40 = .ok (.iconst 0, 1) := by decide +kernel
theorem dX5_heaps_41 : decode cX5_heaps 41 = .ok (.istore 4, 2) := by decide +kernel
theorem dX5_heaps_43 : decode cX5_heaps 43 = .ok (.iload 4, 2) := by decide +kernel
theorem dX5_heaps_45 : decode cX5_heaps 45 = .ok (.aload_n 0, 1) := by decide +kernel
theorem dX5_heaps_46 : decode cX5_heaps 46 = .ok (.invokevirtual 72, 3) := by decide +kernel
theorem dX5_heaps_49 : decode cX5_heaps 49 = .ok (.if_icmp .ge 34, 3) := by decide +kernel
theorem dX5_heaps_52 : decode cX5_heaps 52 = .ok (.aload_n 0, 1) := by decide +kernel
theorem dX5_heaps_53 : decode cX5_heaps 53 = .ok (.aload_n 0, 1) := by decide +kernel
theorem dX5_heaps_54 : decode cX5_heaps 54 = .ok (.iload 4, 2) := by decide +kernel
theorem dX5_heaps_56 : decode cX5_heaps 56 = .ok (.invokevirtual 129, 3) := by decide +kernel
theorem dX5_heaps_59 : decode cX5_heaps 59 = .ok (.invokevirtual 161, 3) := by decide +kernel
theorem dX5_heaps_62 : decode cX5_heaps 62 = .ok (.istore 5, 2) := by decide +kernel
theorem dX5_heaps_64 : decode cX5_heaps 64 = .ok (.iload 5, 2) := by decide +kernel
theorem dX5_heaps_66 : decode cX5_heaps 66 = .ok (.iload_n 3, 1) := by decide +kernel
theorem dX5_heaps_67 : decode cX5_heaps 67 = .ok (.if_icmp .le 8, 3) := by decide +kernel
theorem dX5_heaps_70 : decode cX5_heaps 70 = .ok (.iload 5, 2) := by decide +kernel
theorem dX5_heaps_72 : decode cX5_heaps 72 = .ok (.goto 4, 3) := by decide +kernel
theorem dX5_heaps_75 : decode cX5_heaps 75 = .ok (.iload_n 3, 1) := by decide +kernel
theorem dX5_heaps_76 : decode cX5_heaps 76 = .ok (.istore_n 3, 1) := by decide +kernel
theorem dX5_heaps_77 : decode cX5_heaps 77 = .ok (.iinc 4 1, 3) := by decide +kernel
theorem dX5_heaps_80 : decode cX5_heaps 80 = .ok (.goto (-37), 3) := by decide +kernel
theorem dX5_heaps_83 : decode cX5_heaps 83 = .ok (.iload_n 3, 1) := by decide +kernel
theorem dX5_heaps_84 : decode cX5_heaps 84 = .ok (.ireturn, 1) := by decide +kernel
theorem dX5_bits_0 : decode cX5_bits 0 = .ok (.iconst 0, 1) := by decide +kernel
theorem dX5_bits_1 : decode cX5_bits 1 = .ok (.istore_n 1, 1) := by decide +kernel
theorem dX5_bits_2 : decode cX5_bits 2 = .ok (.iconst 0, 1) := by decide +kernel
theorem dX5_bits_3 : decode cX5_bits 3 = .ok (.istore_n 2, 1) := by decide +kernel
theorem dX5_bits_4 : decode cX5_bits 4 = .ok (.iload_n 2, 1) := by decide +kernel
theorem dX5_bits_5 : decode cX5_bits 5 = .ok (.bipush 12, 2) := by decide +kernel
theorem dX5_bits_7 : decode cX5_bits 7 = .ok (.if_icmp .ge 17, 3) := by decide +kernel
theorem dX5_bits_10 : decode cX5_bits 10 = .ok (.iload_n 1, 1) := by decide +kernel
theorem dX5_bits_11 : decode cX5_bits 11 = .ok (.iload_n 0, 1) := by decide +kernel
theorem dX5_bits_12 : decode cX5_bits 12 = .ok (.iload_n 2, 1) := by decide +kernel
theorem dX5_bits_13 : decode cX5_bits 13 = .ok (.ishr, 1) := by decide +kernel
theorem dX5_bits_14 : decode cX5_bits 14 = .ok (.iconst 1, 1) := by decide +kernel
theorem dX5_bits_15 : decode cX5_bits 15 = .ok (.iand, 1) := by decide +kernel
theorem dX5_bits_16 : decode cX5_bits 16 = .ok (.iadd, 1) := by decide +kernel
theorem dX5_bits_17 : decode cX5_bits 17 = .ok (.istore_n 1, 1) := by decide +kernel
theorem dX5_bits_18 : decode cX5_bits 18 = .ok (.iinc 2 1, 3) := by decide +kernel
theorem dX5_bits_21 : decode cX5_bits 21 = .ok (.goto (-17), 3) := by decide +kernel
theorem dX5_bits_24 : decode cX5_bits 24 = .ok (.iload_n 1, 1) := by decide +kernel
theorem dX5_bits_25 : decode cX5_bits 25 = .ok (.ireturn, 1) := by decide +kernel
theorem dX5_isSize_0 : decode cX5_isSize 0 = .ok (.iload_n 1, 1) := by decide +kernel
theorem dX5_isSize_1 : decode cX5_isSize 1 = .ok (.iconst 0, 1) := by decide +kernel
theorem dX5_isSize_2 : decode cX5_isSize 2 = .ok (.aload_n 0, 1) := by decide +kernel
theorem dX5_isSize_3 : decode cX5_isSize 3 = .ok (.invokevirtual 85, 3) := by decide +kernel
theorem dX5_isSize_6 : decode cX5_isSize 6 = .ok (.invokestatic 81, 3) := by decide +kernel
theorem dX5_isSize_9 : decode cX5_isSize 9 = .ok (.ireturn, 1) := by decide +kernel
theorem dX5_countOf_0 : decode cX5_countOf 0 = .ok (.aload_n 0, 1) := by decide +kernel
theorem dX5_countOf_1 : decode cX5_countOf 1 = .ok (.invokevirtual 138, 3) := by decide +kernel
theorem dX5_countOf_4 : decode cX5_countOf 4 = .ok (.iconst 0, 1) := by decide +kernel
theorem dX5_countOf_5 : decode cX5_countOf 5 = .ok (.istore_n 3, 1) := by decide +kernel
theorem dX5_countOf_6 : decode cX5_countOf 6 = .ok (.iconst 0, 1) := by decide +kernel
theorem dX5_countOf_7 : decode cX5_countOf 7 = .ok (.istore 4, 2) := by decide +kernel
theorem dX5_countOf_9 : decode cX5_countOf 9 = .ok (.iload 4, 2) := by decide +kernel
theorem dX5_countOf_11 : decode cX5_countOf 11 = .ok (.iconst 1, 1) := by decide +kernel
theorem dX5_countOf_12 : decode cX5_countOf 12 = .ok (.aload_n 0, 1) := by decide +kernel
theorem dX5_countOf_13 : decode cX5_countOf 13 = .ok (.invokevirtual 85, 3) := by decide +kernel
theorem dX5_countOf_16 : decode cX5_countOf 16 = .ok (.ishl, 1) := by decide +kernel
theorem dX5_countOf_17 : decode cX5_countOf 17 = .ok (.if_icmp .ge 36, 3) := by decide +kernel
theorem dX5_countOf_20 : decode cX5_countOf 20 = .ok (.iload_n 3, 1) := by decide +kernel
theorem dX5_countOf_21 : decode cX5_countOf 21 = .ok (.iload 4, 2) := by decide +kernel
theorem dX5_countOf_23 : decode cX5_countOf 23 = .ok (.invokestatic 164, 3) := by decide +kernel
theorem dX5_countOf_26 : decode cX5_countOf 26 = .ok (.iload_n 2, 1) := by decide +kernel
theorem dX5_countOf_27 : decode cX5_countOf 27 = .ok (.if_icmp .ne 17, 3) := by decide +kernel
theorem dX5_countOf_30 : decode cX5_countOf 30 = .ok (.aload_n 0, 1) := by decide +kernel
theorem dX5_countOf_31 : decode cX5_countOf 31 = .ok (.iload 4, 2) := by decide +kernel
theorem dX5_countOf_33 : decode cX5_countOf 33 = .ok (.iload_n 1, 1) := by decide +kernel
theorem dX5_countOf_34 : decode cX5_countOf 34 = .ok (.invokevirtual 141, 3) := by decide +kernel
theorem dX5_countOf_37 : decode cX5_countOf 37 = .ok (.ifCond .eq 7, 3) := by decide +kernel
theorem dX5_countOf_40 : decode cX5_countOf 40 = .ok (.iconst 1, 1) := by decide +kernel
theorem dX5_countOf_41 : decode cX5_countOf 41 = .ok (.goto 4, 3) := by decide +kernel
theorem dX5_countOf_44 : decode cX5_countOf 44 = .ok (.iconst 0, 1) := by decide +kernel
theorem dX5_countOf_45 : decode cX5_countOf 45 = .ok (.iadd, 1) := by decide +kernel
theorem dX5_countOf_46 : decode cX5_countOf 46 = .ok (.istore_n 3, 1) := by decide +kernel
theorem dX5_countOf_47 : decode cX5_countOf 47 = .ok (.iinc 4 1, 3) := by decide +kernel
theorem dX5_countOf_50 : decode cX5_countOf 50 = .ok (.goto (-41), 3) := by decide +kernel
theorem dX5_countOf_53 : decode cX5_countOf 53 = .ok (.iload_n 3, 1) := by decide +kernel
theorem dX5_countOf_54 : decode cX5_countOf 54 = .ok (.ireturn, 1) := by decide +kernel
theorem dX5_count_0 : decode cX5_count 0 = .ok (.aload_n 0, 1) := by decide +kernel
theorem dX5_count_1 : decode cX5_count 1 = .ok (.iconst 0, 1) := by decide +kernel
theorem dX5_count_2 : decode cX5_count 2 = .ok (.putfield 58, 3) := by decide +kernel
theorem dX5_count_5 : decode cX5_count 5 = .ok (.iload_n 1, 1) := by decide +kernel
theorem dX5_count_6 : decode cX5_count 6 = .ok (.iconst 0, 1) := by decide +kernel
theorem dX5_count_7 : decode cX5_count 7 = .ok (.iconst 3, 1) := by decide +kernel
theorem dX5_count_8 : decode cX5_count 8 = .ok (.invokestatic 81, 3) := by decide +kernel
theorem dX5_count_11 : decode cX5_count 11 = .ok (.ifCond .eq 20, 3) := by decide +kernel
theorem dX5_count_14 : decode cX5_count 14 = .ok (.aload_n 0, 1) := by decide +kernel
theorem dX5_count_15 : decode cX5_count 15 = .ok (.iload_n 2, 1) := by decide +kernel
theorem dX5_count_16 : decode cX5_count 16 = .ok (.invokevirtual 167, 3) := by decide +kernel
theorem dX5_count_19 : decode cX5_count 19 = .ok (.ifCond .eq 12, 3) := by decide +kernel
theorem dX5_count_22 : decode cX5_count 22 = .ok (.aload_n 0, 1) := by decide +kernel
theorem dX5_count_23 : decode cX5_count 23 = .ok (.iload_n 1, 1) := by decide +kernel
theorem dX5_count_24 : decode cX5_count 24 = .ok (.iload_n 2, 1) := by decide +kernel
theorem dX5_count_25 : decode cX5_count 25 = .ok (.invokevirtual 170, 3) := by decide +kernel
theorem dX5_count_28 : decode cX5_count 28 = .ok (.goto 4, 3) := by decide +kernel
theorem dX5_count_31 : decode cX5_count 31 = .ok (.iconst (-1), 1) := by decide +kernel
theorem dX5_count_32 : decode cX5_count 32 = .ok (.ireturn, 1) := by decide +kernel
theorem dX5_walls_0 : decode cX5_walls 0 = .ok (.aload_n 0, 1) := by decide +kernel
theorem dX5_walls_1 : decode cX5_walls 1 = .ok (.iconst 0, 1) := by decide +kernel
theorem dX5_walls_2 : decode cX5_walls 2 = .ok (.putfield 58, 3) := by decide +kernel
theorem dX5_walls_5 : decode cX5_walls 5 = .ok (.aload_n 0, 1) := by decide +kernel
theorem dX5_walls_6 : decode cX5_walls 6 = .ok (.getfield 69, 3) := by decide +kernel
theorem dX5_walls_9 : decode cX5_walls 9 = .ok (.ifCond .eq 6, 3) := by decide +kernel
theorem dX5_walls_12 : decode cX5_walls 12 = .ok (.bipush (-2), 2) := by decide +kernel
theorem dX5_walls_14 : decode cX5_walls 14 = .ok (.ireturn, 1) := by decide +kernel
theorem dX5_walls_15 : decode cX5_walls 15 = .ok (.iload_n 1, 1) := by decide +kernel
theorem dX5_walls_16 : decode cX5_walls 16 = .ok (.iconst 0, 1) := by decide +kernel
theorem dX5_walls_17 : decode cX5_walls 17 = .ok (.iconst 1, 1) := by decide +kernel
theorem dX5_walls_18 : decode cX5_walls 18 = .ok (.invokestatic 81, 3) := by decide +kernel
theorem dX5_walls_21 : decode cX5_walls 21 = .ok (.ifCond .eq 11, 3) := by decide +kernel
theorem dX5_walls_24 : decode cX5_walls 24 = .ok (.aload_n 0, 1) := by decide +kernel
theorem dX5_walls_25 : decode cX5_walls 25 = .ok (.iload_n 2, 1) := by decide +kernel
theorem dX5_walls_26 : decode cX5_walls 26 = .ok (.invokevirtual 167, 3) := by decide +kernel
theorem dX5_walls_29 : decode cX5_walls 29 = .ok (.ifCond .ne 5, 3) := by decide +kernel
theorem dX5_walls_32 : decode cX5_walls 32 = .ok (.iconst (-1), 1) := by decide +kernel
theorem dX5_walls_33 : decode cX5_walls 33 = .ok (.ireturn, 1) := by decide +kernel
theorem dX5_walls_34 : decode cX5_walls 34 = .ok (.iconst 0, 1) := by decide +kernel
theorem dX5_walls_35 : decode cX5_walls 35 = .ok (.istore_n 3, 1) := by decide +kernel
theorem dX5_walls_36 : decode cX5_walls 36 = .ok (.iconst 0, 1) := by decide +kernel
theorem dX5_walls_37 : decode cX5_walls 37 = .ok (.istore 4, 2) := by decide +kernel
theorem dX5_walls_39 : decode cX5_walls 39 = .ok (.iload 4, 2) := by decide +kernel
theorem dX5_walls_41 : decode cX5_walls 41 = .ok (.iconst 1, 1) := by decide +kernel
theorem dX5_walls_42 : decode cX5_walls 42 = .ok (.aload_n 0, 1) := by decide +kernel
theorem dX5_walls_43 : decode cX5_walls 43 = .ok (.invokevirtual 85, 3) := by decide +kernel
theorem dX5_walls_46 : decode cX5_walls 46 = .ok (.ishl, 1) := by decide +kernel
theorem dX5_walls_47 : decode cX5_walls 47 = .ok (.if_icmp .ge 49, 3) := by decide +kernel
theorem dX5_walls_50 : decode cX5_walls 50 = .ok (.iload 4, 2) := by decide +kernel
theorem dX5_walls_52 : decode cX5_walls 52 = .ok (.invokestatic 164, 3) := by decide +kernel
theorem dX5_walls_55 : decode cX5_walls 55 = .ok (.iload_n 2, 1) := by decide +kernel
theorem dX5_walls_56 : decode cX5_walls 56 = .ok (.if_icmp .ne 34, 3) := by decide +kernel
theorem dX5_walls_59 : decode cX5_walls 59 = .ok (.aload_n 0, 1) := by decide +kernel
theorem dX5_walls_60 : decode cX5_walls 60 = .ok (.iload 4, 2) := by decide +kernel
theorem dX5_walls_62 : decode cX5_walls 62 = .ok (.invokevirtual 132, 3) := by decide +kernel
theorem dX5_walls_65 : decode cX5_walls 65 = .ok (.iload_n 3, 1) := by decide +kernel
theorem dX5_walls_66 : decode cX5_walls 66 = .ok (.aload_n 0, 1) := by decide +kernel
theorem dX5_walls_67 : decode cX5_walls 67 = .ok (.iload_n 1, 1) := by decide +kernel
theorem dX5_walls_68 : decode cX5_walls 68 = .ok (.iconst 1, 1) := by decide +kernel
theorem dX5_walls_69 : decode cX5_walls 69 = .ok (.if_icmp .ne 7, 3) := by decide +kernel
theorem dX5_walls_72 : decode cX5_walls 72 = .ok (.iconst 1, 1) := by decide +kernel
theorem dX5_walls_73 : decode cX5_walls 73 = .ok (.goto 4, 3) := by decide +kernel
theorem dX5_walls_76 : decode cX5_walls 76 = .ok (.iconst 0, 1) := by decide +kernel
theorem dX5_walls_77 : decode cX5_walls 77 = .ok (.invokevirtual 151, 3) := by decide +kernel
theorem dX5_walls_80 : decode cX5_walls 80 = .ok (.ifCond .eq 7, 3) := by decide +kernel
theorem dX5_walls_83 : decode cX5_walls 83 = .ok (.iconst 1, 1) := by decide +kernel
theorem dX5_walls_84 : decode cX5_walls 84 = .ok (.goto 4, 3) := by decide +kernel
theorem dX5_walls_87 : decode cX5_walls 87 = .ok (.iconst 0, 1) := by decide +kernel
theorem dX5_walls_88 : decode cX5_walls 88 = .ok (.iadd, 1) := by decide +kernel
theorem dX5_walls_89 : decode cX5_walls 89 = .ok (.istore_n 3, 1) := by decide +kernel
theorem dX5_walls_90 : decode cX5_walls 90 = .ok (.iinc 4 1, 3) := by decide +kernel
theorem dX5_walls_93 : decode cX5_walls 93 = .ok (.goto (-54), 3) := by decide +kernel
theorem dX5_walls_96 : decode cX5_walls 96 = .ok (.iload_n 3, 1) := by decide +kernel
theorem dX5_walls_97 : decode cX5_walls 97 = .ok (.ireturn, 1) := by decide +kernel
theorem dX5_joined_0 : decode cX5_joined 0 = .ok (.aload_n 0, 1) := by decide +kernel
theorem dX5_joined_1 : decode cX5_joined 1 = .ok (.iconst 0, 1) := by decide +kernel
theorem dX5_joined_2 : decode cX5_joined 2 = .ok (.putfield 58, 3) := by decide +kernel
theorem dX5_joined_5 : decode cX5_joined 5 = .ok (.aload_n 0, 1) := by decide +kernel
theorem dX5_joined_6 : decode cX5_joined 6 = .ok (.iload_n 1, 1) := by decide +kernel
theorem dX5_joined_7 : decode cX5_joined 7 = .ok (.invokevirtual 155, 3) := by decide +kernel
theorem dX5_joined_10 : decode cX5_joined 10 = .ok (.ifCond .eq 19, 3) := by decide +kernel
theorem dX5_joined_13 : decode cX5_joined 13 = .ok (.aload_n 0, 1) := by decide +kernel
theorem dX5_joined_14 : decode cX5_joined 14 = .ok (.iload_n 2, 1) := by decide +kernel
theorem dX5_joined_15 : decode cX5_joined 15 = .ok (.invokevirtual 155, 3) := by decide +kernel
theorem dX5_joined_18 : decode cX5_joined 18 = .ok (.ifCond .eq 11, 3) := by decide +kernel
theorem dX5_joined_21 : decode cX5_joined 21 = .ok (.aload_n 0, 1) := by decide +kernel
theorem dX5_joined_22 : decode cX5_joined 22 = .ok (.iload_n 3, 1) := by decide +kernel
theorem dX5_joined_23 : decode cX5_joined 23 = .ok (.invokevirtual 167, 3) := by decide +kernel
theorem dX5_joined_26 : decode cX5_joined 26 = .ok (.ifCond .ne 5, 3) := by decide +kernel
theorem dX5_joined_29 : decode cX5_joined 29 = .ok (.iconst (-1), 1) := by decide +kernel
theorem dX5_joined_30 : decode cX5_joined 30 = .ok (.ireturn, 1) := by decide +kernel
theorem dX5_joined_31 : decode cX5_joined 31 = .ok (.iconst 0, 1) := by decide +kernel
theorem dX5_joined_32 : decode cX5_joined 32 = .ok (.istore 4, 2) := by decide +kernel
theorem dX5_joined_34 : decode cX5_joined 34 = .ok (.iconst 0, 1) := by decide +kernel
theorem dX5_joined_35 : decode cX5_joined 35 = .ok (.istore 5, 2) := by decide +kernel
theorem dX5_joined_37 : decode cX5_joined 37 = .ok (.iload 5, 2) := by decide +kernel
theorem dX5_joined_39 : decode cX5_joined 39 = .ok (.iconst 1, 1) := by decide +kernel
theorem dX5_joined_40 : decode cX5_joined 40 = .ok (.aload_n 0, 1) := by decide +kernel
theorem dX5_joined_41 : decode cX5_joined 41 = .ok (.invokevirtual 85, 3) := by decide +kernel
theorem dX5_joined_44 : decode cX5_joined 44 = .ok (.ishl, 1) := by decide +kernel
theorem dX5_joined_45 : decode cX5_joined 45 = .ok (.if_icmp .ge 57, 3) := by decide +kernel
theorem dX5_joined_48 : decode cX5_joined 48 = .ok (.iload 5, 2) := by decide +kernel
theorem dX5_joined_50 : decode cX5_joined 50 = .ok (.invokestatic 164, 3) := by decide +kernel
theorem dX5_joined_53 : decode cX5_joined 53 = .ok (.iload_n 3, 1) := by decide +kernel
theorem dX5_joined_54 : decode cX5_joined 54 = .ok (.if_icmp .ne 42, 3) := by decide +kernel
theorem dX5_joined_57 : decode cX5_joined 57 = .ok (.aload_n 0, 1) := by decide +kernel
theorem dX5_joined_58 : decode cX5_joined 58 = .ok (.iload 5, 2) := by decide +kernel
theorem dX5_joined_60 : decode cX5_joined 60 = .ok (.invokevirtual 132, 3) := by decide +kernel
theorem dX5_joined_63 : decode cX5_joined 63 = .ok (.iload 4, 2) := by decide +kernel
theorem dX5_joined_65 : decode cX5_joined 65 = .ok (.aload_n 0, 1) := by decide +kernel
theorem dX5_joined_66 : decode cX5_joined 66 = .ok (.iload_n 1, 1) := by decide +kernel
theorem dX5_joined_67 : decode cX5_joined 67 = .ok (.invokevirtual 129, 3) := by decide +kernel
theorem dX5_joined_70 : decode cX5_joined 70 = .ok (.bipush (-9), 2) := by decide +kernel
theorem dX5_joined_72 : decode cX5_joined 72 = .ok (.if_icmp .eq 20, 3) := by decide +kernel
theorem dX5_joined_75 : decode cX5_joined 75 = .ok (.aload_n 0, 1) := by decide +kernel
theorem dX5_joined_76 : decode cX5_joined 76 = .ok (.iload_n 1, 1) := by decide +kernel
theorem dX5_joined_77 : decode cX5_joined 77 = .ok (.invokevirtual 129, 3) := by decide +kernel
theorem dX5_joined_80 : decode cX5_joined 80 = .ok (.aload_n 0, 1) := by decide +kernel
theorem dX5_joined_81 : decode cX5_joined 81 = .ok (.iload_n 2, 1) := by decide +kernel
theorem dX5_joined_82 : decode cX5_joined 82 = .ok (.invokevirtual 129, 3) := by decide +kernel
theorem dX5_joined_85 : decode cX5_joined 85 = .ok (.if_icmp .ne 7, 3) := by decide +kernel
theorem dX5_joined_88 : decode cX5_joined 88 = .ok (.iconst 1, 1) := by decide +kernel
theorem dX5_joined_89 : decode cX5_joined 89 = .ok (.goto 4, 3) := by decide +kernel
theorem dX5_joined_92 : decode cX5_joined 92 = .ok (.iconst 0, 1) := by decide +kernel
theorem dX5_joined_93 : decode cX5_joined 93 = .ok (.iadd, 1) := by decide +kernel
theorem dX5_joined_94 : decode cX5_joined 94 = .ok (.istore 4, 2) := by decide +kernel
theorem dX5_joined_96 : decode cX5_joined 96 = .ok (.iinc 5 1, 3) := by decide +kernel
theorem dX5_joined_99 : decode cX5_joined 99 = .ok (.goto (-62), 3) := by decide +kernel
theorem dX5_joined_102 : decode cX5_joined 102 = .ok (.iload 4, 2) := by decide +kernel
theorem dX5_joined_104 : decode cX5_joined 104 = .ok (.ireturn, 1) := by decide +kernel
theorem dX5_sized_0 : decode cX5_sized 0 = .ok (.aload_n 0, 1) := by decide +kernel
theorem dX5_sized_1 : decode cX5_sized 1 = .ok (.iconst 0, 1) := by decide +kernel
theorem dX5_sized_2 : decode cX5_sized 2 = .ok (.putfield 58, 3) := by decide +kernel
theorem dX5_sized_5 : decode cX5_sized 5 = .ok (.aload_n 0, 1) := by decide +kernel
theorem dX5_sized_6 : decode cX5_sized 6 = .ok (.iload_n 1, 1) := by decide +kernel
theorem dX5_sized_7 : decode cX5_sized 7 = .ok (.invokevirtual 155, 3) := by decide +kernel
theorem dX5_sized_10 : decode cX5_sized 10 = .ok (.ifCond .eq 21, 3) := by decide +kernel
theorem dX5_sized_13 : decode cX5_sized 13 = .ok (.iload_n 2, 1) := by decide +kernel
theorem dX5_sized_14 : decode cX5_sized 14 = .ok (.iconst 0, 1) := by decide +kernel
theorem dX5_sized_15 : decode cX5_sized 15 = .ok (.bipush 25, 2) := by decide +kernel
theorem dX5_sized_17 : decode cX5_sized 17 = .ok (.invokestatic 81, 3) := by decide +kernel
theorem dX5_sized_20 : decode cX5_sized 20 = .ok (.ifCond .eq 11, 3) := by decide +kernel
theorem dX5_sized_23 : decode cX5_sized 23 = .ok (.aload_n 0, 1) := by decide +kernel
theorem dX5_sized_24 : decode cX5_sized 24 = .ok (.iload_n 3, 1) := by decide +kernel
theorem dX5_sized_25 : decode cX5_sized 25 = .ok (.invokevirtual 167, 3) := by decide +kernel
theorem dX5_sized_28 : decode cX5_sized 28 = .ok (.ifCond .ne 5, 3) := by decide +kernel
theorem dX5_sized_31 : decode cX5_sized 31 = .ok (.iconst (-1), 1) := by decide +kernel
theorem dX5_sized_32 : decode cX5_sized 32 = .ok (.ireturn, 1) := by decide +kernel
theorem dX5_sized_33 : decode cX5_sized 33 = .ok (.iconst 0, 1) := by decide +kernel
theorem dX5_sized_34 : decode cX5_sized 34 = .ok (.istore 4, 2) := by decide +kernel
theorem dX5_sized_36 : decode cX5_sized 36 = .ok (.iconst 0, 1) := by decide +kernel
theorem dX5_sized_37 : decode cX5_sized 37 = .ok (.istore 5, 2) := by decide +kernel
theorem dX5_sized_39 : decode cX5_sized 39 = .ok (.iload 5, 2) := by decide +kernel
theorem dX5_sized_41 : decode cX5_sized 41 = .ok (.iconst 1, 1) := by decide +kernel
theorem dX5_sized_42 : decode cX5_sized 42 = .ok (.aload_n 0, 1) := by decide +kernel
theorem dX5_sized_43 : decode cX5_sized 43 = .ok (.invokevirtual 85, 3) := by decide +kernel
theorem dX5_sized_46 : decode cX5_sized 46 = .ok (.ishl, 1) := by decide +kernel
theorem dX5_sized_47 : decode cX5_sized 47 = .ok (.if_icmp .ge 47, 3) := by decide +kernel
theorem dX5_sized_50 : decode cX5_sized 50 = .ok (.iload 5, 2) := by decide +kernel
theorem dX5_sized_52 : decode cX5_sized 52 = .ok (.invokestatic 164, 3) := by decide +kernel
theorem dX5_sized_55 : decode cX5_sized 55 = .ok (.iload_n 3, 1) := by decide +kernel
theorem dX5_sized_56 : decode cX5_sized 56 = .ok (.if_icmp .ne 32, 3) := by decide +kernel
theorem dX5_sized_59 : decode cX5_sized 59 = .ok (.aload_n 0, 1) := by decide +kernel
theorem dX5_sized_60 : decode cX5_sized 60 = .ok (.iload 5, 2) := by decide +kernel
theorem dX5_sized_62 : decode cX5_sized 62 = .ok (.invokevirtual 132, 3) := by decide +kernel
theorem dX5_sized_65 : decode cX5_sized 65 = .ok (.iload 4, 2) := by decide +kernel
theorem dX5_sized_67 : decode cX5_sized 67 = .ok (.aload_n 0, 1) := by decide +kernel
theorem dX5_sized_68 : decode cX5_sized 68 = .ok (.aload_n 0, 1) := by decide +kernel
theorem dX5_sized_69 : decode cX5_sized 69 = .ok (.iload_n 1, 1) := by decide +kernel
theorem dX5_sized_70 : decode cX5_sized 70 = .ok (.invokevirtual 129, 3) := by decide +kernel
theorem dX5_sized_73 : decode cX5_sized 73 = .ok (.invokevirtual 161, 3) := by decide +kernel
theorem dX5_sized_76 : decode cX5_sized 76 = .ok (.iload_n 2, 1) := by decide +kernel
theorem dX5_sized_77 : decode cX5_sized 77 = .ok (.if_icmp .ne 7, 3) := by decide +kernel
theorem dX5_sized_80 : decode cX5_sized 80 = .ok (.iconst 1, 1) := by decide +kernel
theorem dX5_sized_81 : decode cX5_sized 81 = .ok (.goto 4, 3) := by decide +kernel
theorem dX5_sized_84 : decode cX5_sized 84 = .ok (.iconst 0, 1) := by decide +kernel
theorem dX5_sized_85 : decode cX5_sized 85 = .ok (.iadd, 1) := by decide +kernel
theorem dX5_sized_86 : decode cX5_sized 86 = .ok (.istore 4, 2) := by decide +kernel
theorem dX5_sized_88 : decode cX5_sized 88 = .ok (.iinc 5 1, 3) := by decide +kernel
theorem dX5_sized_91 : decode cX5_sized 91 = .ok (.goto (-52), 3) := by decide +kernel
theorem dX5_sized_94 : decode cX5_sized 94 = .ok (.iload 4, 2) := by decide +kernel
theorem dX5_sized_96 : decode cX5_sized 96 = .ok (.ireturn, 1) := by decide +kernel
theorem dX5_heapSum_0 : decode cX5_heapSum 0 = .ok (.aload_n 0, 1) := by decide +kernel
theorem dX5_heapSum_1 : decode cX5_heapSum 1 = .ok (.iconst 0, 1) := by decide +kernel
theorem dX5_heapSum_2 : decode cX5_heapSum 2 = .ok (.putfield 58, 3) := by decide +kernel
theorem dX5_heapSum_5 : decode cX5_heapSum 5 = .ok (.aload_n 0, 1) := by decide +kernel
theorem dX5_heapSum_6 : decode cX5_heapSum 6 = .ok (.iload_n 1, 1) := by decide +kernel
theorem dX5_heapSum_7 : decode cX5_heapSum 7 = .ok (.invokevirtual 167, 3) := by decide +kernel
theorem dX5_heapSum_10 : decode cX5_heapSum 10 = .ok (.ifCond .ne 5, 3) := by decide +kernel
theorem dX5_heapSum_13 : decode cX5_heapSum 13 = .ok (.iconst (-1), 1) := by decide +kernel
theorem dX5_heapSum_14 : decode cX5_heapSum 14 = .ok (.ireturn, 1) := by decide +kernel
theorem dX5_heapSum_15 : decode cX5_heapSum 15 = .ok (.iconst 0, 1) := by decide +kernel
theorem dX5_heapSum_16 : decode cX5_heapSum 16 = .ok (.istore_n 2, 1) := by decide +kernel
theorem dX5_heapSum_17 : decode cX5_heapSum 17 = .ok (.iconst 0, 1) := by decide +kernel
theorem dX5_heapSum_18 : decode cX5_heapSum 18 = .ok (.istore_n 3, 1) := by decide +kernel
theorem dX5_heapSum_19 : decode cX5_heapSum 19 = .ok (.iload_n 3, 1) := by decide +kernel
theorem dX5_heapSum_20 : decode cX5_heapSum 20 = .ok (.iconst 1, 1) := by decide +kernel
theorem dX5_heapSum_21 : decode cX5_heapSum 21 = .ok (.aload_n 0, 1) := by decide +kernel
theorem dX5_heapSum_22 : decode cX5_heapSum 22 = .ok (.invokevirtual 85, 3) := by decide +kernel
theorem dX5_heapSum_25 : decode cX5_heapSum 25 = .ok (.ishl, 1) := by decide +kernel
theorem dX5_heapSum_26 : decode cX5_heapSum 26 = .ok (.if_icmp .ge 29, 3) := by decide +kernel
theorem dX5_heapSum_29 : decode cX5_heapSum 29 = .ok (.iload_n 3, 1) := by decide +kernel
theorem dX5_heapSum_30 : decode cX5_heapSum 30 = .ok (.invokestatic 164, 3) := by decide +kernel
theorem dX5_heapSum_33 : decode cX5_heapSum 33 = .ok (.iload_n 1, 1) := by decide +kernel
theorem dX5_heapSum_34 : decode cX5_heapSum 34 = .ok (.if_icmp .ne 15, 3) := by decide +kernel
theorem dX5_heapSum_37 : decode cX5_heapSum 37 = .ok (.aload_n 0, 1) := by decide +kernel
theorem dX5_heapSum_38 : decode cX5_heapSum 38 = .ok (.iload_n 3, 1) := by decide +kernel
theorem dX5_heapSum_39 : decode cX5_heapSum 39 = .ok (.invokevirtual 132, 3) := by decide +kernel
theorem dX5_heapSum_42 : decode cX5_heapSum 42 = .ok (.iload_n 2, 1) := by decide +kernel
theorem dX5_heapSum_43 : decode cX5_heapSum 43 = .ok (.aload_n 0, 1) := by decide +kernel
theorem dX5_heapSum_44 : decode cX5_heapSum 44 = .ok (.invokevirtual 158, 3) := by decide +kernel
theorem dX5_heapSum_47 : decode cX5_heapSum 47 = .ok (.iadd, 1) := by decide +kernel
theorem dX5_heapSum_48 : decode cX5_heapSum 48 = .ok (.istore_n 2, 1) := by decide +kernel
theorem dX5_heapSum_49 : decode cX5_heapSum 49 = .ok (.iinc 3 1, 3) := by decide +kernel
theorem dX5_heapSum_52 : decode cX5_heapSum 52 = .ok (.goto (-33), 3) := by decide +kernel
theorem dX5_heapSum_55 : decode cX5_heapSum 55 = .ok (.iload_n 2, 1) := by decide +kernel
theorem dX5_heapSum_56 : decode cX5_heapSum 56 = .ok (.ireturn, 1) := by decide +kernel
theorem dX5_chance_0 : decode cX5_chance 0 = .ok (.aload_n 0, 1) := by decide +kernel
theorem dX5_chance_1 : decode cX5_chance 1 = .ok (.iconst 0, 1) := by decide +kernel
theorem dX5_chance_2 : decode cX5_chance 2 = .ok (.putfield 58, 3) := by decide +kernel
theorem dX5_chance_5 : decode cX5_chance 5 = .ok (.iload_n 1, 1) := by decide +kernel
theorem dX5_chance_6 : decode cX5_chance 6 = .ok (.iconst 0, 1) := by decide +kernel
theorem dX5_chance_7 : decode cX5_chance 7 = .ok (.iconst 3, 1) := by decide +kernel
theorem dX5_chance_8 : decode cX5_chance 8 = .ok (.invokestatic 81, 3) := by decide +kernel
theorem dX5_chance_11 : decode cX5_chance 11 = .ok (.ifCond .eq 22, 3) := by decide +kernel
theorem dX5_chance_14 : decode cX5_chance 14 = .ok (.iload_n 3, 1) := by decide +kernel
theorem dX5_chance_15 : decode cX5_chance 15 = .ok (.iconst 1, 1) := by decide +kernel
theorem dX5_chance_16 : decode cX5_chance 16 = .ok (.bipush 9, 2) := by decide +kernel
theorem dX5_chance_18 : decode cX5_chance 18 = .ok (.invokestatic 81, 3) := by decide +kernel
theorem dX5_chance_21 : decode cX5_chance 21 = .ok (.ifCond .eq 12, 3) := by decide +kernel
theorem dX5_chance_24 : decode cX5_chance 24 = .ok (.iload_n 2, 1) := by decide +kernel
theorem dX5_chance_25 : decode cX5_chance 25 = .ok (.iconst 0, 1) := by decide +kernel
theorem dX5_chance_26 : decode cX5_chance 26 = .ok (.iload_n 3, 1) := by decide +kernel
theorem dX5_chance_27 : decode cX5_chance 27 = .ok (.invokestatic 81, 3) := by decide +kernel
theorem dX5_chance_30 : decode cX5_chance 30 = .ok (.ifCond .ne 7, 3) := by decide +kernel
theorem dX5_chance_33 : decode cX5_chance 33 = .ok (.ldc2_w 173, 3) := by decide +kernel
theorem dX5_chance_36 : decode cX5_chance 36 = .ok (.lreturn, 1) := by decide +kernel
theorem dX5_chance_37 : decode cX5_chance 37 = .ok (.aload_n 0, 1) := by decide +kernel
theorem dX5_chance_38 : decode cX5_chance 38 = .ok (.invokevirtual 85, 3) := by decide +kernel
theorem dX5_chance_41 : decode cX5_chance 41 = .ok (.istore 4, 2) := by decide +kernel
theorem dX5_chance_43 : decode cX5_chance 43 = .ok (.lconst 0, 1) := by decide +kernel
theorem dX5_chance_44 : decode cX5_chance 44 = .ok (.lstore 5, 2) := by decide +kernel
theorem dX5_chance_46 : decode cX5_chance 46 = .ok (.iconst 0, 1) := by decide +kernel
theorem dX5_chance_47 : decode cX5_chance 47 = .ok (.istore 7, 2) := by decide +kernel
theorem dX5_chance_49 : decode cX5_chance 49 = .ok (.iload 7, 2) := by decide +kernel
theorem dX5_chance_51 : decode cX5_chance 51 = .ok (.iload 4, 2) := by decide +kernel
theorem dX5_chance_53 : decode cX5_chance 53 = .ok (.if_icmp .gt 63, 3) := by decide +kernel
theorem dX5_chance_56 : decode cX5_chance 56 = .ok (.aload_n 0, 1) := by decide +kernel
theorem dX5_chance_57 : decode cX5_chance 57 = .ok (.iload_n 1, 1) := by decide +kernel
theorem dX5_chance_58 : decode cX5_chance 58 = .ok (.iload 7, 2) := by decide +kernel
theorem dX5_chance_60 : decode cX5_chance 60 = .ok (.invokevirtual 170, 3) := by decide +kernel
theorem dX5_chance_63 : decode cX5_chance 63 = .ok (.i2l, 1) := by decide +kernel
theorem dX5_chance_64 : decode cX5_chance 64 = .ok (.lstore 8, 2) := by decide +kernel
theorem dX5_chance_66 : decode cX5_chance 66 = .ok (.iconst 0, 1) := by decide +kernel
theorem dX5_chance_67 : decode cX5_chance 67 = .ok (.istore 10, 2) := by decide +kernel
theorem dX5_chance_69 : decode cX5_chance 69 = .ok (.iload 10, 2) := by decide +kernel
theorem dX5_chance_71 : decode cX5_chance 71 = .ok (.iload 4, 2) := by decide +kernel
theorem dX5_chance_73 : decode cX5_chance 73 = .ok (.if_icmp .ge 30, 3) := by decide +kernel
theorem dX5_chance_76 : decode cX5_chance 76 = .ok (.lload 8, 2) := by decide +kernel
theorem dX5_chance_78 : decode cX5_chance 78 = .ok (.iload 10, 2) := by decide +kernel
theorem dX5_chance_80 : decode cX5_chance 80 = .ok (.iload 7, 2) := by decide +kernel
theorem dX5_chance_82 : decode cX5_chance 82 = .ok (.if_icmp .ge 8, 3) := by decide +kernel
theorem dX5_chance_85 : decode cX5_chance 85 = .ok (.iload_n 2, 1) := by decide +kernel
theorem dX5_chance_86 : decode cX5_chance 86 = .ok (.i2l, 1) := by decide +kernel
theorem dX5_chance_87 : decode cX5_chance 87 = .ok (.goto 7, 3) := by decide +kernel
theorem dX5_chance_90 : decode cX5_chance 90 = .ok (.iload_n 3, 1) := by decide +kernel
theorem dX5_chance_91 : decode cX5_chance 91 = .ok (.iload_n 2, 1) := by decide +kernel
theorem dX5_chance_92 : decode cX5_chance 92 = .ok (.isub, 1) := by decide +kernel
theorem dX5_chance_93 : decode cX5_chance 93 = .ok (.i2l, 1) := by decide +kernel
theorem dX5_chance_94 : decode cX5_chance 94 = .ok (.lmul, 1) := by decide +kernel
theorem dX5_chance_95 : decode cX5_chance 95 = .ok (.lstore 8, 2) := by decide +kernel
theorem dX5_chance_97 : decode cX5_chance 97 = .ok (.iinc 10 1, 3) := by decide +kernel
theorem dX5_chance_100 : decode cX5_chance 100 = .ok (.goto (-31), 3) := by decide +kernel
theorem dX5_chance_103 : decode cX5_chance 103 = .ok (.lload 5, 2) := by decide +kernel
theorem dX5_chance_105 : decode cX5_chance 105 = .ok (.lload 8, 2) := by decide +kernel
theorem dX5_chance_107 : decode cX5_chance 107 = .ok (.ladd, 1) := by decide +kernel
theorem dX5_chance_108 : decode cX5_chance 108 = .ok (.lstore 5, 2) := by decide +kernel
theorem dX5_chance_110 : decode cX5_chance 110 = .ok (.iinc 7 1, 3) := by decide +kernel
theorem dX5_chance_113 : decode cX5_chance 113 = .ok (.goto (-64), 3) := by decide +kernel
theorem dX5_chance_116 : decode cX5_chance 116 = .ok (.lload 5, 2) := by decide +kernel
theorem dX5_chance_118 : decode cX5_chance 118 = .ok (.lreturn, 1) := by decide +kernel
theorem dX5_pivot_0 : decode cX5_pivot 0 = .ok (.aload_n 0, 1) := by decide +kernel
theorem dX5_pivot_1 : decode cX5_pivot 1 = .ok (.iconst 0, 1) := by decide +kernel
theorem dX5_pivot_2 : decode cX5_pivot 2 = .ok (.putfield 58, 3) := by decide +kernel
theorem dX5_pivot_5 : decode cX5_pivot 5 = .ok (.iload_n 1, 1) := by decide +kernel
theorem dX5_pivot_6 : decode cX5_pivot 6 = .ok (.iconst 0, 1) := by decide +kernel
theorem dX5_pivot_7 : decode cX5_pivot 7 = .ok (.iconst 3, 1) := by decide +kernel
theorem dX5_pivot_8 : decode cX5_pivot 8 = .ok (.invokestatic 81, 3) := by decide +kernel
theorem dX5_pivot_11 : decode cX5_pivot 11 = .ok (.ifCond .eq 17, 3) := by decide +kernel
theorem dX5_pivot_14 : decode cX5_pivot 14 = .ok (.iload_n 2, 1) := by decide +kernel
theorem dX5_pivot_15 : decode cX5_pivot 15 = .ok (.iconst 0, 1) := by decide +kernel
theorem dX5_pivot_16 : decode cX5_pivot 16 = .ok (.aload_n 0, 1) := by decide +kernel
theorem dX5_pivot_17 : decode cX5_pivot 17 = .ok (.invokevirtual 85, 3) := by decide +kernel
theorem dX5_pivot_20 : decode cX5_pivot 20 = .ok (.iconst 1, 1) := by decide +kernel
theorem dX5_pivot_21 : decode cX5_pivot 21 = .ok (.isub, 1) := by decide +kernel
theorem dX5_pivot_22 : decode cX5_pivot 22 = .ok (.invokestatic 81, 3) := by decide +kernel
theorem dX5_pivot_25 : decode cX5_pivot 25 = .ok (.ifCond .ne 5, 3) := by decide +kernel
theorem dX5_pivot_28 : decode cX5_pivot 28 = .ok (.iconst (-1), 1) := by decide +kernel
theorem dX5_pivot_29 : decode cX5_pivot 29 = .ok (.ireturn, 1) := by decide +kernel
theorem dX5_pivot_30 : decode cX5_pivot 30 = .ok (.aload_n 0, 1) := by decide +kernel
theorem dX5_pivot_31 : decode cX5_pivot 31 = .ok (.invokevirtual 138, 3) := by decide +kernel
theorem dX5_pivot_34 : decode cX5_pivot 34 = .ok (.iconst 0, 1) := by decide +kernel
theorem dX5_pivot_35 : decode cX5_pivot 35 = .ok (.istore_n 3, 1) := by decide +kernel
theorem dX5_pivot_36 : decode cX5_pivot 36 = .ok (.iconst 0, 1) := by decide +kernel
theorem dX5_pivot_37 : decode cX5_pivot 37 = .ok (.istore 4, 2) := by decide +kernel
theorem dX5_pivot_39 : decode cX5_pivot 39 = .ok (.iload 4, 2) := by decide +kernel
theorem dX5_pivot_41 : decode cX5_pivot 41 = .ok (.iconst 1, 1) := by decide +kernel
theorem dX5_pivot_42 : decode cX5_pivot 42 = .ok (.aload_n 0, 1) := by decide +kernel
theorem dX5_pivot_43 : decode cX5_pivot 43 = .ok (.invokevirtual 85, 3) := by decide +kernel
theorem dX5_pivot_46 : decode cX5_pivot 46 = .ok (.ishl, 1) := by decide +kernel
theorem dX5_pivot_47 : decode cX5_pivot 47 = .ok (.if_icmp .ge 51, 3) := by decide +kernel
theorem dX5_pivot_50 : decode cX5_pivot 50 = .ok (.iload_n 3, 1) := by decide +kernel
theorem dX5_pivot_51 : decode cX5_pivot 51 = .ok (.iload 4, 2) := by decide +kernel
theorem dX5_pivot_53 : decode cX5_pivot 53 = .ok (.iload_n 2, 1) := by decide +kernel
theorem dX5_pivot_54 : decode cX5_pivot 54 = .ok (.ishr, 1) := by decide +kernel
theorem dX5_pivot_55 : decode cX5_pivot 55 = .ok (.iconst 1, 1) := by decide +kernel
theorem dX5_pivot_56 : decode cX5_pivot 56 = .ok (.iand, 1) := by decide +kernel
theorem dX5_pivot_57 : decode cX5_pivot 57 = .ok (.iconst 1, 1) := by decide +kernel
theorem dX5_pivot_58 : decode cX5_pivot 58 = .ok (.if_icmp .ne 31, 3) := by decide +kernel
theorem dX5_pivot_61 : decode cX5_pivot 61 = .ok (.aload_n 0, 1) := by decide +kernel
theorem dX5_pivot_62 : decode cX5_pivot 62 = .ok (.iload 4, 2) := by decide +kernel
theorem dX5_pivot_64 : decode cX5_pivot 64 = .ok (.iload_n 1, 1) := by decide +kernel
theorem dX5_pivot_65 : decode cX5_pivot 65 = .ok (.invokevirtual 141, 3) := by decide +kernel
theorem dX5_pivot_68 : decode cX5_pivot 68 = .ok (.ifCond .eq 21, 3) := by decide +kernel
theorem dX5_pivot_71 : decode cX5_pivot 71 = .ok (.aload_n 0, 1) := by decide +kernel
theorem dX5_pivot_72 : decode cX5_pivot 72 = .ok (.iload 4, 2) := by decide +kernel
theorem dX5_pivot_74 : decode cX5_pivot 74 = .ok (.iconst 1, 1) := by decide +kernel
theorem dX5_pivot_75 : decode cX5_pivot 75 = .ok (.iload_n 2, 1) := by decide +kernel
theorem dX5_pivot_76 : decode cX5_pivot 76 = .ok (.ishl, 1) := by decide +kernel
theorem dX5_pivot_77 : decode cX5_pivot 77 = .ok (.isub, 1) := by decide +kernel
theorem dX5_pivot_78 : decode cX5_pivot 78 = .ok (.iload_n 1, 1) := by decide +kernel
theorem dX5_pivot_79 : decode cX5_pivot 79 = .ok (.invokevirtual 141, 3) := by decide +kernel
theorem dX5_pivot_82 : decode cX5_pivot 82 = .ok (.ifCond .ne 7, 3) := by decide +kernel
theorem dX5_pivot_85 : decode cX5_pivot 85 = .ok (.iconst 1, 1) := by decide +kernel
theorem dX5_pivot_86 : decode cX5_pivot 86 = .ok (.goto 4, 3) := by decide +kernel
theorem dX5_pivot_89 : decode cX5_pivot 89 = .ok (.iconst 0, 1) := by decide +kernel
theorem dX5_pivot_90 : decode cX5_pivot 90 = .ok (.iadd, 1) := by decide +kernel
theorem dX5_pivot_91 : decode cX5_pivot 91 = .ok (.istore_n 3, 1) := by decide +kernel
theorem dX5_pivot_92 : decode cX5_pivot 92 = .ok (.iinc 4 1, 3) := by decide +kernel
theorem dX5_pivot_95 : decode cX5_pivot 95 = .ok (.goto (-56), 3) := by decide +kernel
theorem dX5_pivot_98 : decode cX5_pivot 98 = .ok (.iload_n 3, 1) := by decide +kernel
theorem dX5_pivot_99 : decode cX5_pivot 99 = .ok (.ireturn, 1) := by decide +kernel
theorem dX5_first_0 : decode cX5_first 0 = .ok (.aload_n 0, 1) := by decide +kernel
theorem dX5_first_1 : decode cX5_first 1 = .ok (.iconst 0, 1) := by decide +kernel
theorem dX5_first_2 : decode cX5_first 2 = .ok (.putfield 58, 3) := by decide +kernel
theorem dX5_first_5 : decode cX5_first 5 = .ok (.iload_n 1, 1) := by decide +kernel
theorem dX5_first_6 : decode cX5_first 6 = .ok (.iconst 0, 1) := by decide +kernel
theorem dX5_first_7 : decode cX5_first 7 = .ok (.iconst 3, 1) := by decide +kernel
theorem dX5_first_8 : decode cX5_first 8 = .ok (.invokestatic 81, 3) := by decide +kernel
theorem dX5_first_11 : decode cX5_first 11 = .ok (.ifCond .eq 11, 3) := by decide +kernel
theorem dX5_first_14 : decode cX5_first 14 = .ok (.aload_n 0, 1) := by decide +kernel
theorem dX5_first_15 : decode cX5_first 15 = .ok (.iload_n 2, 1) := by decide +kernel
theorem dX5_first_16 : decode cX5_first 16 = .ok (.invokevirtual 167, 3) := by decide +kernel
theorem dX5_first_19 : decode cX5_first 19 = .ok (.ifCond .ne 5, 3) := by decide +kernel
theorem dX5_first_22 : decode cX5_first 22 = .ok (.iconst (-1), 1) := by decide +kernel
theorem dX5_first_23 : decode cX5_first 23 = .ok (.ireturn, 1) := by decide +kernel
theorem dX5_first_24 : decode cX5_first 24 = .ok (.aload_n 0, 1) := by decide +kernel
theorem dX5_first_25 : decode cX5_first 25 = .ok (.invokevirtual 138, 3) := by decide +kernel
theorem dX5_first_28 : decode cX5_first 28 = .ok (.iconst 0, 1) := by decide +kernel
theorem dX5_first_29 : decode cX5_first 29 = .ok (.istore_n 3, 1) := by decide +kernel
theorem dX5_first_30 : decode cX5_first 30 = .ok (.iload_n 3, 1) := by decide +kernel
theorem dX5_first_31 : decode cX5_first 31 = .ok (.iconst 1, 1) := by decide +kernel
theorem dX5_first_32 : decode cX5_first 32 = .ok (.aload_n 0, 1) := by decide +kernel
theorem dX5_first_33 : decode cX5_first 33 = .ok (.invokevirtual 85, 3) := by decide +kernel
theorem dX5_first_36 : decode cX5_first 36 = .ok (.ishl, 1) := by decide +kernel
theorem dX5_first_37 : decode cX5_first 37 = .ok (.if_icmp .ge 28, 3) := by decide +kernel
theorem dX5_first_40 : decode cX5_first 40 = .ok (.iload_n 3, 1) := by decide +kernel
theorem dX5_first_41 : decode cX5_first 41 = .ok (.invokestatic 164, 3) := by decide +kernel
theorem dX5_first_44 : decode cX5_first 44 = .ok (.iload_n 2, 1) := by decide +kernel
theorem dX5_first_45 : decode cX5_first 45 = .ok (.if_icmp .ne 14, 3) := by decide +kernel
theorem dX5_first_48 : decode cX5_first 48 = .ok (.aload_n 0, 1) := by decide +kernel
theorem dX5_first_49 : decode cX5_first 49 = .ok (.iload_n 3, 1) := by decide +kernel
theorem dX5_first_50 : decode cX5_first 50 = .ok (.iload_n 1, 1) := by decide +kernel
theorem dX5_first_51 : decode cX5_first 51 = .ok (.invokevirtual 141, 3) := by decide +kernel
theorem dX5_first_54 : decode cX5_first 54 = .ok (.ifCond .eq 5, 3) := by decide +kernel
theorem dX5_first_57 : decode cX5_first 57 = .ok (.iload_n 3, 1) := by decide +kernel
theorem dX5_first_58 : decode cX5_first 58 = .ok (.ireturn, 1) := by decide +kernel
theorem dX5_first_59 : decode cX5_first 59 = .ok (.iinc 3 1, 3) := by decide +kernel
theorem dX5_first_62 : decode cX5_first 62 = .ok (.goto (-32), 3) := by decide +kernel
theorem dX5_first_65 : decode cX5_first 65 = .ok (.bipush (-9), 2) := by decide +kernel
theorem dX5_first_67 : decode cX5_first 67 = .ok (.ireturn, 1) := by decide +kernel
theorem dX5_no_0 : decode cX5_no 0 = .ok (.aload_n 0, 1) := by decide +kernel
theorem dX5_no_1 : decode cX5_no 1 = .ok (.iload_n 1, 1) := by decide +kernel
theorem dX5_no_2 : decode cX5_no 2 = .ok (.putfield 175, 3) := by decide +kernel
theorem dX5_no_5 : decode cX5_no 5 = .ok (.iload_n 1, 1) := by decide +kernel
theorem dX5_no_6 : decode cX5_no 6 = .ok (.ireturn, 1) := by decide +kernel
theorem dX5_sheet_0 : decode cX5_sheet 0 = .ok (.aload_n 0, 1) := by decide +kernel
theorem dX5_sheet_1 : decode cX5_sheet 1 = .ok (.iconst 0, 1) := by decide +kernel
theorem dX5_sheet_2 : decode cX5_sheet 2 = .ok (.putfield 58, 3) := by decide +kernel
theorem dX5_sheet_5 : decode cX5_sheet 5 = .ok (.aload_n 0, 1) := by decide +kernel
theorem dX5_sheet_6 : decode cX5_sheet 6 = .ok (.iconst 0, 1) := by decide +kernel
theorem dX5_sheet_7 : decode cX5_sheet 7 = .ok (.putfield 175, 3) := by decide +kernel
theorem dX5_sheet_10 : decode cX5_sheet 10 = .ok (.iload_n 1, 1) := by decide +kernel
theorem dX5_sheet_11 : decode cX5_sheet 11 = .ok (.iconst 0, 1) := by decide +kernel
theorem dX5_sheet_12 : decode cX5_sheet 12 = .ok (.iconst 2, 1) := by decide +kernel
theorem dX5_sheet_13 : decode cX5_sheet 13 = .ok (.invokestatic 81, 3) := by decide +kernel
theorem dX5_sheet_16 : decode cX5_sheet 16 = .ok (.ifCond .eq 17, 3) := by decide +kernel
theorem dX5_sheet_19 : decode cX5_sheet 19 = .ok (.iload_n 2, 1) := by decide +kernel
theorem dX5_sheet_20 : decode cX5_sheet 20 = .ok (.iconst 0, 1) := by decide +kernel
theorem dX5_sheet_21 : decode cX5_sheet 21 = .ok (.iconst 1, 1) := by decide +kernel
theorem dX5_sheet_22 : decode cX5_sheet 22 = .ok (.invokestatic 81, 3) := by decide +kernel
theorem dX5_sheet_25 : decode cX5_sheet 25 = .ok (.ifCond .eq 8, 3) := by decide +kernel
theorem dX5_sheet_28 : decode cX5_sheet 28 = .ok (.iload_n 3, 1) := by decide +kernel
theorem dX5_sheet_29 : decode cX5_sheet 29 = .ok (.iconst 4, 1) := by decide +kernel
theorem dX5_sheet_30 : decode cX5_sheet 30 = .ok (.if_icmp .le 9, 3) := by decide +kernel
theorem dX5_sheet_33 : decode cX5_sheet 33 = .ok (.aload_n 0, 1) := by decide +kernel
theorem dX5_sheet_34 : decode cX5_sheet 34 = .ok (.iconst (-1), 1) := by decide +kernel
theorem dX5_sheet_35 : decode cX5_sheet 35 = .ok (.invokevirtual 178, 3) := by decide +kernel
theorem dX5_sheet_38 : decode cX5_sheet 38 = .ok (.ireturn, 1) := by decide +kernel
theorem dX5_sheet_39 : decode cX5_sheet 39 = .ok (.iload_n 3, 1) := by decide +kernel
theorem dX5_sheet_40 : decode cX5_sheet 40 = .ok (.ifCond .ge 10, 3) := by decide +kernel
theorem dX5_sheet_43 : decode cX5_sheet 43 = .ok (.aload_n 0, 1) := by decide +kernel
theorem dX5_sheet_44 : decode cX5_sheet 44 = .ok (.bipush (-15), 2) := by decide +kernel
theorem dX5_sheet_46 : decode cX5_sheet 46 = .ok (.invokevirtual 178, 3) := by decide +kernel
theorem dX5_sheet_49 : decode cX5_sheet 49 = .ok (.ireturn, 1) := by decide +kernel
theorem dX5_sheet_50 : decode cX5_sheet 50 = .ok (.aload_n 0, 1) := by decide +kernel
theorem dX5_sheet_51 : decode cX5_sheet 51 = .ok (.getfield 36, 3) := by decide +kernel
theorem dX5_sheet_54 : decode cX5_sheet 54 = .ok (.iload_n 1, 1) := by decide +kernel
theorem dX5_sheet_55 : decode cX5_sheet 55 = .ok (.iconst 1, 1) := by decide +kernel
theorem dX5_sheet_56 : decode cX5_sheet 56 = .ok (.bastore, 1) := by decide +kernel
theorem dX5_sheet_57 : decode cX5_sheet 57 = .ok (.aload_n 0, 1) := by decide +kernel
theorem dX5_sheet_58 : decode cX5_sheet 58 = .ok (.getfield 39, 3) := by decide +kernel
theorem dX5_sheet_61 : decode cX5_sheet 61 = .ok (.iload_n 1, 1) := by decide +kernel
theorem dX5_sheet_62 : decode cX5_sheet 62 = .ok (.iload_n 2, 1) := by decide +kernel
theorem dX5_sheet_63 : decode cX5_sheet 63 = .ok (.iastore, 1) := by decide +kernel
theorem dX5_sheet_64 : decode cX5_sheet 64 = .ok (.aload_n 0, 1) := by decide +kernel
theorem dX5_sheet_65 : decode cX5_sheet 65 = .ok (.getfield 42, 3) := by decide +kernel
theorem dX5_sheet_68 : decode cX5_sheet 68 = .ok (.iload_n 1, 1) := by decide +kernel
theorem dX5_sheet_69 : decode cX5_sheet 69 = .ok (.iload_n 3, 1) := by decide +kernel
theorem dX5_sheet_70 : decode cX5_sheet 70 = .ok (.iastore, 1) := by decide +kernel
theorem dX5_sheet_71 : decode cX5_sheet 71 = .ok (.iconst 0, 1) := by decide +kernel
theorem dX5_sheet_72 : decode cX5_sheet 72 = .ok (.istore 4, 2) := by decide +kernel
theorem dX5_sheet_74 : decode cX5_sheet 74 = .ok (.iload 4, 2) := by decide +kernel
theorem dX5_sheet_76 : decode cX5_sheet 76 = .ok (.iconst 4, 1) := by decide +kernel
theorem dX5_sheet_77 : decode cX5_sheet 77 = .ok (.if_icmp .ge 22, 3) := by decide +kernel
theorem dX5_sheet_80 : decode cX5_sheet 80 = .ok (.aload_n 0, 1) := by decide +kernel
theorem dX5_sheet_81 : decode cX5_sheet 81 = .ok (.getfield 45, 3) := by decide +kernel
theorem dX5_sheet_84 : decode cX5_sheet 84 = .ok (.iconst 4, 1) := by decide +kernel
theorem dX5_sheet_85 : decode cX5_sheet 85 = .ok (.iload_n 1, 1) := by decide +kernel
theorem dX5_sheet_86 : decode cX5_sheet 86 = .ok (.imul, 1) := by decide +kernel
theorem dX5_sheet_87 : decode cX5_sheet 87 = .ok (.iload 4, 2) := by decide +kernel
theorem dX5_sheet_89 : decode cX5_sheet 89 = .ok (.iadd, 1) := by decide +kernel
theorem dX5_sheet_90 : decode cX5_sheet 90 = .ok (.bipush (-9), 2) := by decide +kernel
theorem dX5_sheet_92 : decode cX5_sheet 92 = .ok (.iastore, 1) := by decide +kernel
theorem dX5_sheet_93 : decode cX5_sheet 93 = .ok (.iinc 4 1, 3) := by decide +kernel
theorem dX5_sheet_96 : decode cX5_sheet 96 = .ok (.goto (-22), 3) := by decide +kernel
theorem dX5_sheet_99 : decode cX5_sheet 99 = .ok (.iconst 1, 1) := by decide +kernel
theorem dX5_sheet_100 : decode cX5_sheet 100 = .ok (.ireturn, 1) := by decide +kernel
theorem dX5_row_0 : decode cX5_row 0 = .ok (.aload_n 0, 1) := by decide +kernel
theorem dX5_row_1 : decode cX5_row 1 = .ok (.iconst 0, 1) := by decide +kernel
theorem dX5_row_2 : decode cX5_row 2 = .ok (.putfield 58, 3) := by decide +kernel
theorem dX5_row_5 : decode cX5_row 5 = .ok (.aload_n 0, 1) := by decide +kernel
theorem dX5_row_6 : decode cX5_row 6 = .ok (.iconst 0, 1) := by decide +kernel
theorem dX5_row_7 : decode cX5_row 7 = .ok (.putfield 175, 3) := by decide +kernel
theorem dX5_row_10 : decode cX5_row 10 = .ok (.iload_n 1, 1) := by decide +kernel
theorem dX5_row_11 : decode cX5_row 11 = .ok (.iconst 0, 1) := by decide +kernel
theorem dX5_row_12 : decode cX5_row 12 = .ok (.iconst 2, 1) := by decide +kernel
theorem dX5_row_13 : decode cX5_row 13 = .ok (.invokestatic 81, 3) := by decide +kernel
theorem dX5_row_16 : decode cX5_row 16 = .ok (.ifCond .eq 9, 3) := by decide +kernel
theorem dX5_row_19 : decode cX5_row 19 = .ok (.iload_n 3, 1) := by decide +kernel
theorem dX5_row_20 : decode cX5_row 20 = .ok (.bipush 40, 2) := by decide +kernel
theorem dX5_row_22 : decode cX5_row 22 = .ok (.if_icmp .le 9, 3) := by decide +kernel
theorem dX5_row_25 : decode cX5_row 25 = .ok (.aload_n 0, 1) := by decide +kernel
theorem dX5_row_26 : decode cX5_row 26 = .ok (.iconst (-1), 1) := by decide +kernel
theorem dX5_row_27 : decode cX5_row 27 = .ok (.invokevirtual 178, 3) := by decide +kernel
theorem dX5_row_30 : decode cX5_row 30 = .ok (.ireturn, 1) := by decide +kernel
theorem dX5_row_31 : decode cX5_row 31 = .ok (.aload_n 0, 1) := by decide +kernel
theorem dX5_row_32 : decode cX5_row 32 = .ok (.getfield 36, 3) := by decide +kernel
theorem dX5_row_35 : decode cX5_row 35 = .ok (.iload_n 1, 1) := by decide +kernel
theorem dX5_row_36 : decode cX5_row 36 = .ok (.baload, 1) := by decide +kernel
theorem dX5_row_37 : decode cX5_row 37 = .ok (.ifCond .ne 10, 3) := by decide +kernel
theorem dX5_row_40 : decode cX5_row 40 = .ok (.aload_n 0, 1) := by decide +kernel
theorem dX5_row_41 : decode cX5_row 41 = .ok (.bipush (-11), 2) := by decide +kernel
theorem dX5_row_43 : decode cX5_row 43 = .ok (.invokevirtual 178, 3) := by decide +kernel
theorem dX5_row_46 : decode cX5_row 46 = .ok (.ireturn, 1) := by decide +kernel
theorem dX5_row_47 : decode cX5_row 47 = .ok (.iload_n 2, 1) := by decide +kernel
theorem dX5_row_48 : decode cX5_row 48 = .ok (.iconst 0, 1) := by decide +kernel
theorem dX5_row_49 : decode cX5_row 49 = .ok (.aload_n 0, 1) := by decide +kernel
theorem dX5_row_50 : decode cX5_row 50 = .ok (.getfield 42, 3) := by decide +kernel
theorem dX5_row_53 : decode cX5_row 53 = .ok (.iload_n 1, 1) := by decide +kernel
theorem dX5_row_54 : decode cX5_row 54 = .ok (.iaload, 1) := by decide +kernel
theorem dX5_row_55 : decode cX5_row 55 = .ok (.iconst 1, 1) := by decide +kernel
theorem dX5_row_56 : decode cX5_row 56 = .ok (.isub, 1) := by decide +kernel
theorem dX5_row_57 : decode cX5_row 57 = .ok (.invokestatic 81, 3) := by decide +kernel
theorem dX5_row_60 : decode cX5_row 60 = .ok (.ifCond .ne 10, 3) := by decide +kernel
theorem dX5_row_63 : decode cX5_row 63 = .ok (.aload_n 0, 1) := by decide +kernel
theorem dX5_row_64 : decode cX5_row 64 = .ok (.bipush (-12), 2) := by decide +kernel
theorem dX5_row_66 : decode cX5_row 66 = .ok (.invokevirtual 178, 3) := by decide +kernel
theorem dX5_row_69 : decode cX5_row 69 = .ok (.ireturn, 1) := by decide +kernel
theorem dX5_row_70 : decode cX5_row 70 = .ok (.iload_n 3, 1) := by decide +kernel
theorem dX5_row_71 : decode cX5_row 71 = .ok (.ifCond .ge 10, 3) := by decide +kernel
theorem dX5_row_74 : decode cX5_row 74 = .ok (.aload_n 0, 1) := by decide +kernel
theorem dX5_row_75 : decode cX5_row 75 = .ok (.bipush (-15), 2) := by decide +kernel
theorem dX5_row_77 : decode cX5_row 77 = .ok (.invokevirtual 178, 3) := by decide +kernel
theorem dX5_row_80 : decode cX5_row 80 = .ok (.ireturn, 1) := by decide +kernel
theorem dX5_row_81 : decode cX5_row 81 = .ok (.aload_n 0, 1) := by decide +kernel
theorem dX5_row_82 : decode cX5_row 82 = .ok (.getfield 45, 3) := by decide +kernel
theorem dX5_row_85 : decode cX5_row 85 = .ok (.iconst 4, 1) := by decide +kernel
theorem dX5_row_86 : decode cX5_row 86 = .ok (.iload_n 1, 1) := by decide +kernel
theorem dX5_row_87 : decode cX5_row 87 = .ok (.imul, 1) := by decide +kernel
theorem dX5_row_88 : decode cX5_row 88 = .ok (.iload_n 2, 1) := by decide +kernel
theorem dX5_row_89 : decode cX5_row 89 = .ok (.iadd, 1) := by decide +kernel
theorem dX5_row_90 : decode cX5_row 90 = .ok (.iload_n 3, 1) := by decide +kernel
theorem dX5_row_91 : decode cX5_row 91 = .ok (.iastore, 1) := by decide +kernel
theorem dX5_row_92 : decode cX5_row 92 = .ok (.iconst 0, 1) := by decide +kernel
theorem dX5_row_93 : decode cX5_row 93 = .ok (.istore 4, 2) := by decide +kernel
theorem dX5_row_95 : decode cX5_row 95 = .ok (.iload 4, 2) := by decide +kernel
theorem dX5_row_97 : decode cX5_row 97 = .ok (.bipush 40, 2) := by decide +kernel
theorem dX5_row_99 : decode cX5_row 99 = .ok (.if_icmp .ge 28, 3) := by decide +kernel
theorem dX5_row_102 : decode cX5_row 102 = .ok (.aload_n 0, 1) := by decide +kernel
theorem dX5_row_103 : decode cX5_row 103 = .ok (.getfield 48, 3) := by decide +kernel
theorem dX5_row_106 : decode cX5_row 106 = .ok (.sipush 160, 3) := by decide +kernel
theorem dX5_row_109 : decode cX5_row 109 = .ok (.iload_n 1, 1) := by decide +kernel
theorem dX5_row_110 : decode cX5_row 110 = .ok (.imul, 1) := by decide +kernel
theorem dX5_row_111 : decode cX5_row 111 = .ok (.bipush 40, 2) := by decide +kernel
theorem dX5_row_113 : decode cX5_row 113 = .ok (.iload_n 2, 1) := by decide +kernel
theorem dX5_row_114 : decode cX5_row 114 = .ok (.imul, 1) := by decide +kernel
theorem dX5_row_115 : decode cX5_row 115 = .ok (.iadd, 1) := by decide +kernel
theorem dX5_row_116 : decode cX5_row 116 = .ok (.iload 4, 2) := by decide +kernel
theorem dX5_row_118 : decode cX5_row 118 = .ok (.iadd, 1) := by decide +kernel
theorem dX5_row_119 : decode cX5_row 119 = .ok (.iconst 0, 1) := by decide +kernel
theorem dX5_row_120 : decode cX5_row 120 = .ok (.iastore, 1) := by decide +kernel
theorem dX5_row_121 : decode cX5_row 121 = .ok (.iinc 4 1, 3) := by decide +kernel
theorem dX5_row_124 : decode cX5_row 124 = .ok (.goto (-29), 3) := by decide +kernel
theorem dX5_row_127 : decode cX5_row 127 = .ok (.iconst 1, 1) := by decide +kernel
theorem dX5_row_128 : decode cX5_row 128 = .ok (.ireturn, 1) := by decide +kernel
theorem dX5_put_0 : decode cX5_put 0 = .ok (.aload_n 0, 1) := by decide +kernel
theorem dX5_put_1 : decode cX5_put 1 = .ok (.iconst 0, 1) := by decide +kernel
theorem dX5_put_2 : decode cX5_put 2 = .ok (.putfield 58, 3) := by decide +kernel
theorem dX5_put_5 : decode cX5_put 5 = .ok (.aload_n 0, 1) := by decide +kernel
theorem dX5_put_6 : decode cX5_put 6 = .ok (.iconst 0, 1) := by decide +kernel
theorem dX5_put_7 : decode cX5_put 7 = .ok (.putfield 175, 3) := by decide +kernel
theorem dX5_put_10 : decode cX5_put 10 = .ok (.iload_n 1, 1) := by decide +kernel
theorem dX5_put_11 : decode cX5_put 11 = .ok (.iconst 0, 1) := by decide +kernel
theorem dX5_put_12 : decode cX5_put 12 = .ok (.iconst 2, 1) := by decide +kernel
theorem dX5_put_13 : decode cX5_put 13 = .ok (.invokestatic 81, 3) := by decide +kernel
theorem dX5_put_16 : decode cX5_put 16 = .ok (.ifCond .eq 12, 3) := by decide +kernel
theorem dX5_put_19 : decode cX5_put 19 = .ok (.iload_n 2, 1) := by decide +kernel
theorem dX5_put_20 : decode cX5_put 20 = .ok (.iconst 0, 1) := by decide +kernel
theorem dX5_put_21 : decode cX5_put 21 = .ok (.iconst 1, 1) := by decide +kernel
theorem dX5_put_22 : decode cX5_put 22 = .ok (.invokestatic 81, 3) := by decide +kernel
theorem dX5_put_25 : decode cX5_put 25 = .ok (.ifCond .ne 9, 3) := by decide +kernel
theorem dX5_put_28 : decode cX5_put 28 = .ok (.aload_n 0, 1) := by decide +kernel
theorem dX5_put_29 : decode cX5_put 29 = .ok (.iconst (-1), 1) := by decide +kernel
theorem dX5_put_30 : decode cX5_put 30 = .ok (.invokevirtual 178, 3) := by decide +kernel
theorem dX5_put_33 : decode cX5_put 33 = .ok (.ireturn, 1) := by decide +kernel
theorem dX5_put_34 : decode cX5_put 34 = .ok (.aload_n 0, 1) := by decide +kernel
theorem dX5_put_35 : decode cX5_put 35 = .ok (.getfield 36, 3) := by decide +kernel
theorem dX5_put_38 : decode cX5_put 38 = .ok (.iload_n 1, 1) := by decide +kernel
theorem dX5_put_39 : decode cX5_put 39 = .ok (.baload, 1) := by decide +kernel
theorem dX5_put_40 : decode cX5_put 40 = .ok (.ifCond .ne 10, 3) := by decide +kernel
theorem dX5_put_43 : decode cX5_put 43 = .ok (.aload_n 0, 1) := by decide +kernel
theorem dX5_put_44 : decode cX5_put 44 = .ok (.bipush (-11), 2) := by decide +kernel
theorem dX5_put_46 : decode cX5_put 46 = .ok (.invokevirtual 178, 3) := by decide +kernel
theorem dX5_put_49 : decode cX5_put 49 = .ok (.ireturn, 1) := by decide +kernel
theorem dX5_put_50 : decode cX5_put 50 = .ok (.aload_n 0, 1) := by decide +kernel
theorem dX5_put_51 : decode cX5_put 51 = .ok (.getfield 39, 3) := by decide +kernel
theorem dX5_put_54 : decode cX5_put 54 = .ok (.iload_n 1, 1) := by decide +kernel
theorem dX5_put_55 : decode cX5_put 55 = .ok (.iaload, 1) := by decide +kernel
theorem dX5_put_56 : decode cX5_put 56 = .ok (.iload_n 2, 1) := by decide +kernel
theorem dX5_put_57 : decode cX5_put 57 = .ok (.if_icmp .eq 10, 3) := by decide +kernel
theorem dX5_put_60 : decode cX5_put 60 = .ok (.aload_n 0, 1) := by decide +kernel
theorem dX5_put_61 : decode cX5_put 61 = .ok (.bipush (-13), 2) := by decide +kernel
theorem dX5_put_63 : decode cX5_put 63 = .ok (.invokevirtual 178, 3) := by decide +kernel
theorem dX5_put_66 : decode cX5_put 66 = .ok (.ireturn, 1) := by decide +kernel
theorem dX5_put_67 : decode cX5_put 67 = .ok (.iload_n 3, 1) := by decide +kernel
theorem dX5_put_68 : decode cX5_put 68 = .ok (.iconst 0, 1) := by decide +kernel
theorem dX5_put_69 : decode cX5_put 69 = .ok (.aload_n 0, 1) := by decide +kernel
theorem dX5_put_70 : decode cX5_put 70 = .ok (.getfield 42, 3) := by decide +kernel
theorem dX5_put_73 : decode cX5_put 73 = .ok (.iload_n 1, 1) := by decide +kernel
theorem dX5_put_74 : decode cX5_put 74 = .ok (.iaload, 1) := by decide +kernel
theorem dX5_put_75 : decode cX5_put 75 = .ok (.iconst 1, 1) := by decide +kernel
theorem dX5_put_76 : decode cX5_put 76 = .ok (.isub, 1) := by decide +kernel
theorem dX5_put_77 : decode cX5_put 77 = .ok (.invokestatic 81, 3) := by decide +kernel
theorem dX5_put_80 : decode cX5_put 80 = .ok (.ifCond .ne 10, 3) := by decide +kernel
theorem dX5_put_83 : decode cX5_put 83 = .ok (.aload_n 0, 1) := by decide +kernel
theorem dX5_put_84 : decode cX5_put 84 = .ok (.bipush (-12), 2) := by decide +kernel
theorem dX5_put_86 : decode cX5_put 86 = .ok (.invokevirtual 178, 3) := by decide +kernel
theorem dX5_put_89 : decode cX5_put 89 = .ok (.ireturn, 1) := by decide +kernel
theorem dX5_put_90 : decode cX5_put 90 = .ok (.aload_n 0, 1) := by decide +kernel
theorem dX5_put_91 : decode cX5_put 91 = .ok (.getfield 45, 3) := by decide +kernel
theorem dX5_put_94 : decode cX5_put 94 = .ok (.iconst 4, 1) := by decide +kernel
theorem dX5_put_95 : decode cX5_put 95 = .ok (.iload_n 1, 1) := by decide +kernel
theorem dX5_put_96 : decode cX5_put 96 = .ok (.imul, 1) := by decide +kernel
theorem dX5_put_97 : decode cX5_put 97 = .ok (.iload_n 3, 1) := by decide +kernel
theorem dX5_put_98 : decode cX5_put 98 = .ok (.iadd, 1) := by decide +kernel
theorem dX5_put_99 : decode cX5_put 99 = .ok (.iaload, 1) := by decide +kernel
theorem dX5_put_100 : decode cX5_put 100 = .ok (.istore 6, 2) := by decide +kernel
theorem dX5_put_102 : decode cX5_put 102 = .ok (.iload 6, 2) := by decide +kernel
theorem dX5_put_104 : decode cX5_put 104 = .ok (.bipush (-9), 2) := by decide +kernel
theorem dX5_put_106 : decode cX5_put 106 = .ok (.if_icmp .ne 10, 3) := by decide +kernel
theorem dX5_put_109 : decode cX5_put 109 = .ok (.aload_n 0, 1) := by decide +kernel
theorem dX5_put_110 : decode cX5_put 110 = .ok (.bipush (-11), 2) := by decide +kernel
theorem dX5_put_112 : decode cX5_put 112 = .ok (.invokevirtual 178, 3) := by decide +kernel
theorem dX5_put_115 : decode cX5_put 115 = .ok (.ireturn, 1) := by decide +kernel
theorem dX5_put_116 : decode cX5_put 116 = .ok (.iload 4, 2) := by decide +kernel
theorem dX5_put_118 : decode cX5_put 118 = .ok (.iconst 0, 1) := by decide +kernel
theorem dX5_put_119 : decode cX5_put 119 = .ok (.iload 6, 2) := by decide +kernel
theorem dX5_put_121 : decode cX5_put 121 = .ok (.iconst 1, 1) := by decide +kernel
theorem dX5_put_122 : decode cX5_put 122 = .ok (.isub, 1) := by decide +kernel
theorem dX5_put_123 : decode cX5_put 123 = .ok (.invokestatic 81, 3) := by decide +kernel
theorem dX5_put_126 : decode cX5_put 126 = .ok (.ifCond .ne 10, 3) := by decide +kernel
theorem dX5_put_129 : decode cX5_put 129 = .ok (.aload_n 0, 1) := by decide +kernel
theorem dX5_put_130 : decode cX5_put 130 = .ok (.bipush (-12), 2) := by decide +kernel
theorem dX5_put_132 : decode cX5_put 132 = .ok (.invokevirtual 178, 3) := by decide +kernel
theorem dX5_put_135 : decode cX5_put 135 = .ok (.ireturn, 1) := by decide +kernel
theorem dX5_put_136 : decode cX5_put 136 = .ok (.aload_n 0, 1) := by decide +kernel
theorem dX5_put_137 : decode cX5_put 137 = .ok (.getfield 48, 3) := by decide +kernel
theorem dX5_put_140 : decode cX5_put 140 = .ok (.sipush 160, 3) := by decide +kernel
theorem dX5_put_143 : decode cX5_put 143 = .ok (.iload_n 1, 1) := by decide +kernel
theorem dX5_put_144 : decode cX5_put 144 = .ok (.imul, 1) := by decide +kernel
theorem dX5_put_145 : decode cX5_put 145 = .ok (.bipush 40, 2) := by decide +kernel
theorem dX5_put_147 : decode cX5_put 147 = .ok (.iload_n 3, 1) := by decide +kernel
theorem dX5_put_148 : decode cX5_put 148 = .ok (.imul, 1) := by decide +kernel
theorem dX5_put_149 : decode cX5_put 149 = .ok (.iadd, 1) := by decide +kernel
theorem dX5_put_150 : decode cX5_put 150 = .ok (.iload 4, 2) := by decide +kernel
theorem dX5_put_152 : decode cX5_put 152 = .ok (.iadd, 1) := by decide +kernel
theorem dX5_put_153 : decode cX5_put 153 = .ok (.iload_n 2, 1) := by decide +kernel
theorem dX5_put_154 : decode cX5_put 154 = .ok (.ifCond .ne 9, 3) := by decide +kernel
theorem dX5_put_157 : decode cX5_put 157 = .ok (.iload 5, 2) := by decide +kernel
theorem dX5_put_159 : decode cX5_put 159 = .ok (.i2b, 1) := by decide +kernel
theorem dX5_put_160 : decode cX5_put 160 = .ok (.goto 5, 3) := by decide +kernel
theorem dX5_put_163 : decode cX5_put 163 = .ok (.iload 5, 2) := by decide +kernel
theorem dX5_put_165 : decode cX5_put 165 = .ok (.iastore, 1) := by decide +kernel
theorem dX5_put_166 : decode cX5_put 166 = .ok (.iconst 1, 1) := by decide +kernel
theorem dX5_put_167 : decode cX5_put 167 = .ok (.ireturn, 1) := by decide +kernel
theorem dX5_areThere_0 : decode cX5_areThere 0 = .ok (.iload_n 0, 1) := by decide +kernel
theorem dX5_areThere_1 : decode cX5_areThere 1 = .ok (.ifCond .lt 22, 3) := by decide +kernel
theorem dX5_areThere_4 : decode cX5_areThere 4 = .ok (.iload_n 1, 1) := by decide +kernel
theorem dX5_areThere_5 : decode cX5_areThere 5 = .ok (.ifCond .lt 18, 3) := by decide +kernel
theorem dX5_areThere_8 : decode cX5_areThere 8 = .ok (.iload_n 0, 1) := by decide +kernel
theorem dX5_areThere_9 : decode cX5_areThere 9 = .ok (.i2l, 1) := by decide +kernel
theorem dX5_areThere_10 : decode cX5_areThere 10 = .ok (.iload_n 1, 1) := by decide +kernel
theorem dX5_areThere_11 : decode cX5_areThere 11 = .ok (.i2l, 1) := by decide +kernel
theorem dX5_areThere_12 : decode cX5_areThere 12 = .ok (.ladd, 1) := by decide +kernel
theorem dX5_areThere_13 : decode cX5_areThere 13 = .ok (.iload_n 2, 1) := by decide +kernel
theorem dX5_areThere_14 : decode cX5_areThere 14 = .ok (.i2l, 1) := by decide +kernel
theorem dX5_areThere_15 : decode cX5_areThere 15 = .ok (.lcmp, 1) := by decide +kernel
theorem dX5_areThere_16 : decode cX5_areThere 16 = .ok (.ifCond .gt 7, 3) := by decide +kernel
theorem dX5_areThere_19 : decode cX5_areThere 19 = .ok (.iconst 1, 1) := by decide +kernel
theorem dX5_areThere_20 : decode cX5_areThere 20 = .ok (.goto 4, 3) := by decide +kernel
theorem dX5_areThere_23 : decode cX5_areThere 23 = .ok (.iconst 0, 1) := by decide +kernel
theorem dX5_areThere_24 : decode cX5_areThere 24 = .ok (.ireturn, 1) := by decide +kernel
theorem dX5_copy_0 : decode cX5_copy 0 = .ok (.aload_n 0, 1) := by decide +kernel
theorem dX5_copy_1 : decode cX5_copy 1 = .ok (.iconst 0, 1) := by decide +kernel
theorem dX5_copy_2 : decode cX5_copy 2 = .ok (.putfield 58, 3) := by decide +kernel
theorem dX5_copy_5 : decode cX5_copy 5 = .ok (.aload_n 0, 1) := by decide +kernel
theorem dX5_copy_6 : decode cX5_copy 6 = .ok (.iconst 0, 1) := by decide +kernel
theorem dX5_copy_7 : decode cX5_copy 7 = .ok (.putfield 175, 3) := by decide +kernel
theorem dX5_copy_10 : decode cX5_copy 10 = .ok (.iload_n 1, 1) := by decide +kernel
theorem dX5_copy_11 : decode cX5_copy 11 = .ok (.iconst 0, 1) := by decide +kernel
theorem dX5_copy_12 : decode cX5_copy 12 = .ok (.iconst 2, 1) := by decide +kernel
theorem dX5_copy_13 : decode cX5_copy 13 = .ok (.invokestatic 81, 3) := by decide +kernel
theorem dX5_copy_16 : decode cX5_copy 16 = .ok (.ifCond .eq 13, 3) := by decide +kernel
theorem dX5_copy_19 : decode cX5_copy 19 = .ok (.iload 4, 2) := by decide +kernel
theorem dX5_copy_21 : decode cX5_copy 21 = .ok (.iconst 0, 1) := by decide +kernel
theorem dX5_copy_22 : decode cX5_copy 22 = .ok (.iconst 2, 1) := by decide +kernel
theorem dX5_copy_23 : decode cX5_copy 23 = .ok (.invokestatic 81, 3) := by decide +kernel
theorem dX5_copy_26 : decode cX5_copy 26 = .ok (.ifCond .ne 9, 3) := by decide +kernel
theorem dX5_copy_29 : decode cX5_copy 29 = .ok (.aload_n 0, 1) := by decide +kernel
theorem dX5_copy_30 : decode cX5_copy 30 = .ok (.iconst (-1), 1) := by decide +kernel
theorem dX5_copy_31 : decode cX5_copy 31 = .ok (.invokevirtual 178, 3) := by decide +kernel
theorem dX5_copy_34 : decode cX5_copy 34 = .ok (.ireturn, 1) := by decide +kernel
theorem dX5_copy_35 : decode cX5_copy 35 = .ok (.aload_n 0, 1) := by decide +kernel
theorem dX5_copy_36 : decode cX5_copy 36 = .ok (.getfield 36, 3) := by decide +kernel
theorem dX5_copy_39 : decode cX5_copy 39 = .ok (.iload_n 1, 1) := by decide +kernel
theorem dX5_copy_40 : decode cX5_copy 40 = .ok (.baload, 1) := by decide +kernel
theorem dX5_copy_41 : decode cX5_copy 41 = .ok (.ifCond .eq 13, 3) := by decide +kernel
theorem dX5_copy_44 : decode cX5_copy 44 = .ok (.aload_n 0, 1) := by decide +kernel
theorem dX5_copy_45 : decode cX5_copy 45 = .ok (.getfield 36, 3) := by decide +kernel
theorem dX5_copy_48 : decode cX5_copy 48 = .ok (.iload 4, 2) := by decide +kernel
theorem dX5_copy_50 : decode cX5_copy 50 = .ok (.baload, 1) := by decide +kernel
theorem dX5_copy_51 : decode cX5_copy 51 = .ok (.ifCond .ne 10, 3) := by decide +kernel
theorem dX5_copy_54 : decode cX5_copy 54 = .ok (.aload_n 0, 1) := by decide +kernel
theorem dX5_copy_55 : decode cX5_copy 55 = .ok (.bipush (-11), 2) := by decide +kernel
theorem dX5_copy_57 : decode cX5_copy 57 = .ok (.invokevirtual 178, 3) := by decide +kernel
theorem dX5_copy_60 : decode cX5_copy 60 = .ok (.ireturn, 1) := by decide +kernel
theorem dX5_copy_61 : decode cX5_copy 61 = .ok (.aload_n 0, 1) := by decide +kernel
theorem dX5_copy_62 : decode cX5_copy 62 = .ok (.getfield 39, 3) := by decide +kernel
theorem dX5_copy_65 : decode cX5_copy 65 = .ok (.iload_n 1, 1) := by decide +kernel
theorem dX5_copy_66 : decode cX5_copy 66 = .ok (.iaload, 1) := by decide +kernel
theorem dX5_copy_67 : decode cX5_copy 67 = .ok (.aload_n 0, 1) := by decide +kernel
theorem dX5_copy_68 : decode cX5_copy 68 = .ok (.getfield 39, 3) := by decide +kernel
theorem dX5_copy_71 : decode cX5_copy 71 = .ok (.iload 4, 2) := by decide +kernel
theorem dX5_copy_73 : decode cX5_copy 73 = .ok (.iaload, 1) := by decide +kernel
theorem dX5_copy_74 : decode cX5_copy 74 = .ok (.if_icmp .eq 10, 3) := by decide +kernel
theorem dX5_copy_77 : decode cX5_copy 77 = .ok (.aload_n 0, 1) := by decide +kernel
theorem dX5_copy_78 : decode cX5_copy 78 = .ok (.bipush (-13), 2) := by decide +kernel
theorem dX5_copy_80 : decode cX5_copy 80 = .ok (.invokevirtual 178, 3) := by decide +kernel
theorem dX5_copy_83 : decode cX5_copy 83 = .ok (.ireturn, 1) := by decide +kernel
theorem dX5_copy_84 : decode cX5_copy 84 = .ok (.iload_n 2, 1) := by decide +kernel
theorem dX5_copy_85 : decode cX5_copy 85 = .ok (.iconst 0, 1) := by decide +kernel
theorem dX5_copy_86 : decode cX5_copy 86 = .ok (.aload_n 0, 1) := by decide +kernel
theorem dX5_copy_87 : decode cX5_copy 87 = .ok (.getfield 42, 3) := by decide +kernel
theorem dX5_copy_90 : decode cX5_copy 90 = .ok (.iload_n 1, 1) := by decide +kernel
theorem dX5_copy_91 : decode cX5_copy 91 = .ok (.iaload, 1) := by decide +kernel
theorem dX5_copy_92 : decode cX5_copy 92 = .ok (.iconst 1, 1) := by decide +kernel
theorem dX5_copy_93 : decode cX5_copy 93 = .ok (.isub, 1) := by decide +kernel
theorem dX5_copy_94 : decode cX5_copy 94 = .ok (.invokestatic 81, 3) := by decide +kernel
theorem dX5_copy_97 : decode cX5_copy 97 = .ok (.ifCond .eq 21, 3) := by decide +kernel
theorem dX5_copy_100 : decode cX5_copy 100 = .ok (.iload 5, 2) := by decide +kernel
theorem dX5_copy_102 : decode cX5_copy 102 = .ok (.iconst 0, 1) := by decide +kernel
theorem dX5_copy_103 : decode cX5_copy 103 = .ok (.aload_n 0, 1) := by decide +kernel
theorem dX5_copy_104 : decode cX5_copy 104 = .ok (.getfield 42, 3) := by decide +kernel
theorem dX5_copy_107 : decode cX5_copy 107 = .ok (.iload 4, 2) := by decide +kernel
theorem dX5_copy_109 : decode cX5_copy 109 = .ok (.iaload, 1) := by decide +kernel
theorem dX5_copy_110 : decode cX5_copy 110 = .ok (.iconst 1, 1) := by decide +kernel
theorem dX5_copy_111 : decode cX5_copy 111 = .ok (.isub, 1) := by decide +kernel
theorem dX5_copy_112 : decode cX5_copy 112 = .ok (.invokestatic 81, 3) := by decide +kernel
theorem dX5_copy_115 : decode cX5_copy 115 = .ok (.ifCond .ne 10, 3) := by decide +kernel
theorem dX5_copy_118 : decode cX5_copy 118 = .ok (.aload_n 0, 1) := by decide +kernel
theorem dX5_copy_119 : decode cX5_copy 119 = .ok (.bipush (-12), 2) := by decide +kernel
theorem dX5_copy_121 : decode cX5_copy 121 = .ok (.invokevirtual 178, 3) := by decide +kernel
theorem dX5_copy_124 : decode cX5_copy 124 = .ok (.ireturn, 1) := by decide +kernel
theorem dX5_copy_125 : decode cX5_copy 125 = .ok (.aload_n 0, 1) := by decide +kernel
theorem dX5_copy_126 : decode cX5_copy 126 = .ok (.getfield 45, 3) := by decide +kernel
theorem dX5_copy_129 : decode cX5_copy 129 = .ok (.iconst 4, 1) := by decide +kernel
theorem dX5_copy_130 : decode cX5_copy 130 = .ok (.iload_n 1, 1) := by decide +kernel
theorem dX5_copy_131 : decode cX5_copy 131 = .ok (.imul, 1) := by decide +kernel
theorem dX5_copy_132 : decode cX5_copy 132 = .ok (.iload_n 2, 1) := by decide +kernel
theorem dX5_copy_133 : decode cX5_copy 133 = .ok (.iadd, 1) := by decide +kernel
theorem dX5_copy_134 : decode cX5_copy 134 = .ok (.iaload, 1) := by decide +kernel
theorem dX5_copy_135 : decode cX5_copy 135 = .ok (.istore 8, 2) := by decide +kernel
theorem dX5_copy_137 : decode cX5_copy 137 = .ok (.aload_n 0, 1) := by decide +kernel
theorem dX5_copy_138 : decode cX5_copy 138 = .ok (.getfield 45, 3) := by decide +kernel
theorem dX5_copy_141 : decode cX5_copy 141 = .ok (.iconst 4, 1) := by decide +kernel
theorem dX5_copy_142 : decode cX5_copy 142 = .ok (.iload 4, 2) := by decide +kernel
theorem dX5_copy_144 : decode cX5_copy 144 = .ok (.imul, 1) := by decide +kernel
theorem dX5_copy_145 : decode cX5_copy 145 = .ok (.iload 5, 2) := by decide +kernel
theorem dX5_copy_147 : decode cX5_copy 147 = .ok (.iadd, 1) := by decide +kernel
theorem dX5_copy_148 : decode cX5_copy 148 = .ok (.iaload, 1) := by decide +kernel
theorem dX5_copy_149 : decode cX5_copy 149 = .ok (.istore 9, 2) := by decide +kernel
theorem dX5_copy_151 : decode cX5_copy 151 = .ok (.iload 8, 2) := by decide +kernel
theorem dX5_copy_153 : decode cX5_copy 153 = .ok (.bipush (-9), 2) := by decide +kernel
theorem dX5_copy_155 : decode cX5_copy 155 = .ok (.if_icmp .eq 10, 3) := by decide +kernel
theorem dX5_copy_158 : decode cX5_copy 158 = .ok (.iload 9, 2) := by decide +kernel
theorem dX5_copy_160 : decode cX5_copy 160 = .ok (.bipush (-9), 2) := by decide +kernel
theorem dX5_copy_162 : decode cX5_copy 162 = .ok (.if_icmp .ne 10, 3) := by decide +kernel
theorem dX5_copy_165 : decode cX5_copy 165 = .ok (.aload_n 0, 1) := by decide +kernel
theorem dX5_copy_166 : decode cX5_copy 166 = .ok (.bipush (-11), 2) := by decide +kernel
theorem dX5_copy_168 : decode cX5_copy 168 = .ok (.invokevirtual 178, 3) := by decide +kernel
theorem dX5_copy_171 : decode cX5_copy 171 = .ok (.ireturn, 1) := by decide +kernel
theorem dX5_copy_172 : decode cX5_copy 172 = .ok (.iload_n 3, 1) := by decide +kernel
theorem dX5_copy_173 : decode cX5_copy 173 = .ok (.iload 7, 2) := by decide +kernel
theorem dX5_copy_175 : decode cX5_copy 175 = .ok (.iload 8, 2) := by decide +kernel
theorem dX5_copy_177 : decode cX5_copy 177 = .ok (.invokestatic 181, 3) := by decide +kernel
theorem dX5_copy_180 : decode cX5_copy 180 = .ok (.ifCond .eq 15, 3) := by decide +kernel
theorem dX5_copy_183 : decode cX5_copy 183 = .ok (.iload 6, 2) := by decide +kernel
theorem dX5_copy_185 : decode cX5_copy 185 = .ok (.iload 7, 2) := by decide +kernel
theorem dX5_copy_187 : decode cX5_copy 187 = .ok (.iload 9, 2) := by decide +kernel
theorem dX5_copy_189 : decode cX5_copy 189 = .ok (.invokestatic 181, 3) := by decide +kernel
theorem dX5_copy_192 : decode cX5_copy 192 = .ok (.ifCond .ne 10, 3) := by decide +kernel
theorem dX5_copy_195 : decode cX5_copy 195 = .ok (.aload_n 0, 1) := by decide +kernel
theorem dX5_copy_196 : decode cX5_copy 196 = .ok (.bipush (-12), 2) := by decide +kernel
theorem dX5_copy_198 : decode cX5_copy 198 = .ok (.invokevirtual 178, 3) := by decide +kernel
theorem dX5_copy_201 : decode cX5_copy 201 = .ok (.ireturn, 1) := by decide +kernel
theorem dX5_copy_202 : decode cX5_copy 202 = .ok (.iconst 0, 1) := by decide +kernel
theorem dX5_copy_203 : decode cX5_copy 203 = .ok (.istore 10, 2) := by decide +kernel
theorem dX5_copy_205 : decode cX5_copy 205 = .ok (.iload 10, 2) := by decide +kernel
theorem dX5_copy_207 : decode cX5_copy 207 = .ok (.iload 7, 2) := by decide +kernel
theorem dX5_copy_209 : decode cX5_copy 209 = .ok (.if_icmp .ge 36, 3) := by decide +kernel
theorem dX5_copy_212 : decode cX5_copy 212 = .ok (.aload_n 0, 1) := by decide +kernel
theorem dX5_copy_213 : decode cX5_copy 213 = .ok (.getfield 51, 3) := by decide +kernel
theorem dX5_copy_216 : decode cX5_copy 216 = .ok (.iload 10, 2) := by decide +kernel
theorem dX5_copy_218 : decode cX5_copy 218 = .ok (.aload_n 0, 1) := by decide +kernel
theorem dX5_copy_219 : decode cX5_copy 219 = .ok (.getfield 48, 3) := by decide +kernel
theorem dX5_copy_222 : decode cX5_copy 222 = .ok (.sipush 160, 3) := by decide +kernel
theorem dX5_copy_225 : decode cX5_copy 225 = .ok (.iload_n 1, 1) := by decide +kernel
theorem dX5_copy_226 : decode cX5_copy 226 = .ok (.imul, 1) := by decide +kernel
theorem dX5_copy_227 : decode cX5_copy 227 = .ok (.bipush 40, 2) := by decide +kernel
theorem dX5_copy_229 : decode cX5_copy 229 = .ok (.iload_n 2, 1) := by decide +kernel
theorem dX5_copy_230 : decode cX5_copy 230 = .ok (.imul, 1) := by decide +kernel
theorem dX5_copy_231 : decode cX5_copy 231 = .ok (.iadd, 1) := by decide +kernel
theorem dX5_copy_232 : decode cX5_copy 232 = .ok (.iload_n 3, 1) := by decide +kernel
theorem dX5_copy_233 : decode cX5_copy 233 = .ok (.iadd, 1) := by decide +kernel
theorem dX5_copy_234 : decode cX5_copy 234 = .ok (.iload 10, 2) := by decide +kernel
theorem dX5_copy_236 : decode cX5_copy 236 = .ok (.iadd, 1) := by decide +kernel
theorem dX5_copy_237 : decode cX5_copy 237 = .ok (.iaload, 1) := by decide +kernel
theorem dX5_copy_238 : decode cX5_copy 238 = .ok (.iastore, 1) := by decide +kernel
theorem dX5_copy_239 : decode cX5_copy 239 = .ok (.iinc 10 1, 3) := by decide +kernel
theorem dX5_copy_242 : decode cX5_copy 242 = .ok (.goto (-37), 3) := by decide +kernel
theorem dX5_copy_245 : decode cX5_copy 245 = .ok (.iconst 0, 1) := by decide +kernel
theorem dX5_copy_246 : decode cX5_copy 246 = .ok (.istore 10, 2) := by decide +kernel
theorem dX5_copy_248 : decode cX5_copy 248 = .ok (.iload 10, 2) := by decide +kernel
theorem dX5_copy_250 : decode cX5_copy 250 = .ok (.iload 7, 2) := by decide +kernel
theorem dX5_copy_252 : decode cX5_copy 252 = .ok (.if_icmp .ge 39, 3) := by decide +kernel
theorem dX5_copy_255 : decode cX5_copy 255 = .ok (.aload_n 0, 1) := by decide +kernel
theorem dX5_copy_256 : decode cX5_copy 256 = .ok (.getfield 48, 3) := by decide +kernel
theorem dX5_copy_259 : decode cX5_copy 259 = .ok (.sipush 160, 3) := by decide +kernel
theorem dX5_copy_262 : decode cX5_copy 262 = .ok (.iload 4, 2) := by decide +kernel
theorem dX5_copy_264 : decode cX5_copy 264 = .ok (.imul, 1) := by decide +kernel
theorem dX5_copy_265 : decode cX5_copy 265 = .ok (.bipush 40, 2) := by decide +kernel
theorem dX5_copy_267 : decode cX5_copy 267 = .ok (.iload 5, 2) := by decide +kernel
theorem dX5_copy_269 : decode cX5_copy 269 = .ok (.imul, 1) := by decide +kernel
theorem dX5_copy_270 : decode cX5_copy 270 = .ok (.iadd, 1) := by decide +kernel
theorem dX5_copy_271 : decode cX5_copy 271 = .ok (.iload 6, 2) := by decide +kernel
theorem dX5_copy_273 : decode cX5_copy 273 = .ok (.iadd, 1) := by decide +kernel
theorem dX5_copy_274 : decode cX5_copy 274 = .ok (.iload 10, 2) := by decide +kernel
theorem dX5_copy_276 : decode cX5_copy 276 = .ok (.iadd, 1) := by decide +kernel
theorem dX5_copy_277 : decode cX5_copy 277 = .ok (.aload_n 0, 1) := by decide +kernel
theorem dX5_copy_278 : decode cX5_copy 278 = .ok (.getfield 51, 3) := by decide +kernel
theorem dX5_copy_281 : decode cX5_copy 281 = .ok (.iload 10, 2) := by decide +kernel
theorem dX5_copy_283 : decode cX5_copy 283 = .ok (.iaload, 1) := by decide +kernel
theorem dX5_copy_284 : decode cX5_copy 284 = .ok (.iastore, 1) := by decide +kernel
theorem dX5_copy_285 : decode cX5_copy 285 = .ok (.iinc 10 1, 3) := by decide +kernel
theorem dX5_copy_288 : decode cX5_copy 288 = .ok (.goto (-40), 3) := by decide +kernel
theorem dX5_copy_291 : decode cX5_copy 291 = .ok (.iload 7, 2) := by decide +kernel
theorem dX5_copy_293 : decode cX5_copy 293 = .ok (.ireturn, 1) := by decide +kernel
theorem dX5_read_0 : decode cX5_read 0 = .ok (.aload_n 0, 1) := by decide +kernel
theorem dX5_read_1 : decode cX5_read 1 = .ok (.iconst 0, 1) := by decide +kernel
theorem dX5_read_2 : decode cX5_read 2 = .ok (.putfield 58, 3) := by decide +kernel
theorem dX5_read_5 : decode cX5_read 5 = .ok (.aload_n 0, 1) := by decide +kernel
theorem dX5_read_6 : decode cX5_read 6 = .ok (.iconst 0, 1) := by decide +kernel
theorem dX5_read_7 : decode cX5_read 7 = .ok (.putfield 175, 3) := by decide +kernel
theorem dX5_read_10 : decode cX5_read 10 = .ok (.iload_n 1, 1) := by decide +kernel
theorem dX5_read_11 : decode cX5_read 11 = .ok (.iconst 0, 1) := by decide +kernel
theorem dX5_read_12 : decode cX5_read 12 = .ok (.iconst 2, 1) := by decide +kernel
theorem dX5_read_13 : decode cX5_read 13 = .ok (.invokestatic 81, 3) := by decide +kernel
theorem dX5_read_16 : decode cX5_read 16 = .ok (.ifCond .ne 9, 3) := by decide +kernel
theorem dX5_read_19 : decode cX5_read 19 = .ok (.aload_n 0, 1) := by decide +kernel
theorem dX5_read_20 : decode cX5_read 20 = .ok (.iconst (-1), 1) := by decide +kernel
theorem dX5_read_21 : decode cX5_read 21 = .ok (.invokevirtual 178, 3) := by decide +kernel
theorem dX5_read_24 : decode cX5_read 24 = .ok (.ireturn, 1) := by decide +kernel
theorem dX5_read_25 : decode cX5_read 25 = .ok (.aload_n 0, 1) := by decide +kernel
theorem dX5_read_26 : decode cX5_read 26 = .ok (.getfield 36, 3) := by decide +kernel
theorem dX5_read_29 : decode cX5_read 29 = .ok (.iload_n 1, 1) := by decide +kernel
theorem dX5_read_30 : decode cX5_read 30 = .ok (.baload, 1) := by decide +kernel
theorem dX5_read_31 : decode cX5_read 31 = .ok (.ifCond .ne 11, 3) := by decide +kernel
theorem dX5_read_34 : decode cX5_read 34 = .ok (.aload_n 0, 1) := by decide +kernel
theorem dX5_read_35 : decode cX5_read 35 = .ok (.bipush (-11), 2) := by decide +kernel
theorem dX5_read_37 : decode cX5_read 37 = .ok (.putfield 175, 3) := by decide +kernel
theorem dX5_read_40 : decode cX5_read 40 = .ok (.iconst 0, 1) := by decide +kernel
theorem dX5_read_41 : decode cX5_read 41 = .ok (.ireturn, 1) := by decide +kernel
theorem dX5_read_42 : decode cX5_read 42 = .ok (.iload_n 2, 1) := by decide +kernel
theorem dX5_read_43 : decode cX5_read 43 = .ok (.iconst 0, 1) := by decide +kernel
theorem dX5_read_44 : decode cX5_read 44 = .ok (.aload_n 0, 1) := by decide +kernel
theorem dX5_read_45 : decode cX5_read 45 = .ok (.getfield 42, 3) := by decide +kernel
theorem dX5_read_48 : decode cX5_read 48 = .ok (.iload_n 1, 1) := by decide +kernel
theorem dX5_read_49 : decode cX5_read 49 = .ok (.iaload, 1) := by decide +kernel
theorem dX5_read_50 : decode cX5_read 50 = .ok (.iconst 1, 1) := by decide +kernel
theorem dX5_read_51 : decode cX5_read 51 = .ok (.isub, 1) := by decide +kernel
theorem dX5_read_52 : decode cX5_read 52 = .ok (.invokestatic 81, 3) := by decide +kernel
theorem dX5_read_55 : decode cX5_read 55 = .ok (.ifCond .ne 11, 3) := by decide +kernel
theorem dX5_read_58 : decode cX5_read 58 = .ok (.aload_n 0, 1) := by decide +kernel
theorem dX5_read_59 : decode cX5_read 59 = .ok (.bipush (-12), 2) := by decide +kernel
theorem dX5_read_61 : decode cX5_read 61 = .ok (.putfield 175, 3) := by decide +kernel
theorem dX5_read_64 : decode cX5_read 64 = .ok (.iconst 0, 1) := by decide +kernel
theorem dX5_read_65 : decode cX5_read 65 = .ok (.ireturn, 1) := by decide +kernel
theorem dX5_read_66 : decode cX5_read 66 = .ok (.aload_n 0, 1) := by decide +kernel
theorem dX5_read_67 : decode cX5_read 67 = .ok (.getfield 45, 3) := by decide +kernel
theorem dX5_read_70 : decode cX5_read 70 = .ok (.iconst 4, 1) := by decide +kernel
theorem dX5_read_71 : decode cX5_read 71 = .ok (.iload_n 1, 1) := by decide +kernel
theorem dX5_read_72 : decode cX5_read 72 = .ok (.imul, 1) := by decide +kernel
theorem dX5_read_73 : decode cX5_read 73 = .ok (.iload_n 2, 1) := by decide +kernel
theorem dX5_read_74 : decode cX5_read 74 = .ok (.iadd, 1) := by decide +kernel
theorem dX5_read_75 : decode cX5_read 75 = .ok (.iaload, 1) := by decide +kernel
theorem dX5_read_76 : decode cX5_read 76 = .ok (.istore_n 3, 1) := by decide +kernel
theorem dX5_read_77 : decode cX5_read 77 = .ok (.iload_n 3, 1) := by decide +kernel
theorem dX5_read_78 : decode cX5_read 78 = .ok (.bipush (-9), 2) := by decide +kernel
theorem dX5_read_80 : decode cX5_read 80 = .ok (.if_icmp .ne 11, 3) := by decide +kernel
theorem dX5_read_83 : decode cX5_read 83 = .ok (.aload_n 0, 1) := by decide +kernel
theorem dX5_read_84 : decode cX5_read 84 = .ok (.bipush (-11), 2) := by decide +kernel
theorem dX5_read_86 : decode cX5_read 86 = .ok (.putfield 175, 3) := by decide +kernel
theorem dX5_read_89 : decode cX5_read 89 = .ok (.iconst 0, 1) := by decide +kernel
theorem dX5_read_90 : decode cX5_read 90 = .ok (.ireturn, 1) := by decide +kernel
theorem dX5_read_91 : decode cX5_read 91 = .ok (.iconst 0, 1) := by decide +kernel
theorem dX5_read_92 : decode cX5_read 92 = .ok (.istore 4, 2) := by decide +kernel
theorem dX5_read_94 : decode cX5_read 94 = .ok (.iload 4, 2) := by decide +kernel
theorem dX5_read_96 : decode cX5_read 96 = .ok (.iload_n 3, 1) := by decide +kernel
theorem dX5_read_97 : decode cX5_read 97 = .ok (.if_icmp .ge 58, 3) := by decide +kernel
theorem dX5_read_100 : decode cX5_read 100 = .ok (.iload 4, 2) := by decide +kernel
theorem dX5_read_102 : decode cX5_read 102 = .ok (.aload_n 0, 1) := by decide +kernel
theorem dX5_read_103 : decode cX5_read 103 = .ok (.invokevirtual 78, 3) := by decide +kernel
theorem dX5_read_106 : decode cX5_read 106 = .ok (.if_icmp .ge 49, 3) := by decide +kernel
theorem dX5_read_109 : decode cX5_read 109 = .ok (.aload_n 0, 1) := by decide +kernel
theorem dX5_read_110 : decode cX5_read 110 = .ok (.iload 4, 2) := by decide +kernel
theorem dX5_read_112 : decode cX5_read 112 = .ok (.aload_n 0, 1) := by decide +kernel
theorem dX5_read_113 : decode cX5_read 113 = .ok (.getfield 48, 3) := by decide +kernel
theorem dX5_read_116 : decode cX5_read 116 = .ok (.sipush 160, 3) := by decide +kernel
theorem dX5_read_119 : decode cX5_read 119 = .ok (.iload_n 1, 1) := by decide +kernel
theorem dX5_read_120 : decode cX5_read 120 = .ok (.imul, 1) := by decide +kernel
theorem dX5_read_121 : decode cX5_read 121 = .ok (.bipush 40, 2) := by decide +kernel
theorem dX5_read_123 : decode cX5_read 123 = .ok (.iload_n 2, 1) := by decide +kernel
theorem dX5_read_124 : decode cX5_read 124 = .ok (.imul, 1) := by decide +kernel
theorem dX5_read_125 : decode cX5_read 125 = .ok (.iadd, 1) := by decide +kernel
theorem dX5_read_126 : decode cX5_read 126 = .ok (.iload 4, 2) := by decide +kernel
theorem dX5_read_128 : decode cX5_read 128 = .ok (.iadd, 1) := by decide +kernel
theorem dX5_read_129 : decode cX5_read 129 = .ok (.iaload, 1) := by decide +kernel
theorem dX5_read_130 : decode cX5_read 130 = .ok (.invokevirtual 95, 3) := by decide +kernel
theorem dX5_read_133 : decode cX5_read 133 = .ok (.istore 5, 2) := by decide +kernel
theorem dX5_read_135 : decode cX5_read 135 = .ok (.iload 5, 2) := by decide +kernel
theorem dX5_read_137 : decode cX5_read 137 = .ok (.ifCond .ge 12, 3) := by decide +kernel
theorem dX5_read_140 : decode cX5_read 140 = .ok (.aload_n 0, 1) := by decide +kernel
theorem dX5_read_141 : decode cX5_read 141 = .ok (.iload 5, 2) := by decide +kernel
theorem dX5_read_143 : decode cX5_read 143 = .ok (.putfield 175, 3) := by decide +kernel
theorem dX5_read_146 : decode cX5_read 146 = .ok (.iload 4, 2) := by decide +kernel
theorem dX5_read_148 : decode cX5_read 148 = .ok (.ireturn, 1) := by decide +kernel
theorem dX5_read_149 : decode cX5_read 149 = .ok (.iinc 4 1, 3) := by decide +kernel
theorem dX5_read_152 : decode cX5_read 152 = .ok (.goto (-58), 3) := by decide +kernel
theorem dX5_read_155 : decode cX5_read 155 = .ok (.iload 4, 2) := by decide +kernel
theorem dX5_read_157 : decode cX5_read 157 = .ok (.ireturn, 1) := by decide +kernel
theorem dX5_trace_0 : decode cX5_trace 0 = .ok (.aload_n 0, 1) := by decide +kernel
theorem dX5_trace_1 : decode cX5_trace 1 = .ok (.iconst 0, 1) := by decide +kernel
theorem dX5_trace_2 : decode cX5_trace 2 = .ok (.putfield 58, 3) := by decide +kernel
theorem dX5_trace_5 : decode cX5_trace 5 = .ok (.aload_n 0, 1) := by decide +kernel
theorem dX5_trace_6 : decode cX5_trace 6 = .ok (.getfield 110, 3) := by decide +kernel
theorem dX5_trace_9 : decode cX5_trace 9 = .ok (.lreturn, 1) := by decide +kernel
theorem dX5_status_0 : decode cX5_status 0 = .ok (.aload_n 0, 1) := by decide +kernel
theorem dX5_status_1 : decode cX5_status 1 = .ok (.iconst 0, 1) := by decide +kernel
theorem dX5_status_2 : decode cX5_status 2 = .ok (.putfield 58, 3) := by decide +kernel
theorem dX5_status_5 : decode cX5_status 5 = .ok (.aload_n 0, 1) := by decide +kernel
theorem dX5_status_6 : decode cX5_status 6 = .ok (.getfield 175, 3) := by decide +kernel
theorem dX5_status_9 : decode cX5_status 9 = .ok (.ireturn, 1) := by decide +kernel
end
section
theorem dL_law_0 : decode cL_law 0 = .ok (.new 7, 3) := by decide +kernel
theorem dL_law_3 : decode cL_law 3 = .ok (.dup, 1) := by decide +kernel
theorem dL_law_4 : decode cL_law 4 = .ok (.invokespecial 9, 3) := by decide +kernel
theorem dL_law_7 : decode cL_law 7 = .ok (.astore_n 1, 1) := by decide +kernel
theorem dL_law_8 : decode cL_law 8 = .ok (.new 10, 3) := by decide +kernel
theorem dL_law_11 : decode cL_law 11 = .ok (.dup, 1) := by decide +kernel
theorem dL_law_12 : decode cL_law 12 = .ok (.invokespecial 12, 3) := by decide +kernel
theorem dL_law_15 : decode cL_law 15 = .ok (.astore_n 2, 1) := by decide +kernel
theorem dL_law_16 : decode cL_law 16 = .ok (.iconst 0, 1) := by decide +kernel
theorem dL_law_17 : decode cL_law 17 = .ok (.istore_n 3, 1) := by decide +kernel
theorem dL_law_18 : decode cL_law 18 = .ok (.iload_n 3, 1) := by decide +kernel
theorem dL_law_19 : decode cL_law 19 = .ok (.aload_n 0, 1) := by decide +kernel
theorem dL_law_20 : decode cL_law 20 = .ok (.arraylength, 1) := by decide +kernel
theorem dL_law_21 : decode cL_law 21 = .ok (.bipush 8, 2) := by decide +kernel
theorem dL_law_23 : decode cL_law 23 = .ok (.isub, 1) := by decide +kernel
theorem dL_law_24 : decode cL_law 24 = .ok (.if_icmp .gt 1083, 3) := by decide +kernel
theorem dL_law_27 : decode cL_law 27 = .ok (.aload_n 0, 1) := by decide +kernel
theorem dL_law_28 : decode cL_law 28 = .ok (.iload_n 3, 1) := by decide +kernel
theorem dL_law_29 : decode cL_law 29 = .ok (.iaload, 1) := by decide +kernel
theorem dL_law_30 : decode cL_law 30 = .ok (.bipush 31, 2) := by decide +kernel
theorem dL_law_32 : decode cL_law 32 = .ok (.iand, 1) := by decide +kernel
theorem dL_law_33 : decode cL_law 33 = .ok (.tableswitch 1068 0 24 #[115, 174, 207, 266, 299, 322, 355, 388, 421, 454, 487, 520, 553, 596, 639, 662, 706, 739, 772, 815, 858, 921, 1008, 1041, 1055], 115) := by decide +kernel
theorem dL_law_148 : decode cL_law 148 = .ok (.aload_n 1, 1) := by decide +kernel
theorem dL_law_149 : decode cL_law 149 = .ok (.aload_n 0, 1) := by decide +kernel
theorem dL_law_150 : decode cL_law 150 = .ok (.iload_n 3, 1) := by decide +kernel
theorem dL_law_151 : decode cL_law 151 = .ok (.iconst 1, 1) := by decide +kernel
theorem dL_law_152 : decode cL_law 152 = .ok (.iadd, 1) := by decide +kernel
theorem dL_law_153 : decode cL_law 153 = .ok (.iaload, 1) := by decide +kernel
theorem dL_law_154 : decode cL_law 154 = .ok (.aload_n 0, 1) := by decide +kernel
theorem dL_law_155 : decode cL_law 155 = .ok (.iload_n 3, 1) := by decide +kernel
theorem dL_law_156 : decode cL_law 156 = .ok (.iconst 2, 1) := by decide +kernel
theorem dL_law_157 : decode cL_law 157 = .ok (.iadd, 1) := by decide +kernel
theorem dL_law_158 : decode cL_law 158 = .ok (.iaload, 1) := by decide +kernel
theorem dL_law_159 : decode cL_law 159 = .ok (.aload_n 0, 1) := by decide +kernel
theorem dL_law_160 : decode cL_law 160 = .ok (.iload_n 3, 1) := by decide +kernel
theorem dL_law_161 : decode cL_law 161 = .ok (.iconst 3, 1) := by decide +kernel
theorem dL_law_162 : decode cL_law 162 = .ok (.iadd, 1) := by decide +kernel
theorem dL_law_163 : decode cL_law 163 = .ok (.iaload, 1) := by decide +kernel
theorem dL_law_164 : decode cL_law 164 = .ok (.ifCond .eq 7, 3) := by decide +kernel
theorem dL_law_167 : decode cL_law 167 = .ok (.iconst 1, 1) := by decide +kernel
theorem dL_law_168 : decode cL_law 168 = .ok (.goto 4, 3) := by decide +kernel
theorem dL_law_171 : decode cL_law 171 = .ok (.iconst 0, 1) := by decide +kernel
theorem dL_law_172 : decode cL_law 172 = .ok (.invokevirtual 13, 3) := by decide +kernel
theorem dL_law_175 : decode cL_law 175 = .ok (.aload_n 2, 1) := by decide +kernel
theorem dL_law_176 : decode cL_law 176 = .ok (.aload_n 0, 1) := by decide +kernel
theorem dL_law_177 : decode cL_law 177 = .ok (.iload_n 3, 1) := by decide +kernel
theorem dL_law_178 : decode cL_law 178 = .ok (.iconst 1, 1) := by decide +kernel
theorem dL_law_179 : decode cL_law 179 = .ok (.iadd, 1) := by decide +kernel
theorem dL_law_180 : decode cL_law 180 = .ok (.iaload, 1) := by decide +kernel
theorem dL_law_181 : decode cL_law 181 = .ok (.aload_n 0, 1) := by decide +kernel
theorem dL_law_182 : decode cL_law 182 = .ok (.iload_n 3, 1) := by decide +kernel
theorem dL_law_183 : decode cL_law 183 = .ok (.iconst 2, 1) := by decide +kernel
theorem dL_law_184 : decode cL_law 184 = .ok (.iadd, 1) := by decide +kernel
theorem dL_law_185 : decode cL_law 185 = .ok (.iaload, 1) := by decide +kernel
theorem dL_law_186 : decode cL_law 186 = .ok (.aload_n 0, 1) := by decide +kernel
theorem dL_law_187 : decode cL_law 187 = .ok (.iload_n 3, 1) := by decide +kernel
theorem dL_law_188 : decode cL_law 188 = .ok (.iconst 3, 1) := by decide +kernel
theorem dL_law_189 : decode cL_law 189 = .ok (.iadd, 1) := by decide +kernel
theorem dL_law_190 : decode cL_law 190 = .ok (.iaload, 1) := by decide +kernel
theorem dL_law_191 : decode cL_law 191 = .ok (.ifCond .eq 7, 3) := by decide +kernel
theorem dL_law_194 : decode cL_law 194 = .ok (.iconst 1, 1) := by decide +kernel
theorem dL_law_195 : decode cL_law 195 = .ok (.goto 4, 3) := by decide +kernel
theorem dL_law_198 : decode cL_law 198 = .ok (.iconst 0, 1) := by decide +kernel
theorem dL_law_199 : decode cL_law 199 = .ok (.invokevirtual 17, 3) := by decide +kernel
theorem dL_law_202 : decode cL_law 202 = .ok (.if_icmp .eq 899, 3) := by decide +kernel
theorem dL_law_205 : decode cL_law 205 = .ok (.iconst 0, 1) := by decide +kernel
theorem dL_law_206 : decode cL_law 206 = .ok (.ireturn, 1) := by decide +kernel
theorem dL_law_207 : decode cL_law 207 = .ok (.aload_n 1, 1) := by decide +kernel
theorem dL_law_208 : decode cL_law 208 = .ok (.aload_n 0, 1) := by decide +kernel
theorem dL_law_209 : decode cL_law 209 = .ok (.iload_n 3, 1) := by decide +kernel
theorem dL_law_210 : decode cL_law 210 = .ok (.iconst 1, 1) := by decide +kernel
theorem dL_law_211 : decode cL_law 211 = .ok (.iadd, 1) := by decide +kernel
theorem dL_law_212 : decode cL_law 212 = .ok (.iaload, 1) := by decide +kernel
theorem dL_law_213 : decode cL_law 213 = .ok (.aload_n 0, 1) := by decide +kernel
theorem dL_law_214 : decode cL_law 214 = .ok (.iload_n 3, 1) := by decide +kernel
theorem dL_law_215 : decode cL_law 215 = .ok (.iconst 2, 1) := by decide +kernel
theorem dL_law_216 : decode cL_law 216 = .ok (.iadd, 1) := by decide +kernel
theorem dL_law_217 : decode cL_law 217 = .ok (.iaload, 1) := by decide +kernel
theorem dL_law_218 : decode cL_law 218 = .ok (.invokevirtual 18, 3) := by decide +kernel
theorem dL_law_221 : decode cL_law 221 = .ok (.aload_n 2, 1) := by decide +kernel
theorem dL_law_222 : decode cL_law 222 = .ok (.aload_n 0, 1) := by decide +kernel
theorem dL_law_223 : decode cL_law 223 = .ok (.iload_n 3, 1) := by decide +kernel
theorem dL_law_224 : decode cL_law 224 = .ok (.iconst 1, 1) := by decide +kernel
theorem dL_law_225 : decode cL_law 225 = .ok (.iadd, 1) := by decide +kernel
theorem dL_law_226 : decode cL_law 226 = .ok (.iaload, 1) := by decide +kernel
theorem dL_law_227 : decode cL_law 227 = .ok (.aload_n 0, 1) := by decide +kernel
theorem dL_law_228 : decode cL_law 228 = .ok (.iload_n 3, 1) := by decide +kernel
theorem dL_law_229 : decode cL_law 229 = .ok (.iconst 2, 1) := by decide +kernel
theorem dL_law_230 : decode cL_law 230 = .ok (.iadd, 1) := by decide +kernel
theorem dL_law_231 : decode cL_law 231 = .ok (.iaload, 1) := by decide +kernel
theorem dL_law_232 : decode cL_law 232 = .ok (.invokevirtual 22, 3) := by decide +kernel
theorem dL_law_235 : decode cL_law 235 = .ok (.if_icmp .eq 866, 3) := by decide +kernel
theorem dL_law_238 : decode cL_law 238 = .ok (.iconst 0, 1) := by decide +kernel
theorem dL_law_239 : decode cL_law 239 = .ok (.ireturn, 1) := by decide +kernel
theorem dL_law_240 : decode cL_law 240 = .ok (.aload_n 1, 1) := by decide +kernel
theorem dL_law_241 : decode cL_law 241 = .ok (.aload_n 0, 1) := by decide +kernel
theorem dL_law_242 : decode cL_law 242 = .ok (.iload_n 3, 1) := by decide +kernel
theorem dL_law_243 : decode cL_law 243 = .ok (.iconst 1, 1) := by decide +kernel
theorem dL_law_244 : decode cL_law 244 = .ok (.iadd, 1) := by decide +kernel
theorem dL_law_245 : decode cL_law 245 = .ok (.iaload, 1) := by decide +kernel
theorem dL_law_246 : decode cL_law 246 = .ok (.aload_n 0, 1) := by decide +kernel
theorem dL_law_247 : decode cL_law 247 = .ok (.iload_n 3, 1) := by decide +kernel
theorem dL_law_248 : decode cL_law 248 = .ok (.iconst 2, 1) := by decide +kernel
theorem dL_law_249 : decode cL_law 249 = .ok (.iadd, 1) := by decide +kernel
theorem dL_law_250 : decode cL_law 250 = .ok (.iaload, 1) := by decide +kernel
theorem dL_law_251 : decode cL_law 251 = .ok (.aload_n 0, 1) := by decide +kernel
theorem dL_law_252 : decode cL_law 252 = .ok (.iload_n 3, 1) := by decide +kernel
theorem dL_law_253 : decode cL_law 253 = .ok (.iconst 3, 1) := by decide +kernel
theorem dL_law_254 : decode cL_law 254 = .ok (.iadd, 1) := by decide +kernel
theorem dL_law_255 : decode cL_law 255 = .ok (.iaload, 1) := by decide +kernel
theorem dL_law_256 : decode cL_law 256 = .ok (.ifCond .eq 7, 3) := by decide +kernel
theorem dL_law_259 : decode cL_law 259 = .ok (.iconst 1, 1) := by decide +kernel
theorem dL_law_260 : decode cL_law 260 = .ok (.goto 4, 3) := by decide +kernel
theorem dL_law_263 : decode cL_law 263 = .ok (.iconst 0, 1) := by decide +kernel
theorem dL_law_264 : decode cL_law 264 = .ok (.invokevirtual 23, 3) := by decide +kernel
theorem dL_law_267 : decode cL_law 267 = .ok (.aload_n 2, 1) := by decide +kernel
theorem dL_law_268 : decode cL_law 268 = .ok (.aload_n 0, 1) := by decide +kernel
theorem dL_law_269 : decode cL_law 269 = .ok (.iload_n 3, 1) := by decide +kernel
theorem dL_law_270 : decode cL_law 270 = .ok (.iconst 1, 1) := by decide +kernel
theorem dL_law_271 : decode cL_law 271 = .ok (.iadd, 1) := by decide +kernel
theorem dL_law_272 : decode cL_law 272 = .ok (.iaload, 1) := by decide +kernel
theorem dL_law_273 : decode cL_law 273 = .ok (.aload_n 0, 1) := by decide +kernel
theorem dL_law_274 : decode cL_law 274 = .ok (.iload_n 3, 1) := by decide +kernel
theorem dL_law_275 : decode cL_law 275 = .ok (.iconst 2, 1) := by decide +kernel
theorem dL_law_276 : decode cL_law 276 = .ok (.iadd, 1) := by decide +kernel
theorem dL_law_277 : decode cL_law 277 = .ok (.iaload, 1) := by decide +kernel
theorem dL_law_278 : decode cL_law 278 = .ok (.aload_n 0, 1) := by decide +kernel
theorem dL_law_279 : decode cL_law 279 = .ok (.iload_n 3, 1) := by decide +kernel
theorem dL_law_280 : decode cL_law 280 = .ok (.iconst 3, 1) := by decide +kernel
theorem dL_law_281 : decode cL_law 281 = .ok (.iadd, 1) := by decide +kernel
theorem dL_law_282 : decode cL_law 282 = .ok (.iaload, 1) := by decide +kernel
theorem dL_law_283 : decode cL_law 283 = .ok (.ifCond .eq 7, 3) := by decide +kernel
theorem dL_law_286 : decode cL_law 286 = .ok (.iconst 1, 1) := by decide +kernel
theorem dL_law_287 : decode cL_law 287 = .ok (.goto 4, 3) := by decide +kernel
theorem dL_law_290 : decode cL_law 290 = .ok (.iconst 0, 1) := by decide +kernel
theorem dL_law_291 : decode cL_law 291 = .ok (.invokevirtual 26, 3) := by decide +kernel
theorem dL_law_294 : decode cL_law 294 = .ok (.if_icmp .eq 807, 3) := by decide +kernel
theorem dL_law_297 : decode cL_law 297 = .ok (.iconst 0, 1) := by decide +kernel
theorem dL_law_298 : decode cL_law 298 = .ok (.ireturn, 1) := by decide +kernel
theorem dL_law_299 : decode cL_law 299 = .ok (.aload_n 1, 1) := by decide +kernel
theorem dL_law_300 : decode cL_law 300 = .ok (.aload_n 0, 1) := by decide +kernel
theorem dL_law_301 : decode cL_law 301 = .ok (.iload_n 3, 1) := by decide +kernel
theorem dL_law_302 : decode cL_law 302 = .ok (.iconst 1, 1) := by decide +kernel
theorem dL_law_303 : decode cL_law 303 = .ok (.iadd, 1) := by decide +kernel
theorem dL_law_304 : decode cL_law 304 = .ok (.iaload, 1) := by decide +kernel
theorem dL_law_305 : decode cL_law 305 = .ok (.aload_n 0, 1) := by decide +kernel
theorem dL_law_306 : decode cL_law 306 = .ok (.iload_n 3, 1) := by decide +kernel
theorem dL_law_307 : decode cL_law 307 = .ok (.iconst 2, 1) := by decide +kernel
theorem dL_law_308 : decode cL_law 308 = .ok (.iadd, 1) := by decide +kernel
theorem dL_law_309 : decode cL_law 309 = .ok (.iaload, 1) := by decide +kernel
theorem dL_law_310 : decode cL_law 310 = .ok (.invokevirtual 27, 3) := by decide +kernel
theorem dL_law_313 : decode cL_law 313 = .ok (.aload_n 2, 1) := by decide +kernel
theorem dL_law_314 : decode cL_law 314 = .ok (.aload_n 0, 1) := by decide +kernel
theorem dL_law_315 : decode cL_law 315 = .ok (.iload_n 3, 1) := by decide +kernel
theorem dL_law_316 : decode cL_law 316 = .ok (.iconst 1, 1) := by decide +kernel
theorem dL_law_317 : decode cL_law 317 = .ok (.iadd, 1) := by decide +kernel
theorem dL_law_318 : decode cL_law 318 = .ok (.iaload, 1) := by decide +kernel
theorem dL_law_319 : decode cL_law 319 = .ok (.aload_n 0, 1) := by decide +kernel
theorem dL_law_320 : decode cL_law 320 = .ok (.iload_n 3, 1) := by decide +kernel
theorem dL_law_321 : decode cL_law 321 = .ok (.iconst 2, 1) := by decide +kernel
theorem dL_law_322 : decode cL_law 322 = .ok (.iadd, 1) := by decide +kernel
theorem dL_law_323 : decode cL_law 323 = .ok (.iaload, 1) := by decide +kernel
theorem dL_law_324 : decode cL_law 324 = .ok (.invokevirtual 30, 3) := by decide +kernel
theorem dL_law_327 : decode cL_law 327 = .ok (.if_icmp .eq 774, 3) := by decide +kernel
theorem dL_law_330 : decode cL_law 330 = .ok (.iconst 0, 1) := by decide +kernel
theorem dL_law_331 : decode cL_law 331 = .ok (.ireturn, 1) := by decide +kernel
theorem dL_law_332 : decode cL_law 332 = .ok (.aload_n 1, 1) := by decide +kernel
theorem dL_law_333 : decode cL_law 333 = .ok (.aload_n 0, 1) := by decide +kernel
theorem dL_law_334 : decode cL_law 334 = .ok (.iload_n 3, 1) := by decide +kernel
theorem dL_law_335 : decode cL_law 335 = .ok (.iconst 1, 1) := by decide +kernel
theorem dL_law_336 : decode cL_law 336 = .ok (.iadd, 1) := by decide +kernel
theorem dL_law_337 : decode cL_law 337 = .ok (.iaload, 1) := by decide +kernel
theorem dL_law_338 : decode cL_law 338 = .ok (.invokevirtual 31, 3) := by decide +kernel
theorem dL_law_341 : decode cL_law 341 = .ok (.aload_n 2, 1) := by decide +kernel
theorem dL_law_342 : decode cL_law 342 = .ok (.aload_n 0, 1) := by decide +kernel
theorem dL_law_343 : decode cL_law 343 = .ok (.iload_n 3, 1) := by decide +kernel
theorem dL_law_344 : decode cL_law 344 = .ok (.iconst 1, 1) := by decide +kernel
theorem dL_law_345 : decode cL_law 345 = .ok (.iadd, 1) := by decide +kernel
theorem dL_law_346 : decode cL_law 346 = .ok (.iaload, 1) := by decide +kernel
theorem dL_law_347 : decode cL_law 347 = .ok (.invokevirtual 35, 3) := by decide +kernel
theorem dL_law_350 : decode cL_law 350 = .ok (.if_icmp .eq 751, 3) := by decide +kernel
theorem dL_law_353 : decode cL_law 353 = .ok (.iconst 0, 1) := by decide +kernel
theorem dL_law_354 : decode cL_law 354 = .ok (.ireturn, 1) := by decide +kernel
theorem dL_law_355 : decode cL_law 355 = .ok (.aload_n 1, 1) := by decide +kernel
theorem dL_law_356 : decode cL_law 356 = .ok (.aload_n 0, 1) := by decide +kernel
theorem dL_law_357 : decode cL_law 357 = .ok (.iload_n 3, 1) := by decide +kernel
theorem dL_law_358 : decode cL_law 358 = .ok (.iconst 1, 1) := by decide +kernel
theorem dL_law_359 : decode cL_law 359 = .ok (.iadd, 1) := by decide +kernel
theorem dL_law_360 : decode cL_law 360 = .ok (.iaload, 1) := by decide +kernel
theorem dL_law_361 : decode cL_law 361 = .ok (.aload_n 0, 1) := by decide +kernel
theorem dL_law_362 : decode cL_law 362 = .ok (.iload_n 3, 1) := by decide +kernel
theorem dL_law_363 : decode cL_law 363 = .ok (.iconst 2, 1) := by decide +kernel
theorem dL_law_364 : decode cL_law 364 = .ok (.iadd, 1) := by decide +kernel
theorem dL_law_365 : decode cL_law 365 = .ok (.iaload, 1) := by decide +kernel
theorem dL_law_366 : decode cL_law 366 = .ok (.invokevirtual 36, 3) := by decide +kernel
theorem dL_law_369 : decode cL_law 369 = .ok (.aload_n 2, 1) := by decide +kernel
theorem dL_law_370 : decode cL_law 370 = .ok (.aload_n 0, 1) := by decide +kernel
theorem dL_law_371 : decode cL_law 371 = .ok (.iload_n 3, 1) := by decide +kernel
theorem dL_law_372 : decode cL_law 372 = .ok (.iconst 1, 1) := by decide +kernel
theorem dL_law_373 : decode cL_law 373 = .ok (.iadd, 1) := by decide +kernel
theorem dL_law_374 : decode cL_law 374 = .ok (.iaload, 1) := by decide +kernel
theorem dL_law_375 : decode cL_law 375 = .ok (.aload_n 0, 1) := by decide +kernel
theorem dL_law_376 : decode cL_law 376 = .ok (.iload_n 3, 1) := by decide +kernel
theorem dL_law_377 : decode cL_law 377 = .ok (.iconst 2, 1) := by decide +kernel
theorem dL_law_378 : decode cL_law 378 = .ok (.iadd, 1) := by decide +kernel
theorem dL_law_379 : decode cL_law 379 = .ok (.iaload, 1) := by decide +kernel
theorem dL_law_380 : decode cL_law 380 = .ok (.invokevirtual 39, 3) := by decide +kernel
theorem dL_law_383 : decode cL_law 383 = .ok (.if_icmp .eq 718, 3) := by decide +kernel
theorem dL_law_386 : decode cL_law 386 = .ok (.iconst 0, 1) := by decide +kernel
theorem dL_law_387 : decode cL_law 387 = .ok (.ireturn, 1) := by decide +kernel
theorem dL_law_388 : decode cL_law 388 = .ok (.aload_n 1, 1) := by decide +kernel
theorem dL_law_389 : decode cL_law 389 = .ok (.aload_n 0, 1) := by decide +kernel
theorem dL_law_390 : decode cL_law 390 = .ok (.iload_n 3, 1) := by decide +kernel
theorem dL_law_391 : decode cL_law 391 = .ok (.iconst 1, 1) := by decide +kernel
theorem dL_law_392 : decode cL_law 392 = .ok (.iadd, 1) := by decide +kernel
theorem dL_law_393 : decode cL_law 393 = .ok (.iaload, 1) := by decide +kernel
theorem dL_law_394 : decode cL_law 394 = .ok (.aload_n 0, 1) := by decide +kernel
theorem dL_law_395 : decode cL_law 395 = .ok (.iload_n 3, 1) := by decide +kernel
theorem dL_law_396 : decode cL_law 396 = .ok (.iconst 2, 1) := by decide +kernel
theorem dL_law_397 : decode cL_law 397 = .ok (.iadd, 1) := by decide +kernel
theorem dL_law_398 : decode cL_law 398 = .ok (.iaload, 1) := by decide +kernel
theorem dL_law_399 : decode cL_law 399 = .ok (.invokevirtual 40, 3) := by decide +kernel
theorem dL_law_402 : decode cL_law 402 = .ok (.aload_n 2, 1) := by decide +kernel
theorem dL_law_403 : decode cL_law 403 = .ok (.aload_n 0, 1) := by decide +kernel
theorem dL_law_404 : decode cL_law 404 = .ok (.iload_n 3, 1) := by decide +kernel
theorem dL_law_405 : decode cL_law 405 = .ok (.iconst 1, 1) := by decide +kernel
theorem dL_law_406 : decode cL_law 406 = .ok (.iadd, 1) := by decide +kernel
theorem dL_law_407 : decode cL_law 407 = .ok (.iaload, 1) := by decide +kernel
theorem dL_law_408 : decode cL_law 408 = .ok (.aload_n 0, 1) := by decide +kernel
theorem dL_law_409 : decode cL_law 409 = .ok (.iload_n 3, 1) := by decide +kernel
theorem dL_law_410 : decode cL_law 410 = .ok (.iconst 2, 1) := by decide +kernel
theorem dL_law_411 : decode cL_law 411 = .ok (.iadd, 1) := by decide +kernel
theorem dL_law_412 : decode cL_law 412 = .ok (.iaload, 1) := by decide +kernel
theorem dL_law_413 : decode cL_law 413 = .ok (.invokevirtual 43, 3) := by decide +kernel
theorem dL_law_416 : decode cL_law 416 = .ok (.if_icmp .eq 685, 3) := by decide +kernel
theorem dL_law_419 : decode cL_law 419 = .ok (.iconst 0, 1) := by decide +kernel
theorem dL_law_420 : decode cL_law 420 = .ok (.ireturn, 1) := by decide +kernel
theorem dL_law_421 : decode cL_law 421 = .ok (.aload_n 1, 1) := by decide +kernel
theorem dL_law_422 : decode cL_law 422 = .ok (.aload_n 0, 1) := by decide +kernel
theorem dL_law_423 : decode cL_law 423 = .ok (.iload_n 3, 1) := by decide +kernel
theorem dL_law_424 : decode cL_law 424 = .ok (.iconst 1, 1) := by decide +kernel
theorem dL_law_425 : decode cL_law 425 = .ok (.iadd, 1) := by decide +kernel
theorem dL_law_426 : decode cL_law 426 = .ok (.iaload, 1) := by decide +kernel
theorem dL_law_427 : decode cL_law 427 = .ok (.aload_n 0, 1) := by decide +kernel
theorem dL_law_428 : decode cL_law 428 = .ok (.iload_n 3, 1) := by decide +kernel
theorem dL_law_429 : decode cL_law 429 = .ok (.iconst 2, 1) := by decide +kernel
theorem dL_law_430 : decode cL_law 430 = .ok (.iadd, 1) := by decide +kernel
theorem dL_law_431 : decode cL_law 431 = .ok (.iaload, 1) := by decide +kernel
theorem dL_law_432 : decode cL_law 432 = .ok (.invokevirtual 44, 3) := by decide +kernel
theorem dL_law_435 : decode cL_law 435 = .ok (.aload_n 2, 1) := by decide +kernel
theorem dL_law_436 : decode cL_law 436 = .ok (.aload_n 0, 1) := by decide +kernel
theorem dL_law_437 : decode cL_law 437 = .ok (.iload_n 3, 1) := by decide +kernel
theorem dL_law_438 : decode cL_law 438 = .ok (.iconst 1, 1) := by decide +kernel
theorem dL_law_439 : decode cL_law 439 = .ok (.iadd, 1) := by decide +kernel
theorem dL_law_440 : decode cL_law 440 = .ok (.iaload, 1) := by decide +kernel
theorem dL_law_441 : decode cL_law 441 = .ok (.aload_n 0, 1) := by decide +kernel
theorem dL_law_442 : decode cL_law 442 = .ok (.iload_n 3, 1) := by decide +kernel
theorem dL_law_443 : decode cL_law 443 = .ok (.iconst 2, 1) := by decide +kernel
theorem dL_law_444 : decode cL_law 444 = .ok (.iadd, 1) := by decide +kernel
theorem dL_law_445 : decode cL_law 445 = .ok (.iaload, 1) := by decide +kernel
theorem dL_law_446 : decode cL_law 446 = .ok (.invokevirtual 47, 3) := by decide +kernel
theorem dL_law_449 : decode cL_law 449 = .ok (.if_icmp .eq 652, 3) := by decide +kernel
theorem dL_law_452 : decode cL_law 452 = .ok (.iconst 0, 1) := by decide +kernel
theorem dL_law_453 : decode cL_law 453 = .ok (.ireturn, 1) := by decide +kernel
theorem dL_law_454 : decode cL_law 454 = .ok (.aload_n 1, 1) := by decide +kernel
theorem dL_law_455 : decode cL_law 455 = .ok (.aload_n 0, 1) := by decide +kernel
theorem dL_law_456 : decode cL_law 456 = .ok (.iload_n 3, 1) := by decide +kernel
theorem dL_law_457 : decode cL_law 457 = .ok (.iconst 1, 1) := by decide +kernel
theorem dL_law_458 : decode cL_law 458 = .ok (.iadd, 1) := by decide +kernel
theorem dL_law_459 : decode cL_law 459 = .ok (.iaload, 1) := by decide +kernel
theorem dL_law_460 : decode cL_law 460 = .ok (.aload_n 0, 1) := by decide +kernel
theorem dL_law_461 : decode cL_law 461 = .ok (.iload_n 3, 1) := by decide +kernel
theorem dL_law_462 : decode cL_law 462 = .ok (.iconst 2, 1) := by decide +kernel
theorem dL_law_463 : decode cL_law 463 = .ok (.iadd, 1) := by decide +kernel
theorem dL_law_464 : decode cL_law 464 = .ok (.iaload, 1) := by decide +kernel
theorem dL_law_465 : decode cL_law 465 = .ok (.invokevirtual 48, 3) := by decide +kernel
theorem dL_law_468 : decode cL_law 468 = .ok (.aload_n 2, 1) := by decide +kernel
theorem dL_law_469 : decode cL_law 469 = .ok (.aload_n 0, 1) := by decide +kernel
theorem dL_law_470 : decode cL_law 470 = .ok (.iload_n 3, 1) := by decide +kernel
theorem dL_law_471 : decode cL_law 471 = .ok (.iconst 1, 1) := by decide +kernel
theorem dL_law_472 : decode cL_law 472 = .ok (.iadd, 1) := by decide +kernel
theorem dL_law_473 : decode cL_law 473 = .ok (.iaload, 1) := by decide +kernel
theorem dL_law_474 : decode cL_law 474 = .ok (.aload_n 0, 1) := by decide +kernel
theorem dL_law_475 : decode cL_law 475 = .ok (.iload_n 3, 1) := by decide +kernel
theorem dL_law_476 : decode cL_law 476 = .ok (.iconst 2, 1) := by decide +kernel
theorem dL_law_477 : decode cL_law 477 = .ok (.iadd, 1) := by decide +kernel
theorem dL_law_478 : decode cL_law 478 = .ok (.iaload, 1) := by decide +kernel
theorem dL_law_479 : decode cL_law 479 = .ok (.invokevirtual 51, 3) := by decide +kernel
theorem dL_law_482 : decode cL_law 482 = .ok (.if_icmp .eq 619, 3) := by decide +kernel
theorem dL_law_485 : decode cL_law 485 = .ok (.iconst 0, 1) := by decide +kernel
theorem dL_law_486 : decode cL_law 486 = .ok (.ireturn, 1) := by decide +kernel
theorem dL_law_487 : decode cL_law 487 = .ok (.aload_n 1, 1) := by decide +kernel
theorem dL_law_488 : decode cL_law 488 = .ok (.aload_n 0, 1) := by decide +kernel
theorem dL_law_489 : decode cL_law 489 = .ok (.iload_n 3, 1) := by decide +kernel
theorem dL_law_490 : decode cL_law 490 = .ok (.iconst 1, 1) := by decide +kernel
theorem dL_law_491 : decode cL_law 491 = .ok (.iadd, 1) := by decide +kernel
theorem dL_law_492 : decode cL_law 492 = .ok (.iaload, 1) := by decide +kernel
theorem dL_law_493 : decode cL_law 493 = .ok (.aload_n 0, 1) := by decide +kernel
theorem dL_law_494 : decode cL_law 494 = .ok (.iload_n 3, 1) := by decide +kernel
theorem dL_law_495 : decode cL_law 495 = .ok (.iconst 2, 1) := by decide +kernel
theorem dL_law_496 : decode cL_law 496 = .ok (.iadd, 1) := by decide +kernel
theorem dL_law_497 : decode cL_law 497 = .ok (.iaload, 1) := by decide +kernel
theorem dL_law_498 : decode cL_law 498 = .ok (.invokevirtual 52, 3) := by decide +kernel
theorem dL_law_501 : decode cL_law 501 = .ok (.aload_n 2, 1) := by decide +kernel
theorem dL_law_502 : decode cL_law 502 = .ok (.aload_n 0, 1) := by decide +kernel
theorem dL_law_503 : decode cL_law 503 = .ok (.iload_n 3, 1) := by decide +kernel
theorem dL_law_504 : decode cL_law 504 = .ok (.iconst 1, 1) := by decide +kernel
theorem dL_law_505 : decode cL_law 505 = .ok (.iadd, 1) := by decide +kernel
theorem dL_law_506 : decode cL_law 506 = .ok (.iaload, 1) := by decide +kernel
theorem dL_law_507 : decode cL_law 507 = .ok (.aload_n 0, 1) := by decide +kernel
theorem dL_law_508 : decode cL_law 508 = .ok (.iload_n 3, 1) := by decide +kernel
theorem dL_law_509 : decode cL_law 509 = .ok (.iconst 2, 1) := by decide +kernel
theorem dL_law_510 : decode cL_law 510 = .ok (.iadd, 1) := by decide +kernel
theorem dL_law_511 : decode cL_law 511 = .ok (.iaload, 1) := by decide +kernel
theorem dL_law_512 : decode cL_law 512 = .ok (.invokevirtual 55, 3) := by decide +kernel
theorem dL_law_515 : decode cL_law 515 = .ok (.if_icmp .eq 586, 3) := by decide +kernel
theorem dL_law_518 : decode cL_law 518 = .ok (.iconst 0, 1) := by decide +kernel
theorem dL_law_519 : decode cL_law 519 = .ok (.ireturn, 1) := by decide +kernel
theorem dL_law_520 : decode cL_law 520 = .ok (.aload_n 1, 1) := by decide +kernel
theorem dL_law_521 : decode cL_law 521 = .ok (.aload_n 0, 1) := by decide +kernel
theorem dL_law_522 : decode cL_law 522 = .ok (.iload_n 3, 1) := by decide +kernel
theorem dL_law_523 : decode cL_law 523 = .ok (.iconst 1, 1) := by decide +kernel
theorem dL_law_524 : decode cL_law 524 = .ok (.iadd, 1) := by decide +kernel
theorem dL_law_525 : decode cL_law 525 = .ok (.iaload, 1) := by decide +kernel
theorem dL_law_526 : decode cL_law 526 = .ok (.aload_n 0, 1) := by decide +kernel
theorem dL_law_527 : decode cL_law 527 = .ok (.iload_n 3, 1) := by decide +kernel
theorem dL_law_528 : decode cL_law 528 = .ok (.iconst 2, 1) := by decide +kernel
theorem dL_law_529 : decode cL_law 529 = .ok (.iadd, 1) := by decide +kernel
theorem dL_law_530 : decode cL_law 530 = .ok (.iaload, 1) := by decide +kernel
theorem dL_law_531 : decode cL_law 531 = .ok (.invokevirtual 56, 3) := by decide +kernel
theorem dL_law_534 : decode cL_law 534 = .ok (.aload_n 2, 1) := by decide +kernel
theorem dL_law_535 : decode cL_law 535 = .ok (.aload_n 0, 1) := by decide +kernel
theorem dL_law_536 : decode cL_law 536 = .ok (.iload_n 3, 1) := by decide +kernel
theorem dL_law_537 : decode cL_law 537 = .ok (.iconst 1, 1) := by decide +kernel
theorem dL_law_538 : decode cL_law 538 = .ok (.iadd, 1) := by decide +kernel
theorem dL_law_539 : decode cL_law 539 = .ok (.iaload, 1) := by decide +kernel
theorem dL_law_540 : decode cL_law 540 = .ok (.aload_n 0, 1) := by decide +kernel
theorem dL_law_541 : decode cL_law 541 = .ok (.iload_n 3, 1) := by decide +kernel
theorem dL_law_542 : decode cL_law 542 = .ok (.iconst 2, 1) := by decide +kernel
theorem dL_law_543 : decode cL_law 543 = .ok (.iadd, 1) := by decide +kernel
theorem dL_law_544 : decode cL_law 544 = .ok (.iaload, 1) := by decide +kernel
theorem dL_law_545 : decode cL_law 545 = .ok (.invokevirtual 59, 3) := by decide +kernel
theorem dL_law_548 : decode cL_law 548 = .ok (.if_icmp .eq 553, 3) := by decide +kernel
theorem dL_law_551 : decode cL_law 551 = .ok (.iconst 0, 1) := by decide +kernel
theorem dL_law_552 : decode cL_law 552 = .ok (.ireturn, 1) := by decide +kernel
theorem dL_law_553 : decode cL_law 553 = .ok (.aload_n 1, 1) := by decide +kernel
theorem dL_law_554 : decode cL_law 554 = .ok (.aload_n 0, 1) := by decide +kernel
theorem dL_law_555 : decode cL_law 555 = .ok (.iload_n 3, 1) := by decide +kernel
theorem dL_law_556 : decode cL_law 556 = .ok (.iconst 1, 1) := by decide +kernel
theorem dL_law_557 : decode cL_law 557 = .ok (.iadd, 1) := by decide +kernel
theorem dL_law_558 : decode cL_law 558 = .ok (.iaload, 1) := by decide +kernel
theorem dL_law_559 : decode cL_law 559 = .ok (.aload_n 0, 1) := by decide +kernel
theorem dL_law_560 : decode cL_law 560 = .ok (.iload_n 3, 1) := by decide +kernel
theorem dL_law_561 : decode cL_law 561 = .ok (.iconst 2, 1) := by decide +kernel
theorem dL_law_562 : decode cL_law 562 = .ok (.iadd, 1) := by decide +kernel
theorem dL_law_563 : decode cL_law 563 = .ok (.iaload, 1) := by decide +kernel
theorem dL_law_564 : decode cL_law 564 = .ok (.invokevirtual 60, 3) := by decide +kernel
theorem dL_law_567 : decode cL_law 567 = .ok (.aload_n 2, 1) := by decide +kernel
theorem dL_law_568 : decode cL_law 568 = .ok (.aload_n 0, 1) := by decide +kernel
theorem dL_law_569 : decode cL_law 569 = .ok (.iload_n 3, 1) := by decide +kernel
theorem dL_law_570 : decode cL_law 570 = .ok (.iconst 1, 1) := by decide +kernel
theorem dL_law_571 : decode cL_law 571 = .ok (.iadd, 1) := by decide +kernel
theorem dL_law_572 : decode cL_law 572 = .ok (.iaload, 1) := by decide +kernel
theorem dL_law_573 : decode cL_law 573 = .ok (.aload_n 0, 1) := by decide +kernel
theorem dL_law_574 : decode cL_law 574 = .ok (.iload_n 3, 1) := by decide +kernel
theorem dL_law_575 : decode cL_law 575 = .ok (.iconst 2, 1) := by decide +kernel
theorem dL_law_576 : decode cL_law 576 = .ok (.iadd, 1) := by decide +kernel
theorem dL_law_577 : decode cL_law 577 = .ok (.iaload, 1) := by decide +kernel
theorem dL_law_578 : decode cL_law 578 = .ok (.invokevirtual 63, 3) := by decide +kernel
theorem dL_law_581 : decode cL_law 581 = .ok (.if_icmp .eq 520, 3) := by decide +kernel
theorem dL_law_584 : decode cL_law 584 = .ok (.iconst 0, 1) := by decide +kernel
theorem dL_law_585 : decode cL_law 585 = .ok (.ireturn, 1) := by decide +kernel
theorem dL_law_586 : decode cL_law 586 = .ok (.aload_n 1, 1) := by decide +kernel
theorem dL_law_587 : decode cL_law 587 = .ok (.aload_n 0, 1) := by decide +kernel
theorem dL_law_588 : decode cL_law 588 = .ok (.iload_n 3, 1) := by decide +kernel
theorem dL_law_589 : decode cL_law 589 = .ok (.iconst 1, 1) := by decide +kernel
theorem dL_law_590 : decode cL_law 590 = .ok (.iadd, 1) := by decide +kernel
theorem dL_law_591 : decode cL_law 591 = .ok (.iaload, 1) := by decide +kernel
theorem dL_law_592 : decode cL_law 592 = .ok (.aload_n 0, 1) := by decide +kernel
theorem dL_law_593 : decode cL_law 593 = .ok (.iload_n 3, 1) := by decide +kernel
theorem dL_law_594 : decode cL_law 594 = .ok (.iconst 2, 1) := by decide +kernel
theorem dL_law_595 : decode cL_law 595 = .ok (.iadd, 1) := by decide +kernel
theorem dL_law_596 : decode cL_law 596 = .ok (.iaload, 1) := by decide +kernel
theorem dL_law_597 : decode cL_law 597 = .ok (.aload_n 0, 1) := by decide +kernel
theorem dL_law_598 : decode cL_law 598 = .ok (.iload_n 3, 1) := by decide +kernel
theorem dL_law_599 : decode cL_law 599 = .ok (.iconst 3, 1) := by decide +kernel
theorem dL_law_600 : decode cL_law 600 = .ok (.iadd, 1) := by decide +kernel
theorem dL_law_601 : decode cL_law 601 = .ok (.iaload, 1) := by decide +kernel
theorem dL_law_602 : decode cL_law 602 = .ok (.invokevirtual 64, 3) := by decide +kernel
theorem dL_law_605 : decode cL_law 605 = .ok (.aload_n 2, 1) := by decide +kernel
theorem dL_law_606 : decode cL_law 606 = .ok (.aload_n 0, 1) := by decide +kernel
theorem dL_law_607 : decode cL_law 607 = .ok (.iload_n 3, 1) := by decide +kernel
theorem dL_law_608 : decode cL_law 608 = .ok (.iconst 1, 1) := by decide +kernel
theorem dL_law_609 : decode cL_law 609 = .ok (.iadd, 1) := by decide +kernel
theorem dL_law_610 : decode cL_law 610 = .ok (.iaload, 1) := by decide +kernel
theorem dL_law_611 : decode cL_law 611 = .ok (.aload_n 0, 1) := by decide +kernel
theorem dL_law_612 : decode cL_law 612 = .ok (.iload_n 3, 1) := by decide +kernel
theorem dL_law_613 : decode cL_law 613 = .ok (.iconst 2, 1) := by decide +kernel
theorem dL_law_614 : decode cL_law 614 = .ok (.iadd, 1) := by decide +kernel
theorem dL_law_615 : decode cL_law 615 = .ok (.iaload, 1) := by decide +kernel
theorem dL_law_616 : decode cL_law 616 = .ok (.aload_n 0, 1) := by decide +kernel
theorem dL_law_617 : decode cL_law 617 = .ok (.iload_n 3, 1) := by decide +kernel
theorem dL_law_618 : decode cL_law 618 = .ok (.iconst 3, 1) := by decide +kernel
theorem dL_law_619 : decode cL_law 619 = .ok (.iadd, 1) := by decide +kernel
theorem dL_law_620 : decode cL_law 620 = .ok (.iaload, 1) := by decide +kernel
theorem dL_law_621 : decode cL_law 621 = .ok (.invokevirtual 68, 3) := by decide +kernel
theorem dL_law_624 : decode cL_law 624 = .ok (.if_icmp .eq 477, 3) := by decide +kernel
theorem dL_law_627 : decode cL_law 627 = .ok (.iconst 0, 1) := by decide +kernel
theorem dL_law_628 : decode cL_law 628 = .ok (.ireturn, 1) := by decide +kernel
theorem dL_law_629 : decode cL_law 629 = .ok (.aload_n 1, 1) := by decide +kernel
theorem dL_law_630 : decode cL_law 630 = .ok (.aload_n 0, 1) := by decide +kernel
theorem dL_law_631 : decode cL_law 631 = .ok (.iload_n 3, 1) := by decide +kernel
theorem dL_law_632 : decode cL_law 632 = .ok (.iconst 1, 1) := by decide +kernel
theorem dL_law_633 : decode cL_law 633 = .ok (.iadd, 1) := by decide +kernel
theorem dL_law_634 : decode cL_law 634 = .ok (.iaload, 1) := by decide +kernel
theorem dL_law_635 : decode cL_law 635 = .ok (.aload_n 0, 1) := by decide +kernel
theorem dL_law_636 : decode cL_law 636 = .ok (.iload_n 3, 1) := by decide +kernel
theorem dL_law_637 : decode cL_law 637 = .ok (.iconst 2, 1) := by decide +kernel
theorem dL_law_638 : decode cL_law 638 = .ok (.iadd, 1) := by decide +kernel
theorem dL_law_639 : decode cL_law 639 = .ok (.iaload, 1) := by decide +kernel
theorem dL_law_640 : decode cL_law 640 = .ok (.aload_n 0, 1) := by decide +kernel
theorem dL_law_641 : decode cL_law 641 = .ok (.iload_n 3, 1) := by decide +kernel
theorem dL_law_642 : decode cL_law 642 = .ok (.iconst 3, 1) := by decide +kernel
theorem dL_law_643 : decode cL_law 643 = .ok (.iadd, 1) := by decide +kernel
theorem dL_law_644 : decode cL_law 644 = .ok (.iaload, 1) := by decide +kernel
theorem dL_law_645 : decode cL_law 645 = .ok (.invokevirtual 69, 3) := by decide +kernel
theorem dL_law_648 : decode cL_law 648 = .ok (.aload_n 2, 1) := by decide +kernel
theorem dL_law_649 : decode cL_law 649 = .ok (.aload_n 0, 1) := by decide +kernel
theorem dL_law_650 : decode cL_law 650 = .ok (.iload_n 3, 1) := by decide +kernel
theorem dL_law_651 : decode cL_law 651 = .ok (.iconst 1, 1) := by decide +kernel
theorem dL_law_652 : decode cL_law 652 = .ok (.iadd, 1) := by decide +kernel
theorem dL_law_653 : decode cL_law 653 = .ok (.iaload, 1) := by decide +kernel
theorem dL_law_654 : decode cL_law 654 = .ok (.aload_n 0, 1) := by decide +kernel
theorem dL_law_655 : decode cL_law 655 = .ok (.iload_n 3, 1) := by decide +kernel
theorem dL_law_656 : decode cL_law 656 = .ok (.iconst 2, 1) := by decide +kernel
theorem dL_law_657 : decode cL_law 657 = .ok (.iadd, 1) := by decide +kernel
theorem dL_law_658 : decode cL_law 658 = .ok (.iaload, 1) := by decide +kernel
theorem dL_law_659 : decode cL_law 659 = .ok (.aload_n 0, 1) := by decide +kernel
theorem dL_law_660 : decode cL_law 660 = .ok (.iload_n 3, 1) := by decide +kernel
theorem dL_law_661 : decode cL_law 661 = .ok (.iconst 3, 1) := by decide +kernel
theorem dL_law_662 : decode cL_law 662 = .ok (.iadd, 1) := by decide +kernel
theorem dL_law_663 : decode cL_law 663 = .ok (.iaload, 1) := by decide +kernel
theorem dL_law_664 : decode cL_law 664 = .ok (.invokevirtual 72, 3) := by decide +kernel
theorem dL_law_667 : decode cL_law 667 = .ok (.if_icmp .eq 434, 3) := by decide +kernel
theorem dL_law_670 : decode cL_law 670 = .ok (.iconst 0, 1) := by decide +kernel
theorem dL_law_671 : decode cL_law 671 = .ok (.ireturn, 1) := by decide +kernel
theorem dL_law_672 : decode cL_law 672 = .ok (.aload_n 1, 1) := by decide +kernel
theorem dL_law_673 : decode cL_law 673 = .ok (.aload_n 0, 1) := by decide +kernel
theorem dL_law_674 : decode cL_law 674 = .ok (.iload_n 3, 1) := by decide +kernel
theorem dL_law_675 : decode cL_law 675 = .ok (.iconst 1, 1) := by decide +kernel
theorem dL_law_676 : decode cL_law 676 = .ok (.iadd, 1) := by decide +kernel
theorem dL_law_677 : decode cL_law 677 = .ok (.iaload, 1) := by decide +kernel
theorem dL_law_678 : decode cL_law 678 = .ok (.invokevirtual 73, 3) := by decide +kernel
theorem dL_law_681 : decode cL_law 681 = .ok (.aload_n 2, 1) := by decide +kernel
theorem dL_law_682 : decode cL_law 682 = .ok (.aload_n 0, 1) := by decide +kernel
theorem dL_law_683 : decode cL_law 683 = .ok (.iload_n 3, 1) := by decide +kernel
theorem dL_law_684 : decode cL_law 684 = .ok (.iconst 1, 1) := by decide +kernel
theorem dL_law_685 : decode cL_law 685 = .ok (.iadd, 1) := by decide +kernel
theorem dL_law_686 : decode cL_law 686 = .ok (.iaload, 1) := by decide +kernel
theorem dL_law_687 : decode cL_law 687 = .ok (.invokevirtual 76, 3) := by decide +kernel
theorem dL_law_690 : decode cL_law 690 = .ok (.if_icmp .eq 411, 3) := by decide +kernel
theorem dL_law_693 : decode cL_law 693 = .ok (.iconst 0, 1) := by decide +kernel
theorem dL_law_694 : decode cL_law 694 = .ok (.ireturn, 1) := by decide +kernel
theorem dL_law_695 : decode cL_law 695 = .ok (.aload_n 1, 1) := by decide +kernel
theorem dL_law_696 : decode cL_law 696 = .ok (.aload_n 0, 1) := by decide +kernel
theorem dL_law_697 : decode cL_law 697 = .ok (.iload_n 3, 1) := by decide +kernel
theorem dL_law_698 : decode cL_law 698 = .ok (.iconst 1, 1) := by decide +kernel
theorem dL_law_699 : decode cL_law 699 = .ok (.iadd, 1) := by decide +kernel
theorem dL_law_700 : decode cL_law 700 = .ok (.iaload, 1) := by decide +kernel
theorem dL_law_701 : decode cL_law 701 = .ok (.aload_n 0, 1) := by decide +kernel
theorem dL_law_702 : decode cL_law 702 = .ok (.iload_n 3, 1) := by decide +kernel
theorem dL_law_703 : decode cL_law 703 = .ok (.iconst 2, 1) := by decide +kernel
theorem dL_law_704 : decode cL_law 704 = .ok (.iadd, 1) := by decide +kernel
theorem dL_law_705 : decode cL_law 705 = .ok (.iaload, 1) := by decide +kernel
theorem dL_law_706 : decode cL_law 706 = .ok (.aload_n 0, 1) := by decide +kernel
theorem dL_law_707 : decode cL_law 707 = .ok (.iload_n 3, 1) := by decide +kernel
theorem dL_law_708 : decode cL_law 708 = .ok (.iconst 3, 1) := by decide +kernel
theorem dL_law_709 : decode cL_law 709 = .ok (.iadd, 1) := by decide +kernel
theorem dL_law_710 : decode cL_law 710 = .ok (.iaload, 1) := by decide +kernel
theorem dL_law_711 : decode cL_law 711 = .ok (.invokevirtual 77, 3) := by decide +kernel
theorem dL_law_714 : decode cL_law 714 = .ok (.aload_n 2, 1) := by decide +kernel
theorem dL_law_715 : decode cL_law 715 = .ok (.aload_n 0, 1) := by decide +kernel
theorem dL_law_716 : decode cL_law 716 = .ok (.iload_n 3, 1) := by decide +kernel
theorem dL_law_717 : decode cL_law 717 = .ok (.iconst 1, 1) := by decide +kernel
theorem dL_law_718 : decode cL_law 718 = .ok (.iadd, 1) := by decide +kernel
theorem dL_law_719 : decode cL_law 719 = .ok (.iaload, 1) := by decide +kernel
theorem dL_law_720 : decode cL_law 720 = .ok (.aload_n 0, 1) := by decide +kernel
theorem dL_law_721 : decode cL_law 721 = .ok (.iload_n 3, 1) := by decide +kernel
theorem dL_law_722 : decode cL_law 722 = .ok (.iconst 2, 1) := by decide +kernel
theorem dL_law_723 : decode cL_law 723 = .ok (.iadd, 1) := by decide +kernel
theorem dL_law_724 : decode cL_law 724 = .ok (.iaload, 1) := by decide +kernel
theorem dL_law_725 : decode cL_law 725 = .ok (.aload_n 0, 1) := by decide +kernel
theorem dL_law_726 : decode cL_law 726 = .ok (.iload_n 3, 1) := by decide +kernel
theorem dL_law_727 : decode cL_law 727 = .ok (.iconst 3, 1) := by decide +kernel
theorem dL_law_728 : decode cL_law 728 = .ok (.iadd, 1) := by decide +kernel
theorem dL_law_729 : decode cL_law 729 = .ok (.iaload, 1) := by decide +kernel
theorem dL_law_730 : decode cL_law 730 = .ok (.invokevirtual 81, 3) := by decide +kernel
theorem dL_law_733 : decode cL_law 733 = .ok (.lcmp, 1) := by decide +kernel
theorem dL_law_734 : decode cL_law 734 = .ok (.ifCond .eq 367, 3) := by decide +kernel
theorem dL_law_737 : decode cL_law 737 = .ok (.iconst 0, 1) := by decide +kernel
theorem dL_law_738 : decode cL_law 738 = .ok (.ireturn, 1) := by decide +kernel
theorem dL_law_739 : decode cL_law 739 = .ok (.aload_n 1, 1) := by decide +kernel
theorem dL_law_740 : decode cL_law 740 = .ok (.aload_n 0, 1) := by decide +kernel
theorem dL_law_741 : decode cL_law 741 = .ok (.iload_n 3, 1) := by decide +kernel
theorem dL_law_742 : decode cL_law 742 = .ok (.iconst 1, 1) := by decide +kernel
theorem dL_law_743 : decode cL_law 743 = .ok (.iadd, 1) := by decide +kernel
theorem dL_law_744 : decode cL_law 744 = .ok (.iaload, 1) := by decide +kernel
theorem dL_law_745 : decode cL_law 745 = .ok (.aload_n 0, 1) := by decide +kernel
theorem dL_law_746 : decode cL_law 746 = .ok (.iload_n 3, 1) := by decide +kernel
theorem dL_law_747 : decode cL_law 747 = .ok (.iconst 2, 1) := by decide +kernel
theorem dL_law_748 : decode cL_law 748 = .ok (.iadd, 1) := by decide +kernel
theorem dL_law_749 : decode cL_law 749 = .ok (.iaload, 1) := by decide +kernel
theorem dL_law_750 : decode cL_law 750 = .ok (.invokevirtual 82, 3) := by decide +kernel
theorem dL_law_753 : decode cL_law 753 = .ok (.aload_n 2, 1) := by decide +kernel
theorem dL_law_754 : decode cL_law 754 = .ok (.aload_n 0, 1) := by decide +kernel
theorem dL_law_755 : decode cL_law 755 = .ok (.iload_n 3, 1) := by decide +kernel
theorem dL_law_756 : decode cL_law 756 = .ok (.iconst 1, 1) := by decide +kernel
theorem dL_law_757 : decode cL_law 757 = .ok (.iadd, 1) := by decide +kernel
theorem dL_law_758 : decode cL_law 758 = .ok (.iaload, 1) := by decide +kernel
theorem dL_law_759 : decode cL_law 759 = .ok (.aload_n 0, 1) := by decide +kernel
theorem dL_law_760 : decode cL_law 760 = .ok (.iload_n 3, 1) := by decide +kernel
theorem dL_law_761 : decode cL_law 761 = .ok (.iconst 2, 1) := by decide +kernel
theorem dL_law_762 : decode cL_law 762 = .ok (.iadd, 1) := by decide +kernel
theorem dL_law_763 : decode cL_law 763 = .ok (.iaload, 1) := by decide +kernel
theorem dL_law_764 : decode cL_law 764 = .ok (.invokevirtual 85, 3) := by decide +kernel
theorem dL_law_767 : decode cL_law 767 = .ok (.if_icmp .eq 334, 3) := by decide +kernel
theorem dL_law_770 : decode cL_law 770 = .ok (.iconst 0, 1) := by decide +kernel
theorem dL_law_771 : decode cL_law 771 = .ok (.ireturn, 1) := by decide +kernel
theorem dL_law_772 : decode cL_law 772 = .ok (.aload_n 1, 1) := by decide +kernel
theorem dL_law_773 : decode cL_law 773 = .ok (.aload_n 0, 1) := by decide +kernel
theorem dL_law_774 : decode cL_law 774 = .ok (.iload_n 3, 1) := by decide +kernel
theorem dL_law_775 : decode cL_law 775 = .ok (.iconst 1, 1) := by decide +kernel
theorem dL_law_776 : decode cL_law 776 = .ok (.iadd, 1) := by decide +kernel
theorem dL_law_777 : decode cL_law 777 = .ok (.iaload, 1) := by decide +kernel
theorem dL_law_778 : decode cL_law 778 = .ok (.aload_n 0, 1) := by decide +kernel
theorem dL_law_779 : decode cL_law 779 = .ok (.iload_n 3, 1) := by decide +kernel
theorem dL_law_780 : decode cL_law 780 = .ok (.iconst 2, 1) := by decide +kernel
theorem dL_law_781 : decode cL_law 781 = .ok (.iadd, 1) := by decide +kernel
theorem dL_law_782 : decode cL_law 782 = .ok (.iaload, 1) := by decide +kernel
theorem dL_law_783 : decode cL_law 783 = .ok (.invokevirtual 86, 3) := by decide +kernel
theorem dL_law_786 : decode cL_law 786 = .ok (.aload_n 2, 1) := by decide +kernel
theorem dL_law_787 : decode cL_law 787 = .ok (.aload_n 0, 1) := by decide +kernel
theorem dL_law_788 : decode cL_law 788 = .ok (.iload_n 3, 1) := by decide +kernel
theorem dL_law_789 : decode cL_law 789 = .ok (.iconst 1, 1) := by decide +kernel
theorem dL_law_790 : decode cL_law 790 = .ok (.iadd, 1) := by decide +kernel
theorem dL_law_791 : decode cL_law 791 = .ok (.iaload, 1) := by decide +kernel
theorem dL_law_792 : decode cL_law 792 = .ok (.aload_n 0, 1) := by decide +kernel
theorem dL_law_793 : decode cL_law 793 = .ok (.iload_n 3, 1) := by decide +kernel
theorem dL_law_794 : decode cL_law 794 = .ok (.iconst 2, 1) := by decide +kernel
theorem dL_law_795 : decode cL_law 795 = .ok (.iadd, 1) := by decide +kernel
theorem dL_law_796 : decode cL_law 796 = .ok (.iaload, 1) := by decide +kernel
theorem dL_law_797 : decode cL_law 797 = .ok (.invokevirtual 89, 3) := by decide +kernel
theorem dL_law_800 : decode cL_law 800 = .ok (.if_icmp .eq 301, 3) := by decide +kernel
theorem dL_law_803 : decode cL_law 803 = .ok (.iconst 0, 1) := by decide +kernel
theorem dL_law_804 : decode cL_law 804 = .ok (.ireturn, 1) := by decide +kernel
theorem dL_law_805 : decode cL_law 805 = .ok (.aload_n 1, 1) := by decide +kernel
theorem dL_law_806 : decode cL_law 806 = .ok (.aload_n 0, 1) := by decide +kernel
theorem dL_law_807 : decode cL_law 807 = .ok (.iload_n 3, 1) := by decide +kernel
theorem dL_law_808 : decode cL_law 808 = .ok (.iconst 1, 1) := by decide +kernel
theorem dL_law_809 : decode cL_law 809 = .ok (.iadd, 1) := by decide +kernel
theorem dL_law_810 : decode cL_law 810 = .ok (.iaload, 1) := by decide +kernel
theorem dL_law_811 : decode cL_law 811 = .ok (.aload_n 0, 1) := by decide +kernel
theorem dL_law_812 : decode cL_law 812 = .ok (.iload_n 3, 1) := by decide +kernel
theorem dL_law_813 : decode cL_law 813 = .ok (.iconst 2, 1) := by decide +kernel
theorem dL_law_814 : decode cL_law 814 = .ok (.iadd, 1) := by decide +kernel
theorem dL_law_815 : decode cL_law 815 = .ok (.iaload, 1) := by decide +kernel
theorem dL_law_816 : decode cL_law 816 = .ok (.aload_n 0, 1) := by decide +kernel
theorem dL_law_817 : decode cL_law 817 = .ok (.iload_n 3, 1) := by decide +kernel
theorem dL_law_818 : decode cL_law 818 = .ok (.iconst 3, 1) := by decide +kernel
theorem dL_law_819 : decode cL_law 819 = .ok (.iadd, 1) := by decide +kernel
theorem dL_law_820 : decode cL_law 820 = .ok (.iaload, 1) := by decide +kernel
theorem dL_law_821 : decode cL_law 821 = .ok (.invokevirtual 90, 3) := by decide +kernel
theorem dL_law_824 : decode cL_law 824 = .ok (.aload_n 2, 1) := by decide +kernel
theorem dL_law_825 : decode cL_law 825 = .ok (.aload_n 0, 1) := by decide +kernel
theorem dL_law_826 : decode cL_law 826 = .ok (.iload_n 3, 1) := by decide +kernel
theorem dL_law_827 : decode cL_law 827 = .ok (.iconst 1, 1) := by decide +kernel
theorem dL_law_828 : decode cL_law 828 = .ok (.iadd, 1) := by decide +kernel
theorem dL_law_829 : decode cL_law 829 = .ok (.iaload, 1) := by decide +kernel
theorem dL_law_830 : decode cL_law 830 = .ok (.aload_n 0, 1) := by decide +kernel
theorem dL_law_831 : decode cL_law 831 = .ok (.iload_n 3, 1) := by decide +kernel
theorem dL_law_832 : decode cL_law 832 = .ok (.iconst 2, 1) := by decide +kernel
theorem dL_law_833 : decode cL_law 833 = .ok (.iadd, 1) := by decide +kernel
theorem dL_law_834 : decode cL_law 834 = .ok (.iaload, 1) := by decide +kernel
theorem dL_law_835 : decode cL_law 835 = .ok (.aload_n 0, 1) := by decide +kernel
theorem dL_law_836 : decode cL_law 836 = .ok (.iload_n 3, 1) := by decide +kernel
theorem dL_law_837 : decode cL_law 837 = .ok (.iconst 3, 1) := by decide +kernel
theorem dL_law_838 : decode cL_law 838 = .ok (.iadd, 1) := by decide +kernel
theorem dL_law_839 : decode cL_law 839 = .ok (.iaload, 1) := by decide +kernel
theorem dL_law_840 : decode cL_law 840 = .ok (.invokevirtual 93, 3) := by decide +kernel
theorem dL_law_843 : decode cL_law 843 = .ok (.if_icmp .eq 258, 3) := by decide +kernel
theorem dL_law_846 : decode cL_law 846 = .ok (.iconst 0, 1) := by decide +kernel
theorem dL_law_847 : decode cL_law 847 = .ok (.ireturn, 1) := by decide +kernel
theorem dL_law_848 : decode cL_law 848 = .ok (.aload_n 1, 1) := by decide +kernel
theorem dL_law_849 : decode cL_law 849 = .ok (.aload_n 0, 1) := by decide +kernel
theorem dL_law_850 : decode cL_law 850 = .ok (.iload_n 3, 1) := by decide +kernel
theorem dL_law_851 : decode cL_law 851 = .ok (.iconst 1, 1) := by decide +kernel
theorem dL_law_852 : decode cL_law 852 = .ok (.iadd, 1) := by decide +kernel
theorem dL_law_853 : decode cL_law 853 = .ok (.iaload, 1) := by decide +kernel
theorem dL_law_854 : decode cL_law 854 = .ok (.aload_n 0, 1) := by decide +kernel
theorem dL_law_855 : decode cL_law 855 = .ok (.iload_n 3, 1) := by decide +kernel
theorem dL_law_856 : decode cL_law 856 = .ok (.iconst 2, 1) := by decide +kernel
theorem dL_law_857 : decode cL_law 857 = .ok (.iadd, 1) := by decide +kernel
theorem dL_law_858 : decode cL_law 858 = .ok (.iaload, 1) := by decide +kernel
theorem dL_law_859 : decode cL_law 859 = .ok (.aload_n 0, 1) := by decide +kernel
theorem dL_law_860 : decode cL_law 860 = .ok (.iload_n 3, 1) := by decide +kernel
theorem dL_law_861 : decode cL_law 861 = .ok (.iconst 3, 1) := by decide +kernel
theorem dL_law_862 : decode cL_law 862 = .ok (.iadd, 1) := by decide +kernel
theorem dL_law_863 : decode cL_law 863 = .ok (.iaload, 1) := by decide +kernel
theorem dL_law_864 : decode cL_law 864 = .ok (.invokevirtual 94, 3) := by decide +kernel
theorem dL_law_867 : decode cL_law 867 = .ok (.aload_n 2, 1) := by decide +kernel
theorem dL_law_868 : decode cL_law 868 = .ok (.aload_n 0, 1) := by decide +kernel
theorem dL_law_869 : decode cL_law 869 = .ok (.iload_n 3, 1) := by decide +kernel
theorem dL_law_870 : decode cL_law 870 = .ok (.iconst 1, 1) := by decide +kernel
theorem dL_law_871 : decode cL_law 871 = .ok (.iadd, 1) := by decide +kernel
theorem dL_law_872 : decode cL_law 872 = .ok (.iaload, 1) := by decide +kernel
theorem dL_law_873 : decode cL_law 873 = .ok (.aload_n 0, 1) := by decide +kernel
theorem dL_law_874 : decode cL_law 874 = .ok (.iload_n 3, 1) := by decide +kernel
theorem dL_law_875 : decode cL_law 875 = .ok (.iconst 2, 1) := by decide +kernel
theorem dL_law_876 : decode cL_law 876 = .ok (.iadd, 1) := by decide +kernel
theorem dL_law_877 : decode cL_law 877 = .ok (.iaload, 1) := by decide +kernel
theorem dL_law_878 : decode cL_law 878 = .ok (.aload_n 0, 1) := by decide +kernel
theorem dL_law_879 : decode cL_law 879 = .ok (.iload_n 3, 1) := by decide +kernel
theorem dL_law_880 : decode cL_law 880 = .ok (.iconst 3, 1) := by decide +kernel
theorem dL_law_881 : decode cL_law 881 = .ok (.iadd, 1) := by decide +kernel
theorem dL_law_882 : decode cL_law 882 = .ok (.iaload, 1) := by decide +kernel
theorem dL_law_883 : decode cL_law 883 = .ok (.invokevirtual 97, 3) := by decide +kernel
theorem dL_law_886 : decode cL_law 886 = .ok (.if_icmp .eq 215, 3) := by decide +kernel
theorem dL_law_889 : decode cL_law 889 = .ok (.iconst 0, 1) := by decide +kernel
theorem dL_law_890 : decode cL_law 890 = .ok (.ireturn, 1) := by decide +kernel
theorem dL_law_891 : decode cL_law 891 = .ok (.aload_n 1, 1) := by decide +kernel
theorem dL_law_892 : decode cL_law 892 = .ok (.aload_n 0, 1) := by decide +kernel
theorem dL_law_893 : decode cL_law 893 = .ok (.iload_n 3, 1) := by decide +kernel
theorem dL_law_894 : decode cL_law 894 = .ok (.iconst 1, 1) := by decide +kernel
theorem dL_law_895 : decode cL_law 895 = .ok (.iadd, 1) := by decide +kernel
theorem dL_law_896 : decode cL_law 896 = .ok (.iaload, 1) := by decide +kernel
theorem dL_law_897 : decode cL_law 897 = .ok (.aload_n 0, 1) := by decide +kernel
theorem dL_law_898 : decode cL_law 898 = .ok (.iload_n 3, 1) := by decide +kernel
theorem dL_law_899 : decode cL_law 899 = .ok (.iconst 2, 1) := by decide +kernel
theorem dL_law_900 : decode cL_law 900 = .ok (.iadd, 1) := by decide +kernel
theorem dL_law_901 : decode cL_law 901 = .ok (.iaload, 1) := by decide +kernel
theorem dL_law_902 : decode cL_law 902 = .ok (.aload_n 0, 1) := by decide +kernel
theorem dL_law_903 : decode cL_law 903 = .ok (.iload_n 3, 1) := by decide +kernel
theorem dL_law_904 : decode cL_law 904 = .ok (.iconst 3, 1) := by decide +kernel
theorem dL_law_905 : decode cL_law 905 = .ok (.iadd, 1) := by decide +kernel
theorem dL_law_906 : decode cL_law 906 = .ok (.iaload, 1) := by decide +kernel
theorem dL_law_907 : decode cL_law 907 = .ok (.aload_n 0, 1) := by decide +kernel
theorem dL_law_908 : decode cL_law 908 = .ok (.iload_n 3, 1) := by decide +kernel
theorem dL_law_909 : decode cL_law 909 = .ok (.iconst 4, 1) := by decide +kernel
theorem dL_law_910 : decode cL_law 910 = .ok (.iadd, 1) := by decide +kernel
theorem dL_law_911 : decode cL_law 911 = .ok (.iaload, 1) := by decide +kernel
theorem dL_law_912 : decode cL_law 912 = .ok (.aload_n 0, 1) := by decide +kernel
theorem dL_law_913 : decode cL_law 913 = .ok (.iload_n 3, 1) := by decide +kernel
theorem dL_law_914 : decode cL_law 914 = .ok (.iconst 5, 1) := by decide +kernel
theorem dL_law_915 : decode cL_law 915 = .ok (.iadd, 1) := by decide +kernel
theorem dL_law_916 : decode cL_law 916 = .ok (.iaload, 1) := by decide +kernel
theorem dL_law_917 : decode cL_law 917 = .ok (.invokevirtual 98, 3) := by decide +kernel
theorem dL_law_920 : decode cL_law 920 = .ok (.aload_n 2, 1) := by decide +kernel
theorem dL_law_921 : decode cL_law 921 = .ok (.aload_n 0, 1) := by decide +kernel
theorem dL_law_922 : decode cL_law 922 = .ok (.iload_n 3, 1) := by decide +kernel
theorem dL_law_923 : decode cL_law 923 = .ok (.iconst 1, 1) := by decide +kernel
theorem dL_law_924 : decode cL_law 924 = .ok (.iadd, 1) := by decide +kernel
theorem dL_law_925 : decode cL_law 925 = .ok (.iaload, 1) := by decide +kernel
theorem dL_law_926 : decode cL_law 926 = .ok (.aload_n 0, 1) := by decide +kernel
theorem dL_law_927 : decode cL_law 927 = .ok (.iload_n 3, 1) := by decide +kernel
theorem dL_law_928 : decode cL_law 928 = .ok (.iconst 2, 1) := by decide +kernel
theorem dL_law_929 : decode cL_law 929 = .ok (.iadd, 1) := by decide +kernel
theorem dL_law_930 : decode cL_law 930 = .ok (.iaload, 1) := by decide +kernel
theorem dL_law_931 : decode cL_law 931 = .ok (.aload_n 0, 1) := by decide +kernel
theorem dL_law_932 : decode cL_law 932 = .ok (.iload_n 3, 1) := by decide +kernel
theorem dL_law_933 : decode cL_law 933 = .ok (.iconst 3, 1) := by decide +kernel
theorem dL_law_934 : decode cL_law 934 = .ok (.iadd, 1) := by decide +kernel
theorem dL_law_935 : decode cL_law 935 = .ok (.iaload, 1) := by decide +kernel
theorem dL_law_936 : decode cL_law 936 = .ok (.aload_n 0, 1) := by decide +kernel
theorem dL_law_937 : decode cL_law 937 = .ok (.iload_n 3, 1) := by decide +kernel
theorem dL_law_938 : decode cL_law 938 = .ok (.iconst 4, 1) := by decide +kernel
theorem dL_law_939 : decode cL_law 939 = .ok (.iadd, 1) := by decide +kernel
theorem dL_law_940 : decode cL_law 940 = .ok (.iaload, 1) := by decide +kernel
theorem dL_law_941 : decode cL_law 941 = .ok (.aload_n 0, 1) := by decide +kernel
theorem dL_law_942 : decode cL_law 942 = .ok (.iload_n 3, 1) := by decide +kernel
theorem dL_law_943 : decode cL_law 943 = .ok (.iconst 5, 1) := by decide +kernel
theorem dL_law_944 : decode cL_law 944 = .ok (.iadd, 1) := by decide +kernel
theorem dL_law_945 : decode cL_law 945 = .ok (.iaload, 1) := by decide +kernel
theorem dL_law_946 : decode cL_law 946 = .ok (.invokevirtual 102, 3) := by decide +kernel
theorem dL_law_949 : decode cL_law 949 = .ok (.if_icmp .eq 152, 3) := by decide +kernel
theorem dL_law_952 : decode cL_law 952 = .ok (.iconst 0, 1) := by decide +kernel
theorem dL_law_953 : decode cL_law 953 = .ok (.ireturn, 1) := by decide +kernel
theorem dL_law_954 : decode cL_law 954 = .ok (.aload_n 1, 1) := by decide +kernel
theorem dL_law_955 : decode cL_law 955 = .ok (.aload_n 0, 1) := by decide +kernel
theorem dL_law_956 : decode cL_law 956 = .ok (.iload_n 3, 1) := by decide +kernel
theorem dL_law_957 : decode cL_law 957 = .ok (.iconst 1, 1) := by decide +kernel
theorem dL_law_958 : decode cL_law 958 = .ok (.iadd, 1) := by decide +kernel
theorem dL_law_959 : decode cL_law 959 = .ok (.iaload, 1) := by decide +kernel
theorem dL_law_960 : decode cL_law 960 = .ok (.aload_n 0, 1) := by decide +kernel
theorem dL_law_961 : decode cL_law 961 = .ok (.iload_n 3, 1) := by decide +kernel
theorem dL_law_962 : decode cL_law 962 = .ok (.iconst 2, 1) := by decide +kernel
theorem dL_law_963 : decode cL_law 963 = .ok (.iadd, 1) := by decide +kernel
theorem dL_law_964 : decode cL_law 964 = .ok (.iaload, 1) := by decide +kernel
theorem dL_law_965 : decode cL_law 965 = .ok (.aload_n 0, 1) := by decide +kernel
theorem dL_law_966 : decode cL_law 966 = .ok (.iload_n 3, 1) := by decide +kernel
theorem dL_law_967 : decode cL_law 967 = .ok (.iconst 3, 1) := by decide +kernel
theorem dL_law_968 : decode cL_law 968 = .ok (.iadd, 1) := by decide +kernel
theorem dL_law_969 : decode cL_law 969 = .ok (.iaload, 1) := by decide +kernel
theorem dL_law_970 : decode cL_law 970 = .ok (.aload_n 0, 1) := by decide +kernel
theorem dL_law_971 : decode cL_law 971 = .ok (.iload_n 3, 1) := by decide +kernel
theorem dL_law_972 : decode cL_law 972 = .ok (.iconst 4, 1) := by decide +kernel
theorem dL_law_973 : decode cL_law 973 = .ok (.iadd, 1) := by decide +kernel
theorem dL_law_974 : decode cL_law 974 = .ok (.iaload, 1) := by decide +kernel
theorem dL_law_975 : decode cL_law 975 = .ok (.aload_n 0, 1) := by decide +kernel
theorem dL_law_976 : decode cL_law 976 = .ok (.iload_n 3, 1) := by decide +kernel
theorem dL_law_977 : decode cL_law 977 = .ok (.iconst 5, 1) := by decide +kernel
theorem dL_law_978 : decode cL_law 978 = .ok (.iadd, 1) := by decide +kernel
theorem dL_law_979 : decode cL_law 979 = .ok (.iaload, 1) := by decide +kernel
theorem dL_law_980 : decode cL_law 980 = .ok (.aload_n 0, 1) := by decide +kernel
theorem dL_law_981 : decode cL_law 981 = .ok (.iload_n 3, 1) := by decide +kernel
theorem dL_law_982 : decode cL_law 982 = .ok (.bipush 6, 2) := by decide +kernel
theorem dL_law_984 : decode cL_law 984 = .ok (.iadd, 1) := by decide +kernel
theorem dL_law_985 : decode cL_law 985 = .ok (.iaload, 1) := by decide +kernel
theorem dL_law_986 : decode cL_law 986 = .ok (.aload_n 0, 1) := by decide +kernel
theorem dL_law_987 : decode cL_law 987 = .ok (.iload_n 3, 1) := by decide +kernel
theorem dL_law_988 : decode cL_law 988 = .ok (.bipush 7, 2) := by decide +kernel
theorem dL_law_990 : decode cL_law 990 = .ok (.iadd, 1) := by decide +kernel
theorem dL_law_991 : decode cL_law 991 = .ok (.iaload, 1) := by decide +kernel
theorem dL_law_992 : decode cL_law 992 = .ok (.invokevirtual 103, 3) := by decide +kernel
theorem dL_law_995 : decode cL_law 995 = .ok (.aload_n 2, 1) := by decide +kernel
theorem dL_law_996 : decode cL_law 996 = .ok (.aload_n 0, 1) := by decide +kernel
theorem dL_law_997 : decode cL_law 997 = .ok (.iload_n 3, 1) := by decide +kernel
theorem dL_law_998 : decode cL_law 998 = .ok (.iconst 1, 1) := by decide +kernel
theorem dL_law_999 : decode cL_law 999 = .ok (.iadd, 1) := by decide +kernel
theorem dL_law_1000 : decode cL_law 1000 = .ok (.iaload, 1) := by decide +kernel
theorem dL_law_1001 : decode cL_law 1001 = .ok (.aload_n 0, 1) := by decide +kernel
theorem dL_law_1002 : decode cL_law 1002 = .ok (.iload_n 3, 1) := by decide +kernel
theorem dL_law_1003 : decode cL_law 1003 = .ok (.iconst 2, 1) := by decide +kernel
theorem dL_law_1004 : decode cL_law 1004 = .ok (.iadd, 1) := by decide +kernel
theorem dL_law_1005 : decode cL_law 1005 = .ok (.iaload, 1) := by decide +kernel
theorem dL_law_1006 : decode cL_law 1006 = .ok (.aload_n 0, 1) := by decide +kernel
theorem dL_law_1007 : decode cL_law 1007 = .ok (.iload_n 3, 1) := by decide +kernel
theorem dL_law_1008 : decode cL_law 1008 = .ok (.iconst 3, 1) := by decide +kernel
theorem dL_law_1009 : decode cL_law 1009 = .ok (.iadd, 1) := by decide +kernel
theorem dL_law_1010 : decode cL_law 1010 = .ok (.iaload, 1) := by decide +kernel
theorem dL_law_1011 : decode cL_law 1011 = .ok (.aload_n 0, 1) := by decide +kernel
theorem dL_law_1012 : decode cL_law 1012 = .ok (.iload_n 3, 1) := by decide +kernel
theorem dL_law_1013 : decode cL_law 1013 = .ok (.iconst 4, 1) := by decide +kernel
theorem dL_law_1014 : decode cL_law 1014 = .ok (.iadd, 1) := by decide +kernel
theorem dL_law_1015 : decode cL_law 1015 = .ok (.iaload, 1) := by decide +kernel
theorem dL_law_1016 : decode cL_law 1016 = .ok (.aload_n 0, 1) := by decide +kernel
theorem dL_law_1017 : decode cL_law 1017 = .ok (.iload_n 3, 1) := by decide +kernel
theorem dL_law_1018 : decode cL_law 1018 = .ok (.iconst 5, 1) := by decide +kernel
theorem dL_law_1019 : decode cL_law 1019 = .ok (.iadd, 1) := by decide +kernel
theorem dL_law_1020 : decode cL_law 1020 = .ok (.iaload, 1) := by decide +kernel
theorem dL_law_1021 : decode cL_law 1021 = .ok (.aload_n 0, 1) := by decide +kernel
theorem dL_law_1022 : decode cL_law 1022 = .ok (.iload_n 3, 1) := by decide +kernel
theorem dL_law_1023 : decode cL_law 1023 = .ok (.bipush 6, 2) := by decide +kernel
theorem dL_law_1025 : decode cL_law 1025 = .ok (.iadd, 1) := by decide +kernel
theorem dL_law_1026 : decode cL_law 1026 = .ok (.iaload, 1) := by decide +kernel
theorem dL_law_1027 : decode cL_law 1027 = .ok (.aload_n 0, 1) := by decide +kernel
theorem dL_law_1028 : decode cL_law 1028 = .ok (.iload_n 3, 1) := by decide +kernel
theorem dL_law_1029 : decode cL_law 1029 = .ok (.bipush 7, 2) := by decide +kernel
theorem dL_law_1031 : decode cL_law 1031 = .ok (.iadd, 1) := by decide +kernel
theorem dL_law_1032 : decode cL_law 1032 = .ok (.iaload, 1) := by decide +kernel
theorem dL_law_1033 : decode cL_law 1033 = .ok (.invokevirtual 107, 3) := by decide +kernel
theorem dL_law_1036 : decode cL_law 1036 = .ok (.if_icmp .eq 65, 3) := by decide +kernel
theorem dL_law_1039 : decode cL_law 1039 = .ok (.iconst 0, 1) := by decide +kernel
theorem dL_law_1040 : decode cL_law 1040 = .ok (.ireturn, 1) := by decide +kernel
theorem dL_law_1041 : decode cL_law 1041 = .ok (.aload_n 1, 1) := by decide +kernel
theorem dL_law_1042 : decode cL_law 1042 = .ok (.aload_n 0, 1) := by decide +kernel
theorem dL_law_1043 : decode cL_law 1043 = .ok (.iload_n 3, 1) := by decide +kernel
theorem dL_law_1044 : decode cL_law 1044 = .ok (.iconst 1, 1) := by decide +kernel
theorem dL_law_1045 : decode cL_law 1045 = .ok (.iadd, 1) := by decide +kernel
theorem dL_law_1046 : decode cL_law 1046 = .ok (.iaload, 1) := by decide +kernel
theorem dL_law_1047 : decode cL_law 1047 = .ok (.aload_n 0, 1) := by decide +kernel
theorem dL_law_1048 : decode cL_law 1048 = .ok (.iload_n 3, 1) := by decide +kernel
theorem dL_law_1049 : decode cL_law 1049 = .ok (.iconst 2, 1) := by decide +kernel
theorem dL_law_1050 : decode cL_law 1050 = .ok (.iadd, 1) := by decide +kernel
theorem dL_law_1051 : decode cL_law 1051 = .ok (.iaload, 1) := by decide +kernel
theorem dL_law_1052 : decode cL_law 1052 = .ok (.invokevirtual 108, 3) := by decide +kernel
theorem dL_law_1055 : decode cL_law 1055 = .ok (.aload_n 2, 1) := by decide +kernel
theorem dL_law_1056 : decode cL_law 1056 = .ok (.aload_n 0, 1) := by decide +kernel
theorem dL_law_1057 : decode cL_law 1057 = .ok (.iload_n 3, 1) := by decide +kernel
theorem dL_law_1058 : decode cL_law 1058 = .ok (.iconst 1, 1) := by decide +kernel
theorem dL_law_1059 : decode cL_law 1059 = .ok (.iadd, 1) := by decide +kernel
theorem dL_law_1060 : decode cL_law 1060 = .ok (.iaload, 1) := by decide +kernel
theorem dL_law_1061 : decode cL_law 1061 = .ok (.aload_n 0, 1) := by decide +kernel
theorem dL_law_1062 : decode cL_law 1062 = .ok (.iload_n 3, 1) := by decide +kernel
theorem dL_law_1063 : decode cL_law 1063 = .ok (.iconst 2, 1) := by decide +kernel
theorem dL_law_1064 : decode cL_law 1064 = .ok (.iadd, 1) := by decide +kernel
theorem dL_law_1065 : decode cL_law 1065 = .ok (.iaload, 1) := by decide +kernel
theorem dL_law_1066 : decode cL_law 1066 = .ok (.invokevirtual 111, 3) := by decide +kernel
theorem dL_law_1069 : decode cL_law 1069 = .ok (.if_icmp .eq 32, 3) := by decide +kernel
theorem dL_law_1072 : decode cL_law 1072 = .ok (.iconst 0, 1) := by decide +kernel
theorem dL_law_1073 : decode cL_law 1073 = .ok (.ireturn, 1) := by decide +kernel
theorem dL_law_1074 : decode cL_law 1074 = .ok (.aload_n 1, 1) := by decide +kernel
theorem dL_law_1075 : decode cL_law 1075 = .ok (.invokevirtual 112, 3) := by decide +kernel
theorem dL_law_1078 : decode cL_law 1078 = .ok (.aload_n 2, 1) := by decide +kernel
theorem dL_law_1079 : decode cL_law 1079 = .ok (.invokevirtual 116, 3) := by decide +kernel
theorem dL_law_1082 : decode cL_law 1082 = .ok (.lcmp, 1) := by decide +kernel
theorem dL_law_1083 : decode cL_law 1083 = .ok (.ifCond .eq 18, 3) := by decide +kernel
theorem dL_law_1086 : decode cL_law 1086 = .ok (.iconst 0, 1) := by decide +kernel
theorem dL_law_1087 : decode cL_law 1087 = .ok (.ireturn, 1) := by decide +kernel
theorem dL_law_1088 : decode cL_law 1088 = .ok (.aload_n 1, 1) := by decide +kernel
theorem dL_law_1089 : decode cL_law 1089 = .ok (.invokevirtual 117, 3) := by decide +kernel
theorem dL_law_1092 : decode cL_law 1092 = .ok (.aload_n 2, 1) := by decide +kernel
theorem dL_law_1093 : decode cL_law 1093 = .ok (.invokevirtual 121, 3) := by decide +kernel
theorem dL_law_1096 : decode cL_law 1096 = .ok (.if_icmp .eq 5, 3) := by decide +kernel
theorem dL_law_1099 : decode cL_law 1099 = .ok (.iconst 0, 1) := by decide +kernel
theorem dL_law_1100 : decode cL_law 1100 = .ok (.ireturn, 1) := by decide +kernel
theorem dL_law_1101 : decode cL_law 1101 = .ok (.iinc 3 8, 3) := by decide +kernel
theorem dL_law_1104 : decode cL_law 1104 = .ok (.goto (-1086), 3) := by decide +kernel
theorem dL_law_1107 : decode cL_law 1107 = .ok (.iconst 1, 1) := by decide +kernel
theorem dL_law_1108 : decode cL_law 1108 = .ok (.ireturn, 1) := by decide +kernel
end
section
/-! THE LAYER: one judgement X over a world (a list of cells), locals and stack; a rule an instruction; one contract form Con. -/
/-- the words that every method may use -/
def Ts : List Cond := lw_tbl.filter goodWord
theorem mT {w : Cond} (i : Nat) (h : lw_tbl[i]? = some w) (hg : goodWord w = true) : w ∈ Ts := List.mem_filter.mpr ⟨List.mem_of_getElem? h, hg⟩
theorem ts_good {a w0 : Cond} (h : w0 ∈ Ts) : GoodIn (a :: Ts) (w0 :: Ts) := by
  intro w hw
  have hm : w ∈ Ts := by
    rcases List.mem_cons.mp hw with rfl | hw
    · exact h
    · exact hw
  exact ⟨List.mem_cons_of_mem _ hm, good_of_word (List.mem_filter.mp hm).2⟩
theorem ts_goodT {w0 : Cond} (h : w0 ∈ Ts) : GoodIn Ts (w0 :: Ts) := by
  intro w hw
  have hm : w ∈ Ts := by
    rcases List.mem_cons.mp hw with rfl | hw
    · exact h
    · exact hw
  exact ⟨hm, good_of_word (List.mem_filter.mp hm).2⟩
/-- what is fixed for a launch: class numbers, slots, the classes of int[], long[], boolean[], Sheet[], int[][] -/
abbrev Gx : Type := va_G × ClassId × ClassId × ClassId × ClassId × ClassId
abbrev gD (g : Gx) : va_G := g.1
abbrev gI (g : Gx) : ClassId := g.2.1
abbrev gJ (g : Gx) : ClassId := g.2.2.1
abbrev gZ (g : Gx) : ClassId := g.2.2.2.1
abbrev gS (g : Gx) : ClassId := g.2.2.2.2.1
abbrev gR (g : Gx) : ClassId := g.2.2.2.2.2
abbrev tyL (g : Gx) : List (ClassId × FieldType) := [(gI g, .int), (gJ g, .long), (gZ g, .boolean), (gS g, .object RX2), (gR g, .array .int)]
/-- the five calls between nest mates, and the two classes of arrays of references -/
def NW (U : State) : Prop := va_Nw (.methodLinkNest RX4 9 yX1_init RX4) U ∧ va_Nw (.methodLinkNest RX4 27 yX0_init RX4) U ∧ va_Nw (.methodLinkNest RX1 46 yX4_has RX4) U ∧ va_Nw (.methodLinkNest RX3 54 yX4_has RX4) U ∧ va_Nw (.methodLinkNest RX0 27 yX4_has RX4) U
def KK (g : Gx) (U : State) : Prop := va_K (gD g) vwCl (tyL g) U ∧ NW U ∧ va_AO RX2 U ∧ (Cond.arrayOver (.array .int)).before #[] U = true
theorem KK.warm {g : Gx} {s U : State} (h : KK g s) (hW : s.WarmedH U.vm) : KK g U := ⟨va_K.moved hW.alike h.1, ⟨h.2.1.1.warmM hW, h.2.1.2.1.warmM hW, h.2.1.2.2.1.warmM hW, h.2.1.2.2.2.1.warmM hW, h.2.1.2.2.2.2.warmM hW⟩, h.2.2.1.moved hW.alike, over_moved hW.alike h.2.2.2⟩
theorem KK.same {g : Gx} {s U : State} (h : KK g s) (hv : s.vm = U.vm) : KK g U := ⟨va_K.moved (by rw [hv]; exact Vm.Alike.refl U.vm) h.1, ⟨h.2.1.1.same rfl hv, h.2.1.2.1.same rfl hv, h.2.1.2.2.1.same rfl hv, h.2.1.2.2.2.1.same rfl hv, h.2.1.2.2.2.2.same rfl hv⟩, h.2.2.1.moved (by rw [hv]; exact Vm.Alike.refl U.vm), over_moved (by rw [hv]; exact Vm.Alike.refl U.vm) h.2.2.2⟩
/-- all that stands still while one method runs -/
abbrev Fx : Type := Program × Launch × Env × Room × State × MethodId × Array Value × List Frame × Method × Code × (Nat → Prop) × (State → Prop) × Nat × Gx
def X (φ : Fx) (k n : Nat) (w : va_W) (L : List (Nat × Value)) (pc : Nat) (st : List Value) : Prop :=
  match φ with
  | (p, l, e, R, s, m, args, below, meth, c, A, Q, nL, g) => ∀ (H : Heap) (locs : List Loc) (ls : Array Slot), va_P (gD g) vwCl w H → va_D A w → va_S A s.heap H locs → lv_has ls nL L → W p l e R s m args below meth c H locs k n Q (F0 m pc ls st)
def Cx (φ : Fx) (g0 : Gx) (y : MethodName) (cc : ByteArray) (nL0 fr lo mc ms : Nat) : Prop :=
  match φ with
  | (p, _, _, R, s, m, args, _, meth, c, A, _, nL, g) => p.tables.exec = Jvm.exec ∧ c.code = cc ∧ c.maxLocals = nL ∧ s.vm.findClass y.cls = some m.cls ∧ (∀ w ∈ Ts, w.before args s = true) ∧ KK g s ∧ (∀ q, s.heap.size ≤ q → A q) ∧ R = { frames := fr, cells := mc, slots := ms, locals := lo } ∧ meth.locks = false ∧ meth.name = y.name ∧ nL = nL0 ∧ g = g0
/-- the contract of a method, from one world: P tells answer and world behind it -/
def Con (g : Gx) (y : MethodName) (cc : ByteArray) (nL : Nat) (rt : Option FieldType) (fr lo mc ms : Nat) (av : List Value) (w : va_W) (P : Option Value → va_W → Prop) : Prop :=
  ∀ (l : Launch) (sz : Nat), Met l y (.code y cc nL rt :: Ts) { frames := fr, cells := mc, slots := ms, locals := lo } (va_Pc av (fun U => U.heap.size = sz ∧ va_P (gD g) vwCl w U.heap ∧ KK g U ∧ va_D (fun _ => True) w)) (fun _ st oc t => (∃ (v : Option Value) (w' : va_W), oc = .returned v ∧ P v w' ∧ va_P (gD g) vwCl w' t.heap ∧ va_D (va_A w sz) w') ∧ va_F (va_A w sz) st t) mc ms (va_A w sz)
section LY
variable {φ : Fx} {g0 : Gx} {y : MethodName} {cc : ByteArray} {nL0 fr lo mc ms k n pc : Nat} {w : va_W} {L : List (Nat × Value)} {rest : List Value}
theorem X.sub (ks : List Nat) {L' : List (Nat × Value)} (h : lv_pick L ks = L') (kk : X φ k n w L' pc rest) : X φ k n w L pc rest := by
  obtain ⟨p, l, e, R, s, m, args, below, meth, c, A, Q, nL, g⟩ := φ
  exact fun H locs ls hP hD hS hl => kk H locs ls hP hD hS (lv_sub hl ks h)
theorem X.widen {k' n' : Nat} (h1 : k ≤ k') (h2 : n ≤ n') (kk : X φ k' n' w L pc rest) : X φ k n w L pc rest := by
  obtain ⟨p, l, e, R, s, m, args, below, meth, c, A, Q, nL, g⟩ := φ
  exact fun H locs ls hP hD hS hl => W.widen h1 h2 (kk H locs ls hP hD hS hl)
theorem X.wsub {w' : va_W} (is : List Nat) (hn : va_nd is = true) (hs : is.map (fun i => w[i]?) = w'.map some) (kk : X φ k n w' L pc rest) : X φ k n w L pc rest := by
  obtain ⟨p, l, e, R, s, m, args, below, meth, c, A, Q, nL, g⟩ := φ
  refine fun H locs ls hP hD hS hl => kk H locs ls (fun j q hq => ?_) (hD.sub is hn hs) hS hl
  have h1 : (is.map (fun i => w[i]?))[j]? = some (some q) := by rw [hs, List.getElem?_map, hq]; rfl
  rw [List.getElem?_map] at h1
  cases hi : is[j]? with
  | none => rw [hi] at h1; cases h1
  | some i => rw [hi] at h1; exact hP i q (Option.some.inj h1)
theorem X_iconst (C : Cx φ g0 y cc nL0 fr lo mc ms) {j : Int} {v : Int32} (d : decode cc pc = .ok (.iconst j, 1)) (hv : Int32.ofInt j = v) (kk : X φ k n w L (pc + 1) (.int v :: rest)) : X φ k n w L pc rest := by
  obtain ⟨p, l, e, R, s, m, args, below, meth, c, A, Q, nL, g⟩ := φ
  exact fun H locs ls hP hD hS hl => lv_iconst C.1 C.2.1 d hv (kk H locs ls hP hD hS hl)
theorem X_bipush (C : Cx φ g0 y cc nL0 fr lo mc ms) {j : Int} {v : Int32} (d : decode cc pc = .ok (.bipush j, 2)) (hv : (Int8.ofInt j).toInt32 = v) (kk : X φ k n w L (pc + 2) (.int v :: rest)) : X φ k n w L pc rest := by
  obtain ⟨p, l, e, R, s, m, args, below, meth, c, A, Q, nL, g⟩ := φ
  exact fun H locs ls hP hD hS hl => lv_bipush C.1 C.2.1 d hv (kk H locs ls hP hD hS hl)
theorem X_sipush (C : Cx φ g0 y cc nL0 fr lo mc ms) {j : Int} {v : Int32} (d : decode cc pc = .ok (.sipush j, 3)) (hv : (Int16.ofInt j).toInt32 = v) (kk : X φ k n w L (pc + 3) (.int v :: rest)) : X φ k n w L pc rest := by
  obtain ⟨p, l, e, R, s, m, args, below, meth, c, A, Q, nL, g⟩ := φ
  exact fun H locs ls hP hD hS hl => lv_sipush C.1 C.2.1 d hv (kk H locs ls hP hD hS hl)
theorem X_lconst (C : Cx φ g0 y cc nL0 fr lo mc ms) {j : Fin 2} {v : Int64} (d : decode cc pc = .ok (.lconst j, 1)) (hv : Int64.ofNat (j : Nat) = v) (kk : X φ k n w L (pc + 1) (.long v :: rest)) : X φ k n w L pc rest := by
  obtain ⟨p, l, e, R, s, m, args, below, meth, c, A, Q, nL, g⟩ := φ
  exact fun H locs ls hP hD hS hl => lv_lconst C.1 C.2.1 d hv (kk H locs ls hP hD hS hl)
theorem X_ldcw (C : Cx φ g0 y cc nL0 fr lo mc ms) {index : Nat} {v : Int32} (hc : Cond.constant y.cls index v ∈ Ts) (d : decode cc pc = .ok (.ldc_w index, 3)) (kk : X φ k n w L (pc + 3) (.int v :: rest)) : X φ k n w L pc rest := by
  obtain ⟨p, l, e, R, s, m, args, below, meth, c, A, Q, nL, g⟩ := φ
  exact fun H locs ls hP hD hS hl => lv_ldcw C.1 C.2.1 C.2.2.2.1 (C.2.2.2.2.1 _ hc) d (kk H locs ls hP hD hS hl)
theorem X_ldc2 (C : Cx φ g0 y cc nL0 fr lo mc ms) {index : Nat} {v : Int64} (hc : Cond.constantLong y.cls index v ∈ Ts) (d : decode cc pc = .ok (.ldc2_w index, 3)) (kk : X φ k n w L (pc + 3) (.long v :: rest)) : X φ k n w L pc rest := by
  obtain ⟨p, l, e, R, s, m, args, below, meth, c, A, Q, nL, g⟩ := φ
  exact fun H locs ls hP hD hS hl => lv_ldc2 C.1 C.2.1 C.2.2.2.1 (C.2.2.2.2.1 _ hc) d (kk H locs ls hP hD hS hl)
theorem X_iload_n (C : Cx φ g0 y cc nL0 fr lo mc ms) (j : Nat) {q : Fin 4} {i : Nat} {x : Int32} (d : decode cc pc = .ok (.iload_n q, 1)) (hi : (q : Nat) = i) (hj : L[j]? = some (i, .int x)) (kk : X φ k n w L (pc + 1) (.int x :: rest)) : X φ k n w L pc rest := by
  obtain ⟨p, l, e, R, s, m, args, below, meth, c, A, Q, nL, g⟩ := φ
  exact fun H locs ls hP hD hS hl => lv_iload_n C.1 C.2.1 d hi (lv_at hl j hj) (kk H locs ls hP hD hS hl)
theorem X_iload (C : Cx φ g0 y cc nL0 fr lo mc ms) (j : Nat) {i : Nat} {x : Int32} (d : decode cc pc = .ok (.iload i, 2)) (hj : L[j]? = some (i, .int x)) (kk : X φ k n w L (pc + 2) (.int x :: rest)) : X φ k n w L pc rest := by
  obtain ⟨p, l, e, R, s, m, args, below, meth, c, A, Q, nL, g⟩ := φ
  exact fun H locs ls hP hD hS hl => lv_iload C.1 C.2.1 d (lv_at hl j hj) (kk H locs ls hP hD hS hl)
theorem X_lload_n (C : Cx φ g0 y cc nL0 fr lo mc ms) (j : Nat) {q : Fin 4} {i : Nat} {x : Int64} (d : decode cc pc = .ok (.lload_n q, 1)) (hi : (q : Nat) = i) (hj : L[j]? = some (i, .long x)) (kk : X φ k n w L (pc + 1) (.long x :: rest)) : X φ k n w L pc rest := by
  obtain ⟨p, l, e, R, s, m, args, below, meth, c, A, Q, nL, g⟩ := φ
  exact fun H locs ls hP hD hS hl => lv_lload_n C.1 C.2.1 d hi (lv_at hl j hj) (kk H locs ls hP hD hS hl)
theorem X_lload (C : Cx φ g0 y cc nL0 fr lo mc ms) (j : Nat) {i : Nat} {x : Int64} (d : decode cc pc = .ok (.lload i, 2)) (hj : L[j]? = some (i, .long x)) (kk : X φ k n w L (pc + 2) (.long x :: rest)) : X φ k n w L pc rest := by
  obtain ⟨p, l, e, R, s, m, args, below, meth, c, A, Q, nL, g⟩ := φ
  exact fun H locs ls hP hD hS hl => lv_lload C.1 C.2.1 d (lv_at hl j hj) (kk H locs ls hP hD hS hl)
theorem X_aload_n (C : Cx φ g0 y cc nL0 fr lo mc ms) (j : Nat) {q : Fin 4} {i : Nat} {x : Nat} (d : decode cc pc = .ok (.aload_n q, 1)) (hi : (q : Nat) = i) (hj : L[j]? = some (i, .ref x)) (kk : X φ k n w L (pc + 1) (.ref x :: rest)) : X φ k n w L pc rest := by
  obtain ⟨p, l, e, R, s, m, args, below, meth, c, A, Q, nL, g⟩ := φ
  exact fun H locs ls hP hD hS hl => lv_aload_n C.1 C.2.1 d hi (lv_at hl j hj) (kk H locs ls hP hD hS hl)
theorem X_aload (C : Cx φ g0 y cc nL0 fr lo mc ms) (j : Nat) {i : Nat} {x : Nat} (d : decode cc pc = .ok (.aload i, 2)) (hj : L[j]? = some (i, .ref x)) (kk : X φ k n w L (pc + 2) (.ref x :: rest)) : X φ k n w L pc rest := by
  obtain ⟨p, l, e, R, s, m, args, below, meth, c, A, Q, nL, g⟩ := φ
  exact fun H locs ls hP hD hS hl => lv_aload C.1 C.2.1 d (lv_at hl j hj) (kk H locs ls hP hD hS hl)
theorem X_aload_nN (C : Cx φ g0 y cc nL0 fr lo mc ms) (j : Nat) {q : Fin 4} {i : Nat} (d : decode cc pc = .ok (.aload_n q, 1)) (hi : (q : Nat) = i) (hj : L[j]? = some (i, .null)) (kk : X φ k n w L (pc + 1) (.null :: rest)) : X φ k n w L pc rest := by
  obtain ⟨p, l, e, R, s, m, args, below, meth, c, A, Q, nL, g⟩ := φ
  exact fun H locs ls hP hD hS hl => lv_aload_nN C.1 C.2.1 d hi (lv_at hl j hj) (kk H locs ls hP hD hS hl)
theorem X_aloadN (C : Cx φ g0 y cc nL0 fr lo mc ms) (j : Nat) {i : Nat} (d : decode cc pc = .ok (.aload i, 2)) (hj : L[j]? = some (i, .null)) (kk : X φ k n w L (pc + 2) (.null :: rest)) : X φ k n w L pc rest := by
  obtain ⟨p, l, e, R, s, m, args, below, meth, c, A, Q, nL, g⟩ := φ
  exact fun H locs ls hP hD hS hl => lv_aloadN C.1 C.2.1 d (lv_at hl j hj) (kk H locs ls hP hD hS hl)
theorem Cx.nl (C : Cx φ g0 y cc nL0 fr lo mc ms) {i : Nat} (h : i < nL0) : i < φ.2.2.2.2.2.2.2.2.2.2.2.2.1 := by
  obtain ⟨p, l, e, R, s, m, args, below, meth, c, A, Q, nL, g⟩ := φ
  obtain ⟨-, -, -, -, -, -, -, -, -, -, h1, -⟩ := C
  show i < nL
  rw [h1]; exact h
theorem X_istore_n (C : Cx φ g0 y cc nL0 fr lo mc ms) {q : Fin 4} {i : Nat} {x : Int32} {L' : List (Nat × Value)} (d : decode cc pc = .ok (.istore_n q, 1)) (hi : (q : Nat) = i) (hn : i < nL0) (hL : (i, Value.int x) :: L.filter (fun q => !(q.1 == i) && !(q.1 + 1 == i && q.2.category == 2)) = L') (kk : X φ k n w L' (pc + 1) rest) : X φ k n w L pc (.int x :: rest) := by
  have hn' := C.nl hn
  obtain ⟨p, l, e, R, s, m, args, below, meth, c, A, Q, nL, g⟩ := φ
  exact fun H locs ls hP hD hS hl => lv_istore_n C.1 C.2.1 d hi hl hn' hL (fun ls' hl' => kk H locs ls' hP hD hS hl')
theorem X_istore (C : Cx φ g0 y cc nL0 fr lo mc ms) {i : Nat} {x : Int32} {L' : List (Nat × Value)} (d : decode cc pc = .ok (.istore i, 2)) (hn : i < nL0) (hL : (i, Value.int x) :: L.filter (fun q => !(q.1 == i) && !(q.1 + 1 == i && q.2.category == 2)) = L') (kk : X φ k n w L' (pc + 2) rest) : X φ k n w L pc (.int x :: rest) := by
  have hn' := C.nl hn
  obtain ⟨p, l, e, R, s, m, args, below, meth, c, A, Q, nL, g⟩ := φ
  exact fun H locs ls hP hD hS hl => lv_istore C.1 C.2.1 d hl hn' hL (fun ls' hl' => kk H locs ls' hP hD hS hl')
theorem X_lstore_n (C : Cx φ g0 y cc nL0 fr lo mc ms) {q : Fin 4} {i : Nat} {x : Int64} {L' : List (Nat × Value)} (d : decode cc pc = .ok (.lstore_n q, 1)) (hi : (q : Nat) = i) (hn : i + 1 < nL0) (hL : (i, Value.long x) :: L.filter (fun q => !(q.1 == i) && (!(q.1 == i + 1) && !(q.1 + 1 == i && q.2.category == 2))) = L') (kk : X φ k n w L' (pc + 1) rest) : X φ k n w L pc (.long x :: rest) := by
  have hn' := C.nl hn
  obtain ⟨p, l, e, R, s, m, args, below, meth, c, A, Q, nL, g⟩ := φ
  exact fun H locs ls hP hD hS hl => lv_lstore_n C.1 C.2.1 d hi hl hn' hL (fun ls' hl' => kk H locs ls' hP hD hS hl')
theorem X_lstore (C : Cx φ g0 y cc nL0 fr lo mc ms) {i : Nat} {x : Int64} {L' : List (Nat × Value)} (d : decode cc pc = .ok (.lstore i, 2)) (hn : i + 1 < nL0) (hL : (i, Value.long x) :: L.filter (fun q => !(q.1 == i) && (!(q.1 == i + 1) && !(q.1 + 1 == i && q.2.category == 2))) = L') (kk : X φ k n w L' (pc + 2) rest) : X φ k n w L pc (.long x :: rest) := by
  have hn' := C.nl hn
  obtain ⟨p, l, e, R, s, m, args, below, meth, c, A, Q, nL, g⟩ := φ
  exact fun H locs ls hP hD hS hl => lv_lstore C.1 C.2.1 d hl hn' hL (fun ls' hl' => kk H locs ls' hP hD hS hl')
theorem X_astore_n (C : Cx φ g0 y cc nL0 fr lo mc ms) {q : Fin 4} {i : Nat} {x : Nat} {L' : List (Nat × Value)} (d : decode cc pc = .ok (.astore_n q, 1)) (hi : (q : Nat) = i) (hn : i < nL0) (hL : (i, Value.ref x) :: L.filter (fun q => !(q.1 == i) && !(q.1 + 1 == i && q.2.category == 2)) = L') (kk : X φ k n w L' (pc + 1) rest) : X φ k n w L pc (.ref x :: rest) := by
  have hn' := C.nl hn
  obtain ⟨p, l, e, R, s, m, args, below, meth, c, A, Q, nL, g⟩ := φ
  exact fun H locs ls hP hD hS hl => lv_astore_n C.1 C.2.1 d hi hl hn' hL (fun ls' hl' => kk H locs ls' hP hD hS hl')
theorem X_astore (C : Cx φ g0 y cc nL0 fr lo mc ms) {i : Nat} {x : Nat} {L' : List (Nat × Value)} (d : decode cc pc = .ok (.astore i, 2)) (hn : i < nL0) (hL : (i, Value.ref x) :: L.filter (fun q => !(q.1 == i) && !(q.1 + 1 == i && q.2.category == 2)) = L') (kk : X φ k n w L' (pc + 2) rest) : X φ k n w L pc (.ref x :: rest) := by
  have hn' := C.nl hn
  obtain ⟨p, l, e, R, s, m, args, below, meth, c, A, Q, nL, g⟩ := φ
  exact fun H locs ls hP hD hS hl => lv_astore C.1 C.2.1 d hl hn' hL (fun ls' hl' => kk H locs ls' hP hD hS hl')
theorem X_astore_nN (C : Cx φ g0 y cc nL0 fr lo mc ms) {q : Fin 4} {i : Nat} {L' : List (Nat × Value)} (d : decode cc pc = .ok (.astore_n q, 1)) (hi : (q : Nat) = i) (hn : i < nL0) (hL : (i, Value.null) :: L.filter (fun q => !(q.1 == i) && !(q.1 + 1 == i && q.2.category == 2)) = L') (kk : X φ k n w L' (pc + 1) rest) : X φ k n w L pc (.null :: rest) := by
  have hn' := C.nl hn
  obtain ⟨p, l, e, R, s, m, args, below, meth, c, A, Q, nL, g⟩ := φ
  exact fun H locs ls hP hD hS hl => lv_astore_nN C.1 C.2.1 d hi hl hn' hL (fun ls' hl' => kk H locs ls' hP hD hS hl')
theorem X_astoreN (C : Cx φ g0 y cc nL0 fr lo mc ms) {i : Nat} {L' : List (Nat × Value)} (d : decode cc pc = .ok (.astore i, 2)) (hn : i < nL0) (hL : (i, Value.null) :: L.filter (fun q => !(q.1 == i) && !(q.1 + 1 == i && q.2.category == 2)) = L') (kk : X φ k n w L' (pc + 2) rest) : X φ k n w L pc (.null :: rest) := by
  have hn' := C.nl hn
  obtain ⟨p, l, e, R, s, m, args, below, meth, c, A, Q, nL, g⟩ := φ
  exact fun H locs ls hP hD hS hl => lv_astoreN C.1 C.2.1 d hl hn' hL (fun ls' hl' => kk H locs ls' hP hD hS hl')
theorem X_iinc (C : Cx φ g0 y cc nL0 fr lo mc ms) (j : Nat) {i : Nat} {z : Int} {x v : Int32} {L' : List (Nat × Value)} (d : decode cc pc = .ok (.iinc i z, 3)) (hj : L[j]? = some (i, .int x)) (hv : x + Int32.ofInt z = v) (hn : i < nL0) (hL : (i, Value.int v) :: L.filter (fun q => !(q.1 == i) && !(q.1 + 1 == i && q.2.category == 2)) = L') (kk : X φ k n w L' (pc + 3) rest) : X φ k n w L pc rest := by
  have hn' := C.nl hn
  obtain ⟨p, l, e, R, s, m, args, below, meth, c, A, Q, nL, g⟩ := φ
  exact fun H locs ls hP hD hS hl => lv_iinc C.1 C.2.1 d hl hj hv hn' hL (fun ls' hl' => kk H locs ls' hP hD hS hl')
theorem X_iadd (C : Cx φ g0 y cc nL0 fr lo mc ms) {x z : Int32} (d : decode cc pc = .ok (.iadd, 1)) (kk : X φ k n w L (pc + 1) (.int (x + z) :: rest)) : X φ k n w L pc (.int z :: .int x :: rest) := by
  obtain ⟨p, l, e, R, s, m, args, below, meth, c, A, Q, nL, g⟩ := φ
  exact fun H locs ls hP hD hS hl => lv_iadd C.1 C.2.1 d (kk H locs ls hP hD hS hl)
theorem X_isub (C : Cx φ g0 y cc nL0 fr lo mc ms) {x z : Int32} (d : decode cc pc = .ok (.isub, 1)) (kk : X φ k n w L (pc + 1) (.int (x - z) :: rest)) : X φ k n w L pc (.int z :: .int x :: rest) := by
  obtain ⟨p, l, e, R, s, m, args, below, meth, c, A, Q, nL, g⟩ := φ
  exact fun H locs ls hP hD hS hl => lv_isub C.1 C.2.1 d (kk H locs ls hP hD hS hl)
theorem X_imul (C : Cx φ g0 y cc nL0 fr lo mc ms) {x z : Int32} (d : decode cc pc = .ok (.imul, 1)) (kk : X φ k n w L (pc + 1) (.int (x * z) :: rest)) : X φ k n w L pc (.int z :: .int x :: rest) := by
  obtain ⟨p, l, e, R, s, m, args, below, meth, c, A, Q, nL, g⟩ := φ
  exact fun H locs ls hP hD hS hl => lv_imul C.1 C.2.1 d (kk H locs ls hP hD hS hl)
theorem X_iand (C : Cx φ g0 y cc nL0 fr lo mc ms) {x z : Int32} (d : decode cc pc = .ok (.iand, 1)) (kk : X φ k n w L (pc + 1) (.int (x &&& z) :: rest)) : X φ k n w L pc (.int z :: .int x :: rest) := by
  obtain ⟨p, l, e, R, s, m, args, below, meth, c, A, Q, nL, g⟩ := φ
  exact fun H locs ls hP hD hS hl => lv_iand C.1 C.2.1 d (kk H locs ls hP hD hS hl)
theorem X_ior (C : Cx φ g0 y cc nL0 fr lo mc ms) {x z : Int32} (d : decode cc pc = .ok (.ior, 1)) (kk : X φ k n w L (pc + 1) (.int (x ||| z) :: rest)) : X φ k n w L pc (.int z :: .int x :: rest) := by
  obtain ⟨p, l, e, R, s, m, args, below, meth, c, A, Q, nL, g⟩ := φ
  exact fun H locs ls hP hD hS hl => lv_ior C.1 C.2.1 d (kk H locs ls hP hD hS hl)
theorem X_ixor (C : Cx φ g0 y cc nL0 fr lo mc ms) {x z : Int32} (d : decode cc pc = .ok (.ixor, 1)) (kk : X φ k n w L (pc + 1) (.int (x ^^^ z) :: rest)) : X φ k n w L pc (.int z :: .int x :: rest) := by
  obtain ⟨p, l, e, R, s, m, args, below, meth, c, A, Q, nL, g⟩ := φ
  exact fun H locs ls hP hD hS hl => lv_ixor C.1 C.2.1 d (kk H locs ls hP hD hS hl)
theorem X_idiv (C : Cx φ g0 y cc nL0 fr lo mc ms) {x z : Int32} (d : decode cc pc = .ok (.idiv, 1)) (hne : ¬ z = 0) (kk : X φ k n w L (pc + 1) (.int (x / z) :: rest)) : X φ k n w L pc (.int z :: .int x :: rest) := by
  obtain ⟨p, l, e, R, s, m, args, below, meth, c, A, Q, nL, g⟩ := φ
  exact fun H locs ls hP hD hS hl => lv_idiv C.1 C.2.1 d hne (kk H locs ls hP hD hS hl)
theorem X_irem (C : Cx φ g0 y cc nL0 fr lo mc ms) {x z : Int32} (d : decode cc pc = .ok (.irem, 1)) (hne : ¬ z = 0) (kk : X φ k n w L (pc + 1) (.int (x - x / z * z) :: rest)) : X φ k n w L pc (.int z :: .int x :: rest) := by
  obtain ⟨p, l, e, R, s, m, args, below, meth, c, A, Q, nL, g⟩ := φ
  exact fun H locs ls hP hD hS hl => lv_irem C.1 C.2.1 d hne (kk H locs ls hP hD hS hl)
theorem X_ishl (C : Cx φ g0 y cc nL0 fr lo mc ms) {x z : Int32} (d : decode cc pc = .ok (.ishl, 1)) (kk : X φ k n w L (pc + 1) (.int (x <<< (z &&& 31)) :: rest)) : X φ k n w L pc (.int z :: .int x :: rest) := by
  obtain ⟨p, l, e, R, s, m, args, below, meth, c, A, Q, nL, g⟩ := φ
  exact fun H locs ls hP hD hS hl => lv_ishl C.1 C.2.1 d (kk H locs ls hP hD hS hl)
theorem X_ishr (C : Cx φ g0 y cc nL0 fr lo mc ms) {x z : Int32} (d : decode cc pc = .ok (.ishr, 1)) (kk : X φ k n w L (pc + 1) (.int (x >>> (z &&& 31)) :: rest)) : X φ k n w L pc (.int z :: .int x :: rest) := by
  obtain ⟨p, l, e, R, s, m, args, below, meth, c, A, Q, nL, g⟩ := φ
  exact fun H locs ls hP hD hS hl => lv_ishr C.1 C.2.1 d (kk H locs ls hP hD hS hl)
theorem X_ladd (C : Cx φ g0 y cc nL0 fr lo mc ms) {x z : Int64} (d : decode cc pc = .ok (.ladd, 1)) (kk : X φ k n w L (pc + 1) (.long (x + z) :: rest)) : X φ k n w L pc (.long z :: .long x :: rest) := by
  obtain ⟨p, l, e, R, s, m, args, below, meth, c, A, Q, nL, g⟩ := φ
  exact fun H locs ls hP hD hS hl => lv_ladd C.1 C.2.1 d (kk H locs ls hP hD hS hl)
theorem X_lmul (C : Cx φ g0 y cc nL0 fr lo mc ms) {x z : Int64} (d : decode cc pc = .ok (.lmul, 1)) (kk : X φ k n w L (pc + 1) (.long (x * z) :: rest)) : X φ k n w L pc (.long z :: .long x :: rest) := by
  obtain ⟨p, l, e, R, s, m, args, below, meth, c, A, Q, nL, g⟩ := φ
  exact fun H locs ls hP hD hS hl => lv_lmul C.1 C.2.1 d (kk H locs ls hP hD hS hl)
theorem X_land (C : Cx φ g0 y cc nL0 fr lo mc ms) {x z : Int64} (d : decode cc pc = .ok (.land, 1)) (kk : X φ k n w L (pc + 1) (.long (x &&& z) :: rest)) : X φ k n w L pc (.long z :: .long x :: rest) := by
  obtain ⟨p, l, e, R, s, m, args, below, meth, c, A, Q, nL, g⟩ := φ
  exact fun H locs ls hP hD hS hl => lv_land C.1 C.2.1 d (kk H locs ls hP hD hS hl)
theorem X_lor (C : Cx φ g0 y cc nL0 fr lo mc ms) {x z : Int64} (d : decode cc pc = .ok (.lor, 1)) (kk : X φ k n w L (pc + 1) (.long (x ||| z) :: rest)) : X φ k n w L pc (.long z :: .long x :: rest) := by
  obtain ⟨p, l, e, R, s, m, args, below, meth, c, A, Q, nL, g⟩ := φ
  exact fun H locs ls hP hD hS hl => lv_lor C.1 C.2.1 d (kk H locs ls hP hD hS hl)
theorem X_iushr (C : Cx φ g0 y cc nL0 fr lo mc ms) {x z v : Int32} (d : decode cc pc = .ok (.iushr, 1)) (hv : (x.toUInt32 >>> (z.toUInt32 &&& Int32.toUInt32 31)).toInt32 = v) (kk : X φ k n w L (pc + 1) (.int v :: rest)) : X φ k n w L pc (.int z :: .int x :: rest) := by
  obtain ⟨p, l, e, R, s, m, args, below, meth, c, A, Q, nL, g⟩ := φ
  exact fun H locs ls hP hD hS hl => lv_iushr C.1 C.2.1 d hv (kk H locs ls hP hD hS hl)
theorem X_lushr (C : Cx φ g0 y cc nL0 fr lo mc ms) {x v : Int64} {z : Int32} (d : decode cc pc = .ok (.lushr, 1)) (hv : (x.toUInt64 >>> (z.toInt64.toUInt64 &&& Int64.toUInt64 63)).toInt64 = v) (kk : X φ k n w L (pc + 1) (.long v :: rest)) : X φ k n w L pc (.int z :: .long x :: rest) := by
  obtain ⟨p, l, e, R, s, m, args, below, meth, c, A, Q, nL, g⟩ := φ
  exact fun H locs ls hP hD hS hl => lv_lushr C.1 C.2.1 d hv (kk H locs ls hP hD hS hl)
theorem X_lshl (C : Cx φ g0 y cc nL0 fr lo mc ms) {x v : Int64} {z : Int32} (d : decode cc pc = .ok (.lshl, 1)) (hv : x <<< (z.toInt64 &&& 63) = v) (kk : X φ k n w L (pc + 1) (.long v :: rest)) : X φ k n w L pc (.int z :: .long x :: rest) := by
  obtain ⟨p, l, e, R, s, m, args, below, meth, c, A, Q, nL, g⟩ := φ
  exact fun H locs ls hP hD hS hl => lv_lshl C.1 C.2.1 d hv (kk H locs ls hP hD hS hl)
theorem X_lcmp (C : Cx φ g0 y cc nL0 fr lo mc ms) {x z : Int64} (d : decode cc pc = .ok (.lcmp, 1)) (kk : X φ k n w L (pc + 1) (.int (lg_cmp x z) :: rest)) : X φ k n w L pc (.long z :: .long x :: rest) := by
  obtain ⟨p, l, e, R, s, m, args, below, meth, c, A, Q, nL, g⟩ := φ
  exact fun H locs ls hP hD hS hl => W.lcmp C.1 C.2.1 d (kk H locs ls hP hD hS hl)
theorem X_i2l (C : Cx φ g0 y cc nL0 fr lo mc ms) {x : Int32} {v : Int64} (d : decode cc pc = .ok (.i2l, 1)) (hv : x.toInt64 = v) (kk : X φ k n w L (pc + 1) (.long v :: rest)) : X φ k n w L pc (.int x :: rest) := by
  obtain ⟨p, l, e, R, s, m, args, below, meth, c, A, Q, nL, g⟩ := φ
  exact fun H locs ls hP hD hS hl => lv_i2l C.1 C.2.1 d hv (kk H locs ls hP hD hS hl)
theorem X_l2i (C : Cx φ g0 y cc nL0 fr lo mc ms) {x : Int64} {v : Int32} (d : decode cc pc = .ok (.l2i, 1)) (hv : x.toInt32 = v) (kk : X φ k n w L (pc + 1) (.int v :: rest)) : X φ k n w L pc (.long x :: rest) := by
  obtain ⟨p, l, e, R, s, m, args, below, meth, c, A, Q, nL, g⟩ := φ
  exact fun H locs ls hP hD hS hl => lv_l2i C.1 C.2.1 d hv (kk H locs ls hP hD hS hl)
theorem X_i2b (C : Cx φ g0 y cc nL0 fr lo mc ms) {x : Int32} {v : Int32} (d : decode cc pc = .ok (.i2b, 1)) (hv : x.toInt8.toInt32 = v) (kk : X φ k n w L (pc + 1) (.int v :: rest)) : X φ k n w L pc (.int x :: rest) := by
  obtain ⟨p, l, e, R, s, m, args, below, meth, c, A, Q, nL, g⟩ := φ
  exact fun H locs ls hP hD hS hl => lv_i2b C.1 C.2.1 d hv (kk H locs ls hP hD hS hl)
theorem X_dup (C : Cx φ g0 y cc nL0 fr lo mc ms) {va : Value} (d : decode cc pc = .ok (.dup, 1)) (hva : va.category = 1) (kk : X φ k n w L (pc + 1) (va :: va :: rest)) : X φ k n w L pc (va :: rest) := by
  obtain ⟨p, l, e, R, s, m, args, below, meth, c, A, Q, nL, g⟩ := φ
  exact fun H locs ls hP hD hS hl => lv_dup C.1 C.2.1 d hva (kk H locs ls hP hD hS hl)
theorem X_dup2 (C : Cx φ g0 y cc nL0 fr lo mc ms) {va vb : Value} (d : decode cc pc = .ok (.dup2, 1)) (hva : va.category = 1) (hvb : vb.category = 1) (kk : X φ k n w L (pc + 1) (va :: vb :: va :: vb :: rest)) : X φ k n w L pc (va :: vb :: rest) := by
  obtain ⟨p, l, e, R, s, m, args, below, meth, c, A, Q, nL, g⟩ := φ
  exact fun H locs ls hP hD hS hl => lv_dup2_11 C.1 C.2.1 d hva hvb (kk H locs ls hP hD hS hl)
theorem X_goto (C : Cx φ g0 y cc nL0 fr lo mc ms) {off : Int} (tgt : Nat) (d : decode cc pc = .ok (.goto off, 3)) (ht : (pc : Int) + off = (tgt : Int)) (kk : X φ k n w L tgt rest) : X φ k n w L pc (rest) := by
  obtain ⟨p, l, e, R, s, m, args, below, meth, c, A, Q, nL, g⟩ := φ
  exact fun H locs ls hP hD hS hl => lv_goto C.1 C.2.1 d ht (kk H locs ls hP hD hS hl)
theorem X_if_eq (C : Cx φ g0 y cc nL0 fr lo mc ms) {x : Int32} {off : Int} (tgt : Nat) (d : decode cc pc = .ok (.ifCond .eq off, 3)) (ht : (pc : Int) + off = (tgt : Int)) (kt : x = 0 → X φ k n w L tgt rest) (kf : ¬ (x = 0) → X φ k n w L (pc + 3) rest) : X φ k n w L pc (.int x :: rest) := by
  obtain ⟨p, l, e, R, s, m, args, below, meth, c, A, Q, nL, g⟩ := φ
  exact fun H locs ls hP hD hS hl => lv_if_eq C.1 C.2.1 d ht (fun h => kt h H locs ls hP hD hS hl) (fun h => kf h H locs ls hP hD hS hl)
theorem X_icmp_eq (C : Cx φ g0 y cc nL0 fr lo mc ms) {x z : Int32} {off : Int} (tgt : Nat) (d : decode cc pc = .ok (.if_icmp .eq off, 3)) (ht : (pc : Int) + off = (tgt : Int)) (kt : x = z → X φ k n w L tgt rest) (kf : ¬ (x = z) → X φ k n w L (pc + 3) rest) : X φ k n w L pc (.int z :: .int x :: rest) := by
  obtain ⟨p, l, e, R, s, m, args, below, meth, c, A, Q, nL, g⟩ := φ
  exact fun H locs ls hP hD hS hl => lv_icmp_eq C.1 C.2.1 d ht (fun h => kt h H locs ls hP hD hS hl) (fun h => kf h H locs ls hP hD hS hl)
theorem X_if_ne (C : Cx φ g0 y cc nL0 fr lo mc ms) {x : Int32} {off : Int} (tgt : Nat) (d : decode cc pc = .ok (.ifCond .ne off, 3)) (ht : (pc : Int) + off = (tgt : Int)) (kt : ¬ x = 0 → X φ k n w L tgt rest) (kf : x = 0 → X φ k n w L (pc + 3) rest) : X φ k n w L pc (.int x :: rest) := by
  obtain ⟨p, l, e, R, s, m, args, below, meth, c, A, Q, nL, g⟩ := φ
  exact fun H locs ls hP hD hS hl => lv_if_ne C.1 C.2.1 d ht (fun h => kt h H locs ls hP hD hS hl) (fun h => kf h H locs ls hP hD hS hl)
theorem X_icmp_ne (C : Cx φ g0 y cc nL0 fr lo mc ms) {x z : Int32} {off : Int} (tgt : Nat) (d : decode cc pc = .ok (.if_icmp .ne off, 3)) (ht : (pc : Int) + off = (tgt : Int)) (kt : ¬ x = z → X φ k n w L tgt rest) (kf : x = z → X φ k n w L (pc + 3) rest) : X φ k n w L pc (.int z :: .int x :: rest) := by
  obtain ⟨p, l, e, R, s, m, args, below, meth, c, A, Q, nL, g⟩ := φ
  exact fun H locs ls hP hD hS hl => lv_icmp_ne C.1 C.2.1 d ht (fun h => kt h H locs ls hP hD hS hl) (fun h => kf h H locs ls hP hD hS hl)
theorem X_if_lt (C : Cx φ g0 y cc nL0 fr lo mc ms) {x : Int32} {off : Int} (tgt : Nat) (d : decode cc pc = .ok (.ifCond .lt off, 3)) (ht : (pc : Int) + off = (tgt : Int)) (kt : x < 0 → X φ k n w L tgt rest) (kf : ¬ (x < 0) → X φ k n w L (pc + 3) rest) : X φ k n w L pc (.int x :: rest) := by
  obtain ⟨p, l, e, R, s, m, args, below, meth, c, A, Q, nL, g⟩ := φ
  exact fun H locs ls hP hD hS hl => lv_if_lt C.1 C.2.1 d ht (fun h => kt h H locs ls hP hD hS hl) (fun h => kf h H locs ls hP hD hS hl)
theorem X_icmp_lt (C : Cx φ g0 y cc nL0 fr lo mc ms) {x z : Int32} {off : Int} (tgt : Nat) (d : decode cc pc = .ok (.if_icmp .lt off, 3)) (ht : (pc : Int) + off = (tgt : Int)) (kt : x < z → X φ k n w L tgt rest) (kf : ¬ (x < z) → X φ k n w L (pc + 3) rest) : X φ k n w L pc (.int z :: .int x :: rest) := by
  obtain ⟨p, l, e, R, s, m, args, below, meth, c, A, Q, nL, g⟩ := φ
  exact fun H locs ls hP hD hS hl => lv_icmp_lt C.1 C.2.1 d ht (fun h => kt h H locs ls hP hD hS hl) (fun h => kf h H locs ls hP hD hS hl)
theorem X_if_ge (C : Cx φ g0 y cc nL0 fr lo mc ms) {x : Int32} {off : Int} (tgt : Nat) (d : decode cc pc = .ok (.ifCond .ge off, 3)) (ht : (pc : Int) + off = (tgt : Int)) (kt : 0 ≤ x → X φ k n w L tgt rest) (kf : ¬ (0 ≤ x) → X φ k n w L (pc + 3) rest) : X φ k n w L pc (.int x :: rest) := by
  obtain ⟨p, l, e, R, s, m, args, below, meth, c, A, Q, nL, g⟩ := φ
  exact fun H locs ls hP hD hS hl => lv_if_ge C.1 C.2.1 d ht (fun h => kt h H locs ls hP hD hS hl) (fun h => kf h H locs ls hP hD hS hl)
theorem X_icmp_ge (C : Cx φ g0 y cc nL0 fr lo mc ms) {x z : Int32} {off : Int} (tgt : Nat) (d : decode cc pc = .ok (.if_icmp .ge off, 3)) (ht : (pc : Int) + off = (tgt : Int)) (kt : z ≤ x → X φ k n w L tgt rest) (kf : ¬ (z ≤ x) → X φ k n w L (pc + 3) rest) : X φ k n w L pc (.int z :: .int x :: rest) := by
  obtain ⟨p, l, e, R, s, m, args, below, meth, c, A, Q, nL, g⟩ := φ
  exact fun H locs ls hP hD hS hl => lv_icmp_ge C.1 C.2.1 d ht (fun h => kt h H locs ls hP hD hS hl) (fun h => kf h H locs ls hP hD hS hl)
theorem X_if_gt (C : Cx φ g0 y cc nL0 fr lo mc ms) {x : Int32} {off : Int} (tgt : Nat) (d : decode cc pc = .ok (.ifCond .gt off, 3)) (ht : (pc : Int) + off = (tgt : Int)) (kt : 0 < x → X φ k n w L tgt rest) (kf : ¬ (0 < x) → X φ k n w L (pc + 3) rest) : X φ k n w L pc (.int x :: rest) := by
  obtain ⟨p, l, e, R, s, m, args, below, meth, c, A, Q, nL, g⟩ := φ
  exact fun H locs ls hP hD hS hl => lv_if_gt C.1 C.2.1 d ht (fun h => kt h H locs ls hP hD hS hl) (fun h => kf h H locs ls hP hD hS hl)
theorem X_icmp_gt (C : Cx φ g0 y cc nL0 fr lo mc ms) {x z : Int32} {off : Int} (tgt : Nat) (d : decode cc pc = .ok (.if_icmp .gt off, 3)) (ht : (pc : Int) + off = (tgt : Int)) (kt : z < x → X φ k n w L tgt rest) (kf : ¬ (z < x) → X φ k n w L (pc + 3) rest) : X φ k n w L pc (.int z :: .int x :: rest) := by
  obtain ⟨p, l, e, R, s, m, args, below, meth, c, A, Q, nL, g⟩ := φ
  exact fun H locs ls hP hD hS hl => lv_icmp_gt C.1 C.2.1 d ht (fun h => kt h H locs ls hP hD hS hl) (fun h => kf h H locs ls hP hD hS hl)
theorem X_if_le (C : Cx φ g0 y cc nL0 fr lo mc ms) {x : Int32} {off : Int} (tgt : Nat) (d : decode cc pc = .ok (.ifCond .le off, 3)) (ht : (pc : Int) + off = (tgt : Int)) (kt : x ≤ 0 → X φ k n w L tgt rest) (kf : ¬ (x ≤ 0) → X φ k n w L (pc + 3) rest) : X φ k n w L pc (.int x :: rest) := by
  obtain ⟨p, l, e, R, s, m, args, below, meth, c, A, Q, nL, g⟩ := φ
  exact fun H locs ls hP hD hS hl => lv_if_le C.1 C.2.1 d ht (fun h => kt h H locs ls hP hD hS hl) (fun h => kf h H locs ls hP hD hS hl)
theorem X_icmp_le (C : Cx φ g0 y cc nL0 fr lo mc ms) {x z : Int32} {off : Int} (tgt : Nat) (d : decode cc pc = .ok (.if_icmp .le off, 3)) (ht : (pc : Int) + off = (tgt : Int)) (kt : x ≤ z → X φ k n w L tgt rest) (kf : ¬ (x ≤ z) → X φ k n w L (pc + 3) rest) : X φ k n w L pc (.int z :: .int x :: rest) := by
  obtain ⟨p, l, e, R, s, m, args, below, meth, c, A, Q, nL, g⟩ := φ
  exact fun H locs ls hP hD hS hl => lv_icmp_le C.1 C.2.1 d ht (fun h => kt h H locs ls hP hD hS hl) (fun h => kf h H locs ls hP hD hS hl)
theorem X_tableOut (C : Cx φ g0 y cc nL0 fr lo mc ms) {dflt lo1 hi1 : Int} {offs : Array Int} {len : Nat} {x : Int32} (tgt : Nat) (d : decode cc pc = .ok (.tableswitch dflt lo1 hi1 offs, len)) (h : x.toInt < lo1 ∨ hi1 < x.toInt) (ht : (pc : Int) + dflt = (tgt : Int)) (kk : X φ k n w L tgt rest) : X φ k n w L pc (.int x :: rest) := by
  obtain ⟨p, l, e, R, s, m, args, below, meth, c, A, Q, nL, g⟩ := φ
  exact fun H locs ls hP hD hS hl => lv_tableOut C.1 C.2.1 d h ht (kk H locs ls hP hD hS hl)
theorem X_tableIn (C : Cx φ g0 y cc nL0 fr lo mc ms) {dflt lo1 hi1 off : Int} {offs : Array Int} {len : Nat} {x : Int32} (tgt : Nat) (d : decode cc pc = .ok (.tableswitch dflt lo1 hi1 offs, len)) (h1 : ¬ x.toInt < lo1) (h2 : ¬ hi1 < x.toInt) (ho : offs[(x.toInt - lo1).toNat]? = some off) (ht : (pc : Int) + off = (tgt : Int)) (kk : X φ k n w L tgt rest) : X φ k n w L pc (.int x :: rest) := by
  obtain ⟨p, l, e, R, s, m, args, below, meth, c, A, Q, nL, g⟩ := φ
  exact fun H locs ls hP hD hS hl => lv_tableIn C.1 C.2.1 d h1 h2 ho ht (kk H locs ls hP hD hS hl)
theorem X_lookup (C : Cx φ g0 y cc nL0 fr lo mc ms) {dflt off : Int} {ps : Array (Int × Int)} {len : Nat} {x : Int32} (tgt : Nat) (d : decode cc pc = .ok (.lookupswitch dflt ps, len)) (hp : (ps.toList.zip (ps.toList.drop 1)).all (fun (a, next) => a.1 < next.1) = true) (ho : Op.lookupswitch.offset ps.toList dflt x.toInt = off) (ht : (pc : Int) + off = (tgt : Int)) (kk : X φ k n w L tgt rest) : X φ k n w L pc (.int x :: rest) := by
  obtain ⟨p, l, e, R, s, m, args, below, meth, c, A, Q, nL, g⟩ := φ
  exact fun H locs ls hP hD hS hl => lv_lookup C.1 C.2.1 d hp ho ht (kk H locs ls hP hD hS hl)
theorem X_ifnonnull (C : Cx φ g0 y cc nL0 fr lo mc ms) {a : Nat} {off : Int} (tgt : Nat) (d : decode cc pc = .ok (.ifnonnull off, 3)) (ht : (pc : Int) + off = (tgt : Int)) (kk : X φ k n w L tgt rest) : X φ k n w L pc (.ref a :: rest) := by
  obtain ⟨p, l, e, R, s, m, args, below, meth, c, A, Q, nL, g⟩ := φ
  exact fun H locs ls hP hD hS hl => lv_ifnonnull C.1 C.2.1 d ht (kk H locs ls hP hD hS hl)
theorem X_ifnull (C : Cx φ g0 y cc nL0 fr lo mc ms) {a : Nat} {off : Int} (d : decode cc pc = .ok (.ifnull off, 3)) (kk : X φ k n w L (pc + 3) rest) : X φ k n w L pc (.ref a :: rest) := by
  obtain ⟨p, l, e, R, s, m, args, below, meth, c, A, Q, nL, g⟩ := φ
  exact fun H locs ls hP hD hS hl => lv_ifnull C.1 C.2.1 d (kk H locs ls hP hD hS hl)
theorem X_ifnullN (C : Cx φ g0 y cc nL0 fr lo mc ms) {off : Int} (tgt : Nat) (d : decode cc pc = .ok (.ifnull off, 3)) (ht : (pc : Int) + off = (tgt : Int)) (kk : X φ k n w L tgt rest) : X φ k n w L pc (.null :: rest) := by
  obtain ⟨p, l, e, R, s, m, args, below, meth, c, A, Q, nL, g⟩ := φ
  exact fun H locs ls hP hD hS hl => lv_ifnullN C.1 C.2.1 d ht (kk H locs ls hP hD hS hl)
theorem X_ifnonnullN (C : Cx φ g0 y cc nL0 fr lo mc ms) {off : Int} (d : decode cc pc = .ok (.ifnonnull off, 3)) (kk : X φ k n w L (pc + 3) rest) : X φ k n w L pc (.null :: rest) := by
  obtain ⟨p, l, e, R, s, m, args, below, meth, c, A, Q, nL, g⟩ := φ
  exact fun H locs ls hP hD hS hl => lv_ifnonnullN C.1 C.2.1 d (kk H locs ls hP hD hS hl)
theorem Cx.g (C : Cx φ g0 y cc nL0 fr lo mc ms) : φ.2.2.2.2.2.2.2.2.2.2.2.2.2 = g0 := by
  obtain ⟨p, l, e, R, s, m, args, below, meth, c, A, Q, nL, g⟩ := φ
  obtain ⟨-, -, -, -, -, -, -, -, -, -, -, h1⟩ := C
  exact h1
theorem X_get (C : Cx φ g0 y cc nL0 fr lo mc ms) (q0 : Nat) {ci index a N : Nat} {fs : List Value} {Cn : String} {T : u_T} {v : Value} (he : w[q0]? = some (a, .inr (ci, fs))) (hc : vwCl[ci]? = some (Cn, T, N)) (hin : ∀ w ∈ u_ws Cn T N, w ∈ Ts) (j : Nat) (hj : j < N) (hl : Cond.fieldLink y.cls index (T j).1 (T j).2.1 (T j).2.2.1 ∈ Ts) (hv : fs[j]? = some v) (d : decode cc pc = .ok (.getfield index, 3)) (kk : X φ k n w L (pc + 3) (v :: rest)) : X φ k n w L pc (.ref a :: rest) := by
  obtain ⟨p, l, e, R, s, m, args, below, meth, c, A, Q, nL, g⟩ := φ
  exact fun H locs ls hP hD hS hll => va_get (ref := (T j).1) C.1 C.2.1 C.2.2.2.2.1 hin C.2.2.2.1 C.2.2.2.2.2.1.1 hP q0 he hc j hj (C.2.2.2.2.1 _ hl) (fun _ h => h) hv d (kk H locs ls hP hD hS hll)
theorem X_put (C : Cx φ g0 y cc nL0 fr lo mc ms) (q0 : Nat) {ci index a N : Nat} {fs : List Value} {Cn : String} {T : u_T} {v : Value} {ty : FieldType} {w' : va_W} (he : w[q0]? = some (a, .inr (ci, fs))) (hc : vwCl[ci]? = some (Cn, T, N)) (hin : ∀ w ∈ u_ws Cn T N, w ∈ Ts) (ty0 : Nat → FieldType) (hty : ∀ k, k < N → parseFieldDescriptor (T k).2.2.1 = some (ty0 k)) (hnm : ∀ a, a < N → ∀ b, b < N → a ≠ b → (T a).2.1 ≠ (T b).2.1) (j : Nat) (hj : j < N) (hl : Cond.fieldLink y.cls index (T j).1 (T j).2.1 (T j).2.2.1 ∈ Ts) (hfin : (T j).2.2.2 = false) (hd : parseFieldDescriptor (T j).2.2.1 = some ty) (hn : narrow ty v = v) (hfit : fits ty v = true) (hlen : j < fs.length) (d : decode cc pc = .ok (.putfield index, 3)) (hw : w.set q0 (a, .inr (ci, fs.set j v)) = w') (kk : X φ k n w' L (pc + 3) rest) : X φ k n w L pc (v :: .ref a :: rest) := by
  obtain ⟨p, l, e, R, s, m, args, below, meth, c, A, Q, nL, g⟩ := φ
  exact fun H locs ls hP hD hS hll => va_put (ref := (T j).1) C.1 C.2.1 C.2.2.2.2.1 hin ty0 hty hnm C.2.2.2.1 C.2.2.2.2.2.1.1 hP hD hS q0 he hc j hj (C.2.2.2.2.1 _ hl) (fun _ h => h) hfin hd hn hfit hlen d (fun H1 locs1 hP1 hD1 hS1 => kk H1 locs1 ls (hw ▸ hP1) (hw ▸ hD1) hS1 hll)
theorem X_putF (C : Cx φ g0 y cc nL0 fr lo mc ms) (q0 : Nat) {ci index a N : Nat} {fs : List Value} {T : u_T} {v : Value} {ty : FieldType} {w' : va_W} (he : w[q0]? = some (a, .inr (ci, fs))) (hc : vwCl[ci]? = some (y.cls, T, N)) (hin : ∀ w ∈ u_ws y.cls T N, w ∈ Ts) (ty0 : Nat → FieldType) (hty : ∀ k, k < N → parseFieldDescriptor (T k).2.2.1 = some (ty0 k)) (hnm : ∀ a, a < N → ∀ b, b < N → a ≠ b → (T a).2.1 ≠ (T b).2.1) (j : Nat) (hj : j < N) (hl : Cond.fieldLink y.cls index (T j).1 (T j).2.1 (T j).2.2.1 ∈ Ts) (hfin : (T j).2.2.2 = true) (hyi : y.name = "<init>") (hown : (T j).1 = y.cls) (hd : parseFieldDescriptor (T j).2.2.1 = some ty) (hn : narrow ty v = v) (hfit : fits ty v = true) (hlen : j < fs.length) (d : decode cc pc = .ok (.putfield index, 3)) (hw : w.set q0 (a, .inr (ci, fs.set j v)) = w') (kk : X φ k n w' L (pc + 3) rest) : X φ k n w L pc (v :: .ref a :: rest) := by
  obtain ⟨p, l, e, R, s, m, args, below, meth, c, A, Q, nL, g⟩ := φ
  exact fun H locs ls hP hD hS hll => va_putF (ref := (T j).1) C.1 C.2.1 C.2.2.2.2.1 hin ty0 hty hnm C.2.2.2.1 C.2.2.2.2.2.1.1 hP hD hS q0 he hc j hj (C.2.2.2.2.1 _ hl) (fun _ h => h) hfin (C.2.2.2.2.2.2.2.2.2.1.trans hyi) hown hd hn hfit hlen d (fun H1 locs1 hP1 hD1 hS1 => kk H1 locs1 ls (hw ▸ hP1) (hw ▸ hD1) hS1 hll)
theorem X_iald (C : Cx φ g0 y cc nL0 fr lo mc ms) (q0 : Nat) {a len : Nat} {f : Nat → Int32} {i : Int32} (ha : w[q0]? = some (a, .inl (gI g0, len, .inl f))) (hin : vp_in i len) (d : decode cc pc = .ok (.iaload, 1)) (kk : X φ k n w L (pc + 1) (.int (f i.toNatClampNeg) :: rest)) : X φ k n w L pc (.int i :: .ref a :: rest) := by
  obtain ⟨p, l, e, R, s, m, args, below, meth, c, A, Q, nL, g⟩ := φ
  have hg : g = g0 := C.g
  subst hg
  exact fun H locs ls hP hD hS hl => va_iald C.1 C.2.1 C.2.2.2.2.2.1.1 hP q0 0 ha rfl hin d (kk H locs ls hP hD hS hl)
theorem X_zald (C : Cx φ g0 y cc nL0 fr lo mc ms) (q0 : Nat) {a len : Nat} {f : Nat → Int32} {i : Int32} (ha : w[q0]? = some (a, .inl (gZ g0, len, .inl f))) (hin : vp_in i len) (d : decode cc pc = .ok (.baload, 1)) (kk : X φ k n w L (pc + 1) (.int (f i.toNatClampNeg) :: rest)) : X φ k n w L pc (.int i :: .ref a :: rest) := by
  obtain ⟨p, l, e, R, s, m, args, below, meth, c, A, Q, nL, g⟩ := φ
  have hg : g = g0 := C.g
  subst hg
  exact fun H locs ls hP hD hS hl => va_zald C.1 C.2.1 C.2.2.2.2.2.1.1 hP q0 2 ha rfl hin d (kk H locs ls hP hD hS hl)
theorem X_lald (C : Cx φ g0 y cc nL0 fr lo mc ms) (q0 : Nat) {a len : Nat} {f : Nat → Int64} {i : Int32} (ha : w[q0]? = some (a, .inl (gJ g0, len, .inr (.inl f)))) (hin : vp_in i len) (d : decode cc pc = .ok (.laload, 1)) (kk : X φ k n w L (pc + 1) (.long (f i.toNatClampNeg) :: rest)) : X φ k n w L pc (.int i :: .ref a :: rest) := by
  obtain ⟨p, l, e, R, s, m, args, below, meth, c, A, Q, nL, g⟩ := φ
  have hg : g = g0 := C.g
  subst hg
  exact fun H locs ls hP hD hS hl => va_lald C.1 C.2.1 C.2.2.2.2.2.1.1 hP q0 1 ha rfl hin d (kk H locs ls hP hD hS hl)
theorem X_iast (C : Cx φ g0 y cc nL0 fr lo mc ms) (q0 : Nat) {a len : Nat} {f : Nat → Int32} {i : Int32} {x : Int32} {w' : va_W} (ha : w[q0]? = some (a, .inl (gI g0, len, .inl f))) (hin : vp_in i len) (d : decode cc pc = .ok (.iastore, 1)) (hw : w.set q0 (a, .inl (gI g0, len, .inl (upd f i.toNatClampNeg x))) = w') (kk : X φ k n w' L (pc + 1) rest) : X φ k n w L pc (.int x :: .int i :: .ref a :: rest) := by
  obtain ⟨p, l, e, R, s, m, args, below, meth, c, A, Q, nL, g⟩ := φ
  have hg : g = g0 := C.g
  subst hg
  exact fun H locs ls hP hD hS hl => va_iast C.1 C.2.1 C.2.2.2.2.2.1.1 hP hD hS q0 0 ha rfl hin d (fun H1 locs1 hP1 hD1 hS1 => kk H1 locs1 ls (hw ▸ hP1) (hw ▸ hD1) hS1 hl)
theorem X_zast (C : Cx φ g0 y cc nL0 fr lo mc ms) (q0 : Nat) {a len : Nat} {f : Nat → Int32} {i : Int32} {x : Int32} {w' : va_W} (ha : w[q0]? = some (a, .inl (gZ g0, len, .inl f))) (hin : vp_in i len) (d : decode cc pc = .ok (.bastore, 1)) (hw : w.set q0 (a, .inl (gZ g0, len, .inl (upd f i.toNatClampNeg (vp_nar .boolean x)))) = w') (kk : X φ k n w' L (pc + 1) rest) : X φ k n w L pc (.int x :: .int i :: .ref a :: rest) := by
  obtain ⟨p, l, e, R, s, m, args, below, meth, c, A, Q, nL, g⟩ := φ
  have hg : g = g0 := C.g
  subst hg
  exact fun H locs ls hP hD hS hl => va_zast C.1 C.2.1 C.2.2.2.2.2.1.1 hP hD hS q0 2 ha rfl hin d (fun H1 locs1 hP1 hD1 hS1 => kk H1 locs1 ls (hw ▸ hP1) (hw ▸ hD1) hS1 hl)
theorem X_last (C : Cx φ g0 y cc nL0 fr lo mc ms) (q0 : Nat) {a len : Nat} {f : Nat → Int64} {i : Int32} {x : Int64} {w' : va_W} (ha : w[q0]? = some (a, .inl (gJ g0, len, .inr (.inl f)))) (hin : vp_in i len) (d : decode cc pc = .ok (.lastore, 1)) (hw : w.set q0 (a, .inl (gJ g0, len, .inr (.inl (vp_updL f i.toNatClampNeg x)))) = w') (kk : X φ k n w' L (pc + 1) rest) : X φ k n w L pc (.long x :: .int i :: .ref a :: rest) := by
  obtain ⟨p, l, e, R, s, m, args, below, meth, c, A, Q, nL, g⟩ := φ
  have hg : g = g0 := C.g
  subst hg
  exact fun H locs ls hP hD hS hl => va_last C.1 C.2.1 C.2.2.2.2.2.1.1 hP hD hS q0 1 ha rfl hin d (fun H1 locs1 hP1 hD1 hS1 => kk H1 locs1 ls (hw ▸ hP1) (hw ▸ hD1) hS1 hl)
end LY
end
section
/-! contracts out of walks, and calls -/
theorem Con.mk {g : Gx} {y : MethodName} {cc : ByteArray} {nL fr lo mc ms : Nat} {rt : Option FieldType} {av : List Value} {w : va_W} {P : Option Value → va_W → Prop} (hy : plainName y.cls = true) (hlen : (lg_sl av).length ≤ nL)
    (body : ∀ φ : Fx, Cx φ g y cc nL fr lo mc ms →
      (∀ (v : Option Value) (w' : va_W) (L : List (Nat × Value)) (pc : Nat) (st : List Value), P v w' → (match φ with | (p, l, e, R, s, m, args, below, meth, c, A, Q, nL, g) => (∀ (Qc : Array Value → State → Outcome → State → Prop) (free : Addr → Prop) (H : Heap) (locs : List Loc) (ls : Array Slot), (∀ t : State, t.heap = H → s.WarmedH t.vm → Qc args s (.returned v) t) → (∀ q ∈ locs, free q.base) → meth.sig.returnType = rt → meth.locks = false → W p l e R s m args below meth c H locs mc ms (MQ below Qc args s mc ms free) (F0 m pc ls st))) → X φ mc ms w' L pc st) → X φ 0 0 w (lv_args 0 av) 0 []) : Con g y cc nL rt fr lo mc ms av w P := by
  intro l sz
  refine Met.ofW (cc := cc) (maxL := nL) (ret := rt) hy rfl ?_
  intro p e s m args below meth c s₁ B hml hv
  obtain ⟨rfl, hsz, hP, hK, hD0⟩ := hv
  subst hsz
  have hts := atoms_spec (ws := Cond.code y cc nL rt :: Ts) B.pre
  have hown : s.vm.findClass y.cls = some m.cls := findClass_of_methodNamed B.named
  have hnm : meth.name = y.name := (name_of_methodNamed B.named B.method).1
  have hS : va_S (va_A w s.heap.size) s.heap s.heap [] := va_S.rf
  have hl := lv_entry av (n := nL) hlen
  rw [lg_entry_eq]
  refine body (p, l, e, { frames := fr, cells := mc, slots := ms, locals := lo }, s, m, av.toArray, below, meth, c, va_A w s.heap.size, MQ below (fun _ st oc t => (∃ (v : Option Value) (w' : va_W), oc = .returned v ∧ P v w' ∧ va_P (gD g) vwCl w' t.heap ∧ va_D (va_A w s.heap.size) w') ∧ va_F (va_A w s.heap.size) st t) av.toArray s mc ms (va_A w s.heap.size), nL, g) ⟨B.exec, B.bytes, hml, hown, fun w hw => hts w (List.mem_cons_of_mem _ hw), hK, fun q h => Or.inr h, rfl, B.notSynchronized, hnm, rfl, rfl⟩ ?_ s.heap [] _ hP hD0.self hS hl
  intro v w' L pc st hPv hret H locs ls hP1 hD1 hS1 hl1
  exact hret _ (va_A w s.heap.size) H locs ls (fun t ht hW => ⟨⟨v, w', rfl, hPv, by rw [ht]; exact hP1, hD1⟩, hS1.F ht⟩) hS1.2.2 B.returns B.notSynchronized
section LY2
variable {g : Gx} {y : MethodName} {cc : ByteArray} {nL fr lo mc ms : Nat} {av : List Value} {w : va_W} {P : Option Value → va_W → Prop}
theorem Con.ofI (hy : plainName y.cls = true) (hlen : (lg_sl av).length ≤ nL) (body : ∀ φ : Fx, Cx φ g y cc nL fr lo mc ms → (∀ (r : Int32) (w' : va_W) (L : List (Nat × Value)) (pc : Nat), P (some (.int r)) w' → decode cc pc = .ok (.ireturn, 1) → X φ mc ms w' L pc [.int r]) → X φ 0 0 w (lv_args 0 av) 0 []) : Con g y cc nL (some .int) fr lo mc ms av w P := by
  refine Con.mk hy hlen (fun φ C hr => body φ C (fun r w' L pc hPv hd => hr _ w' L pc _ hPv ?_))
  obtain ⟨p, l, e, R, s, m, args, below, meth, c, A, Q, nL, g⟩ := φ
  intro Qc free H locs ls hq hf hrt hlk
  exact W.iret C.1 C.2.1 hrt hq hf hd hlk
theorem Con.ofZ (hy : plainName y.cls = true) (hlen : (lg_sl av).length ≤ nL) (body : ∀ φ : Fx, Cx φ g y cc nL fr lo mc ms → (∀ (r : Int32) (w' : va_W) (L : List (Nat × Value)) (pc : Nat), P (some (.int r)) w' → (r = 0 ∨ r = 1) → decode cc pc = .ok (.ireturn, 1) → X φ mc ms w' L pc [.int r]) → X φ 0 0 w (lv_args 0 av) 0 []) : Con g y cc nL (some .boolean) fr lo mc ms av w P := by
  refine Con.mk hy hlen (fun φ C hr => body φ C (fun r w' L pc hPv h01 hd => hr _ w' L pc _ hPv ?_))
  obtain ⟨p, l, e, R, s, m, args, below, meth, c, A, Q, nL, g⟩ := φ
  intro Qc free H locs ls hq hf hrt hlk
  exact W.zret C.1 C.2.1 hrt (by rcases h01 with rfl | rfl <;> rfl) hq hf hd hlk
theorem Con.ofL (hy : plainName y.cls = true) (hlen : (lg_sl av).length ≤ nL) (body : ∀ φ : Fx, Cx φ g y cc nL fr lo mc ms → (∀ (r : Int64) (w' : va_W) (L : List (Nat × Value)) (pc : Nat), P (some (.long r)) w' → decode cc pc = .ok (.lreturn, 1) → X φ mc ms w' L pc [.long r]) → X φ 0 0 w (lv_args 0 av) 0 []) : Con g y cc nL (some .long) fr lo mc ms av w P := by
  refine Con.mk hy hlen (fun φ C hr => body φ C (fun r w' L pc hPv hd => hr _ w' L pc _ hPv ?_))
  obtain ⟨p, l, e, R, s, m, args, below, meth, c, A, Q, nL, g⟩ := φ
  intro Qc free H locs ls hq hf hrt hlk
  exact W.lret C.1 C.2.1 hrt hq hf hd hlk
theorem Con.ofV (hy : plainName y.cls = true) (hlen : (lg_sl av).length ≤ nL) (body : ∀ φ : Fx, Cx φ g y cc nL fr lo mc ms → (∀ (w' : va_W) (L : List (Nat × Value)) (pc : Nat), P none w' → decode cc pc = .ok (.return_, 1) → X φ mc ms w' L pc []) → X φ 0 0 w (lv_args 0 av) 0 []) : Con g y cc nL none fr lo mc ms av w P := by
  refine Con.mk hy hlen (fun φ C hr => body φ C (fun w' L pc hPv hd => hr _ w' L pc _ hPv ?_))
  obtain ⟨p, l, e, R, s, m, args, below, meth, c, A, Q, nL, g⟩ := φ
  intro Qc free H locs ls hq hf hrt hlk
  exact W.vret C.1 C.2.1 hrt hq hf hd hlk
theorem Con.ofR {rn : String} (hy : plainName y.cls = true) (hlen : (lg_sl av).length ≤ nL) (body : ∀ φ : Fx, Cx φ g y cc nL fr lo mc ms → (∀ (a : Nat) (w' : va_W) (L : List (Nat × Value)) (pc : Nat), P (some (.ref a)) w' → decode cc pc = .ok (.areturn, 1) → X φ mc ms w' L pc [.ref a]) → X φ 0 0 w (lv_args 0 av) 0 []) : Con g y cc nL (some (.object rn)) fr lo mc ms av w P := by
  refine Con.mk hy hlen (fun φ C hr => body φ C (fun r w' L pc hPv hd => hr _ w' L pc _ hPv ?_))
  obtain ⟨p, l, e, R, s, m, args, below, meth, c, A, Q, nL, g⟩ := φ
  intro Qc free H locs ls hq hf hrt hlk
  exact W.aret C.1 C.2.1 hrt (Or.inl ⟨_, rfl⟩) (Or.inr ⟨_, rfl⟩) hq hf hd hlk
theorem Con.imp {rt : Option FieldType} {P' : Option Value → va_W → Prop} (h : Con g y cc nL rt fr lo mc ms av w P) (hi : ∀ v w', P v w' → P' v w') : Con g y cc nL rt fr lo mc ms av w P' := by
  intro l sz p e ha hc hk s m args below hf happ hpre hK
  obtain ⟨kk, o, h1, h2, h3, ⟨⟨v, w', e1, e2, e3⟩, h5⟩, h6⟩ := h l sz p e ha hc hk s m args below hf happ hpre hK
  exact ⟨kk, o, h1, h2, h3, ⟨⟨v, w', e1, hi v w' e2, e3⟩, h5⟩, h6⟩
end LY2
/-- what the tables say of a method of an object, of a static one, of a constructor -/
def MN (y : MethodName) (np : Nat) : Prop := y.cls ≠ "java/lang/invoke/MethodHandle" ∧ y.cls ≠ "java/lang/invoke/VarHandle" ∧ (parseMethodDescriptor y.desc).map (fun d => d.parameters.length) = some np
def MI (y : MethodName) (cc : ByteArray) (nL : Nat) (rt : Option FieldType) (np : Nat) : Prop := Cond.instanceMethod y ∈ Ts ∧ Cond.selects y.cls y y ∈ Ts ∧ Cond.initialized y.cls ∈ Ts ∧ Cond.code y cc nL rt ∈ Ts ∧ MN y np
def MS (y : MethodName) (cc : ByteArray) (nL : Nat) (rt : Option FieldType) (np : Nat) : Prop := Cond.static y ∈ Ts ∧ Cond.initialized y.cls ∈ Ts ∧ Cond.code y cc nL rt ∈ Ts ∧ MN y np
def MC (y : MethodName) (cc : ByteArray) (nL : Nat) (np : Nat) : Prop := Cond.instanceMethod y ∈ Ts ∧ Cond.initialized y.cls ∈ Ts ∧ Cond.code y cc nL none ∈ Ts ∧ MN y np ∧ y.name = "<init>"
section LY3
variable {φ : Fx} {g0 : Gx} {y : MethodName} {cc : ByteArray} {nL0 fr lo mc ms k n pc : Nat} {w : va_W} {L : List (Nat × Value)} {rest st : List Value}
variable {y' : MethodName} {cc' : ByteArray} {nL' fr' lo' mc' ms' np index b k' n' : Nat} {rt' : Option FieldType} {As : List Value} {P : Option Value → va_W → Prop}
theorem X_callV (C : Cx φ g0 y cc nL0 fr lo mc ms) (q0 : Nat) {ci N : Nat} {fs : List Value} {T : u_T} (cn : Con g0 y' cc' nL' rt' fr' lo' mc' ms' (.ref b :: As) w P) (mi : MI y' cc' nL' rt' np) (hnp : As.length = np) (he : w[q0]? = some (b, .inr (ci, fs))) (hc : vwCl[ci]? = some (y'.cls, T, N))
    (hl : Cond.methodLink y.cls index y' ∈ Ts) (hst : As.reverse ++ .ref b :: rest = st) (hrm : (rest.map fun v => v.category).sum ≤ 8) (hR : fr' + 1 ≤ fr ∧ 8 + (nL' + 11) + lo' ≤ lo) (hf : k + mc' ≤ mc ∧ n + ms' ≤ ms) (hk : k + mc' = k') (hn : n + ms' = n') (d : decode cc pc = .ok (.invokevirtual index, 3))
    (kk : ∀ (v : Option Value) (w' : va_W), P v w' → X φ k' n' w' L (pc + 3) (v.toList ++ rest)) : X φ k n w L pc st := by
  obtain ⟨p, l, e, R, s, m, args, below, meth, c, A, Q, nL, g⟩ := φ
  obtain ⟨hx, hb, hml, hown, hts, hK, hA, hRR, hlk, hnm, hnL, hg⟩ := C
  subst hg; subst hRR; subst hk; subst hn; subst hst
  intro H locs ls hP hD hS hll
  obtain ⟨m1, m2, m3, m4, m5, m6, m7⟩ := mi
  have hfree : ∀ q, va_A w H.size q → A q := fun q h => by
    rcases h with ⟨i, e, h⟩ | h
    · exact hD.2 i (q, e) h
    · exact hA q (Nat.le_trans hS.1 h)
  have run := va_runV (g := F0 m pc ls (As.reverse ++ .ref b :: rest)) (locs := locs) (cells := k) (slots := n) (below := below) (e := e) (meth := meth) (R := { frames := fr, cells := mc, slots := ms, locals := lo }) (rest := rest) (As := As) ⟨hx, hb, hml, hown, hts⟩ (cn l H.size) (cwV np hts (fun x hx => by
      rcases List.mem_append.mp hx with hx | hx
      · rcases List.mem_cons.mp hx with rfl | hx
        · exact ⟨hl, good_of_word (List.mem_filter.mp hl).2⟩
        rcases List.mem_cons.mp hx with rfl | hx
        · exact ⟨m1, good_of_word (List.mem_filter.mp m1).2⟩
        rcases List.mem_cons.mp hx with rfl | hx
        · exact ⟨m2, good_of_word (List.mem_filter.mp m2).2⟩
        rcases List.mem_cons.mp hx with rfl | hx
        · exact ⟨m3, good_of_word (List.mem_filter.mp m3).2⟩
        · cases hx
      · exact ts_goodT m4 x hx) rfl rfl rfl ⟨rfl, m5, m6, m7⟩ hR) ⟨fun a U g mk q => by obtain ⟨q0, q1, qP, qK, qD⟩ := q; exact ⟨q0, q1, qP, qK.same rfl, qD⟩, va_recv hK.1 hP hc he, fun U hU hW => ⟨rfl, by rw [hU], by rw [hU]; exact hP, hK.warm hW, hD.weaken (fun _ _ _ _ => trivial)⟩⟩ rfl hnp hll.1 rfl (lv_room hrm) d hf
  intro T hT X0
  obtain ⟨v, st₀, t, T', L', h0, X', hL, e1, e2, ⟨⟨v1, w', hv, hp, hP1, hD1⟩, hz, hkk⟩, stp⟩ := run T hT X0
  cases hv
  rw [h0] at hz hkk
  obtain ⟨t2, a1, b1⟩ := kk v w' hp T'.heap (locs ++ L') ls (by rw [e1]; exact hP1) (hD1.weaken (fun _ _ _ h => hfree _ h)) ⟨Nat.le_trans hS.1 (by rw [e1]; exact hz), fun q h1 h2 => by rw [e1, hkk q (Nat.lt_of_lt_of_le h1 hS.1) (fun z => h2 (hfree q z))]; exact hS.2.1 q h1 h2, fun q hq => by
      rcases List.mem_append.mp hq with h | h
      · exact hS.2.2 q h
      · exact hfree _ (hL q h)⟩ hll T' rfl X'
  exact ⟨t2, stp t2 a1, b1⟩
theorem X_callS (C : Cx φ g0 y cc nL0 fr lo mc ms) (cn : Con g0 y' cc' nL' rt' fr' lo' mc' ms' As w P) (mi : MS y' cc' nL' rt' np) (hnp : As.length = np)
    (hl : Cond.methodLink y.cls index y' ∈ Ts) (hst : As.reverse ++ rest = st) (hrm : (rest.map fun v => v.category).sum ≤ 8) (hR : fr' + 1 ≤ fr ∧ 8 + (nL' + 11) + lo' ≤ lo) (hf : k + mc' ≤ mc ∧ n + ms' ≤ ms) (hk : k + mc' = k') (hn : n + ms' = n') (d : decode cc pc = .ok (.invokestatic index, 3))
    (kk : ∀ (v : Option Value) (w' : va_W), P v w' → X φ k' n' w' L (pc + 3) (v.toList ++ rest)) : X φ k n w L pc st := by
  obtain ⟨p, l, e, R, s, m, args, below, meth, c, A, Q, nL, g⟩ := φ
  obtain ⟨hx, hb, hml, hown, hts, hK, hA, hRR, hlk, hnm, hnL, hg⟩ := C
  subst hg; subst hRR; subst hk; subst hn; subst hst
  intro H locs ls hP hD hS hll
  obtain ⟨m1, m3, m4, m5, m6, m7⟩ := mi
  have hfree : ∀ q, va_A w H.size q → A q := fun q h => by
    rcases h with ⟨i, e, h⟩ | h
    · exact hD.2 i (q, e) h
    · exact hA q (Nat.le_trans hS.1 h)
  have run := va_runS (g := F0 m pc ls (As.reverse ++ rest)) (locs := locs) (cells := k) (slots := n) (below := below) (e := e) (meth := meth) (R := { frames := fr, cells := mc, slots := ms, locals := lo }) (rest := rest) (As := As) ⟨hx, hb, hml, hown, hts⟩ (cn l H.size) ⟨callB_of np hts (ts_goodT m4) rfl rfl rfl (hts _ m3) (hts _ hl) ⟨m5, m6, m7⟩ hR, hts _ m1⟩ ⟨fun a U g mk q => by obtain ⟨q0, q1, qP, qK, qD⟩ := q; exact ⟨q0, q1, qP, qK.same rfl, qD⟩, fun U hU hW => ⟨rfl, by rw [hU], by rw [hU]; exact hP, hK.warm hW, hD.weaken (fun _ _ _ _ => trivial)⟩⟩ rfl hnp hll.1 rfl (lv_room hrm) d hf
  intro T hT X0
  obtain ⟨v, st₀, t, T', L', h0, X', hL, e1, e2, ⟨⟨v1, w', hv, hp, hP1, hD1⟩, hz, hkk⟩, stp⟩ := run T hT X0
  cases hv
  rw [h0] at hz hkk
  obtain ⟨t2, a1, b1⟩ := kk v w' hp T'.heap (locs ++ L') ls (by rw [e1]; exact hP1) (hD1.weaken (fun _ _ _ h => hfree _ h)) ⟨Nat.le_trans hS.1 (by rw [e1]; exact hz), fun q h1 h2 => by rw [e1, hkk q (Nat.lt_of_lt_of_le h1 hS.1) (fun z => h2 (hfree q z))]; exact hS.2.1 q h1 h2, fun q hq => by
      rcases List.mem_append.mp hq with h | h
      · exact hS.2.2 q h
      · exact hfree _ (hL q h)⟩ hll T' rfl X'
  exact ⟨t2, stp t2 a1, b1⟩
theorem X_callSN (C : Cx φ g0 y cc nL0 fr lo mc ms) (cn : Con g0 y' cc' nL' rt' fr' lo' mc' ms' As w P) (mi : MS y' cc' nL' rt' np) (hnp : As.length = np)
    (hl : ∀ U, NW U → va_Nw (.methodLinkNest y.cls index y' RX4) U) (hst : As.reverse ++ rest = st) (hrm : (rest.map fun v => v.category).sum ≤ 8) (hR : fr' + 1 ≤ fr ∧ 8 + (nL' + 11) + lo' ≤ lo) (hf : k + mc' ≤ mc ∧ n + ms' ≤ ms) (hk : k + mc' = k') (hn : n + ms' = n') (d : decode cc pc = .ok (.invokestatic index, 3))
    (kk : ∀ (v : Option Value) (w' : va_W), P v w' → X φ k' n' w' L (pc + 3) (v.toList ++ rest)) : X φ k n w L pc st := by
  obtain ⟨p, l, e, R, s, m, args, below, meth, c, A, Q, nL, g⟩ := φ
  obtain ⟨hx, hb, hml, hown, hts, hK, hA, hRR, hlk, hnm, hnL, hg⟩ := C
  subst hg; subst hRR; subst hk; subst hn; subst hst
  intro H locs ls hP hD hS hll
  obtain ⟨m1, m3, m4, m5, m6, m7⟩ := mi
  have hfree : ∀ q, va_A w H.size q → A q := fun q h => by
    rcases h with ⟨i, e, h⟩ | h
    · exact hD.2 i (q, e) h
    · exact hA q (Nat.le_trans hS.1 h)
  have run := va_runSN (g := F0 m pc ls (As.reverse ++ rest)) (locs := locs) (cells := k) (slots := n) (below := below) (e := e) (meth := meth) (R := { frames := fr, cells := mc, slots := ms, locals := lo }) (rest := rest) (As := As) ⟨hx, hb, hml, hown, hts⟩ (cn l H.size) ⟨va_cnB np hts (ts_goodT m4) rfl rfl rfl (hl _ hK.2.1) (hts _ m3) ⟨m5, m6, m7⟩ hR, hts _ m1, trivial⟩ ⟨fun a U g mk q => by obtain ⟨q0, q1, qP, qK, qD⟩ := q; exact ⟨q0, q1, qP, qK.same rfl, qD⟩, fun U hU hW => ⟨rfl, by rw [hU], by rw [hU]; exact hP, hK.warm hW, hD.weaken (fun _ _ _ _ => trivial)⟩⟩ rfl hnp hll.1 rfl (lv_room hrm) d hf
  intro T hT X0
  obtain ⟨v, st₀, t, T', L', h0, X', hL, e1, e2, ⟨⟨v1, w', hv, hp, hP1, hD1⟩, hz, hkk⟩, stp⟩ := run T hT X0
  cases hv
  rw [h0] at hz hkk
  obtain ⟨t2, a1, b1⟩ := kk v w' hp T'.heap (locs ++ L') ls (by rw [e1]; exact hP1) (hD1.weaken (fun _ _ _ h => hfree _ h)) ⟨Nat.le_trans hS.1 (by rw [e1]; exact hz), fun q h1 h2 => by rw [e1, hkk q (Nat.lt_of_lt_of_le h1 hS.1) (fun z => h2 (hfree q z))]; exact hS.2.1 q h1 h2, fun q hq => by
      rcases List.mem_append.mp hq with h | h
      · exact hS.2.2 q h
      · exact hfree _ (hL q h)⟩ hll T' rfl X'
  exact ⟨t2, stp t2 a1, b1⟩
theorem X_callI (C : Cx φ g0 y cc nL0 fr lo mc ms) (cn : Con g0 y' cc' nL' none fr' lo' mc' ms' (.ref b :: As) w P) (mi : MC y' cc' nL' np) (hnp : As.length = np)
    (hl : Cond.methodLink y.cls index y' ∈ Ts) (hst : As.reverse ++ .ref b :: rest = st) (hrm : (rest.map fun v => v.category).sum ≤ 8) (hR : fr' + 1 ≤ fr ∧ 8 + (nL' + 11) + lo' ≤ lo) (hf : k + mc' ≤ mc ∧ n + ms' ≤ ms) (hk : k + mc' = k') (hn : n + ms' = n') (d : decode cc pc = .ok (.invokespecial index, 3))
    (kk : ∀ (v : Option Value) (w' : va_W), P v w' → X φ k' n' w' L (pc + 3) (v.toList ++ rest)) : X φ k n w L pc st := by
  obtain ⟨p, l, e, R, s, m, args, below, meth, c, A, Q, nL, g⟩ := φ
  obtain ⟨hx, hb, hml, hown, hts, hK, hA, hRR, hlk, hnm, hnL, hg⟩ := C
  subst hg; subst hRR; subst hk; subst hn; subst hst
  intro H locs ls hP hD hS hll
  obtain ⟨m1, m3, m4, ⟨m5, m6, m7⟩, m8⟩ := mi
  have hfree : ∀ q, va_A w H.size q → A q := fun q h => by
    rcases h with ⟨i, e, h⟩ | h
    · exact hD.2 i (q, e) h
    · exact hA q (Nat.le_trans hS.1 h)
  have run := va_runI (g := F0 m pc ls (As.reverse ++ .ref b :: rest)) (locs := locs) (cells := k) (slots := n) (below := below) (e := e) (meth := meth) (R := { frames := fr, cells := mc, slots := ms, locals := lo }) (rest := rest) (As := As) ⟨hx, hb, hml, hown, hts⟩ (cn l H.size) (cwI np hts (ts_goodT m4) rfl rfl rfl (hts _ m3) (hts _ hl) (hts _ m1) m8 ⟨m5, m6, m7⟩ hR) ⟨fun a U g mk q => by obtain ⟨q0, q1, qP, qK, qD⟩ := q; exact ⟨q0, q1, qP, qK.same rfl, qD⟩, fun U hU hW => ⟨rfl, by rw [hU], by rw [hU]; exact hP, hK.warm hW, hD.weaken (fun _ _ _ _ => trivial)⟩⟩ rfl hnp hll.1 rfl (lv_room hrm) d hf
  intro T hT X0
  obtain ⟨v, st₀, t, T', L', h0, X', hL, e1, e2, ⟨⟨v1, w', hv, hp, hP1, hD1⟩, hz, hkk⟩, stp⟩ := run T hT X0
  cases hv
  rw [h0] at hz hkk
  obtain ⟨t2, a1, b1⟩ := kk v w' hp T'.heap (locs ++ L') ls (by rw [e1]; exact hP1) (hD1.weaken (fun _ _ _ h => hfree _ h)) ⟨Nat.le_trans hS.1 (by rw [e1]; exact hz), fun q h1 h2 => by rw [e1, hkk q (Nat.lt_of_lt_of_le h1 hS.1) (fun z => h2 (hfree q z))]; exact hS.2.1 q h1 h2, fun q hq => by
      rcases List.mem_append.mp hq with h | h
      · exact hS.2.2 q h
      · exact hfree _ (hL q h)⟩ hll T' rfl X'
  exact ⟨t2, stp t2 a1, b1⟩
theorem X_callIN (C : Cx φ g0 y cc nL0 fr lo mc ms) (cn : Con g0 y' cc' nL' none fr' lo' mc' ms' (.ref b :: As) w P) (mi : MC y' cc' nL' np) (hnp : As.length = np)
    (hl : ∀ U, NW U → va_Nw (.methodLinkNest y.cls index y' RX4) U) (hst : As.reverse ++ .ref b :: rest = st) (hrm : (rest.map fun v => v.category).sum ≤ 8) (hR : fr' + 1 ≤ fr ∧ 8 + (nL' + 11) + lo' ≤ lo) (hf : k + mc' ≤ mc ∧ n + ms' ≤ ms) (hk : k + mc' = k') (hn : n + ms' = n') (d : decode cc pc = .ok (.invokespecial index, 3))
    (kk : ∀ (v : Option Value) (w' : va_W), P v w' → X φ k' n' w' L (pc + 3) (v.toList ++ rest)) : X φ k n w L pc st := by
  obtain ⟨p, l, e, R, s, m, args, below, meth, c, A, Q, nL, g⟩ := φ
  obtain ⟨hx, hb, hml, hown, hts, hK, hA, hRR, hlk, hnm, hnL, hg⟩ := C
  subst hg; subst hRR; subst hk; subst hn; subst hst
  intro H locs ls hP hD hS hll
  obtain ⟨m1, m3, m4, ⟨m5, m6, m7⟩, m8⟩ := mi
  have hfree : ∀ q, va_A w H.size q → A q := fun q h => by
    rcases h with ⟨i, e, h⟩ | h
    · exact hD.2 i (q, e) h
    · exact hA q (Nat.le_trans hS.1 h)
  have run := va_runIN (g := F0 m pc ls (As.reverse ++ .ref b :: rest)) (locs := locs) (cells := k) (slots := n) (below := below) (e := e) (meth := meth) (R := { frames := fr, cells := mc, slots := ms, locals := lo }) (rest := rest) (As := As) ⟨hx, hb, hml, hown, hts⟩ (cn l H.size) ⟨va_cnB np hts (ts_goodT m4) rfl rfl rfl (hl _ hK.2.1) (hts _ m3) ⟨m5, m6, m7⟩ hR, m8, hts _ m1⟩ ⟨fun a U g mk q => by obtain ⟨q0, q1, qP, qK, qD⟩ := q; exact ⟨q0, q1, qP, qK.same rfl, qD⟩, fun U hU hW => ⟨rfl, by rw [hU], by rw [hU]; exact hP, hK.warm hW, hD.weaken (fun _ _ _ _ => trivial)⟩⟩ rfl hnp hll.1 rfl (lv_room hrm) d hf
  intro T hT X0
  obtain ⟨v, st₀, t, T', L', h0, X', hL, e1, e2, ⟨⟨v1, w', hv, hp, hP1, hD1⟩, hz, hkk⟩, stp⟩ := run T hT X0
  cases hv
  rw [h0] at hz hkk
  obtain ⟨t2, a1, b1⟩ := kk v w' hp T'.heap (locs ++ L') ls (by rw [e1]; exact hP1) (hD1.weaken (fun _ _ _ h => hfree _ h)) ⟨Nat.le_trans hS.1 (by rw [e1]; exact hz), fun q h1 h2 => by rw [e1, hkk q (Nat.lt_of_lt_of_le h1 hS.1) (fun z => h2 (hfree q z))]; exact hS.2.1 q h1 h2, fun q hq => by
      rcases List.mem_append.mp hq with h | h
      · exact hS.2.2 q h
      · exact hfree _ (hL q h)⟩ hll T' rfl X'
  exact ⟨t2, stp t2 a1, b1⟩
theorem X_alen (C : Cx φ g0 y cc nL0 fr lo mc ms) (q0 t0 : Nat) {a : Nat} {cA : ClassId} {x : vp_A} {ty : FieldType} {v : Int32} (ha : w[q0]? = some (a, .inl (cA, x))) (ht : (tyL g0)[t0]? = some (cA, ty)) (hv : Int32.ofNat x.1 = v) (d : decode cc pc = .ok (.arraylength, 1)) (kk : X φ k n w L (pc + 1) (.int v :: rest)) : X φ k n w L pc (.ref a :: rest) := by
  obtain ⟨p, l, e, R, s, m, args, below, meth, c, A, Q, nL, g⟩ := φ
  have hg : g = g0 := C.g
  subst hg
  exact fun H locs ls hP hD hS hl => va_alen C.1 C.2.1 C.2.2.2.2.2.1.1 hP q0 t0 ha ht hv d (kk H locs ls hP hD hS hl)
theorem X_objInit (C : Cx φ g0 y cc nL0 fr lo mc ms) {a : Nat} (h1 : Cond.methodLink y.cls index objectInit ∈ Ts) (hfr : 1 ≤ fr) (hlo : (rest.map fun v => v.category).sum + 12 ≤ lo) (h2 : Cond.instanceMethod objectInit ∈ Ts) (h3 : Cond.code objectInit ⟨#[0xb1]⟩ 1 none ∈ Ts) (d : decode cc pc = .ok (.invokespecial index, 3)) (kk : X φ k n w L (pc + 3) rest) : X φ k n w L pc (.ref a :: rest) := by
  obtain ⟨p, l, e, R, s, m, args, below, meth, c, A, Q, nL, g⟩ := φ
  obtain ⟨hx, hb, hml, hown, hts, hK, hA, hRR, hlk, hnm, hnL, hg⟩ := C
  subst hRR
  exact fun H locs ls hP hD hS hl => W.objInit hx hb hown (hts _ h1) (hts _ h2) (hts _ h3) rfl (by rw [hml]; exact hl.1) rfl d hfr (by show 2 * 0 + _ + 12 ≤ lo; omega) (kk H locs ls hP hD hS hl)
theorem X_new (C : Cx φ g0 y cc nL0 fr lo mc ms) {ci N : Nat} {Cn : String} {T : u_T} {fs : List Value} (hin : ∀ w ∈ u_ws Cn T N, w ∈ Ts) (ty : Nat → FieldType) (hty : ∀ k, k < N → parseFieldDescriptor (T k).2.2.1 = some (ty k)) (hc : vwCl[ci]? = some (Cn, T, N)) (h1 : Cond.classLink y.cls index Cn ∈ Ts) (h2 : Cond.instantiable Cn N ∈ Ts) (h3 : Cond.initialized Cn ∈ Ts) (hfs : ∀ j, j < N → defaultValue (ty j) = vp_V fs j) (hk : k + 1 ≤ mc) (hn : n + N ≤ ms) (hk' : k + 1 = k') (hn' : n + N = n') (d : decode cc pc = .ok (.new index, 3))
    (kk : ∀ q : Nat, X φ k' n' (w ++ [(q, .inr (ci, fs))]) L (pc + 3) (.ref q :: rest)) : X φ k n w L pc rest := by
  obtain ⟨p, l, e, R, s, m, args, below, meth, c, A, Q, nL, g⟩ := φ
  obtain ⟨hx, hb, hml, hown, hts, hK, hA, hRR, hlk, hnm, hnL, hg⟩ := C
  subst hRR; subst hk'; subst hn'
  exact fun H locs ls hP hD hS hl => va_new hx hb hts hin ty hty hown (hts _ h1) (hts _ h2) (hts _ h3) hK.1 hP hD hS hA hc hfs hk hn d (fun q H1 hP1 hD1 hS1 => kk q H1 locs ls hP1 hD1 hS1 hl)
theorem X_newa (C : Cx φ g0 y cc nL0 fr lo mc ms) (t0 : Nat) {atype : ArrayType} {ty : FieldType} {z : Int32} {N' : Nat} {a0 : vp_A} {cA : ClassId} (hw1 : Cond.arrayClass ty ∈ Ts) (hty : newarray.typeOf atype = ty) (ht : (tyL g0)[t0]? = some (cA, ty)) (hp : (match ty with | .object _ => False | _ => True)) (ha : ∀ cA : ClassId, vp_cell cA a0 = arrV cA N' (fun _ => defaultValue ty)) (hz : ¬ z < 0) (hN : z.toNatClampNeg = N') (hbytes : N' * componentBytes ty ≤ 536870912) (hk : k + 1 ≤ mc) (hn : n + N' ≤ ms) (hk' : k + 1 = k') (hn' : n + N' = n') (d : decode cc pc = .ok (.newarray atype, 2))
    (kk : ∀ q : Nat, X φ k' n' (w ++ [(q, .inl (cA, a0))]) L (pc + 2) (.ref q :: rest)) : X φ k n w L pc (.int z :: rest) := by
  obtain ⟨p, l, e, R, s, m, args, below, meth, c, A, Q, nL, g⟩ := φ
  obtain ⟨hx, hb, hml, hown, hts, hK, hA, hRR, hlk, hnm, hnL, hg⟩ := C
  subst hRR; subst hg; subst hk'; subst hn'
  refine fun H locs ls hP hD hS hl => va_newa hx hb (by rw [hty]; exact hts _ hw1) hty hK.1 hP hD hS hA ha hz hN hbytes hk hn d (fun q cA1 H1 hK1 hP1 hD1 hS1 => ?_)
  have e1 := (hK.1.2 t0 _ ht).2
  have e2 := (hK1.2 (tyL g).length (cA1, ty) (by rw [List.getElem?_append_right (Nat.le_refl _)]; simp)).2
  have e3 : cA1 = cA := by
    cases ty <;> first | exact hp.elim | exact Option.some.inj (e2.symm.trans e1)
  subst e3
  exact kk q H1 locs ls hP1 hD1 hS1 hl
theorem X_mmax (C : Cx φ g0 y cc nL0 fr lo mc ms) {x z : Int32} (h1 : Cond.methodLink y.cls index Lib.Math.max.name ∈ Ts) (h2 : Cond.static Lib.Math.max.name ∈ Ts) (h3 : Cond.initialized "java/lang/Math" ∈ Ts) (h4 : Cond.code Lib.Math.max.name Lib.Math.max.code 2 (some .int) ∈ Ts) (hfr : 1 ≤ fr) (hlo : (rest.map fun v => v.category).sum + 13 ≤ lo) (hk : k ≤ mc) (hn : n ≤ ms) (d : decode cc pc = .ok (.invokestatic index, 3)) (kk : X φ k n w L (pc + 3) (.int (if x < z then z else x) :: rest)) : X φ k n w L pc (.int z :: .int x :: rest) := by
  obtain ⟨p, l, e, R, s, m, args, below, meth, c, A, Q, nL, g⟩ := φ
  obtain ⟨hx, hb, hml, hown, hts, hK, hA, hRR, hlk, hnm, hnL, hg⟩ := C
  subst hRR
  exact fun H locs ls hP hD hS hl => va_mmax hx hb (by rw [hml]; exact hl.1.symm) hown (hts _ h1) (hts _ h2) (hts _ h3) (hts _ h4) hfr hlo hk hn d (kk H locs ls hP hD hS hl)
theorem X_mmin (C : Cx φ g0 y cc nL0 fr lo mc ms) {x z : Int32} (h1 : Cond.methodLink y.cls index Lib.Math.min.name ∈ Ts) (h2 : Cond.static Lib.Math.min.name ∈ Ts) (h3 : Cond.initialized "java/lang/Math" ∈ Ts) (h4 : Cond.code Lib.Math.min.name Lib.Math.min.code 2 (some .int) ∈ Ts) (hfr : 1 ≤ fr) (hlo : (rest.map fun v => v.category).sum + 13 ≤ lo) (hk : k ≤ mc) (hn : n ≤ ms) (d : decode cc pc = .ok (.invokestatic index, 3)) (kk : X φ k n w L (pc + 3) (.int (if z < x then z else x) :: rest)) : X φ k n w L pc (.int z :: .int x :: rest) := by
  obtain ⟨p, l, e, R, s, m, args, below, meth, c, A, Q, nL, g⟩ := φ
  obtain ⟨hx, hb, hml, hown, hts, hK, hA, hRR, hlk, hnm, hnL, hg⟩ := C
  subst hRR
  exact fun H locs ls hP hD hS hl => va_mmin hx hb (by rw [hml]; exact hl.1.symm) hown (hts _ h1) (hts _ h2) (hts _ h3) (hts _ h4) hfr hlo hk hn d (kk H locs ls hP hD hS hl)
end LY3
end
section
set_option maxRecDepth 100000 in
theorem hin0 : ∀ w ∈ u_ws RX0 TX0 5, w ∈ Ts := by
  intro w hw
  obtain ⟨j, hj, rfl⟩ := List.mem_map.mp hw
  have hj := List.mem_range.mp hj
  rcases (show j = 0 ∨ j = 1 ∨ j = 2 ∨ j = 3 ∨ j = 4 by omega) with rfl | rfl | rfl | rfl | rfl
  · exact mT 161 rfl rfl
  · exact mT 163 rfl rfl
  · exact mT 165 rfl rfl
  · exact mT 167 rfl rfl
  · exact mT 169 rfl rfl
set_option maxRecDepth 100000 in
theorem hin1 : ∀ w ∈ u_ws RX1 TX1 8, w ∈ Ts := by
  intro w hw
  obtain ⟨j, hj, rfl⟩ := List.mem_map.mp hw
  have hj := List.mem_range.mp hj
  rcases (show j = 0 ∨ j = 1 ∨ j = 2 ∨ j = 3 ∨ j = 4 ∨ j = 5 ∨ j = 6 ∨ j = 7 by omega) with rfl | rfl | rfl | rfl | rfl | rfl | rfl | rfl
  · exact mT 91 rfl rfl
  · exact mT 93 rfl rfl
  · exact mT 95 rfl rfl
  · exact mT 97 rfl rfl
  · exact mT 99 rfl rfl
  · exact mT 101 rfl rfl
  · exact mT 103 rfl rfl
  · exact mT 105 rfl rfl
set_option maxRecDepth 100000 in
theorem hin2 : ∀ w ∈ u_ws RX2 TX2 2, w ∈ Ts := by
  intro w hw
  obtain ⟨j, hj, rfl⟩ := List.mem_map.mp hw
  have hj := List.mem_range.mp hj
  rcases (show j = 0 ∨ j = 1 by omega) with rfl | rfl
  · exact mT 458 rfl rfl
  · exact mT 460 rfl rfl
set_option maxRecDepth 100000 in
theorem hin3 : ∀ w ∈ u_ws RX3 TX3 8, w ∈ Ts := by
  intro w hw
  obtain ⟨j, hj, rfl⟩ := List.mem_map.mp hw
  have hj := List.mem_range.mp hj
  rcases (show j = 0 ∨ j = 1 ∨ j = 2 ∨ j = 3 ∨ j = 4 ∨ j = 5 ∨ j = 6 ∨ j = 7 by omega) with rfl | rfl | rfl | rfl | rfl | rfl | rfl | rfl
  · exact mT 127 rfl rfl
  · exact mT 129 rfl rfl
  · exact mT 131 rfl rfl
  · exact mT 133 rfl rfl
  · exact mT 135 rfl rfl
  · exact mT 137 rfl rfl
  · exact mT 139 rfl rfl
  · exact mT 141 rfl rfl
set_option maxRecDepth 100000 in
theorem hin4 : ∀ w ∈ u_ws RX4 TX4 7, w ∈ Ts := by
  intro w hw
  obtain ⟨j, hj, rfl⟩ := List.mem_map.mp hw
  have hj := List.mem_range.mp hj
  rcases (show j = 0 ∨ j = 1 ∨ j = 2 ∨ j = 3 ∨ j = 4 ∨ j = 5 ∨ j = 6 by omega) with rfl | rfl | rfl | rfl | rfl | rfl | rfl
  · exact mT 222 rfl rfl
  · exact mT 224 rfl rfl
  · exact mT 226 rfl rfl
  · exact mT 228 rfl rfl
  · exact mT 230 rfl rfl
  · exact mT 232 rfl rfl
  · exact mT 234 rfl rfl
set_option maxRecDepth 100000 in
theorem hin5 : ∀ w ∈ u_ws RX5 TX5 19, w ∈ Ts := by
  intro w hw
  obtain ⟨j, hj, rfl⟩ := List.mem_map.mp hw
  have hj := List.mem_range.mp hj
  rcases (show j = 0 ∨ j = 1 ∨ j = 2 ∨ j = 3 ∨ j = 4 ∨ j = 5 ∨ j = 6 ∨ j = 7 ∨ j = 8 ∨ j = 9 ∨ j = 10 ∨ j = 11 ∨ j = 12 ∨ j = 13 ∨ j = 14 ∨ j = 15 ∨ j = 16 ∨ j = 17 ∨ j = 18 by omega) with rfl | rfl | rfl | rfl | rfl | rfl | rfl | rfl | rfl | rfl | rfl | rfl | rfl | rfl | rfl | rfl | rfl | rfl | rfl
  · exact mT 550 rfl rfl
  · exact mT 552 rfl rfl
  · exact mT 554 rfl rfl
  · exact mT 556 rfl rfl
  · exact mT 558 rfl rfl
  · exact mT 560 rfl rfl
  · exact mT 562 rfl rfl
  · exact mT 564 rfl rfl
  · exact mT 566 rfl rfl
  · exact mT 568 rfl rfl
  · exact mT 570 rfl rfl
  · exact mT 572 rfl rfl
  · exact mT 574 rfl rfl
  · exact mT 576 rfl rfl
  · exact mT 578 rfl rfl
  · exact mT 580 rfl rfl
  · exact mT 582 rfl rfl
  · exact mT 584 rfl rfl
  · exact mT 586 rfl rfl
set_option maxRecDepth 100000 in
theorem mc_X4_init : MC yX4_init cX4_init 1 0 := ⟨mT 62 rfl rfl, mT 49 rfl rfl, mT 63 rfl rfl, ⟨by decide +kernel, by decide +kernel, by decide +kernel⟩, rfl⟩
set_option maxRecDepth 100000 in
theorem mc_X1_init : MC yX1_init cX1_init 1 0 := ⟨mT 70 rfl rfl, mT 50 rfl rfl, mT 71 rfl rfl, ⟨by decide +kernel, by decide +kernel, by decide +kernel⟩, rfl⟩
set_option maxRecDepth 100000 in
theorem mc_X3_init : MC yX3_init cX3_init 2 1 := ⟨mT 112 rfl rfl, mT 51 rfl rfl, mT 113 rfl rfl, ⟨by decide +kernel, by decide +kernel, by decide +kernel⟩, rfl⟩
set_option maxRecDepth 100000 in
theorem mc_X0_init : MC yX0_init cX0_init 1 0 := ⟨mT 148 rfl rfl, mT 52 rfl rfl, mT 149 rfl rfl, ⟨by decide +kernel, by decide +kernel, by decide +kernel⟩, rfl⟩
set_option maxRecDepth 100000 in
theorem mi_X4_layGround : MI yX4_layGround cX4_layGround 4 none 3 := ⟨mT 176 rfl rfl, mT 0 rfl rfl, mT 49 rfl rfl, mT 177 rfl rfl, ⟨by decide +kernel, by decide +kernel, by decide +kernel⟩⟩
set_option maxRecDepth 100000 in
theorem mi_X1_lay : MI yX1_lay cX1_lay 4 none 3 := ⟨mT 179 rfl rfl, mT 180 rfl rfl, mT 50 rfl rfl, mT 181 rfl rfl, ⟨by decide +kernel, by decide +kernel, by decide +kernel⟩⟩
set_option maxRecDepth 100000 in
theorem mi_X1_corner : MI yX1_corner cX1_corner 6 (some .int) 2 := ⟨mT 184 rfl rfl, mT 1 rfl rfl, mT 50 rfl rfl, mT 185 rfl rfl, ⟨by decide +kernel, by decide +kernel, by decide +kernel⟩⟩
set_option maxRecDepth 100000 in
theorem mi_X1_addThings : MI yX1_addThings cX1_addThings 4 none 2 := ⟨mT 188 rfl rfl, mT 2 rfl rfl, mT 50 rfl rfl, mT 189 rfl rfl, ⟨by decide +kernel, by decide +kernel, by decide +kernel⟩⟩
set_option maxRecDepth 100000 in
theorem ms_X4_has : MS yX4_has cX4_has 2 (some .boolean) 2 := ⟨mT 191 rfl rfl, mT 49 rfl rfl, mT 192 rfl rfl, ⟨by decide +kernel, by decide +kernel, by decide +kernel⟩⟩
set_option maxRecDepth 100000 in
theorem mi_X3_makeSure : MI yX3_makeSure cX3_makeSure 1 none 0 := ⟨mT 194 rfl rfl, mT 195 rfl rfl, mT 51 rfl rfl, mT 196 rfl rfl, ⟨by decide +kernel, by decide +kernel, by decide +kernel⟩⟩
set_option maxRecDepth 100000 in
theorem ms_J7_fill_53178 : MS yJ7_fill_53178 cJ7_fill_53178 4 none 2 := ⟨mT 198 rfl rfl, mT 53 rfl rfl, mT 199 rfl rfl, ⟨by decide +kernel, by decide +kernel, by decide +kernel⟩⟩
set_option maxRecDepth 100000 in
theorem mi_X3_settle : MI yX3_settle cX3_settle 2 none 0 := ⟨mT 202 rfl rfl, mT 3 rfl rfl, mT 51 rfl rfl, mT 203 rfl rfl, ⟨by decide +kernel, by decide +kernel, by decide +kernel⟩⟩
set_option maxRecDepth 100000 in
theorem mi_X3_numberChances : MI yX3_numberChances cX3_numberChances 2 none 0 := ⟨mT 206 rfl rfl, mT 4 rfl rfl, mT 51 rfl rfl, mT 207 rfl rfl, ⟨by decide +kernel, by decide +kernel, by decide +kernel⟩⟩
set_option maxRecDepth 100000 in
theorem ms_J7_fill_d0a16 : MS yJ7_fill_d0a16 cJ7_fill_d0a16 5 none 2 := ⟨mT 209 rfl rfl, mT 53 rfl rfl, mT 210 rfl rfl, ⟨by decide +kernel, by decide +kernel, by decide +kernel⟩⟩
set_option maxRecDepth 100000 in
theorem mi_X3_settleOne : MI yX3_settleOne cX3_settleOne 4 none 2 := ⟨mT 213 rfl rfl, mT 5 rfl rfl, mT 51 rfl rfl, mT 214 rfl rfl, ⟨by decide +kernel, by decide +kernel, by decide +kernel⟩⟩
set_option maxRecDepth 100000 in
theorem mi_X4_ground : MI yX4_ground cX4_ground 4 (some .int) 3 := ⟨mT 238 rfl rfl, mT 239 rfl rfl, mT 49 rfl rfl, mT 240 rfl rfl, ⟨by decide +kernel, by decide +kernel, by decide +kernel⟩⟩
set_option maxRecDepth 100000 in
theorem ms_X4_isWithin : MS yX4_isWithin cX4_isWithin 3 (some .boolean) 3 := ⟨mT 242 rfl rfl, mT 49 rfl rfl, mT 243 rfl rfl, ⟨by decide +kernel, by decide +kernel, by decide +kernel⟩⟩
set_option maxRecDepth 100000 in
theorem mi_X4_kind : MI yX4_kind cX4_kind 3 (some .int) 2 := ⟨mT 245 rfl rfl, mT 246 rfl rfl, mT 49 rfl rfl, mT 247 rfl rfl, ⟨by decide +kernel, by decide +kernel, by decide +kernel⟩⟩
set_option maxRecDepth 100000 in
theorem mi_X4_isThing : MI yX4_isThing cX4_isThing 2 (some .boolean) 1 := ⟨mT 250 rfl rfl, mT 6 rfl rfl, mT 49 rfl rfl, mT 251 rfl rfl, ⟨by decide +kernel, by decide +kernel, by decide +kernel⟩⟩
set_option maxRecDepth 100000 in
theorem mi_X3_isElder : MI yX3_isElder cX3_isElder 3 (some .boolean) 1 := ⟨mT 253 rfl rfl, mT 254 rfl rfl, mT 51 rfl rfl, mT 255 rfl rfl, ⟨by decide +kernel, by decide +kernel, by decide +kernel⟩⟩
set_option maxRecDepth 100000 in
theorem mi_X3_become : MI yX3_become cX3_become 5 (some .int) 3 := ⟨mT 257 rfl rfl, mT 258 rfl rfl, mT 51 rfl rfl, mT 259 rfl rfl, ⟨by decide +kernel, by decide +kernel, by decide +kernel⟩⟩
set_option maxRecDepth 100000 in
theorem mi_X4_twin : MI yX4_twin cX4_twin 4 (some .int) 3 := ⟨mT 261 rfl rfl, mT 262 rfl rfl, mT 49 rfl rfl, mT 263 rfl rfl, ⟨by decide +kernel, by decide +kernel, by decide +kernel⟩⟩
set_option maxRecDepth 100000 in
theorem mi_X4_about : MI yX4_about cX4_about 3 (some .int) 2 := ⟨mT 265 rfl rfl, mT 266 rfl rfl, mT 49 rfl rfl, mT 267 rfl rfl, ⟨by decide +kernel, by decide +kernel, by decide +kernel⟩⟩
set_option maxRecDepth 100000 in
theorem mi_X1_placeOf : MI yX1_placeOf cX1_placeOf 2 (some .int) 1 := ⟨mT 269 rfl rfl, mT 270 rfl rfl, mT 50 rfl rfl, mT 271 rfl rfl, ⟨by decide +kernel, by decide +kernel, by decide +kernel⟩⟩
set_option maxRecDepth 100000 in
theorem mi_X1_otherPlaceOf : MI yX1_otherPlaceOf cX1_otherPlaceOf 2 (some .int) 1 := ⟨mT 273 rfl rfl, mT 274 rfl rfl, mT 50 rfl rfl, mT 275 rfl rfl, ⟨by decide +kernel, by decide +kernel, by decide +kernel⟩⟩
set_option maxRecDepth 100000 in
theorem mi_X4_told : MI yX4_told cX4_told 2 (some .int) 1 := ⟨mT 278 rfl rfl, mT 279 rfl rfl, mT 49 rfl rfl, mT 280 rfl rfl, ⟨by decide +kernel, by decide +kernel, by decide +kernel⟩⟩
set_option maxRecDepth 100000 in
theorem ms_X4_oneIf : MS yX4_oneIf cX4_oneIf 1 (some .int) 1 := ⟨mT 282 rfl rfl, mT 49 rfl rfl, mT 283 rfl rfl, ⟨by decide +kernel, by decide +kernel, by decide +kernel⟩⟩
set_option maxRecDepth 100000 in
theorem mi_X3_younger : MI yX3_younger cX3_younger 3 (some .int) 0 := ⟨mT 285 rfl rfl, mT 286 rfl rfl, mT 51 rfl rfl, mT 287 rfl rfl, ⟨by decide +kernel, by decide +kernel, by decide +kernel⟩⟩
set_option maxRecDepth 100000 in
theorem mi_X4_opens : MI yX4_opens cX4_opens 3 (some .int) 2 := ⟨mT 289 rfl rfl, mT 290 rfl rfl, mT 49 rfl rfl, mT 291 rfl rfl, ⟨by decide +kernel, by decide +kernel, by decide +kernel⟩⟩
set_option maxRecDepth 100000 in
theorem mi_X4_isSetting : MI yX4_isSetting cX4_isSetting 2 (some .boolean) 1 := ⟨mT 294 rfl rfl, mT 7 rfl rfl, mT 49 rfl rfl, mT 295 rfl rfl, ⟨by decide +kernel, by decide +kernel, by decide +kernel⟩⟩
set_option maxRecDepth 100000 in
theorem mi_X4_settings : MI yX4_settings cX4_settings 1 (some .int) 0 := ⟨mT 298 rfl rfl, mT 8 rfl rfl, mT 49 rfl rfl, mT 299 rfl rfl, ⟨by decide +kernel, by decide +kernel, by decide +kernel⟩⟩
set_option maxRecDepth 100000 in
theorem mi_X3_openBy : MI yX3_openBy cX3_openBy 5 (some .long) 1 := ⟨mT 303 rfl rfl, mT 304 rfl rfl, mT 51 rfl rfl, mT 305 rfl rfl, ⟨by decide +kernel, by decide +kernel, by decide +kernel⟩⟩
set_option maxRecDepth 100000 in
theorem mi_X4_through : MI yX4_through cX4_through 3 (some .int) 2 := ⟨mT 308 rfl rfl, mT 309 rfl rfl, mT 49 rfl rfl, mT 310 rfl rfl, ⟨by decide +kernel, by decide +kernel, by decide +kernel⟩⟩
set_option maxRecDepth 100000 in
theorem mi_X4_placesBy : MI yX4_placesBy cX4_placesBy 5 (some (.object "OpenGrounds$Grid")) 1 := ⟨mT 313 rfl rfl, mT 9 rfl rfl, mT 49 rfl rfl, mT 314 rfl rfl, ⟨by decide +kernel, by decide +kernel, by decide +kernel⟩⟩
set_option maxRecDepth 100000 in
theorem mi_X0_isCrossed : MI yX0_isCrossed cX0_isCrossed 2 (some .boolean) 1 := ⟨mT 316 rfl rfl, mT 317 rfl rfl, mT 52 rfl rfl, mT 318 rfl rfl, ⟨by decide +kernel, by decide +kernel, by decide +kernel⟩⟩
set_option maxRecDepth 100000 in
theorem ms_X0_line : MS yX0_line cX0_line 5 (some .int) 3 := ⟨mT 320 rfl rfl, mT 52 rfl rfl, mT 321 rfl rfl, ⟨by decide +kernel, by decide +kernel, by decide +kernel⟩⟩
set_option maxRecDepth 100000 in
theorem mi_X0_spread : MI yX0_spread cX0_spread 5 (some .int) 1 := ⟨mT 324 rfl rfl, mT 10 rfl rfl, mT 52 rfl rfl, mT 325 rfl rfl, ⟨by decide +kernel, by decide +kernel, by decide +kernel⟩⟩
set_option maxRecDepth 100000 in
theorem mi_X4_wall : MI yX4_wall cX4_wall 3 (some .int) 2 := ⟨mT 327 rfl rfl, mT 328 rfl rfl, mT 49 rfl rfl, mT 329 rfl rfl, ⟨by decide +kernel, by decide +kernel, by decide +kernel⟩⟩
set_option maxRecDepth 100000 in
theorem mi_X4_isWalled : MI yX4_isWalled cX4_isWalled 7 (some .boolean) 2 := ⟨mT 332 rfl rfl, mT 11 rfl rfl, mT 49 rfl rfl, mT 333 rfl rfl, ⟨by decide +kernel, by decide +kernel, by decide +kernel⟩⟩
set_option maxRecDepth 100000 in
theorem mi_X0_layBetween : MI yX0_layBetween cX0_layBetween 8 none 4 := ⟨mT 335 rfl rfl, mT 336 rfl rfl, mT 52 rfl rfl, mT 337 rfl rfl, ⟨by decide +kernel, by decide +kernel, by decide +kernel⟩⟩
set_option maxRecDepth 100000 in
theorem mi_X1_exchanged : MI yX1_exchanged cX1_exchanged 5 (some .int) 1 := ⟨mT 340 rfl rfl, mT 341 rfl rfl, mT 50 rfl rfl, mT 342 rfl rfl, ⟨by decide +kernel, by decide +kernel, by decide +kernel⟩⟩
set_option maxRecDepth 100000 in
theorem mi_X4_heap : MI yX4_heap cX4_heap 4 (some .int) 2 := ⟨mT 344 rfl rfl, mT 345 rfl rfl, mT 49 rfl rfl, mT 346 rfl rfl, ⟨by decide +kernel, by decide +kernel, by decide +kernel⟩⟩
set_option maxRecDepth 100000 in
theorem mi_X4_isPlace : MI yX4_isPlace cX4_isPlace 2 (some .boolean) 1 := ⟨mT 349 rfl rfl, mT 12 rfl rfl, mT 49 rfl rfl, mT 350 rfl rfl, ⟨by decide +kernel, by decide +kernel, by decide +kernel⟩⟩
set_option maxRecDepth 100000 in
theorem mi_X0_heapAt : MI yX0_heapAt cX0_heapAt 2 (some .int) 1 := ⟨mT 352 rfl rfl, mT 353 rfl rfl, mT 52 rfl rfl, mT 354 rfl rfl, ⟨by decide +kernel, by decide +kernel, by decide +kernel⟩⟩
set_option maxRecDepth 100000 in
theorem ms_J6_numberOfTrailingZeros_0f7a4 : MS yJ6_numberOfTrailingZeros_0f7a4 cJ6_numberOfTrailingZeros_0f7a4 2 (some .int) 1 := ⟨mT 356 rfl rfl, mT 55 rfl rfl, mT 357 rfl rfl, ⟨by decide +kernel, by decide +kernel, by decide +kernel⟩⟩
set_option maxRecDepth 100000 in
theorem mi_X4_heaps : MI yX4_heaps cX4_heaps 4 (some .int) 2 := ⟨mT 360 rfl rfl, mT 361 rfl rfl, mT 49 rfl rfl, mT 362 rfl rfl, ⟨by decide +kernel, by decide +kernel, by decide +kernel⟩⟩
set_option maxRecDepth 100000 in
theorem mi_X0_heapCount : MI yX0_heapCount cX0_heapCount 4 (some .int) 0 := ⟨mT 364 rfl rfl, mT 365 rfl rfl, mT 52 rfl rfl, mT 366 rfl rfl, ⟨by decide +kernel, by decide +kernel, by decide +kernel⟩⟩
set_option maxRecDepth 100000 in
theorem mi_X0_greatestHeap : MI yX0_greatestHeap cX0_greatestHeap 3 (some .int) 0 := ⟨mT 369 rfl rfl, mT 370 rfl rfl, mT 52 rfl rfl, mT 371 rfl rfl, ⟨by decide +kernel, by decide +kernel, by decide +kernel⟩⟩
set_option maxRecDepth 100000 in
theorem ms_J6_bitCount_0f7a4 : MS yJ6_bitCount_0f7a4 cJ6_bitCount_0f7a4 1 (some .int) 1 := ⟨mT 373 rfl rfl, mT 55 rfl rfl, mT 374 rfl rfl, ⟨by decide +kernel, by decide +kernel, by decide +kernel⟩⟩
set_option maxRecDepth 100000 in
theorem ms_J9_max_7cf53 : MS yJ9_max_7cf53 cJ9_max_7cf53 2 (some .int) 2 := ⟨mT 379 rfl rfl, mT 56 rfl rfl, mT 380 rfl rfl, ⟨by decide +kernel, by decide +kernel, by decide +kernel⟩⟩
set_option maxRecDepth 100000 in
theorem mi_X4_count : MI yX4_count cX4_count 3 (some .int) 2 := ⟨mT 382 rfl rfl, mT 383 rfl rfl, mT 49 rfl rfl, mT 384 rfl rfl, ⟨by decide +kernel, by decide +kernel, by decide +kernel⟩⟩
set_option maxRecDepth 100000 in
theorem ms_X4_isWay : MS yX4_isWay cX4_isWay 1 (some .boolean) 1 := ⟨mT 386 rfl rfl, mT 49 rfl rfl, mT 387 rfl rfl, ⟨by decide +kernel, by decide +kernel, by decide +kernel⟩⟩
set_option maxRecDepth 100000 in
theorem mi_X4_isSize : MI yX4_isSize cX4_isSize 2 (some .boolean) 1 := ⟨mT 390 rfl rfl, mT 13 rfl rfl, mT 49 rfl rfl, mT 391 rfl rfl, ⟨by decide +kernel, by decide +kernel, by decide +kernel⟩⟩
set_option maxRecDepth 100000 in
theorem mi_X4_waysOfSize : MI yX4_waysOfSize cX4_waysOfSize 5 (some .int) 2 := ⟨mT 394 rfl rfl, mT 14 rfl rfl, mT 49 rfl rfl, mT 395 rfl rfl, ⟨by decide +kernel, by decide +kernel, by decide +kernel⟩⟩
set_option maxRecDepth 100000 in
theorem mi_X4_comesThrough : MI yX4_comesThrough cX4_comesThrough 4 (some .boolean) 2 := ⟨mT 399 rfl rfl, mT 15 rfl rfl, mT 49 rfl rfl, mT 400 rfl rfl, ⟨by decide +kernel, by decide +kernel, by decide +kernel⟩⟩
set_option maxRecDepth 100000 in
theorem mi_X4_walls : MI yX4_walls cX4_walls 5 (some .int) 2 := ⟨mT 402 rfl rfl, mT 403 rfl rfl, mT 49 rfl rfl, mT 404 rfl rfl, ⟨by decide +kernel, by decide +kernel, by decide +kernel⟩⟩
set_option maxRecDepth 100000 in
theorem mi_X4_joined : MI yX4_joined cX4_joined 6 (some .int) 3 := ⟨mT 406 rfl rfl, mT 407 rfl rfl, mT 49 rfl rfl, mT 408 rfl rfl, ⟨by decide +kernel, by decide +kernel, by decide +kernel⟩⟩
set_option maxRecDepth 100000 in
theorem mi_X4_sized : MI yX4_sized cX4_sized 6 (some .int) 3 := ⟨mT 411 rfl rfl, mT 412 rfl rfl, mT 49 rfl rfl, mT 413 rfl rfl, ⟨by decide +kernel, by decide +kernel, by decide +kernel⟩⟩
set_option maxRecDepth 100000 in
theorem mi_X4_heapSum : MI yX4_heapSum cX4_heapSum 4 (some .int) 1 := ⟨mT 415 rfl rfl, mT 416 rfl rfl, mT 49 rfl rfl, mT 417 rfl rfl, ⟨by decide +kernel, by decide +kernel, by decide +kernel⟩⟩
set_option maxRecDepth 100000 in
theorem mi_X4_chance : MI yX4_chance cX4_chance 7 (some .long) 3 := ⟨mT 419 rfl rfl, mT 420 rfl rfl, mT 49 rfl rfl, mT 421 rfl rfl, ⟨by decide +kernel, by decide +kernel, by decide +kernel⟩⟩
set_option maxRecDepth 100000 in
theorem ms_X4_power : MS yX4_power cX4_power 5 (some .long) 2 := ⟨mT 424 rfl rfl, mT 49 rfl rfl, mT 425 rfl rfl, ⟨by decide +kernel, by decide +kernel, by decide +kernel⟩⟩
set_option maxRecDepth 100000 in
theorem mi_X4_pivot : MI yX4_pivot cX4_pivot 5 (some .int) 2 := ⟨mT 427 rfl rfl, mT 428 rfl rfl, mT 49 rfl rfl, mT 429 rfl rfl, ⟨by decide +kernel, by decide +kernel, by decide +kernel⟩⟩
set_option maxRecDepth 100000 in
theorem mi_X4_first : MI yX4_first cX4_first 4 (some .int) 2 := ⟨mT 431 rfl rfl, mT 432 rfl rfl, mT 49 rfl rfl, mT 433 rfl rfl, ⟨by decide +kernel, by decide +kernel, by decide +kernel⟩⟩
set_option maxRecDepth 100000 in
theorem mi_X4_sheet : MI yX4_sheet cX4_sheet 4 (some .int) 3 := ⟨mT 435 rfl rfl, mT 436 rfl rfl, mT 49 rfl rfl, mT 437 rfl rfl, ⟨by decide +kernel, by decide +kernel, by decide +kernel⟩⟩
set_option maxRecDepth 100000 in
theorem ms_X4_sheetFinding : MS yX4_sheetFinding cX4_sheetFinding 3 (some .int) 3 := ⟨mT 439 rfl rfl, mT 49 rfl rfl, mT 440 rfl rfl, ⟨by decide +kernel, by decide +kernel, by decide +kernel⟩⟩
set_option maxRecDepth 100000 in
theorem ms_X4_isSheet : MS yX4_isSheet cX4_isSheet 1 (some .boolean) 1 := ⟨mT 442 rfl rfl, mT 49 rfl rfl, mT 443 rfl rfl, ⟨by decide +kernel, by decide +kernel, by decide +kernel⟩⟩
set_option maxRecDepth 100000 in
theorem ms_X4_isSort : MS yX4_isSort cX4_isSort 1 (some .boolean) 1 := ⟨mT 445 rfl rfl, mT 49 rfl rfl, mT 446 rfl rfl, ⟨by decide +kernel, by decide +kernel, by decide +kernel⟩⟩
set_option maxRecDepth 100000 in
theorem mc_X2_init : MC yX2_init cX2_init 3 2 := ⟨mT 451 rfl rfl, mT 57 rfl rfl, mT 452 rfl rfl, ⟨by decide +kernel, by decide +kernel, by decide +kernel⟩, rfl⟩
set_option maxRecDepth 100000 in
theorem mi_X4_row : MI yX4_row cX4_row 4 (some .int) 3 := ⟨mT 464 rfl rfl, mT 465 rfl rfl, mT 49 rfl rfl, mT 466 rfl rfl, ⟨by decide +kernel, by decide +kernel, by decide +kernel⟩⟩
set_option maxRecDepth 100000 in
theorem mi_X4_newRowFinding : MI yX4_newRowFinding cX4_newRowFinding 4 (some .int) 3 := ⟨mT 469 rfl rfl, mT 16 rfl rfl, mT 49 rfl rfl, mT 470 rfl rfl, ⟨by decide +kernel, by decide +kernel, by decide +kernel⟩⟩
set_option maxRecDepth 100000 in
theorem mi_X2_hasRow : MI yX2_hasRow cX2_hasRow 2 (some .boolean) 1 := ⟨mT 472 rfl rfl, mT 473 rfl rfl, mT 57 rfl rfl, mT 474 rfl rfl, ⟨by decide +kernel, by decide +kernel, by decide +kernel⟩⟩
set_option maxRecDepth 100000 in
theorem mi_X4_put : MI yX4_put cX4_put 6 (some .int) 5 := ⟨mT 476 rfl rfl, mT 477 rfl rfl, mT 49 rfl rfl, mT 478 rfl rfl, ⟨by decide +kernel, by decide +kernel, by decide +kernel⟩⟩
set_option maxRecDepth 100000 in
theorem mi_X4_putFinding : MI yX4_putFinding cX4_putFinding 7 (some .int) 4 := ⟨mT 481 rfl rfl, mT 17 rfl rfl, mT 49 rfl rfl, mT 482 rfl rfl, ⟨by decide +kernel, by decide +kernel, by decide +kernel⟩⟩
set_option maxRecDepth 100000 in
theorem ms_X4_rowFinding : MS yX4_rowFinding cX4_rowFinding 2 (some .int) 2 := ⟨mT 484 rfl rfl, mT 49 rfl rfl, mT 485 rfl rfl, ⟨by decide +kernel, by decide +kernel, by decide +kernel⟩⟩
set_option maxRecDepth 100000 in
theorem mi_X2_holds : MI yX2_holds cX2_holds 5 (some .boolean) 3 := ⟨mT 487 rfl rfl, mT 488 rfl rfl, mT 57 rfl rfl, mT 489 rfl rfl, ⟨by decide +kernel, by decide +kernel, by decide +kernel⟩⟩
set_option maxRecDepth 100000 in
theorem mi_X4_copy : MI yX4_copy cX4_copy 8 (some .int) 7 := ⟨mT 491 rfl rfl, mT 492 rfl rfl, mT 49 rfl rfl, mT 493 rfl rfl, ⟨by decide +kernel, by decide +kernel, by decide +kernel⟩⟩
set_option maxRecDepth 100000 in
theorem mi_X4_copyFinding : MI yX4_copyFinding cX4_copyFinding 10 (some .int) 7 := ⟨mT 496 rfl rfl, mT 18 rfl rfl, mT 49 rfl rfl, mT 497 rfl rfl, ⟨by decide +kernel, by decide +kernel, by decide +kernel⟩⟩
set_option maxRecDepth 100000 in
theorem mi_X4_read : MI yX4_read cX4_read 3 (some .int) 2 := ⟨mT 502 rfl rfl, mT 503 rfl rfl, mT 49 rfl rfl, mT 504 rfl rfl, ⟨by decide +kernel, by decide +kernel, by decide +kernel⟩⟩
set_option maxRecDepth 100000 in
theorem mi_X4_readKinds : MI yX4_readKinds cX4_readKinds 5 (some .int) 1 := ⟨mT 507 rfl rfl, mT 19 rfl rfl, mT 49 rfl rfl, mT 508 rfl rfl, ⟨by decide +kernel, by decide +kernel, by decide +kernel⟩⟩
set_option maxRecDepth 100000 in
theorem ms_J9_min_7cf53 : MS yJ9_min_7cf53 cJ9_min_7cf53 2 (some .int) 2 := ⟨mT 510 rfl rfl, mT 56 rfl rfl, mT 511 rfl rfl, ⟨by decide +kernel, by decide +kernel, by decide +kernel⟩⟩
set_option maxRecDepth 100000 in
theorem mi_X4_trace : MI yX4_trace cX4_trace 1 (some .long) 0 := ⟨mT 514 rfl rfl, mT 515 rfl rfl, mT 49 rfl rfl, mT 516 rfl rfl, ⟨by decide +kernel, by decide +kernel, by decide +kernel⟩⟩
set_option maxRecDepth 100000 in
theorem mi_X4_status : MI yX4_status cX4_status 1 (some .int) 0 := ⟨mT 518 rfl rfl, mT 519 rfl rfl, mT 49 rfl rfl, mT 520 rfl rfl, ⟨by decide +kernel, by decide +kernel, by decide +kernel⟩⟩
set_option maxRecDepth 100000 in
theorem mc_X5_init : MC yX5_init cX5_init 1 0 := ⟨mT 524 rfl rfl, mT 54 rfl rfl, mT 525 rfl rfl, ⟨by decide +kernel, by decide +kernel, by decide +kernel⟩, rfl⟩
set_option maxRecDepth 100000 in
theorem mi_X5_all : MI yX5_all cX5_all 3 none 1 := ⟨mT 529 rfl rfl, mT 20 rfl rfl, mT 54 rfl rfl, mT 530 rfl rfl, ⟨by decide +kernel, by decide +kernel, by decide +kernel⟩⟩
set_option maxRecDepth 100000 in
theorem mi_X5_ground : MI yX5_ground cX5_ground 4 (some .int) 3 := ⟨mT 591 rfl rfl, mT 592 rfl rfl, mT 54 rfl rfl, mT 593 rfl rfl, ⟨by decide +kernel, by decide +kernel, by decide +kernel⟩⟩
set_option maxRecDepth 100000 in
theorem ms_X5_in : MS yX5_in cX5_in 3 (some .boolean) 3 := ⟨mT 595 rfl rfl, mT 54 rfl rfl, mT 596 rfl rfl, ⟨by decide +kernel, by decide +kernel, by decide +kernel⟩⟩
set_option maxRecDepth 100000 in
theorem mi_X5_things : MI yX5_things cX5_things 1 (some .int) 0 := ⟨mT 599 rfl rfl, mT 21 rfl rfl, mT 54 rfl rfl, mT 600 rfl rfl, ⟨by decide +kernel, by decide +kernel, by decide +kernel⟩⟩
set_option maxRecDepth 100000 in
theorem mi_X5_places : MI yX5_places cX5_places 1 (some .int) 0 := ⟨mT 603 rfl rfl, mT 22 rfl rfl, mT 54 rfl rfl, mT 604 rfl rfl, ⟨by decide +kernel, by decide +kernel, by decide +kernel⟩⟩
set_option maxRecDepth 100000 in
theorem mi_X5_roads : MI yX5_roads cX5_roads 1 (some .int) 0 := ⟨mT 607 rfl rfl, mT 23 rfl rfl, mT 54 rfl rfl, mT 608 rfl rfl, ⟨by decide +kernel, by decide +kernel, by decide +kernel⟩⟩
set_option maxRecDepth 100000 in
theorem mi_X5_across : MI yX5_across cX5_across 1 (some .int) 0 := ⟨mT 611 rfl rfl, mT 24 rfl rfl, mT 54 rfl rfl, mT 612 rfl rfl, ⟨by decide +kernel, by decide +kernel, by decide +kernel⟩⟩
set_option maxRecDepth 100000 in
theorem mi_X5_kind : MI yX5_kind cX5_kind 3 (some .int) 2 := ⟨mT 614 rfl rfl, mT 615 rfl rfl, mT 54 rfl rfl, mT 616 rfl rfl, ⟨by decide +kernel, by decide +kernel, by decide +kernel⟩⟩
set_option maxRecDepth 100000 in
theorem mi_X5_becomes : MI yX5_becomes cX5_becomes 4 (some .int) 2 := ⟨mT 619 rfl rfl, mT 25 rfl rfl, mT 54 rfl rfl, mT 620 rfl rfl, ⟨by decide +kernel, by decide +kernel, by decide +kernel⟩⟩
set_option maxRecDepth 100000 in
theorem mi_X5_isThing : MI yX5_isThing cX5_isThing 2 (some .boolean) 1 := ⟨mT 623 rfl rfl, mT 26 rfl rfl, mT 54 rfl rfl, mT 624 rfl rfl, ⟨by decide +kernel, by decide +kernel, by decide +kernel⟩⟩
set_option maxRecDepth 100000 in
theorem mi_X5_isElder : MI yX5_isElder cX5_isElder 4 (some .boolean) 1 := ⟨mT 627 rfl rfl, mT 27 rfl rfl, mT 54 rfl rfl, mT 628 rfl rfl, ⟨by decide +kernel, by decide +kernel, by decide +kernel⟩⟩
set_option maxRecDepth 100000 in
theorem mi_X5_chances : MI yX5_chances cX5_chances 3 (some .int) 0 := ⟨mT 631 rfl rfl, mT 28 rfl rfl, mT 54 rfl rfl, mT 632 rfl rfl, ⟨by decide +kernel, by decide +kernel, by decide +kernel⟩⟩
set_option maxRecDepth 100000 in
theorem mi_X5_twin : MI yX5_twin cX5_twin 5 (some .int) 3 := ⟨mT 634 rfl rfl, mT 635 rfl rfl, mT 54 rfl rfl, mT 636 rfl rfl, ⟨by decide +kernel, by decide +kernel, by decide +kernel⟩⟩
set_option maxRecDepth 100000 in
theorem mi_X5_about : MI yX5_about cX5_about 3 (some .int) 2 := ⟨mT 638 rfl rfl, mT 639 rfl rfl, mT 54 rfl rfl, mT 640 rfl rfl, ⟨by decide +kernel, by decide +kernel, by decide +kernel⟩⟩
set_option maxRecDepth 100000 in
theorem mi_X5_numberOf : MI yX5_numberOf cX5_numberOf 4 (some .int) 1 := ⟨mT 643 rfl rfl, mT 29 rfl rfl, mT 54 rfl rfl, mT 644 rfl rfl, ⟨by decide +kernel, by decide +kernel, by decide +kernel⟩⟩
set_option maxRecDepth 100000 in
theorem mi_X5_end : MI yX5_end cX5_end 4 (some .int) 2 := ⟨mT 647 rfl rfl, mT 30 rfl rfl, mT 54 rfl rfl, mT 648 rfl rfl, ⟨by decide +kernel, by decide +kernel, by decide +kernel⟩⟩
set_option maxRecDepth 100000 in
theorem mi_X5_told : MI yX5_told cX5_told 4 (some .int) 1 := ⟨mT 650 rfl rfl, mT 651 rfl rfl, mT 54 rfl rfl, mT 652 rfl rfl, ⟨by decide +kernel, by decide +kernel, by decide +kernel⟩⟩
set_option maxRecDepth 100000 in
theorem mi_X5_opens : MI yX5_opens cX5_opens 4 (some .int) 2 := ⟨mT 654 rfl rfl, mT 655 rfl rfl, mT 54 rfl rfl, mT 656 rfl rfl, ⟨by decide +kernel, by decide +kernel, by decide +kernel⟩⟩
set_option maxRecDepth 100000 in
theorem mi_X5_isSetting : MI yX5_isSetting cX5_isSetting 2 (some .boolean) 1 := ⟨mT 659 rfl rfl, mT 31 rfl rfl, mT 54 rfl rfl, mT 660 rfl rfl, ⟨by decide +kernel, by decide +kernel, by decide +kernel⟩⟩
set_option maxRecDepth 100000 in
theorem mi_X5_opensBy : MI yX5_opensBy cX5_opensBy 3 (some .boolean) 2 := ⟨mT 667 rfl rfl, mT 32 rfl rfl, mT 54 rfl rfl, mT 668 rfl rfl, ⟨by decide +kernel, by decide +kernel, by decide +kernel⟩⟩
set_option maxRecDepth 100000 in
theorem mi_X5_through : MI yX5_through cX5_through 3 (some .int) 2 := ⟨mT 670 rfl rfl, mT 671 rfl rfl, mT 54 rfl rfl, mT 672 rfl rfl, ⟨by decide +kernel, by decide +kernel, by decide +kernel⟩⟩
set_option maxRecDepth 100000 in
theorem mi_X5_needWays : MI yX5_needWays cX5_needWays 2 none 0 := ⟨mT 675 rfl rfl, mT 33 rfl rfl, mT 54 rfl rfl, mT 676 rfl rfl, ⟨by decide +kernel, by decide +kernel, by decide +kernel⟩⟩
set_option maxRecDepth 100000 in
theorem mi_X5_joins : MI yX5_joins cX5_joins 7 none 1 := ⟨mT 679 rfl rfl, mT 34 rfl rfl, mT 54 rfl rfl, mT 680 rfl rfl, ⟨by decide +kernel, by decide +kernel, by decide +kernel⟩⟩
set_option maxRecDepth 100000 in
theorem mi_X5_root : MI yX5_root cX5_root 3 (some .int) 1 := ⟨mT 683 rfl rfl, mT 35 rfl rfl, mT 54 rfl rfl, mT 684 rfl rfl, ⟨by decide +kernel, by decide +kernel, by decide +kernel⟩⟩
set_option maxRecDepth 100000 in
theorem mi_X5_isThrough : MI yX5_isThrough cX5_isThrough 6 (some .boolean) 1 := ⟨mT 687 rfl rfl, mT 36 rfl rfl, mT 54 rfl rfl, mT 688 rfl rfl, ⟨by decide +kernel, by decide +kernel, by decide +kernel⟩⟩
set_option maxRecDepth 100000 in
theorem mi_X5_heapOf : MI yX5_heapOf cX5_heapOf 2 (some .int) 1 := ⟨mT 691 rfl rfl, mT 37 rfl rfl, mT 54 rfl rfl, mT 692 rfl rfl, ⟨by decide +kernel, by decide +kernel, by decide +kernel⟩⟩
set_option maxRecDepth 100000 in
theorem mi_X5_is : MI yX5_is cX5_is 4 (some .boolean) 2 := ⟨mT 695 rfl rfl, mT 38 rfl rfl, mT 54 rfl rfl, mT 696 rfl rfl, ⟨by decide +kernel, by decide +kernel, by decide +kernel⟩⟩
set_option maxRecDepth 100000 in
theorem mi_X5_wall : MI yX5_wall cX5_wall 3 (some .int) 2 := ⟨mT 698 rfl rfl, mT 699 rfl rfl, mT 54 rfl rfl, mT 700 rfl rfl, ⟨by decide +kernel, by decide +kernel, by decide +kernel⟩⟩
set_option maxRecDepth 100000 in
theorem mi_X5_isWall : MI yX5_isWall cX5_isWall 8 (some .boolean) 1 := ⟨mT 703 rfl rfl, mT 39 rfl rfl, mT 54 rfl rfl, mT 704 rfl rfl, ⟨by decide +kernel, by decide +kernel, by decide +kernel⟩⟩
set_option maxRecDepth 100000 in
theorem mi_X5_roadRight : MI yX5_roadRight cX5_roadRight 4 (some .int) 3 := ⟨mT 707 rfl rfl, mT 40 rfl rfl, mT 54 rfl rfl, mT 708 rfl rfl, ⟨by decide +kernel, by decide +kernel, by decide +kernel⟩⟩
set_option maxRecDepth 100000 in
theorem mi_X5_roadDown : MI yX5_roadDown cX5_roadDown 4 (some .int) 3 := ⟨mT 711 rfl rfl, mT 41 rfl rfl, mT 54 rfl rfl, mT 712 rfl rfl, ⟨by decide +kernel, by decide +kernel, by decide +kernel⟩⟩
set_option maxRecDepth 100000 in
theorem mi_X5_heap : MI yX5_heap cX5_heap 3 (some .int) 2 := ⟨mT 714 rfl rfl, mT 715 rfl rfl, mT 54 rfl rfl, mT 716 rfl rfl, ⟨by decide +kernel, by decide +kernel, by decide +kernel⟩⟩
set_option maxRecDepth 100000 in
theorem mi_X5_isPlace : MI yX5_isPlace cX5_isPlace 2 (some .boolean) 1 := ⟨mT 719 rfl rfl, mT 42 rfl rfl, mT 54 rfl rfl, mT 720 rfl rfl, ⟨by decide +kernel, by decide +kernel, by decide +kernel⟩⟩
set_option maxRecDepth 100000 in
theorem mi_X5_heaps : MI yX5_heaps cX5_heaps 6 (some .int) 2 := ⟨mT 722 rfl rfl, mT 723 rfl rfl, mT 54 rfl rfl, mT 724 rfl rfl, ⟨by decide +kernel, by decide +kernel, by decide +kernel⟩⟩
set_option maxRecDepth 100000 in
theorem mi_X5_heapCount : MI yX5_heapCount cX5_heapCount 3 (some .int) 0 := ⟨mT 727 rfl rfl, mT 43 rfl rfl, mT 54 rfl rfl, mT 728 rfl rfl, ⟨by decide +kernel, by decide +kernel, by decide +kernel⟩⟩
set_option maxRecDepth 100000 in
theorem mi_X5_sizeOf : MI yX5_sizeOf cX5_sizeOf 4 (some .int) 1 := ⟨mT 731 rfl rfl, mT 44 rfl rfl, mT 54 rfl rfl, mT 732 rfl rfl, ⟨by decide +kernel, by decide +kernel, by decide +kernel⟩⟩
set_option maxRecDepth 100000 in
theorem mi_X5_count : MI yX5_count cX5_count 3 (some .int) 2 := ⟨mT 734 rfl rfl, mT 735 rfl rfl, mT 54 rfl rfl, mT 736 rfl rfl, ⟨by decide +kernel, by decide +kernel, by decide +kernel⟩⟩
set_option maxRecDepth 100000 in
theorem mi_X5_isSize : MI yX5_isSize cX5_isSize 2 (some .boolean) 1 := ⟨mT 739 rfl rfl, mT 45 rfl rfl, mT 54 rfl rfl, mT 740 rfl rfl, ⟨by decide +kernel, by decide +kernel, by decide +kernel⟩⟩
set_option maxRecDepth 100000 in
theorem mi_X5_countOf : MI yX5_countOf cX5_countOf 5 (some .int) 2 := ⟨mT 743 rfl rfl, mT 46 rfl rfl, mT 54 rfl rfl, mT 744 rfl rfl, ⟨by decide +kernel, by decide +kernel, by decide +kernel⟩⟩
set_option maxRecDepth 100000 in
theorem ms_X5_bits : MS yX5_bits cX5_bits 3 (some .int) 1 := ⟨mT 746 rfl rfl, mT 54 rfl rfl, mT 747 rfl rfl, ⟨by decide +kernel, by decide +kernel, by decide +kernel⟩⟩
set_option maxRecDepth 100000 in
theorem mi_X5_walls : MI yX5_walls cX5_walls 5 (some .int) 2 := ⟨mT 749 rfl rfl, mT 750 rfl rfl, mT 54 rfl rfl, mT 751 rfl rfl, ⟨by decide +kernel, by decide +kernel, by decide +kernel⟩⟩
set_option maxRecDepth 100000 in
theorem mi_X5_joined : MI yX5_joined cX5_joined 6 (some .int) 3 := ⟨mT 753 rfl rfl, mT 754 rfl rfl, mT 54 rfl rfl, mT 755 rfl rfl, ⟨by decide +kernel, by decide +kernel, by decide +kernel⟩⟩
set_option maxRecDepth 100000 in
theorem mi_X5_sized : MI yX5_sized cX5_sized 6 (some .int) 3 := ⟨mT 757 rfl rfl, mT 758 rfl rfl, mT 54 rfl rfl, mT 759 rfl rfl, ⟨by decide +kernel, by decide +kernel, by decide +kernel⟩⟩
set_option maxRecDepth 100000 in
theorem mi_X5_heapSum : MI yX5_heapSum cX5_heapSum 4 (some .int) 1 := ⟨mT 761 rfl rfl, mT 762 rfl rfl, mT 54 rfl rfl, mT 763 rfl rfl, ⟨by decide +kernel, by decide +kernel, by decide +kernel⟩⟩
set_option maxRecDepth 100000 in
theorem mi_X5_chance : MI yX5_chance cX5_chance 11 (some .long) 3 := ⟨mT 765 rfl rfl, mT 766 rfl rfl, mT 54 rfl rfl, mT 767 rfl rfl, ⟨by decide +kernel, by decide +kernel, by decide +kernel⟩⟩
set_option maxRecDepth 100000 in
theorem mi_X5_pivot : MI yX5_pivot cX5_pivot 5 (some .int) 2 := ⟨mT 770 rfl rfl, mT 771 rfl rfl, mT 54 rfl rfl, mT 772 rfl rfl, ⟨by decide +kernel, by decide +kernel, by decide +kernel⟩⟩
set_option maxRecDepth 100000 in
theorem mi_X5_first : MI yX5_first cX5_first 4 (some .int) 2 := ⟨mT 774 rfl rfl, mT 775 rfl rfl, mT 54 rfl rfl, mT 776 rfl rfl, ⟨by decide +kernel, by decide +kernel, by decide +kernel⟩⟩
set_option maxRecDepth 100000 in
theorem mi_X5_sheet : MI yX5_sheet cX5_sheet 5 (some .int) 3 := ⟨mT 778 rfl rfl, mT 779 rfl rfl, mT 54 rfl rfl, mT 780 rfl rfl, ⟨by decide +kernel, by decide +kernel, by decide +kernel⟩⟩
set_option maxRecDepth 100000 in
theorem mi_X5_no : MI yX5_no cX5_no 2 (some .int) 1 := ⟨mT 783 rfl rfl, mT 47 rfl rfl, mT 54 rfl rfl, mT 784 rfl rfl, ⟨by decide +kernel, by decide +kernel, by decide +kernel⟩⟩
set_option maxRecDepth 100000 in
theorem mi_X5_row : MI yX5_row cX5_row 5 (some .int) 3 := ⟨mT 786 rfl rfl, mT 787 rfl rfl, mT 54 rfl rfl, mT 788 rfl rfl, ⟨by decide +kernel, by decide +kernel, by decide +kernel⟩⟩
set_option maxRecDepth 100000 in
theorem mi_X5_put : MI yX5_put cX5_put 7 (some .int) 5 := ⟨mT 790 rfl rfl, mT 791 rfl rfl, mT 54 rfl rfl, mT 792 rfl rfl, ⟨by decide +kernel, by decide +kernel, by decide +kernel⟩⟩
set_option maxRecDepth 100000 in
theorem mi_X5_copy : MI yX5_copy cX5_copy 11 (some .int) 7 := ⟨mT 794 rfl rfl, mT 795 rfl rfl, mT 54 rfl rfl, mT 796 rfl rfl, ⟨by decide +kernel, by decide +kernel, by decide +kernel⟩⟩
set_option maxRecDepth 100000 in
theorem ms_X5_areThere : MS yX5_areThere cX5_areThere 3 (some .boolean) 3 := ⟨mT 798 rfl rfl, mT 54 rfl rfl, mT 799 rfl rfl, ⟨by decide +kernel, by decide +kernel, by decide +kernel⟩⟩
set_option maxRecDepth 100000 in
theorem mi_X5_read : MI yX5_read cX5_read 6 (some .int) 2 := ⟨mT 801 rfl rfl, mT 802 rfl rfl, mT 54 rfl rfl, mT 803 rfl rfl, ⟨by decide +kernel, by decide +kernel, by decide +kernel⟩⟩
set_option maxRecDepth 100000 in
theorem mi_X5_trace : MI yX5_trace cX5_trace 1 (some .long) 0 := ⟨mT 805 rfl rfl, mT 806 rfl rfl, mT 54 rfl rfl, mT 807 rfl rfl, ⟨by decide +kernel, by decide +kernel, by decide +kernel⟩⟩
set_option maxRecDepth 100000 in
theorem mi_X5_status : MI yX5_status cX5_status 1 (some .int) 0 := ⟨mT 809 rfl rfl, mT 810 rfl rfl, mT 54 rfl rfl, mT 811 rfl rfl, ⟨by decide +kernel, by decide +kernel, by decide +kernel⟩⟩
set_option maxRecDepth 100000 in
theorem it_RL : Cond.initialized RL ∈ Ts := mT 48 rfl rfl
set_option maxRecDepth 100000 in
theorem it_RX4 : Cond.initialized RX4 ∈ Ts := mT 49 rfl rfl
set_option maxRecDepth 100000 in
theorem it_RX1 : Cond.initialized RX1 ∈ Ts := mT 50 rfl rfl
set_option maxRecDepth 100000 in
theorem it_RX3 : Cond.initialized RX3 ∈ Ts := mT 51 rfl rfl
set_option maxRecDepth 100000 in
theorem it_RX0 : Cond.initialized RX0 ∈ Ts := mT 52 rfl rfl
set_option maxRecDepth 100000 in
theorem it_RJ7 : Cond.initialized RJ7 ∈ Ts := mT 53 rfl rfl
set_option maxRecDepth 100000 in
theorem it_RX5 : Cond.initialized RX5 ∈ Ts := mT 54 rfl rfl
set_option maxRecDepth 100000 in
theorem it_RJ6 : Cond.initialized RJ6 ∈ Ts := mT 55 rfl rfl
set_option maxRecDepth 100000 in
theorem it_RJ9 : Cond.initialized RJ9 ∈ Ts := mT 56 rfl rfl
set_option maxRecDepth 100000 in
theorem it_RX2 : Cond.initialized RX2 ∈ Ts := mT 57 rfl rfl
set_option maxRecDepth 100000 in
theorem it_RJ10 : Cond.initialized RJ10 ∈ Ts := mT 58 rfl rfl
set_option maxRecDepth 100000 in
theorem cl_RL_7 : Cond.classLink RL 7 RX4 ∈ Ts := mT 59 rfl rfl
set_option maxRecDepth 100000 in
theorem in_RX4 : Cond.instantiable RX4 7 ∈ Ts := mT 60 rfl rfl
set_option maxRecDepth 100000 in
theorem ml_RL_9 : Cond.methodLink RL 9 yX4_init ∈ Ts := mT 61 rfl rfl
set_option maxRecDepth 100000 in
theorem ml_RX4_1 : Cond.methodLink RX4 1 objectInit ∈ Ts := mT 64 rfl rfl
set_option maxRecDepth 100000 in
theorem im_objectInit : Cond.instanceMethod objectInit ∈ Ts := mT 65 rfl rfl
set_option maxRecDepth 100000 in
theorem co_objectInit : Cond.code objectInit ⟨#[0xb1]⟩ 1 none ∈ Ts := mT 66 rfl rfl
set_option maxRecDepth 100000 in
theorem cl_RX4_7 : Cond.classLink RX4 7 RX1 ∈ Ts := mT 67 rfl rfl
set_option maxRecDepth 100000 in
theorem in_RX1 : Cond.instantiable RX1 8 ∈ Ts := mT 68 rfl rfl
set_option maxRecDepth 100000 in
theorem ml_RX1_3 : Cond.methodLink RX1 3 objectInit ∈ Ts := mT 72 rfl rfl
set_option maxRecDepth 100000 in
theorem fl_RX1_15 : Cond.fieldLink RX1 15 (TX1 0).1 (TX1 0).2.1 (TX1 0).2.2.1 ∈ Ts := mT 73 rfl rfl
set_option maxRecDepth 100000 in
theorem fl_RX4_90 : Cond.fieldLink RX4 90 (TX1 0).1 (TX1 0).2.1 (TX1 0).2.2.1 ∈ Ts := mT 74 rfl rfl
set_option maxRecDepth 100000 in
theorem fl_RX1_19 : Cond.fieldLink RX1 19 (TX1 1).1 (TX1 1).2.1 (TX1 1).2.2.1 ∈ Ts := mT 75 rfl rfl
set_option maxRecDepth 100000 in
theorem fl_RX4_93 : Cond.fieldLink RX4 93 (TX1 1).1 (TX1 1).2.1 (TX1 1).2.2.1 ∈ Ts := mT 76 rfl rfl
set_option maxRecDepth 100000 in
theorem fl_RX1_22 : Cond.fieldLink RX1 22 (TX1 2).1 (TX1 2).2.1 (TX1 2).2.2.1 ∈ Ts := mT 77 rfl rfl
set_option maxRecDepth 100000 in
theorem fl_RX4_96 : Cond.fieldLink RX4 96 (TX1 2).1 (TX1 2).2.1 (TX1 2).2.2.1 ∈ Ts := mT 78 rfl rfl
set_option maxRecDepth 100000 in
theorem fl_RX4_57 : Cond.fieldLink RX4 57 (TX1 3).1 (TX1 3).2.1 (TX1 3).2.2.1 ∈ Ts := mT 79 rfl rfl
set_option maxRecDepth 100000 in
theorem fl_RX1_39 : Cond.fieldLink RX1 39 (TX1 3).1 (TX1 3).2.1 (TX1 3).2.2.1 ∈ Ts := mT 80 rfl rfl
set_option maxRecDepth 100000 in
theorem fl_RX3_41 : Cond.fieldLink RX3 41 (TX1 3).1 (TX1 3).2.1 (TX1 3).2.2.1 ∈ Ts := mT 81 rfl rfl
set_option maxRecDepth 100000 in
theorem fl_RX1_30 : Cond.fieldLink RX1 30 (TX1 4).1 (TX1 4).2.1 (TX1 4).2.2.1 ∈ Ts := mT 82 rfl rfl
set_option maxRecDepth 100000 in
theorem fl_RX4_238 : Cond.fieldLink RX4 238 (TX1 4).1 (TX1 4).2.1 (TX1 4).2.2.1 ∈ Ts := mT 83 rfl rfl
set_option maxRecDepth 100000 in
theorem fl_RX1_33 : Cond.fieldLink RX1 33 (TX1 5).1 (TX1 5).2.1 (TX1 5).2.2.1 ∈ Ts := mT 84 rfl rfl
set_option maxRecDepth 100000 in
theorem fl_RX4_226 : Cond.fieldLink RX4 226 (TX1 5).1 (TX1 5).2.1 (TX1 5).2.2.1 ∈ Ts := mT 85 rfl rfl
set_option maxRecDepth 100000 in
theorem fl_RX1_36 : Cond.fieldLink RX1 36 (TX1 6).1 (TX1 6).2.1 (TX1 6).2.2.1 ∈ Ts := mT 86 rfl rfl
set_option maxRecDepth 100000 in
theorem fl_RX4_232 : Cond.fieldLink RX4 232 (TX1 6).1 (TX1 6).2.1 (TX1 6).2.2.1 ∈ Ts := mT 87 rfl rfl
set_option maxRecDepth 100000 in
theorem fl_RX1_9 : Cond.fieldLink RX1 9 (TX1 7).1 (TX1 7).2.1 (TX1 7).2.2.1 ∈ Ts := mT 88 rfl rfl
set_option maxRecDepth 100000 in
theorem fl_RX3_64 : Cond.fieldLink RX3 64 (TX1 7).1 (TX1 7).2.1 (TX1 7).2.2.1 ∈ Ts := mT 89 rfl rfl
set_option maxRecDepth 100000 in
theorem fl_RX4_118 : Cond.fieldLink RX4 118 (TX1 7).1 (TX1 7).2.1 (TX1 7).2.2.1 ∈ Ts := mT 90 rfl rfl
set_option maxRecDepth 100000 in
theorem ac_int : Cond.arrayClass .int ∈ Ts := mT 108 rfl rfl
set_option maxRecDepth 100000 in
theorem cl_RX4_16 : Cond.classLink RX4 16 RX3 ∈ Ts := mT 109 rfl rfl
set_option maxRecDepth 100000 in
theorem in_RX3 : Cond.instantiable RX3 8 ∈ Ts := mT 110 rfl rfl
set_option maxRecDepth 100000 in
theorem ml_RX4_18 : Cond.methodLink RX4 18 yX3_init ∈ Ts := mT 111 rfl rfl
set_option maxRecDepth 100000 in
theorem ml_RX3_3 : Cond.methodLink RX3 3 objectInit ∈ Ts := mT 114 rfl rfl
set_option maxRecDepth 100000 in
theorem fl_RX3_28 : Cond.fieldLink RX3 28 (TX3 0).1 (TX3 0).2.1 (TX3 0).2.2.1 ∈ Ts := mT 115 rfl rfl
set_option maxRecDepth 100000 in
theorem fl_RX3_9 : Cond.fieldLink RX3 9 (TX3 1).1 (TX3 1).2.1 (TX3 1).2.2.1 ∈ Ts := mT 116 rfl rfl
set_option maxRecDepth 100000 in
theorem fl_RX4_66 : Cond.fieldLink RX4 66 (TX3 1).1 (TX3 1).2.1 (TX3 1).2.2.1 ∈ Ts := mT 117 rfl rfl
set_option maxRecDepth 100000 in
theorem fl_RX3_15 : Cond.fieldLink RX3 15 (TX3 2).1 (TX3 2).2.1 (TX3 2).2.2.1 ∈ Ts := mT 118 rfl rfl
set_option maxRecDepth 100000 in
theorem fl_RX4_77 : Cond.fieldLink RX4 77 (TX3 2).1 (TX3 2).2.1 (TX3 2).2.2.1 ∈ Ts := mT 119 rfl rfl
set_option maxRecDepth 100000 in
theorem fl_RX3_18 : Cond.fieldLink RX3 18 (TX3 3).1 (TX3 3).2.1 (TX3 3).2.2.1 ∈ Ts := mT 120 rfl rfl
set_option maxRecDepth 100000 in
theorem fl_RX4_80 : Cond.fieldLink RX4 80 (TX3 3).1 (TX3 3).2.1 (TX3 3).2.2.1 ∈ Ts := mT 121 rfl rfl
set_option maxRecDepth 100000 in
theorem fl_RX4_70 : Cond.fieldLink RX4 70 (TX3 4).1 (TX3 4).2.1 (TX3 4).2.2.1 ∈ Ts := mT 122 rfl rfl
set_option maxRecDepth 100000 in
theorem fl_RX3_51 : Cond.fieldLink RX3 51 (TX3 4).1 (TX3 4).2.1 (TX3 4).2.2.1 ∈ Ts := mT 123 rfl rfl
set_option maxRecDepth 100000 in
theorem fl_RX3_47 : Cond.fieldLink RX3 47 (TX3 5).1 (TX3 5).2.1 (TX3 5).2.2.1 ∈ Ts := mT 124 rfl rfl
set_option maxRecDepth 100000 in
theorem fl_RX3_21 : Cond.fieldLink RX3 21 (TX3 6).1 (TX3 6).2.1 (TX3 6).2.2.1 ∈ Ts := mT 125 rfl rfl
set_option maxRecDepth 100000 in
theorem fl_RX3_25 : Cond.fieldLink RX3 25 (TX3 7).1 (TX3 7).2.1 (TX3 7).2.2.1 ∈ Ts := mT 126 rfl rfl
set_option maxRecDepth 100000 in
theorem ac_long : Cond.arrayClass .long ∈ Ts := mT 144 rfl rfl
set_option maxRecDepth 100000 in
theorem cl_RX4_25 : Cond.classLink RX4 25 RX0 ∈ Ts := mT 145 rfl rfl
set_option maxRecDepth 100000 in
theorem in_RX0 : Cond.instantiable RX0 5 ∈ Ts := mT 146 rfl rfl
set_option maxRecDepth 100000 in
theorem ml_RX0_3 : Cond.methodLink RX0 3 objectInit ∈ Ts := mT 150 rfl rfl
set_option maxRecDepth 100000 in
theorem fl_RX0_9 : Cond.fieldLink RX0 9 (TX0 0).1 (TX0 0).2.1 (TX0 0).2.2.1 ∈ Ts := mT 151 rfl rfl
set_option maxRecDepth 100000 in
theorem fl_RX4_221 : Cond.fieldLink RX4 221 (TX0 0).1 (TX0 0).2.1 (TX0 0).2.2.1 ∈ Ts := mT 152 rfl rfl
set_option maxRecDepth 100000 in
theorem fl_RX0_15 : Cond.fieldLink RX0 15 (TX0 1).1 (TX0 1).2.1 (TX0 1).2.2.1 ∈ Ts := mT 153 rfl rfl
set_option maxRecDepth 100000 in
theorem fl_RX4_222 : Cond.fieldLink RX4 222 (TX0 1).1 (TX0 1).2.1 (TX0 1).2.2.1 ∈ Ts := mT 154 rfl rfl
set_option maxRecDepth 100000 in
theorem fl_RX0_18 : Cond.fieldLink RX0 18 (TX0 2).1 (TX0 2).2.1 (TX0 2).2.2.1 ∈ Ts := mT 155 rfl rfl
set_option maxRecDepth 100000 in
theorem fl_RX4_223 : Cond.fieldLink RX4 223 (TX0 2).1 (TX0 2).2.1 (TX0 2).2.2.1 ∈ Ts := mT 156 rfl rfl
set_option maxRecDepth 100000 in
theorem fl_RX0_21 : Cond.fieldLink RX0 21 (TX0 3).1 (TX0 3).2.1 (TX0 3).2.2.1 ∈ Ts := mT 157 rfl rfl
set_option maxRecDepth 100000 in
theorem fl_RX4_229 : Cond.fieldLink RX4 229 (TX0 3).1 (TX0 3).2.1 (TX0 3).2.2.1 ∈ Ts := mT 158 rfl rfl
set_option maxRecDepth 100000 in
theorem fl_RX0_24 : Cond.fieldLink RX0 24 (TX0 4).1 (TX0 4).2.1 (TX0 4).2.2.1 ∈ Ts := mT 159 rfl rfl
set_option maxRecDepth 100000 in
theorem fl_RX4_235 : Cond.fieldLink RX4 235 (TX0 4).1 (TX0 4).2.1 (TX0 4).2.2.1 ∈ Ts := mT 160 rfl rfl
set_option maxRecDepth 100000 in
theorem cl_RX4_35 : Cond.classLink RX4 35 RX2 ∈ Ts := mT 172 rfl rfl
set_option maxRecDepth 100000 in
theorem ml_RX4_49 : Cond.methodLink RX4 49 yX4_layGround ∈ Ts := mT 174 rfl rfl
set_option maxRecDepth 100000 in
theorem ml_RX4_215 : Cond.methodLink RX4 215 yX1_lay ∈ Ts := mT 178 rfl rfl
set_option maxRecDepth 100000 in
theorem ml_RX1_26 : Cond.methodLink RX1 26 yX1_corner ∈ Ts := mT 182 rfl rfl
set_option maxRecDepth 100000 in
theorem ml_RX1_42 : Cond.methodLink RX1 42 yX1_addThings ∈ Ts := mT 186 rfl rfl
set_option maxRecDepth 100000 in
theorem ml_RX4_218 : Cond.methodLink RX4 218 yX3_makeSure ∈ Ts := mT 193 rfl rfl
set_option maxRecDepth 100000 in
theorem ml_RX3_32 : Cond.methodLink RX3 32 yJ7_fill_53178 ∈ Ts := mT 197 rfl rfl
set_option maxRecDepth 100000 in
theorem ml_RX3_38 : Cond.methodLink RX3 38 yX3_settle ∈ Ts := mT 200 rfl rfl
set_option maxRecDepth 100000 in
theorem ml_RX3_58 : Cond.methodLink RX3 58 yX3_numberChances ∈ Ts := mT 204 rfl rfl
set_option maxRecDepth 100000 in
theorem ml_RX3_61 : Cond.methodLink RX3 61 yJ7_fill_d0a16 ∈ Ts := mT 208 rfl rfl
set_option maxRecDepth 100000 in
theorem ml_RX3_67 : Cond.methodLink RX3 67 yX3_settleOne ∈ Ts := mT 211 rfl rfl
set_option maxRecDepth 100000 in
theorem fl_RX4_10 : Cond.fieldLink RX4 10 (TX4 0).1 (TX4 0).2.1 (TX4 0).2.2.1 ∈ Ts := mT 215 rfl rfl
set_option maxRecDepth 100000 in
theorem fl_RX4_21 : Cond.fieldLink RX4 21 (TX4 1).1 (TX4 1).2.1 (TX4 1).2.2.1 ∈ Ts := mT 216 rfl rfl
set_option maxRecDepth 100000 in
theorem fl_RX4_28 : Cond.fieldLink RX4 28 (TX4 2).1 (TX4 2).2.1 (TX4 2).2.2.1 ∈ Ts := mT 217 rfl rfl
set_option maxRecDepth 100000 in
theorem fl_RX4_32 : Cond.fieldLink RX4 32 (TX4 3).1 (TX4 3).2.1 (TX4 3).2.2.1 ∈ Ts := mT 218 rfl rfl
set_option maxRecDepth 100000 in
theorem fl_RX4_37 : Cond.fieldLink RX4 37 (TX4 4).1 (TX4 4).2.1 (TX4 4).2.2.1 ∈ Ts := mT 219 rfl rfl
set_option maxRecDepth 100000 in
theorem fl_RX4_41 : Cond.fieldLink RX4 41 (TX4 5).1 (TX4 5).2.1 (TX4 5).2.2.1 ∈ Ts := mT 220 rfl rfl
set_option maxRecDepth 100000 in
theorem fl_RX4_45 : Cond.fieldLink RX4 45 (TX4 6).1 (TX4 6).2.1 (TX4 6).2.2.1 ∈ Ts := mT 221 rfl rfl
set_option maxRecDepth 100000 in
theorem ml_RL_13 : Cond.methodLink RL 13 yX4_ground ∈ Ts := mT 237 rfl rfl
set_option maxRecDepth 100000 in
theorem ml_RX4_53 : Cond.methodLink RX4 53 yX4_isWithin ∈ Ts := mT 241 rfl rfl
set_option maxRecDepth 100000 in
theorem ml_RL_18 : Cond.methodLink RL 18 yX4_kind ∈ Ts := mT 244 rfl rfl
set_option maxRecDepth 100000 in
theorem ml_RX4_59 : Cond.methodLink RX4 59 yX4_isThing ∈ Ts := mT 248 rfl rfl
set_option maxRecDepth 100000 in
theorem ml_RX4_63 : Cond.methodLink RX4 63 yX3_isElder ∈ Ts := mT 252 rfl rfl
set_option maxRecDepth 100000 in
theorem ml_RX4_73 : Cond.methodLink RX4 73 yX3_become ∈ Ts := mT 256 rfl rfl
set_option maxRecDepth 100000 in
theorem ml_RL_23 : Cond.methodLink RL 23 yX4_twin ∈ Ts := mT 260 rfl rfl
set_option maxRecDepth 100000 in
theorem ml_RL_27 : Cond.methodLink RL 27 yX4_about ∈ Ts := mT 264 rfl rfl
set_option maxRecDepth 100000 in
theorem ml_RX4_83 : Cond.methodLink RX4 83 yX1_placeOf ∈ Ts := mT 268 rfl rfl
set_option maxRecDepth 100000 in
theorem ml_RX4_87 : Cond.methodLink RX4 87 yX1_otherPlaceOf ∈ Ts := mT 272 rfl rfl
set_option maxRecDepth 100000 in
theorem ml_RX1_50 : Cond.methodLink RX1 50 yX1_placeOf ∈ Ts := mT 276 rfl rfl
set_option maxRecDepth 100000 in
theorem ml_RL_31 : Cond.methodLink RL 31 yX4_told ∈ Ts := mT 277 rfl rfl
set_option maxRecDepth 100000 in
theorem ml_RX4_100 : Cond.methodLink RX4 100 yX4_oneIf ∈ Ts := mT 281 rfl rfl
set_option maxRecDepth 100000 in
theorem ml_RX4_104 : Cond.methodLink RX4 104 yX3_younger ∈ Ts := mT 284 rfl rfl
set_option maxRecDepth 100000 in
theorem ml_RL_36 : Cond.methodLink RL 36 yX4_opens ∈ Ts := mT 288 rfl rfl
set_option maxRecDepth 100000 in
theorem ml_RX4_108 : Cond.methodLink RX4 108 yX4_isSetting ∈ Ts := mT 292 rfl rfl
set_option maxRecDepth 100000 in
theorem ml_RX4_159 : Cond.methodLink RX4 159 yX4_settings ∈ Ts := mT 296 rfl rfl
set_option maxRecDepth 100000 in
theorem fl_RX4_111 : Cond.fieldLink RX4 111 "OpenGrounds" "BODIES_ASKED" "[I" ∈ Ts := mT 300 rfl rfl
set_option maxRecDepth 100000 in
theorem ml_RX4_114 : Cond.methodLink RX4 114 yX3_openBy ∈ Ts := mT 302 rfl rfl
set_option maxRecDepth 100000 in
theorem ml_RL_40 : Cond.methodLink RL 40 yX4_through ∈ Ts := mT 307 rfl rfl
set_option maxRecDepth 100000 in
theorem ml_RX4_121 : Cond.methodLink RX4 121 yX4_placesBy ∈ Ts := mT 311 rfl rfl
set_option maxRecDepth 100000 in
theorem ml_RX4_125 : Cond.methodLink RX4 125 yX0_isCrossed ∈ Ts := mT 315 rfl rfl
set_option maxRecDepth 100000 in
theorem ml_RX0_31 : Cond.methodLink RX0 31 yX0_line ∈ Ts := mT 319 rfl rfl
set_option maxRecDepth 100000 in
theorem ml_RX0_35 : Cond.methodLink RX0 35 yX0_spread ∈ Ts := mT 322 rfl rfl
set_option maxRecDepth 100000 in
theorem ml_RL_44 : Cond.methodLink RL 44 yX4_wall ∈ Ts := mT 326 rfl rfl
set_option maxRecDepth 100000 in
theorem ml_RX4_128 : Cond.methodLink RX4 128 yX4_isWalled ∈ Ts := mT 330 rfl rfl
set_option maxRecDepth 100000 in
theorem ml_RX4_241 : Cond.methodLink RX4 241 yX0_layBetween ∈ Ts := mT 334 rfl rfl
set_option maxRecDepth 100000 in
theorem ml_RX4_245 : Cond.methodLink RX4 245 yX1_exchanged ∈ Ts := mT 339 rfl rfl
set_option maxRecDepth 100000 in
theorem ml_RL_48 : Cond.methodLink RL 48 yX4_heap ∈ Ts := mT 343 rfl rfl
set_option maxRecDepth 100000 in
theorem ml_RX4_132 : Cond.methodLink RX4 132 yX4_isPlace ∈ Ts := mT 347 rfl rfl
set_option maxRecDepth 100000 in
theorem ml_RX4_135 : Cond.methodLink RX4 135 yX0_heapAt ∈ Ts := mT 351 rfl rfl
set_option maxRecDepth 100000 in
theorem ml_RX4_138 : Cond.methodLink RX4 138 yJ6_numberOfTrailingZeros_0f7a4 ∈ Ts := mT 355 rfl rfl
set_option maxRecDepth 100000 in
theorem co_RJ6_264 : Cond.constant RJ6 264 (65536) ∈ Ts := mT 358 rfl rfl
set_option maxRecDepth 100000 in
theorem ml_RL_52 : Cond.methodLink RL 52 yX4_heaps ∈ Ts := mT 359 rfl rfl
set_option maxRecDepth 100000 in
theorem ml_RX4_143 : Cond.methodLink RX4 143 yX0_heapCount ∈ Ts := mT 363 rfl rfl
set_option maxRecDepth 100000 in
theorem ml_RX0_39 : Cond.methodLink RX0 39 yX0_heapAt ∈ Ts := mT 367 rfl rfl
set_option maxRecDepth 100000 in
theorem ml_RX4_146 : Cond.methodLink RX4 146 yX0_greatestHeap ∈ Ts := mT 368 rfl rfl
set_option maxRecDepth 100000 in
theorem ml_RX0_42 : Cond.methodLink RX0 42 yJ6_bitCount_0f7a4 ∈ Ts := mT 372 rfl rfl
set_option maxRecDepth 100000 in
theorem co_RJ6_265 : Cond.constant RJ6 265 (1431655765) ∈ Ts := mT 375 rfl rfl
set_option maxRecDepth 100000 in
theorem co_RJ6_266 : Cond.constant RJ6 266 (858993459) ∈ Ts := mT 376 rfl rfl
set_option maxRecDepth 100000 in
theorem co_RJ6_267 : Cond.constant RJ6 267 (252645135) ∈ Ts := mT 377 rfl rfl
set_option maxRecDepth 100000 in
theorem ml_RX0_47 : Cond.methodLink RX0 47 Lib.Math.max.name ∈ Ts := mT 378 rfl rfl
set_option maxRecDepth 100000 in
theorem st_Lib_Math_max_name : Cond.static Lib.Math.max.name ∈ Ts := mT 379 rfl rfl
set_option maxRecDepth 100000 in
theorem co_max : Cond.code Lib.Math.max.name Lib.Math.max.code 2 (some .int) ∈ Ts := mT 380 rfl rfl
set_option maxRecDepth 100000 in
theorem ml_RL_56 : Cond.methodLink RL 56 yX4_count ∈ Ts := mT 381 rfl rfl
set_option maxRecDepth 100000 in
theorem ml_RX4_149 : Cond.methodLink RX4 149 yX4_isWay ∈ Ts := mT 385 rfl rfl
set_option maxRecDepth 100000 in
theorem ml_RX4_152 : Cond.methodLink RX4 152 yX4_isSize ∈ Ts := mT 388 rfl rfl
set_option maxRecDepth 100000 in
theorem ml_RX4_155 : Cond.methodLink RX4 155 yX4_waysOfSize ∈ Ts := mT 392 rfl rfl
set_option maxRecDepth 100000 in
theorem ml_RX4_162 : Cond.methodLink RX4 162 yJ6_bitCount_0f7a4 ∈ Ts := mT 396 rfl rfl
set_option maxRecDepth 100000 in
theorem ml_RX4_174 : Cond.methodLink RX4 174 yX4_comesThrough ∈ Ts := mT 397 rfl rfl
set_option maxRecDepth 100000 in
theorem ml_RL_60 : Cond.methodLink RL 60 yX4_walls ∈ Ts := mT 401 rfl rfl
set_option maxRecDepth 100000 in
theorem ml_RL_64 : Cond.methodLink RL 64 yX4_joined ∈ Ts := mT 405 rfl rfl
set_option maxRecDepth 100000 in
theorem ml_RX4_165 : Cond.methodLink RX4 165 yX4_has ∈ Ts := mT 409 rfl rfl
set_option maxRecDepth 100000 in
theorem ml_RL_69 : Cond.methodLink RL 69 yX4_sized ∈ Ts := mT 410 rfl rfl
set_option maxRecDepth 100000 in
theorem ml_RL_73 : Cond.methodLink RL 73 yX4_heapSum ∈ Ts := mT 414 rfl rfl
set_option maxRecDepth 100000 in
theorem ml_RL_77 : Cond.methodLink RL 77 yX4_chance ∈ Ts := mT 418 rfl rfl
set_option maxRecDepth 100000 in
theorem co_RX4_168 : Cond.constantLong RX4 168 (-1) ∈ Ts := mT 422 rfl rfl
set_option maxRecDepth 100000 in
theorem ml_RX4_170 : Cond.methodLink RX4 170 yX4_power ∈ Ts := mT 423 rfl rfl
set_option maxRecDepth 100000 in
theorem ml_RL_82 : Cond.methodLink RL 82 yX4_pivot ∈ Ts := mT 426 rfl rfl
set_option maxRecDepth 100000 in
theorem ml_RL_86 : Cond.methodLink RL 86 yX4_first ∈ Ts := mT 430 rfl rfl
set_option maxRecDepth 100000 in
theorem ml_RL_90 : Cond.methodLink RL 90 yX4_sheet ∈ Ts := mT 434 rfl rfl
set_option maxRecDepth 100000 in
theorem ml_RX4_177 : Cond.methodLink RX4 177 yX4_sheetFinding ∈ Ts := mT 438 rfl rfl
set_option maxRecDepth 100000 in
theorem ml_RX4_204 : Cond.methodLink RX4 204 yX4_isSheet ∈ Ts := mT 441 rfl rfl
set_option maxRecDepth 100000 in
theorem ml_RX4_248 : Cond.methodLink RX4 248 yX4_isSort ∈ Ts := mT 444 rfl rfl
set_option maxRecDepth 100000 in
theorem in_RX2 : Cond.instantiable RX2 2 ∈ Ts := mT 447 rfl rfl
set_option maxRecDepth 100000 in
theorem cl_RX4_180 : Cond.classLink RX4 180 "[I" ∈ Ts := mT 448 rfl rfl
set_option maxRecDepth 100000 in
theorem ml_RX4_181 : Cond.methodLink RX4 181 yX2_init ∈ Ts := mT 450 rfl rfl
set_option maxRecDepth 100000 in
theorem ml_RX2_1 : Cond.methodLink RX2 1 objectInit ∈ Ts := mT 453 rfl rfl
set_option maxRecDepth 100000 in
theorem fl_RX2_7 : Cond.fieldLink RX2 7 (TX2 0).1 (TX2 0).2.1 (TX2 0).2.2.1 ∈ Ts := mT 454 rfl rfl
set_option maxRecDepth 100000 in
theorem fl_RX4_254 : Cond.fieldLink RX4 254 (TX2 0).1 (TX2 0).2.1 (TX2 0).2.2.1 ∈ Ts := mT 455 rfl rfl
set_option maxRecDepth 100000 in
theorem fl_RX2_13 : Cond.fieldLink RX2 13 (TX2 1).1 (TX2 1).2.1 (TX2 1).2.2.1 ∈ Ts := mT 456 rfl rfl
set_option maxRecDepth 100000 in
theorem fl_RX4_187 : Cond.fieldLink RX4 187 (TX2 1).1 (TX2 1).2.1 (TX2 1).2.2.1 ∈ Ts := mT 457 rfl rfl
set_option maxRecDepth 100000 in
theorem ml_RL_94 : Cond.methodLink RL 94 yX4_row ∈ Ts := mT 463 rfl rfl
set_option maxRecDepth 100000 in
theorem ml_RX4_184 : Cond.methodLink RX4 184 yX4_newRowFinding ∈ Ts := mT 467 rfl rfl
set_option maxRecDepth 100000 in
theorem ml_RX4_251 : Cond.methodLink RX4 251 yX2_hasRow ∈ Ts := mT 471 rfl rfl
set_option maxRecDepth 100000 in
theorem ml_RL_98 : Cond.methodLink RL 98 yX4_put ∈ Ts := mT 475 rfl rfl
set_option maxRecDepth 100000 in
theorem ml_RX4_190 : Cond.methodLink RX4 190 yX4_putFinding ∈ Ts := mT 479 rfl rfl
set_option maxRecDepth 100000 in
theorem ml_RX4_207 : Cond.methodLink RX4 207 yX4_rowFinding ∈ Ts := mT 483 rfl rfl
set_option maxRecDepth 100000 in
theorem ml_RX4_257 : Cond.methodLink RX4 257 yX2_holds ∈ Ts := mT 486 rfl rfl
set_option maxRecDepth 100000 in
theorem ml_RL_103 : Cond.methodLink RL 103 yX4_copy ∈ Ts := mT 490 rfl rfl
set_option maxRecDepth 100000 in
theorem ml_RX4_194 : Cond.methodLink RX4 194 yX4_copyFinding ∈ Ts := mT 494 rfl rfl
set_option maxRecDepth 100000 in
theorem ml_RX4_198 : Cond.methodLink RX4 198 arraycopyName ∈ Ts := mT 498 rfl rfl
set_option maxRecDepth 100000 in
theorem st_arraycopyName : Cond.static arraycopyName ∈ Ts := mT 499 rfl rfl
set_option maxRecDepth 100000 in
theorem na_arraycopyName : Cond.native arraycopyName ∈ Ts := mT 500 rfl rfl
set_option maxRecDepth 100000 in
theorem ml_RL_108 : Cond.methodLink RL 108 yX4_read ∈ Ts := mT 501 rfl rfl
set_option maxRecDepth 100000 in
theorem ml_RX4_211 : Cond.methodLink RX4 211 yX4_readKinds ∈ Ts := mT 505 rfl rfl
set_option maxRecDepth 100000 in
theorem ml_RX4_260 : Cond.methodLink RX4 260 Lib.Math.min.name ∈ Ts := mT 509 rfl rfl
set_option maxRecDepth 100000 in
theorem st_Lib_Math_min_name : Cond.static Lib.Math.min.name ∈ Ts := mT 510 rfl rfl
set_option maxRecDepth 100000 in
theorem co_min : Cond.code Lib.Math.min.name Lib.Math.min.code 2 (some .int) ∈ Ts := mT 511 rfl rfl
set_option maxRecDepth 100000 in
theorem ml_RX4_265 : Cond.methodLink RX4 265 yX4_kind ∈ Ts := mT 512 rfl rfl
set_option maxRecDepth 100000 in
theorem ml_RL_112 : Cond.methodLink RL 112 yX4_trace ∈ Ts := mT 513 rfl rfl
set_option maxRecDepth 100000 in
theorem ml_RL_117 : Cond.methodLink RL 117 yX4_status ∈ Ts := mT 517 rfl rfl
set_option maxRecDepth 100000 in
theorem cl_RL_10 : Cond.classLink RL 10 RX5 ∈ Ts := mT 521 rfl rfl
set_option maxRecDepth 100000 in
theorem in_RX5 : Cond.instantiable RX5 19 ∈ Ts := mT 522 rfl rfl
set_option maxRecDepth 100000 in
theorem ml_RL_12 : Cond.methodLink RL 12 yX5_init ∈ Ts := mT 523 rfl rfl
set_option maxRecDepth 100000 in
theorem ml_RX5_1 : Cond.methodLink RX5 1 objectInit ∈ Ts := mT 526 rfl rfl
set_option maxRecDepth 100000 in
theorem ml_RX5_54 : Cond.methodLink RX5 54 yX5_all ∈ Ts := mT 527 rfl rfl
set_option maxRecDepth 100000 in
theorem fl_RX5_58 : Cond.fieldLink RX5 58 (TX5 0).1 (TX5 0).2.1 (TX5 0).2.2.1 ∈ Ts := mT 531 rfl rfl
set_option maxRecDepth 100000 in
theorem fl_RX5_175 : Cond.fieldLink RX5 175 (TX5 1).1 (TX5 1).2.1 (TX5 1).2.2.1 ∈ Ts := mT 532 rfl rfl
set_option maxRecDepth 100000 in
theorem fl_RX5_110 : Cond.fieldLink RX5 110 (TX5 2).1 (TX5 2).2.1 (TX5 2).2.2.1 ∈ Ts := mT 533 rfl rfl
set_option maxRecDepth 100000 in
theorem fl_RX5_7 : Cond.fieldLink RX5 7 (TX5 3).1 (TX5 3).2.1 (TX5 3).2.2.1 ∈ Ts := mT 534 rfl rfl
set_option maxRecDepth 100000 in
theorem fl_RX5_13 : Cond.fieldLink RX5 13 (TX5 4).1 (TX5 4).2.1 (TX5 4).2.2.1 ∈ Ts := mT 535 rfl rfl
set_option maxRecDepth 100000 in
theorem fl_RX5_69 : Cond.fieldLink RX5 69 (TX5 5).1 (TX5 5).2.1 (TX5 5).2.2.1 ∈ Ts := mT 536 rfl rfl
set_option maxRecDepth 100000 in
theorem fl_RX5_16 : Cond.fieldLink RX5 16 (TX5 6).1 (TX5 6).2.1 (TX5 6).2.2.1 ∈ Ts := mT 537 rfl rfl
set_option maxRecDepth 100000 in
theorem fl_RX5_20 : Cond.fieldLink RX5 20 (TX5 7).1 (TX5 7).2.1 (TX5 7).2.2.1 ∈ Ts := mT 538 rfl rfl
set_option maxRecDepth 100000 in
theorem fl_RX5_23 : Cond.fieldLink RX5 23 (TX5 8).1 (TX5 8).2.1 (TX5 8).2.2.1 ∈ Ts := mT 539 rfl rfl
set_option maxRecDepth 100000 in
theorem fl_RX5_26 : Cond.fieldLink RX5 26 (TX5 9).1 (TX5 9).2.1 (TX5 9).2.2.1 ∈ Ts := mT 540 rfl rfl
set_option maxRecDepth 100000 in
theorem fl_RX5_30 : Cond.fieldLink RX5 30 (TX5 10).1 (TX5 10).2.1 (TX5 10).2.2.1 ∈ Ts := mT 541 rfl rfl
set_option maxRecDepth 100000 in
theorem fl_RX5_61 : Cond.fieldLink RX5 61 (TX5 11).1 (TX5 11).2.1 (TX5 11).2.2.1 ∈ Ts := mT 542 rfl rfl
set_option maxRecDepth 100000 in
theorem fl_RX5_33 : Cond.fieldLink RX5 33 (TX5 12).1 (TX5 12).2.1 (TX5 12).2.2.1 ∈ Ts := mT 543 rfl rfl
set_option maxRecDepth 100000 in
theorem fl_RX5_36 : Cond.fieldLink RX5 36 (TX5 13).1 (TX5 13).2.1 (TX5 13).2.2.1 ∈ Ts := mT 544 rfl rfl
set_option maxRecDepth 100000 in
theorem fl_RX5_39 : Cond.fieldLink RX5 39 (TX5 14).1 (TX5 14).2.1 (TX5 14).2.2.1 ∈ Ts := mT 545 rfl rfl
set_option maxRecDepth 100000 in
theorem fl_RX5_42 : Cond.fieldLink RX5 42 (TX5 15).1 (TX5 15).2.1 (TX5 15).2.2.1 ∈ Ts := mT 546 rfl rfl
set_option maxRecDepth 100000 in
theorem fl_RX5_45 : Cond.fieldLink RX5 45 (TX5 16).1 (TX5 16).2.1 (TX5 16).2.2.1 ∈ Ts := mT 547 rfl rfl
set_option maxRecDepth 100000 in
theorem fl_RX5_48 : Cond.fieldLink RX5 48 (TX5 17).1 (TX5 17).2.1 (TX5 17).2.2.1 ∈ Ts := mT 548 rfl rfl
set_option maxRecDepth 100000 in
theorem fl_RX5_51 : Cond.fieldLink RX5 51 (TX5 18).1 (TX5 18).2.1 (TX5 18).2.2.1 ∈ Ts := mT 549 rfl rfl
set_option maxRecDepth 100000 in
theorem ac_boolean : Cond.arrayClass .boolean ∈ Ts := mT 589 rfl rfl
set_option maxRecDepth 100000 in
theorem ml_RL_17 : Cond.methodLink RL 17 yX5_ground ∈ Ts := mT 590 rfl rfl
set_option maxRecDepth 100000 in
theorem ml_RX5_81 : Cond.methodLink RX5 81 yX5_in ∈ Ts := mT 594 rfl rfl
set_option maxRecDepth 100000 in
theorem ml_RX5_78 : Cond.methodLink RX5 78 yX5_things ∈ Ts := mT 597 rfl rfl
set_option maxRecDepth 100000 in
theorem ml_RX5_72 : Cond.methodLink RX5 72 yX5_places ∈ Ts := mT 601 rfl rfl
set_option maxRecDepth 100000 in
theorem ml_RX5_75 : Cond.methodLink RX5 75 yX5_roads ∈ Ts := mT 605 rfl rfl
set_option maxRecDepth 100000 in
theorem ml_RX5_65 : Cond.methodLink RX5 65 yX5_across ∈ Ts := mT 609 rfl rfl
set_option maxRecDepth 100000 in
theorem ml_RL_22 : Cond.methodLink RL 22 yX5_kind ∈ Ts := mT 613 rfl rfl
set_option maxRecDepth 100000 in
theorem ml_RX5_95 : Cond.methodLink RX5 95 yX5_becomes ∈ Ts := mT 617 rfl rfl
set_option maxRecDepth 100000 in
theorem ml_RX5_88 : Cond.methodLink RX5 88 yX5_isThing ∈ Ts := mT 621 rfl rfl
set_option maxRecDepth 100000 in
theorem ml_RX5_92 : Cond.methodLink RX5 92 yX5_isElder ∈ Ts := mT 625 rfl rfl
set_option maxRecDepth 100000 in
theorem ml_RX5_85 : Cond.methodLink RX5 85 yX5_chances ∈ Ts := mT 629 rfl rfl
set_option maxRecDepth 100000 in
theorem ml_RL_26 : Cond.methodLink RL 26 yX5_twin ∈ Ts := mT 633 rfl rfl
set_option maxRecDepth 100000 in
theorem ml_RL_30 : Cond.methodLink RL 30 yX5_about ∈ Ts := mT 637 rfl rfl
set_option maxRecDepth 100000 in
theorem ml_RX5_99 : Cond.methodLink RX5 99 yX5_numberOf ∈ Ts := mT 641 rfl rfl
set_option maxRecDepth 100000 in
theorem ml_RX5_103 : Cond.methodLink RX5 103 yX5_end ∈ Ts := mT 645 rfl rfl
set_option maxRecDepth 100000 in
theorem ml_RL_35 : Cond.methodLink RL 35 yX5_told ∈ Ts := mT 649 rfl rfl
set_option maxRecDepth 100000 in
theorem ml_RL_39 : Cond.methodLink RL 39 yX5_opens ∈ Ts := mT 653 rfl rfl
set_option maxRecDepth 100000 in
theorem ml_RX5_107 : Cond.methodLink RX5 107 yX5_isSetting ∈ Ts := mT 657 rfl rfl
set_option maxRecDepth 100000 in
theorem co_RX5_114 : Cond.constantLong RX5 114 (11) ∈ Ts := mT 661 rfl rfl
set_option maxRecDepth 100000 in
theorem co_RX5_116 : Cond.constantLong RX5 116 (111) ∈ Ts := mT 662 rfl rfl
set_option maxRecDepth 100000 in
theorem co_RX5_118 : Cond.constantLong RX5 118 (1111) ∈ Ts := mT 663 rfl rfl
set_option maxRecDepth 100000 in
theorem co_RX5_120 : Cond.constantLong RX5 120 (11111) ∈ Ts := mT 664 rfl rfl
set_option maxRecDepth 100000 in
theorem ml_RX5_122 : Cond.methodLink RX5 122 yX5_opensBy ∈ Ts := mT 665 rfl rfl
set_option maxRecDepth 100000 in
theorem ml_RL_43 : Cond.methodLink RL 43 yX5_through ∈ Ts := mT 669 rfl rfl
set_option maxRecDepth 100000 in
theorem ml_RX5_138 : Cond.methodLink RX5 138 yX5_needWays ∈ Ts := mT 673 rfl rfl
set_option maxRecDepth 100000 in
theorem ml_RX5_132 : Cond.methodLink RX5 132 yX5_joins ∈ Ts := mT 677 rfl rfl
set_option maxRecDepth 100000 in
theorem ml_RX5_126 : Cond.methodLink RX5 126 yX5_root ∈ Ts := mT 681 rfl rfl
set_option maxRecDepth 100000 in
theorem ml_RX5_135 : Cond.methodLink RX5 135 yX5_isThrough ∈ Ts := mT 685 rfl rfl
set_option maxRecDepth 100000 in
theorem ml_RX5_129 : Cond.methodLink RX5 129 yX5_heapOf ∈ Ts := mT 689 rfl rfl
set_option maxRecDepth 100000 in
theorem ml_RX5_141 : Cond.methodLink RX5 141 yX5_is ∈ Ts := mT 693 rfl rfl
set_option maxRecDepth 100000 in
theorem ml_RL_47 : Cond.methodLink RL 47 yX5_wall ∈ Ts := mT 697 rfl rfl
set_option maxRecDepth 100000 in
theorem ml_RX5_151 : Cond.methodLink RX5 151 yX5_isWall ∈ Ts := mT 701 rfl rfl
set_option maxRecDepth 100000 in
theorem ml_RX5_144 : Cond.methodLink RX5 144 yX5_roadRight ∈ Ts := mT 705 rfl rfl
set_option maxRecDepth 100000 in
theorem ml_RX5_148 : Cond.methodLink RX5 148 yX5_roadDown ∈ Ts := mT 709 rfl rfl
set_option maxRecDepth 100000 in
theorem ml_RL_51 : Cond.methodLink RL 51 yX5_heap ∈ Ts := mT 713 rfl rfl
set_option maxRecDepth 100000 in
theorem ml_RX5_155 : Cond.methodLink RX5 155 yX5_isPlace ∈ Ts := mT 717 rfl rfl
set_option maxRecDepth 100000 in
theorem ml_RL_55 : Cond.methodLink RL 55 yX5_heaps ∈ Ts := mT 721 rfl rfl
set_option maxRecDepth 100000 in
theorem ml_RX5_158 : Cond.methodLink RX5 158 yX5_heapCount ∈ Ts := mT 725 rfl rfl
set_option maxRecDepth 100000 in
theorem ml_RX5_161 : Cond.methodLink RX5 161 yX5_sizeOf ∈ Ts := mT 729 rfl rfl
set_option maxRecDepth 100000 in
theorem ml_RL_59 : Cond.methodLink RL 59 yX5_count ∈ Ts := mT 733 rfl rfl
set_option maxRecDepth 100000 in
theorem ml_RX5_167 : Cond.methodLink RX5 167 yX5_isSize ∈ Ts := mT 737 rfl rfl
set_option maxRecDepth 100000 in
theorem ml_RX5_170 : Cond.methodLink RX5 170 yX5_countOf ∈ Ts := mT 741 rfl rfl
set_option maxRecDepth 100000 in
theorem ml_RX5_164 : Cond.methodLink RX5 164 yX5_bits ∈ Ts := mT 745 rfl rfl
set_option maxRecDepth 100000 in
theorem ml_RL_63 : Cond.methodLink RL 63 yX5_walls ∈ Ts := mT 748 rfl rfl
set_option maxRecDepth 100000 in
theorem ml_RL_68 : Cond.methodLink RL 68 yX5_joined ∈ Ts := mT 752 rfl rfl
set_option maxRecDepth 100000 in
theorem ml_RL_72 : Cond.methodLink RL 72 yX5_sized ∈ Ts := mT 756 rfl rfl
set_option maxRecDepth 100000 in
theorem ml_RL_76 : Cond.methodLink RL 76 yX5_heapSum ∈ Ts := mT 760 rfl rfl
set_option maxRecDepth 100000 in
theorem ml_RL_81 : Cond.methodLink RL 81 yX5_chance ∈ Ts := mT 764 rfl rfl
set_option maxRecDepth 100000 in
theorem co_RX5_173 : Cond.constantLong RX5 173 (-1) ∈ Ts := mT 768 rfl rfl
set_option maxRecDepth 100000 in
theorem ml_RL_85 : Cond.methodLink RL 85 yX5_pivot ∈ Ts := mT 769 rfl rfl
set_option maxRecDepth 100000 in
theorem ml_RL_89 : Cond.methodLink RL 89 yX5_first ∈ Ts := mT 773 rfl rfl
set_option maxRecDepth 100000 in
theorem ml_RL_93 : Cond.methodLink RL 93 yX5_sheet ∈ Ts := mT 777 rfl rfl
set_option maxRecDepth 100000 in
theorem ml_RX5_178 : Cond.methodLink RX5 178 yX5_no ∈ Ts := mT 781 rfl rfl
set_option maxRecDepth 100000 in
theorem ml_RL_97 : Cond.methodLink RL 97 yX5_row ∈ Ts := mT 785 rfl rfl
set_option maxRecDepth 100000 in
theorem ml_RL_102 : Cond.methodLink RL 102 yX5_put ∈ Ts := mT 789 rfl rfl
set_option maxRecDepth 100000 in
theorem ml_RL_107 : Cond.methodLink RL 107 yX5_copy ∈ Ts := mT 793 rfl rfl
set_option maxRecDepth 100000 in
theorem ml_RX5_181 : Cond.methodLink RX5 181 yX5_areThere ∈ Ts := mT 797 rfl rfl
set_option maxRecDepth 100000 in
theorem ml_RL_111 : Cond.methodLink RL 111 yX5_read ∈ Ts := mT 800 rfl rfl
set_option maxRecDepth 100000 in
theorem ml_RL_116 : Cond.methodLink RL 116 yX5_trace ∈ Ts := mT 804 rfl rfl
set_option maxRecDepth 100000 in
theorem ml_RL_121 : Cond.methodLink RL 121 yX5_status ∈ Ts := mT 808 rfl rfl
set_option maxRecDepth 100000 in
theorem nl_RX4_9 : ∀ U, NW U → va_Nw (.methodLinkNest RX4 9 yX1_init RX4) U := fun _ h => h.1
set_option maxRecDepth 100000 in
theorem nl_RX4_27 : ∀ U, NW U → va_Nw (.methodLinkNest RX4 27 yX0_init RX4) U := fun _ h => h.2.1
set_option maxRecDepth 100000 in
theorem nl_RX1_46 : ∀ U, NW U → va_Nw (.methodLinkNest RX1 46 yX4_has RX4) U := fun _ h => h.2.2.1
set_option maxRecDepth 100000 in
theorem nl_RX3_54 : ∀ U, NW U → va_Nw (.methodLinkNest RX3 54 yX4_has RX4) U := fun _ h => h.2.2.2.1
set_option maxRecDepth 100000 in
theorem nl_RX0_27 : ∀ U, NW U → va_Nw (.methodLinkNest RX0 27 yX4_has RX4) U := fun _ h => h.2.2.2.2
end
section
/-! words for answers -/
abbrev Rs (v : Option Value) (w : va_W) : Option Value → va_W → Prop := fun v' w' => v' = v ∧ w = w'
def ush (x y : Int32) : Int32 := (x.toUInt32 >>> (y.toUInt32 &&& Int32.toUInt32 31)).toInt32
def lush (x : Int64) (y : Int32) : Int64 := (x.toUInt64 >>> (y.toInt64.toUInt64 &&& Int64.toUInt64 63)).toInt64
def lsh (x : Int64) (y : Int32) : Int64 := x <<< (y.toInt64 &&& 63)
def bI (b : Bool) : Int32 := if b then 1 else 0
theorem bI_01 (b : Bool) : bI b = 0 ∨ bI b = 1 := by cases b <;> simp [bI]
theorem bI_0 {b : Bool} : bI b = 0 ↔ b = false := by cases b <;> simp [bI]
theorem bI_n0 {b : Bool} : ¬ bI b = 0 ↔ b = true := by cases b <;> simp [bI]
theorem bI_1 {b : Bool} : bI b = 1 ↔ b = true := by cases b <;> simp [bI]
/-- least <= x && x <= most -/
def wiB (x a b : Int32) : Bool := decide (a ≤ x ∧ x ≤ b)
theorem wi_iff {x a b : Int32} : wiB x a b = true ↔ a ≤ x ∧ x ≤ b := by simp [wiB]
theorem i_nlt {a b : Int32} : ¬ a < b ↔ b ≤ a := Int32.not_lt
theorem i_nle {a b : Int32} : ¬ a ≤ b ↔ b < a := Int32.not_le
theorem wi_lo {x a b : Int32} (h : x < a) : wiB x a b = false := by simp [wiB, Int32.not_le.mpr h]
theorem wi_hi {x a b : Int32} (h : b < x) : wiB x a b = false := by simp [wiB, Int32.not_le.mpr h]
theorem wi_yes {x a b : Int32} (h1 : ¬ x < a) (h2 : ¬ b < x) : wiB x a b = true := by simp [wiB, Int32.not_lt.mp h1, Int32.not_lt.mp h2]
def hasB (mask m : Int32) : Bool := decide (ush mask m &&& 1 = 1)
/-! cells by their names -/
abbrev aI (g : Gx) (n : Nat) (f : Nat → Int32) : va_E := .inl (gI g, n, .inl f)
abbrev aJ (g : Gx) (n : Nat) (f : Nat → Int64) : va_E := .inl (gJ g, n, .inr (.inl f))
abbrev aZ (g : Gx) (n : Nat) (f : Nat → Int32) : va_E := .inl (gZ g, n, .inl f)
abbrev aS (g : Gx) (n : Nat) (f : Nat → Option Nat) : va_E := .inl (gS g, n, .inr (.inr (.inr (.inr f))))
abbrev aR (g : Gx) (n : Nat) (f : Nat → Option Nat) : va_E := .inl (gR g, n, .inr (.inr (.inr (.inr f))))
abbrev oGrid (r c ce ri dn : Int32) : va_E := .inr (0, [.int r, .int c, .int ce, .int ri, .int dn])
abbrev oPlan (r c o t ap rr rd : Int32) (sl : Nat) : va_E := .inr (1, [.int r, .int c, .int o, .int t, .int ap, .int rr, .int rd, .ref sl])
abbrev oSheet (s : Int32) (a : Nat) : va_E := .inr (2, [.int s, .ref a])
theorem vp_nar_bI (b : Bool) : vp_nar .boolean (bI b) = bI b := by cases b <;> rfl
section LY4
variable {φ : Fx} {g0 : Gx} {y : MethodName} {cc : ByteArray} {nL0 fr lo mc ms k n pc : Nat} {w : va_W} {L : List (Nat × Value)} {rest : List Value}
theorem X_ialdN (C : Cx φ g0 y cc nL0 fr lo mc ms) (q0 : Nat) {a len : Nat} {f : Nat → Int32} {i : Nat} (ha : w[q0]? = some (a, aI g0 len f)) (hi : i < len) (hl : len < 2 ^ 31) (d : decode cc pc = .ok (.iaload, 1)) (kk : X φ k n w L (pc + 1) (.int (f i) :: rest)) : X φ k n w L pc (.int (nI i) :: .ref a :: rest) :=
  X_iald C q0 ha (vp_in_nI hi hl) d (by rw [nI_clamp (Nat.lt_trans hi hl)]; exact kk)
theorem X_zaldN (C : Cx φ g0 y cc nL0 fr lo mc ms) (q0 : Nat) {a len : Nat} {f : Nat → Int32} {i : Nat} (ha : w[q0]? = some (a, aZ g0 len f)) (hi : i < len) (hl : len < 2 ^ 31) (d : decode cc pc = .ok (.baload, 1)) (kk : X φ k n w L (pc + 1) (.int (f i) :: rest)) : X φ k n w L pc (.int (nI i) :: .ref a :: rest) :=
  X_zald C q0 ha (vp_in_nI hi hl) d (by rw [nI_clamp (Nat.lt_trans hi hl)]; exact kk)
theorem X_laldN (C : Cx φ g0 y cc nL0 fr lo mc ms) (q0 : Nat) {a len : Nat} {f : Nat → Int64} {i : Nat} (ha : w[q0]? = some (a, aJ g0 len f)) (hi : i < len) (hl : len < 2 ^ 31) (d : decode cc pc = .ok (.laload, 1)) (kk : X φ k n w L (pc + 1) (.long (f i) :: rest)) : X φ k n w L pc (.int (nI i) :: .ref a :: rest) :=
  X_lald C q0 ha (vp_in_nI hi hl) d (by rw [nI_clamp (Nat.lt_trans hi hl)]; exact kk)
theorem X_iastN (C : Cx φ g0 y cc nL0 fr lo mc ms) (q0 : Nat) {a len : Nat} {f : Nat → Int32} {i : Nat} {x : Int32} {w' : va_W} (ha : w[q0]? = some (a, aI g0 len f)) (hi : i < len) (hl : len < 2 ^ 31) (d : decode cc pc = .ok (.iastore, 1)) (hw : w.set q0 (a, aI g0 len (upd f i x)) = w') (kk : X φ k n w' L (pc + 1) rest) : X φ k n w L pc (.int x :: .int (nI i) :: .ref a :: rest) :=
  X_iast C q0 ha (vp_in_nI hi hl) d (by rw [nI_clamp (Nat.lt_trans hi hl)]; exact hw) kk
theorem X_zastN (C : Cx φ g0 y cc nL0 fr lo mc ms) (q0 : Nat) {a len : Nat} {f : Nat → Int32} {i : Nat} {b : Bool} {w' : va_W} (ha : w[q0]? = some (a, aZ g0 len f)) (hi : i < len) (hl : len < 2 ^ 31) (d : decode cc pc = .ok (.bastore, 1)) (hw : w.set q0 (a, aZ g0 len (upd f i (bI b))) = w') (kk : X φ k n w' L (pc + 1) rest) : X φ k n w L pc (.int (bI b) :: .int (nI i) :: .ref a :: rest) :=
  X_zast C q0 ha (vp_in_nI hi hl) d (by rw [nI_clamp (Nat.lt_trans hi hl), vp_nar_bI]; exact hw) kk
theorem X_lastN (C : Cx φ g0 y cc nL0 fr lo mc ms) (q0 : Nat) {a len : Nat} {f : Nat → Int64} {i : Nat} {x : Int64} {w' : va_W} (ha : w[q0]? = some (a, aJ g0 len f)) (hi : i < len) (hl : len < 2 ^ 31) (d : decode cc pc = .ok (.lastore, 1)) (hw : w.set q0 (a, aJ g0 len (vp_updL f i x)) = w') (kk : X φ k n w' L (pc + 1) rest) : X φ k n w L pc (.long x :: .int (nI i) :: .ref a :: rest) :=
  X_last C q0 ha (vp_in_nI hi hl) d (by rw [nI_clamp (Nat.lt_trans hi hl)]; exact hw) kk
/-- a value by another name -/
theorem X_v {x z : Int32} (h : x = z) (kk : X φ k n w L pc (.int z :: rest)) : X φ k n w L pc (.int x :: rest) := h ▸ kk
theorem X_v2 {x z : Int32} {v : Value} (h : x = z) (kk : X φ k n w L pc (v :: .int z :: rest)) : X φ k n w L pc (v :: .int x :: rest) := h ▸ kk
theorem X_eq {w' : va_W} {L' : List (Nat × Value)} {st st' : List Value} (h1 : w = w') (h2 : L = L') (h3 : st = st') (kk : X φ k n w' L' pc st') : X φ k n w L pc st := by subst h1; subst h2; subst h3; exact kk
end LY4
/-! the answers of the small methods -/
def lineF (fr st : Int32) : Nat → Int32
  | 0 => 0
  | i + 1 => lineF fr st i ||| ((1 : Int32) <<< ((fr + nI i * st) &&& 31))
def wdF (ri dn c r : Int32) : Int32 := r ||| ((r &&& ri) <<< ((1 : Int32) &&& 31)) ||| (ush r 1 &&& ri) ||| ((r &&& dn) <<< (c &&& 31)) ||| (ush r c &&& dn)
def itF (f : Int32 → Int32) : Nat → Int32 → Int32
  | 0, x => x
  | n + 1, x => itF f n (f x)
theorem itF_fix {f : Int32 → Int32} {x : Int32} (h : f x = x) : ∀ n, itF f n x = x
  | 0 => rfl
  | n + 1 => by rw [itF, h]; exact itF_fix h n
def spF (c ce ri dn fr : Int32) : Int32 := itF (wdF ri dn c) 25 (fr &&& ce)
def bcJ (x : Int32) : Int32 :=
  let x1 := x - (ush x 1 &&& 1431655765)
  let x2 := (x1 &&& 858993459) + (ush x1 2 &&& 858993459)
  let x3 := (x2 + ush x2 4) &&& 252645135
  let x4 := x3 + ush x3 8
  let x5 := x4 + ush x4 16
  x5 &&& 63
theorem itF_succ {f : Int32 → Int32} : ∀ (n : Nat) (x : Int32), itF f (n + 1) x = f (itF f n x)
  | 0, _ => rfl
  | n + 1, x => itF_succ n (f x)
theorem itF_add {f : Int32 → Int32} : ∀ (m n : Nat) (x : Int32), itF f (m + n) x = itF f n (itF f m x)
  | 0, n, x => by rw [Nat.zero_add]; rfl
  | m + 1, n, x => by rw [Nat.succ_add]; exact itF_add m n (f x)
theorem itF_stop {f : Int32 → Int32} {i N : Nat} {x : Int32} (h : f (itF f i x) = itF f i x) (hi : i ≤ N) : itF f N x = itF f i x := by
  obtain ⟨j, rfl⟩ := Nat.exists_eq_add_of_le hi
  rw [itF_add, itF_fix h]
theorem nI_sub1 {a : Nat} (h : 1 ≤ a) : nI a - 1 = nI (a - 1) := pk_sub (b := 1) h
def crF (R C : Nat) (ce ri dn way : Int32) : Bool := if way = 0 then decide (¬ (spF (nI C) ce ri dn (lineF 0 (nI C) R) &&& lineF (nI C - 1) (nI C) R) = 0) else decide (¬ (spF (nI C) ce ri dn (lineF 0 1 C) &&& lineF ((nI R - 1) * nI C) 1 C) = 0)
def haF (c ce ri dn x : Int32) : Int32 := spF c ce ri dn ((1 : Int32) <<< (x &&& 31))
def hcF (c ce ri dn : Int32) : Nat → Int32 × Int32
  | 0 => (ce, 0)
  | i + 1 => if hasB (hcF c ce ri dn i).1 (nI i) = true then ((hcF c ce ri dn i).1 &&& (haF c ce ri dn (nI i) ^^^ (-1)), (hcF c ce ri dn i).2 + 1) else hcF c ce ri dn i
theorem hc_y {c ce ri dn : Int32} {i : Nat} (h : hasB (hcF c ce ri dn i).1 (nI i) = true) : hcF c ce ri dn (i + 1) = ((hcF c ce ri dn i).1 &&& (haF c ce ri dn (nI i) ^^^ (-1)), (hcF c ce ri dn i).2 + 1) := by rw [hcF, if_pos h]
theorem hc_n {c ce ri dn : Int32} {i : Nat} (h : hasB (hcF c ce ri dn i).1 (nI i) = false) : hcF c ce ri dn (i + 1) = hcF c ce ri dn i := by rw [hcF, if_neg (by rw [h]; decide)]
def ghF (c ce ri dn : Int32) : Nat → Int32
  | 0 => 0
  | i + 1 => if ghF c ce ri dn i < bcJ (haF c ce ri dn (nI i)) then bcJ (haF c ce ri dn (nI i)) else ghF c ce ri dn i
def lbDc (sr : Int32) (gc r : Nat) (d0 : Int32) : Nat → Int32
  | 0 => d0
  | c + 1 => if hasB sr (nI r * nI gc + nI c) = true then lbDc sr gc r d0 c ||| ((1 : Int32) <<< ((nI r * nI (gc - 1) + nI c) &&& 31)) else lbDc sr gc r d0 c
def lbD (sr : Int32) (gc : Nat) : Nat → Int32
  | 0 => 0
  | r + 1 => lbDc sr gc r (lbD sr gc r) (gc - 1)
def lbRc (sd : Int32) (gc r : Nat) (d0 : Int32) : Nat → Int32
  | 0 => d0
  | c + 1 => if c + 2 < gc ∧ hasB sd (nI r * nI gc + nI c + 1) = true then lbRc sd gc r d0 c ||| ((1 : Int32) <<< (((nI r + 1) * nI (gc - 1) + nI c) &&& 31)) else lbRc sd gc r d0 c
def lbR (sd : Int32) (gc : Nat) : Nat → Int32
  | 0 => 0
  | r + 1 => lbRc sd gc r (lbR sd gc r) (gc - 1)
theorem lbD_y {sr d0 : Int32} {gc r c : Nat} (h : hasB sr (nI r * nI gc + nI c) = true) : lbDc sr gc r d0 (c + 1) = lbDc sr gc r d0 c ||| ((1 : Int32) <<< ((nI r * nI (gc - 1) + nI c) &&& 31)) := by rw [lbDc, if_pos h]
theorem lbD_n {sr d0 : Int32} {gc r c : Nat} (h : hasB sr (nI r * nI gc + nI c) = false) : lbDc sr gc r d0 (c + 1) = lbDc sr gc r d0 c := by rw [lbDc, if_neg (by rw [h]; decide)]
theorem lbR_y {sd d0 : Int32} {gc r c : Nat} (h1 : c + 2 < gc) (h : hasB sd (nI r * nI gc + nI c + 1) = true) : lbRc sd gc r d0 (c + 1) = lbRc sd gc r d0 c ||| ((1 : Int32) <<< (((nI r + 1) * nI (gc - 1) + nI c) &&& 31)) := by rw [lbRc, if_pos ⟨h1, h⟩]
theorem lbR_n {sd d0 : Int32} {gc r c : Nat} (h : hasB sd (nI r * nI gc + nI c + 1) = false) : lbRc sd gc r d0 (c + 1) = lbRc sd gc r d0 c := by rw [lbRc, if_neg (fun q => by rw [h] at q; exact absurd q.2 (by decide))]
theorem lbR_o {sd d0 : Int32} {gc r c : Nat} (h : ¬ c + 2 < gc) : lbRc sd gc r d0 (c + 1) = lbRc sd gc r d0 c := by rw [lbRc, if_neg (fun q => h q.1)]
abbrev oThings (pl ki el nu : Nat) (ch : Int32) (al : Int64) (wa wo : Nat) : va_E := .inr (3, [.ref pl, .ref ki, .ref el, .ref nu, .int ch, .long al, .ref wa, .ref wo])
abbrev oMain (pl th pg ga sh : Nat) (asked : Int64) (fi : Int32) : va_E := .inr (4, [.ref pl, .ref th, .ref pg, .ref ga, .ref sh, .long asked, .int fi])
theorem lw_self {w : va_W} {q : Nat} {x : Nat × va_E} (y : Nat × va_E) (h : w[q]? = some x) : (w.set q y)[q]? = some y := by
  have hl := (List.getElem?_eq_some_iff.mp h).1
  rw [List.getElem?_set_self hl]
theorem lw_id {w : va_W} {q : Nat} {x : Nat × va_E} (h : w[q]? = some x) : w = w.set q x := by
  obtain ⟨hl, e⟩ := List.getElem?_eq_some_iff.mp h
  rw [← e, List.set_getElem_self]
theorem upd2 (f : Nat → Int32) (i : Nat) (x z : Int32) : upd (upd f i x) i z = upd f i z := by funext j; by_cases h : j = i <;> simp [upd, h]
def fiF {α : Type} (f : Nat → α) (x : α) (i : Nat) : Nat → α := fun j => if j < i then x else f j
theorem fiF_0 {α : Type} (f : Nat → α) (x : α) : fiF f x 0 = f := by funext j; simp [fiF]
theorem fiF_s (f : Nat → Int32) (x : Int32) (i : Nat) : upd (fiF f x i) i x = fiF f x (i + 1) := by
  funext j
  by_cases h : j = i
  · subst h; simp [upd, fiF]
  · simp only [upd, fiF, if_neg h]
    by_cases h2 : j < i
    · rw [if_pos h2, if_pos (by omega)]
    · rw [if_neg h2, if_neg (by omega)]
theorem fiF_sL (f : Nat → Int64) (x : Int64) (i : Nat) : vp_updL (fiF f x i) i x = fiF f x (i + 1) := by
  funext j
  by_cases h : j = i
  · subst h; simp [vp_updL, fiF]
  · simp only [vp_updL, fiF, if_neg h]
    by_cases h2 : j < i
    · rw [if_pos h2, if_pos (by omega)]
    · rw [if_neg h2, if_neg (by omega)]
def co2 (C r : Nat) (m0 : Int32) : Nat → Int32
  | 0 => m0
  | c + 1 => co2 C r m0 c ||| ((1 : Int32) <<< ((nI r * nI C + nI c) &&& 31))
def coF (C wd : Nat) : Nat → Int32
  | 0 => 0
  | r + 1 => co2 C r (coF C wd r) wd
def ex2 (m : Int32) (R C r : Nat) (t0 : Int32) : Nat → Int32
  | 0 => t0
  | c + 1 => if hasB m (nI r * nI C + nI c) = true then ex2 m R C r t0 c ||| ((1 : Int32) <<< ((nI c * nI R + nI r) &&& 31)) else ex2 m R C r t0 c
def exF (m : Int32) (R C : Nat) : Nat → Int32
  | 0 => 0
  | r + 1 => ex2 m R C r (exF m R C r) C
theorem ex2_y {m t0 : Int32} {R C r c : Nat} (h : hasB m (nI r * nI C + nI c) = true) : ex2 m R C r t0 (c + 1) = ex2 m R C r t0 c ||| ((1 : Int32) <<< ((nI c * nI R + nI r) &&& 31)) := by rw [ex2, if_pos h]
theorem ex2_n {m t0 : Int32} {R C r c : Nat} (h : hasB m (nI r * nI C + nI c) = false) : ex2 m R C r t0 (c + 1) = ex2 m R C r t0 c := by rw [ex2, if_neg (by rw [h]; decide)]
def adF (mask base : Int32) (s0 : Nat → Int32) (t0 : Nat) : Nat → (Nat → Int32) × Nat
  | 0 => (s0, t0)
  | p + 1 => if hasB mask (nI p) = true ∧ (adF mask base s0 t0 p).2 < 40 then (upd (adF mask base s0 t0 p).1 (adF mask base s0 t0 p).2 (base + nI p), (adF mask base s0 t0 p).2 + 1) else adF mask base s0 t0 p
theorem ad_le {mask base : Int32} {s0 : Nat → Int32} {t0 : Nat} (h : t0 ≤ 40) : ∀ p, (adF mask base s0 t0 p).2 ≤ 40
  | 0 => h
  | p + 1 => by
    have ih := ad_le (mask := mask) (base := base) (s0 := s0) h p
    rw [adF]
    by_cases hc : hasB mask (nI p) = true ∧ (adF mask base s0 t0 p).2 < 40
    · rw [if_pos hc]; exact hc.2
    · rw [if_neg hc]; exact ih
theorem ad_y {mask base : Int32} {s0 : Nat → Int32} {t0 p : Nat} (h : hasB mask (nI p) = true) (h2 : (adF mask base s0 t0 p).2 < 40) : adF mask base s0 t0 (p + 1) = (upd (adF mask base s0 t0 p).1 (adF mask base s0 t0 p).2 (base + nI p), (adF mask base s0 t0 p).2 + 1) := by rw [adF, if_pos ⟨h, h2⟩]
theorem ad_n {mask base : Int32} {s0 : Nat → Int32} {t0 p : Nat} (h : hasB mask (nI p) = false) : adF mask base s0 t0 (p + 1) = adF mask base s0 t0 p := by rw [adF, if_neg (fun q => by rw [h] at q; exact absurd q.1 (by decide))]
theorem ad_o {mask base : Int32} {s0 : Nat → Int32} {t0 p : Nat} (h : ¬ (adF mask base s0 t0 p).2 < 40) : adF mask base s0 t0 (p + 1) = adF mask base s0 t0 p := by rw [adF, if_neg (fun q => h q.2)]
def ctF (kinds : Nat → Int32) : Nat → Nat
  | 0 => 0
  | i + 1 => if kinds i = 2 then ctF kinds i + 1 else ctF kinds i
theorem ct_le (kinds : Nat → Int32) : ∀ i, ctF kinds i ≤ i
  | 0 => Nat.le_refl 0
  | i + 1 => by
    have := ct_le kinds i
    rw [ctF]; split <;> omega
theorem ct_y {kinds : Nat → Int32} {i : Nat} (h : kinds i = 2) : ctF kinds (i + 1) = ctF kinds i + 1 := by rw [ctF, if_pos h]
theorem ct_n {kinds : Nat → Int32} {i : Nat} (h : ¬ kinds i = 2) : ctF kinds (i + 1) = ctF kinds i := by rw [ctF, if_neg h]
def nuF (kinds s0 : Nat → Int32) : Nat → Nat → Int32
  | 0 => s0
  | i + 1 => upd (nuF kinds s0 i) i (if kinds i = 2 then nI (ctF kinds i) else (-9))
theorem nu_y {kinds s0 : Nat → Int32} {i : Nat} (h : kinds i = 2) : upd (upd (nuF kinds s0 i) i (-9)) i (nI (ctF kinds i)) = nuF kinds s0 (i + 1) := by rw [nuF, if_pos h, upd2]
theorem nu_n {kinds s0 : Nat → Int32} {i : Nat} (h : ¬ kinds i = 2) : upd (nuF kinds s0 i) i (-9) = nuF kinds s0 (i + 1) := by rw [nuF, if_neg h]
def s1A (kinds : Nat → Int32) (t : Nat) (sl al : Int64) : Int64 := if kinds t = 1 then al ||| sl else al
def s1W (kinds elders numbers : Nat → Int32) (t : Nat) (sl : Int64) (wa : Nat → Int64) : Nat → Int64 := if kinds t = 2 then vp_updL wa (numbers t).toNatClampNeg (wa (numbers t).toNatClampNeg ||| sl) else if kinds t = 3 then vp_updL wa (numbers (elders t).toNatClampNeg).toNatClampNeg (wa (numbers (elders t).toNatClampNeg).toNatClampNeg ||| sl) else wa
def s1O (kinds elders numbers : Nat → Int32) (t : Nat) (sl : Int64) (wo : Nat → Int64) : Nat → Int64 := if kinds t = 4 then vp_updL wo (numbers (elders t).toNatClampNeg).toNatClampNeg (wo (numbers (elders t).toNatClampNeg).toNatClampNeg ||| sl) else wo
def seA (kinds slots : Nat → Int32) : Nat → Int64
  | 0 => 0
  | i + 1 => s1A kinds i (lsh 1 (slots i)) (seA kinds slots i)
def seW (kinds elders numbers slots : Nat → Int32) (f : Nat → Int64) : Nat → Nat → Int64
  | 0 => f
  | i + 1 => s1W kinds elders numbers i (lsh 1 (slots i)) (seW kinds elders numbers slots f i)
def seO (kinds elders numbers slots : Nat → Int32) (f : Nat → Int64) : Nat → Nat → Int64
  | 0 => f
  | i + 1 => s1O kinds elders numbers i (lsh 1 (slots i)) (seO kinds elders numbers slots f i)
/-- a thing is of a kind, and where its number stands is told -/
def tOK (kinds elders numbers : Nat → Int32) (t : Nat) : Prop := kinds t = 0 ∨ kinds t = 1 ∨ (kinds t = 2 ∧ ∃ j, j < 12 ∧ numbers t = nI j) ∨ (kinds t = 3 ∧ ∃ e, e < 40 ∧ elders t = nI e ∧ ∃ j, j < 12 ∧ numbers e = nI j) ∨ (kinds t = 4 ∧ ∃ e, e < 40 ∧ elders t = nI e ∧ ∃ j, j < 12 ∧ numbers e = nI j)
def opF (al : Int64) (wa wo : Nat → Int64) (se : Int32) : Nat → Int64
  | 0 => al
  | i + 1 => opF al wa wo se i ||| (if hasB se (nI i) = true then wa i else wo i)
theorem op_y {al : Int64} {wa wo : Nat → Int64} {se : Int32} {i : Nat} (h : hasB se (nI i) = true) : opF al wa wo se (i + 1) = opF al wa wo se i ||| wa i := by rw [opF, if_pos h]
theorem op_n {al : Int64} {wa wo : Nat → Int64} {se : Int32} {i : Nat} (h : hasB se (nI i) = false) : opF al wa wo se (i + 1) = opF al wa wo se i ||| wo i := by rw [opF, if_neg (by rw [h]; decide)]
/-- some one has this elder -/
def ieB (elders : Nat → Int32) (x : Int32) : Nat → Bool
  | 0 => false
  | i + 1 => ieB elders x i || decide (elders i = x)
def yoF (elders : Nat → Int32) : Nat → Int32
  | 0 => 0
  | i + 1 => if elders i = -9 then yoF elders i else yoF elders i + 1
theorem ie_yes {elders : Nat → Int32} {x : Int32} {i : Nat} : ∀ {T : Nat}, i < T → elders i = x → ieB elders x T = true
  | 0, h, _ => absurd h (Nat.not_lt_zero i)
  | T + 1, h, e => by
    rw [ieB]
    rcases Nat.lt_or_ge i T with q | q
    · rw [ie_yes q e]; rfl
    · have : i = T := by omega
      subst this
      rw [decide_eq_true e]; simp
def plF (R C : Nat) (op : Bool) (slots : Nat → Int32) : (Nat → Int32) × Nat := if op = true then adF (coF C C R) 0 slots 0 25 else adF (coF C C (R - 1)) 32 (adF (coF C (C - 1) R) 0 slots 0 25).1 (adF (coF C (C - 1) R) 0 slots 0 25).2 25
theorem plF_t {R C : Nat} {op : Bool} {slots : Nat → Int32} (h : op = true) : plF R C op slots = adF (coF C C R) 0 slots 0 25 := by rw [plF, if_pos h]
theorem plF_f {R C : Nat} {op : Bool} {slots : Nat → Int32} (h : op = false) : plF R C op slots = adF (coF C C (R - 1)) 32 (adF (coF C (C - 1) R) 0 slots 0 25).1 (adF (coF C (C - 1) R) 0 slots 0 25).2 25 := by rw [plF, if_neg (by rw [h]; decide)]
theorem pl_le {R C : Nat} {op : Bool} {slots : Nat → Int32} : (plF R C op slots).2 ≤ 40 := by
  cases op
  · rw [plF_f rfl]; exact ad_le (ad_le (Nat.zero_le _) _) _
  · rw [plF_t rfl]; exact ad_le (Nat.zero_le _) _
end
section
set_option maxRecDepth 20000 in
set_option maxHeartbeats 400000 in
theorem c_isWithin (g : Gx) (w : va_W) (x a b : Int32) : Con g yX4_isWithin cX4_isWithin 3 (some .boolean) 0 0 0 0 [.int x, .int a, .int b] w (Rs (some (.int (bI (wiB x a b)))) w) := by
  refine Con.ofZ (by decide +kernel) (Nat.le_of_ble_eq_true rfl) (fun φ K0 hr => ?_)
  show X φ 0 0 w [(0, .int x), (1, .int a), (2, .int b)] 0 []
  refine X_iload_n K0 1 dX4_isWithin_0 rfl rfl ?_
  refine X_iload_n K0 0 dX4_isWithin_1 rfl rfl ?_
  refine X_icmp_gt K0 14 dX4_isWithin_2 (by decide) (fun h2 => ?_) (fun h2 => ?_)
  · refine X_iconst (v := 0) K0 dX4_isWithin_14 (by decide) ?_
    exact hr _ _ _ _ ⟨by first | (rw [wi_lo (by assumption)]; rfl) | (rw [wi_hi (by assumption)]; rfl) | (rw [wi_yes (by assumption) (by assumption)]; rfl), rfl⟩ (by first | exact Or.inl rfl | exact Or.inr rfl) dX4_isWithin_15
  · refine X_iload_n K0 0 dX4_isWithin_5 rfl rfl ?_
    refine X_iload_n K0 2 dX4_isWithin_6 rfl rfl ?_
    refine X_icmp_gt K0 14 dX4_isWithin_7 (by decide) (fun h7 => ?_) (fun h7 => ?_)
    · refine X_iconst (v := 0) K0 dX4_isWithin_14 (by decide) ?_
      exact hr _ _ _ _ ⟨by first | (rw [wi_lo (by assumption)]; rfl) | (rw [wi_hi (by assumption)]; rfl) | (rw [wi_yes (by assumption) (by assumption)]; rfl), rfl⟩ (by first | exact Or.inl rfl | exact Or.inr rfl) dX4_isWithin_15
    · refine X_iconst (v := 1) K0 dX4_isWithin_10 (by decide) ?_
      refine X_goto K0 15 dX4_isWithin_11 (by decide) ?_
      exact hr _ _ _ _ ⟨by first | (rw [wi_lo (by assumption)]; rfl) | (rw [wi_hi (by assumption)]; rfl) | (rw [wi_yes (by assumption) (by assumption)]; rfl), rfl⟩ (by first | exact Or.inl rfl | exact Or.inr rfl) dX4_isWithin_15

set_option maxRecDepth 20000 in
set_option maxHeartbeats 400000 in
theorem c_isWay (g : Gx) (w : va_W) (x : Int32) : Con g yX4_isWay cX4_isWay 1 (some .boolean) 1 22 0 0 [.int x] w (Rs (some (.int (bI (wiB x 0 3)))) w) := by
  refine Con.ofZ (by decide +kernel) (Nat.le_of_ble_eq_true rfl) (fun φ K0 hr => ?_)
  show X φ 0 0 w [(0, .int x)] 0 []
  refine X_iload_n K0 0 dX4_isWay_0 rfl rfl ?_
  refine X_iconst (v := 0) K0 dX4_isWay_1 (by decide) ?_
  refine X_iconst (v := 3) K0 dX4_isWay_2 (by decide) ?_
  refine X_callS (As := [.int x, .int 0, .int 3]) (rest := []) K0 (c_isWithin g w x 0 3) ms_X4_isWithin rfl ml_RX4_53 rfl (Nat.le_of_ble_eq_true rfl) (by decide) ⟨Nat.le_of_ble_eq_true rfl, Nat.le_of_ble_eq_true rfl⟩ rfl rfl dX4_isWay_3 ?_
  intro v w' hr'; obtain ⟨rfl, rfl⟩ := hr'
  show X φ 0 0 w [(0, .int x)] 6 [.int (bI (wiB x 0 3))]
  exact hr _ _ _ _ ⟨rfl, rfl⟩ (bI_01 _) dX4_isWay_6

set_option maxRecDepth 20000 in
set_option maxHeartbeats 400000 in
theorem c_has (g : Gx) (w : va_W) (x m : Int32) : Con g yX4_has cX4_has 2 (some .boolean) 0 0 0 0 [.int x, .int m] w (Rs (some (.int (bI (hasB x m)))) w) := by
  refine Con.ofZ (by decide +kernel) (Nat.le_of_ble_eq_true rfl) (fun φ K0 hr => ?_)
  show X φ 0 0 w [(0, .int x), (1, .int m)] 0 []
  refine X_iload_n K0 0 dX4_has_0 rfl rfl ?_
  refine X_iload_n K0 1 dX4_has_1 rfl rfl ?_
  refine X_iushr (v := (ush x m)) K0 dX4_has_2 rfl ?_
  refine X_iconst (v := 1) K0 dX4_has_3 (by decide) ?_
  refine X_iand K0 dX4_has_4 ?_
  refine X_iconst (v := 1) K0 dX4_has_5 (by decide) ?_
  refine X_icmp_ne K0 13 dX4_has_6 (by decide) (fun h6 => ?_) (fun h6 => ?_)
  · refine X_iconst (v := 0) K0 dX4_has_13 (by decide) ?_
    exact hr _ _ _ _ ⟨by simp_all [bI, hasB], rfl⟩ (by first | exact Or.inl rfl | exact Or.inr rfl) dX4_has_14
  · refine X_iconst (v := 1) K0 dX4_has_9 (by decide) ?_
    refine X_goto K0 14 dX4_has_10 (by decide) ?_
    exact hr _ _ _ _ ⟨by simp_all [bI, hasB], rfl⟩ (by first | exact Or.inl rfl | exact Or.inr rfl) dX4_has_14

set_option maxRecDepth 20000 in
set_option maxHeartbeats 400000 in
theorem c_oneIf (g : Gx) (w : va_W) (b : Bool) : Con g yX4_oneIf cX4_oneIf 1 (some .int) 0 0 0 0 [.int (bI b)] w (Rs (some (.int (bI b))) w) := by
  refine Con.ofI (by decide +kernel) (Nat.le_of_ble_eq_true rfl) (fun φ K0 hr => ?_)
  show X φ 0 0 w [(0, .int (bI b))] 0 []
  refine X_iload_n K0 0 dX4_oneIf_0 rfl rfl ?_
  refine X_if_eq K0 8 dX4_oneIf_1 (by decide) (fun h1 => ?_) (fun h1 => ?_)
  · refine X_iconst (v := 0) K0 dX4_oneIf_8 (by decide) ?_
    exact hr _ _ _ _ ⟨by simp_all [bI_0]; try rfl, rfl⟩ dX4_oneIf_9
  · refine X_iconst (v := 1) K0 dX4_oneIf_4 (by decide) ?_
    refine X_goto K0 9 dX4_oneIf_5 (by decide) ?_
    exact hr _ _ _ _ ⟨by simp_all [bI_0]; try rfl, rfl⟩ dX4_oneIf_9

set_option maxRecDepth 20000 in
set_option maxHeartbeats 400000 in
theorem c_bitCount (g : Gx) (w : va_W) (x : Int32) : Con g yJ6_bitCount_0f7a4 cJ6_bitCount_0f7a4 1 (some .int) 0 0 0 0 [.int x] w (Rs (some (.int (bcJ x))) w) := by
  refine Con.ofI (by decide +kernel) (Nat.le_of_ble_eq_true rfl) (fun φ K0 hr => ?_)
  show X φ 0 0 w [(0, .int x)] 0 []
  refine X_iload_n K0 0 dJ6_bitCount_0f7a4_0 rfl rfl ?_
  refine X_iload_n K0 0 dJ6_bitCount_0f7a4_1 rfl rfl ?_
  refine X_iconst (v := 1) K0 dJ6_bitCount_0f7a4_2 (by decide) ?_
  refine X_iushr (v := (ush x 1)) K0 dJ6_bitCount_0f7a4_3 rfl ?_
  refine X_ldcw K0 co_RJ6_265 dJ6_bitCount_0f7a4_4 ?_
  refine X_iand K0 dJ6_bitCount_0f7a4_7 ?_
  refine X_isub K0 dJ6_bitCount_0f7a4_8 ?_
  refine X_istore_n (L' := [(0, .int (x - ((ush x 1) &&& 1431655765)))]) K0 dJ6_bitCount_0f7a4_9 rfl (by decide) rfl ?_
  refine X_iload_n K0 0 dJ6_bitCount_0f7a4_10 rfl rfl ?_
  refine X_ldcw K0 co_RJ6_266 dJ6_bitCount_0f7a4_11 ?_
  refine X_iand K0 dJ6_bitCount_0f7a4_14 ?_
  refine X_iload_n K0 0 dJ6_bitCount_0f7a4_15 rfl rfl ?_
  refine X_iconst (v := 2) K0 dJ6_bitCount_0f7a4_16 (by decide) ?_
  refine X_iushr (v := (ush (x - ((ush x 1) &&& 1431655765)) 2)) K0 dJ6_bitCount_0f7a4_17 rfl ?_
  refine X_ldcw K0 co_RJ6_266 dJ6_bitCount_0f7a4_18 ?_
  refine X_iand K0 dJ6_bitCount_0f7a4_21 ?_
  refine X_iadd K0 dJ6_bitCount_0f7a4_22 ?_
  refine X_istore_n (L' := [(0, .int (((x - ((ush x 1) &&& 1431655765)) &&& 858993459) + ((ush (x - ((ush x 1) &&& 1431655765)) 2) &&& 858993459)))]) K0 dJ6_bitCount_0f7a4_23 rfl (by decide) rfl ?_
  refine X_iload_n K0 0 dJ6_bitCount_0f7a4_24 rfl rfl ?_
  refine X_iload_n K0 0 dJ6_bitCount_0f7a4_25 rfl rfl ?_
  refine X_iconst (v := 4) K0 dJ6_bitCount_0f7a4_26 (by decide) ?_
  refine X_iushr (v := (ush (((x - ((ush x 1) &&& 1431655765)) &&& 858993459) + ((ush (x - ((ush x 1) &&& 1431655765)) 2) &&& 858993459)) 4)) K0 dJ6_bitCount_0f7a4_27 rfl ?_
  refine X_iadd K0 dJ6_bitCount_0f7a4_28 ?_
  refine X_ldcw K0 co_RJ6_267 dJ6_bitCount_0f7a4_29 ?_
  refine X_iand K0 dJ6_bitCount_0f7a4_32 ?_
  refine X_istore_n (L' := [(0, .int (((((x - ((ush x 1) &&& 1431655765)) &&& 858993459) + ((ush (x - ((ush x 1) &&& 1431655765)) 2) &&& 858993459)) + (ush (((x - ((ush x 1) &&& 1431655765)) &&& 858993459) + ((ush (x - ((ush x 1) &&& 1431655765)) 2) &&& 858993459)) 4)) &&& 252645135))]) K0 dJ6_bitCount_0f7a4_33 rfl (by decide) rfl ?_
  refine X_iload_n K0 0 dJ6_bitCount_0f7a4_34 rfl rfl ?_
  refine X_iload_n K0 0 dJ6_bitCount_0f7a4_35 rfl rfl ?_
  refine X_bipush (v := 8) K0 dJ6_bitCount_0f7a4_36 (by decide) ?_
  refine X_iushr (v := (ush (((((x - ((ush x 1) &&& 1431655765)) &&& 858993459) + ((ush (x - ((ush x 1) &&& 1431655765)) 2) &&& 858993459)) + (ush (((x - ((ush x 1) &&& 1431655765)) &&& 858993459) + ((ush (x - ((ush x 1) &&& 1431655765)) 2) &&& 858993459)) 4)) &&& 252645135) 8)) K0 dJ6_bitCount_0f7a4_38 rfl ?_
  refine X_iadd K0 dJ6_bitCount_0f7a4_39 ?_
  refine X_istore_n (L' := [(0, .int ((((((x - ((ush x 1) &&& 1431655765)) &&& 858993459) + ((ush (x - ((ush x 1) &&& 1431655765)) 2) &&& 858993459)) + (ush (((x - ((ush x 1) &&& 1431655765)) &&& 858993459) + ((ush (x - ((ush x 1) &&& 1431655765)) 2) &&& 858993459)) 4)) &&& 252645135) + (ush (((((x - ((ush x 1) &&& 1431655765)) &&& 858993459) + ((ush (x - ((ush x 1) &&& 1431655765)) 2) &&& 858993459)) + (ush (((x - ((ush x 1) &&& 1431655765)) &&& 858993459) + ((ush (x - ((ush x 1) &&& 1431655765)) 2) &&& 858993459)) 4)) &&& 252645135) 8)))]) K0 dJ6_bitCount_0f7a4_40 rfl (by decide) rfl ?_
  refine X_iload_n K0 0 dJ6_bitCount_0f7a4_41 rfl rfl ?_
  refine X_iload_n K0 0 dJ6_bitCount_0f7a4_42 rfl rfl ?_
  refine X_bipush (v := 16) K0 dJ6_bitCount_0f7a4_43 (by decide) ?_
  refine X_iushr (v := (ush ((((((x - ((ush x 1) &&& 1431655765)) &&& 858993459) + ((ush (x - ((ush x 1) &&& 1431655765)) 2) &&& 858993459)) + (ush (((x - ((ush x 1) &&& 1431655765)) &&& 858993459) + ((ush (x - ((ush x 1) &&& 1431655765)) 2) &&& 858993459)) 4)) &&& 252645135) + (ush (((((x - ((ush x 1) &&& 1431655765)) &&& 858993459) + ((ush (x - ((ush x 1) &&& 1431655765)) 2) &&& 858993459)) + (ush (((x - ((ush x 1) &&& 1431655765)) &&& 858993459) + ((ush (x - ((ush x 1) &&& 1431655765)) 2) &&& 858993459)) 4)) &&& 252645135) 8)) 16)) K0 dJ6_bitCount_0f7a4_45 rfl ?_
  refine X_iadd K0 dJ6_bitCount_0f7a4_46 ?_
  refine X_istore_n (L' := [(0, .int (((((((x - ((ush x 1) &&& 1431655765)) &&& 858993459) + ((ush (x - ((ush x 1) &&& 1431655765)) 2) &&& 858993459)) + (ush (((x - ((ush x 1) &&& 1431655765)) &&& 858993459) + ((ush (x - ((ush x 1) &&& 1431655765)) 2) &&& 858993459)) 4)) &&& 252645135) + (ush (((((x - ((ush x 1) &&& 1431655765)) &&& 858993459) + ((ush (x - ((ush x 1) &&& 1431655765)) 2) &&& 858993459)) + (ush (((x - ((ush x 1) &&& 1431655765)) &&& 858993459) + ((ush (x - ((ush x 1) &&& 1431655765)) 2) &&& 858993459)) 4)) &&& 252645135) 8)) + (ush ((((((x - ((ush x 1) &&& 1431655765)) &&& 858993459) + ((ush (x - ((ush x 1) &&& 1431655765)) 2) &&& 858993459)) + (ush (((x - ((ush x 1) &&& 1431655765)) &&& 858993459) + ((ush (x - ((ush x 1) &&& 1431655765)) 2) &&& 858993459)) 4)) &&& 252645135) + (ush (((((x - ((ush x 1) &&& 1431655765)) &&& 858993459) + ((ush (x - ((ush x 1) &&& 1431655765)) 2) &&& 858993459)) + (ush (((x - ((ush x 1) &&& 1431655765)) &&& 858993459) + ((ush (x - ((ush x 1) &&& 1431655765)) 2) &&& 858993459)) 4)) &&& 252645135) 8)) 16)))]) K0 dJ6_bitCount_0f7a4_47 rfl (by decide) rfl ?_
  refine X_iload_n K0 0 dJ6_bitCount_0f7a4_48 rfl rfl ?_
  refine X_bipush (v := 63) K0 dJ6_bitCount_0f7a4_49 (by decide) ?_
  refine X_iand K0 dJ6_bitCount_0f7a4_51 ?_
  exact hr _ _ _ _ ⟨rfl, rfl⟩ dJ6_bitCount_0f7a4_52

set_option maxRecDepth 20000 in
set_option maxHeartbeats 400000 in
theorem c_line (g : Gx) (w : va_W) (a b : Int32) (len : Nat) (hlen : len < 2 ^ 31) : Con g yX0_line cX0_line 5 (some .int) 0 0 0 0 [.int a, .int b, .int (nI len)] w (Rs (some (.int (lineF a b len))) w) := by
  refine Con.ofI (by decide +kernel) (Nat.le_of_ble_eq_true rfl) (fun φ K0 hr => ?_)
  show X φ 0 0 w [(0, .int a), (1, .int b), (2, .int (nI len))] 0 []
  refine X_iconst (v := 0) K0 dX0_line_0 (by decide) ?_
  refine X_istore_n (L' := [(3, .int 0), (0, .int a), (1, .int b), (2, .int (nI len))]) K0 dX0_line_1 rfl (by decide) rfl ?_
  refine X_iconst (v := 0) K0 dX0_line_2 (by decide) ?_
  refine X_istore (L' := [(4, .int 0), (3, .int 0), (0, .int a), (1, .int b), (2, .int (nI len))]) K0 dX0_line_3 (by decide) rfl ?_
  refine X.sub [2, 3, 4, 1, 0] (L' := [(0, .int a), (1, .int b), (2, .int (nI len)), (3, .int 0), (4, .int 0)]) rfl ?_
  have LOOP : ∀ (dd ii : Nat), ii + dd = len → X φ 0 0 w [(0, .int a), (1, .int b), (2, .int (nI len)), (3, .int (lineF a b ii)), (4, .int (nI ii))] 5 [] := by
    intro dd
    induction dd with
    | zero =>
      intro ii hii 
      have hii2 : len = ii := by omega
      subst hii2
      refine X_iload K0 4 dX0_line_5 rfl ?_
      refine X_iload_n K0 2 dX0_line_7 rfl rfl ?_
      refine X_icmp_ge K0 28 dX0_line_8 (by decide) (fun h8 => ?_) (fun h8 => ?_)
      · refine X_iload_n K0 3 dX0_line_28 rfl rfl ?_
        exact hr _ _ _ _ ⟨rfl, rfl⟩ dX0_line_29
      · exact absurd (nI_le (Nat.le_refl _) hlen) h8
    | succ dd ih =>
      intro ii hii 
      have hlt : ii < len := by omega
      refine X_iload K0 4 dX0_line_5 rfl ?_
      refine X_iload_n K0 2 dX0_line_7 rfl rfl ?_
      refine X_icmp_ge K0 28 dX0_line_8 (by decide) (fun h8 => ?_) (fun h8 => ?_)
      · exact absurd h8 (nI_ge hlt hlen)
      · refine X_iload_n K0 3 dX0_line_11 rfl rfl ?_
        refine X_iconst (v := 1) K0 dX0_line_12 (by decide) ?_
        refine X_iload_n K0 0 dX0_line_13 rfl rfl ?_
        refine X_iload K0 4 dX0_line_14 rfl ?_
        refine X_iload_n K0 1 dX0_line_16 rfl rfl ?_
        refine X_imul K0 dX0_line_17 ?_
        refine X_iadd K0 dX0_line_18 ?_
        refine X_ishl K0 dX0_line_19 ?_
        refine X_ior K0 dX0_line_20 ?_
        refine X_istore_n (L' := [(3, .int ((lineF a b ii) ||| (1 <<< ((a + ((nI ii) * b)) &&& 31)))), (0, .int a), (1, .int b), (2, .int (nI len)), (4, .int (nI ii))]) K0 dX0_line_21 rfl (by decide) rfl ?_
        refine X_iinc (v := ((nI ii) + 1)) (L' := [(4, .int ((nI ii) + 1)), (3, .int ((lineF a b ii) ||| (1 <<< ((a + ((nI ii) * b)) &&& 31)))), (0, .int a), (1, .int b), (2, .int (nI len))]) K0 4 dX0_line_22 rfl (by first | rfl | decide) (by decide) rfl ?_
        refine X_goto K0 5 dX0_line_25 (by decide) ?_
        refine X.sub [2, 3, 4, 1, 0] (L' := [(0, .int a), (1, .int b), (2, .int (nI len)), (3, .int ((lineF a b ii) ||| (1 <<< ((a + ((nI ii) * b)) &&& 31)))), (4, .int ((nI ii) + 1))]) rfl ?_
        exact X_eq rfl (by rw [nI_succ] <;> rfl) rfl (ih (ii + 1) (by omega))
  exact LOOP len 0 (by omega)
end
section
/-! arrays of references: Sheet[] and int[][]; System.arraycopy -/
section LY5
variable {φ : Fx} {g0 : Gx} {y : MethodName} {cc : ByteArray} {nL0 fr lo mc ms k n pc k' n' index : Nat} {w : va_W} {L : List (Nat × Value)} {rest : List Value}
theorem X_sald (C : Cx φ g0 y cc nL0 fr lo mc ms) (q0 : Nat) {a len i : Nat} {f : Nat → Option Nat} {v : Value} (ha : w[q0]? = some (a, aS g0 len f)) (hi : i < len) (hl : len < 2 ^ 31) (hv : va_rf (f i) = v) (d : decode cc pc = .ok (.aaload, 1)) (kk : X φ k n w L (pc + 1) (v :: rest)) : X φ k n w L pc (.int (nI i) :: .ref a :: rest) := by
  obtain ⟨p, l, e, R, s, m, args, below, meth, c, A, Q, nL, g⟩ := φ
  have hg : g = g0 := C.g
  subst hg
  subst hv
  refine fun H locs ls hP hD hS hll => va_aldq C.1 C.2.1 C.2.2.2.2.2.1.1 hP q0 3 ha rfl (vp_in_nI hi hl) d ?_
  rw [nI_clamp (Nat.lt_trans hi hl)]
  exact kk H locs ls hP hD hS hll
theorem X_rald (C : Cx φ g0 y cc nL0 fr lo mc ms) (q0 : Nat) {a len i : Nat} {f : Nat → Option Nat} {v : Value} (ha : w[q0]? = some (a, aR g0 len f)) (hi : i < len) (hl : len < 2 ^ 31) (hv : va_rf (f i) = v) (d : decode cc pc = .ok (.aaload, 1)) (kk : X φ k n w L (pc + 1) (v :: rest)) : X φ k n w L pc (.int (nI i) :: .ref a :: rest) := by
  obtain ⟨p, l, e, R, s, m, args, below, meth, c, A, Q, nL, g⟩ := φ
  have hg : g = g0 := C.g
  subst hg
  subst hv
  intro H locs ls hP hD hS hll
  have hin : vp_in (nI i) len := vp_in_nI hi hl
  have hc : (nI i).toNatClampNeg = i := nI_clamp (Nat.lt_trans hi hl)
  exact W.aald (v := va_rf (f i)) (ty := .array .int) C.1 C.2.1 (hP q0 _ ha) ((C.2.2.2.2.2.1.1.2 4 _ rfl).1 len (fun j => va_rf (f j))) rfl (fun q => by cases q) (by show ¬ (nI i < 0 ∨ (arrV _ _ _).slots.size ≤ _); rw [arrV_size]; exact hin) (by show (arrV _ _ _).slots[_]? = _; rw [hc, arrV_read _ _ hi]) rfl rfl d (kk H locs ls hP hD hS hll)
theorem X_sast (C : Cx φ g0 y cc nL0 fr lo mc ms) (q0 qk : Nat) {a v len i : Nat} {vs : List Value} {f : Nat → Option Nat} {w' : va_W} (ha : w[q0]? = some (a, aS g0 len f)) (hv : w[qk]? = some (v, .inr (2, vs))) (hi : i < len) (hl : len < 2 ^ 31) (d : decode cc pc = .ok (.aastore, 1)) (hw : w.set q0 (a, aS g0 len (va_up f i (some v))) = w') (kk : X φ k n w' L (pc + 1) rest) : X φ k n w L pc (.ref v :: .int (nI i) :: .ref a :: rest) := by
  obtain ⟨p, l, e, R, s, m, args, below, meth, c, A, Q, nL, g⟩ := φ
  have hg : g = g0 := C.g
  subst hg
  have hc : (nI i).toNatClampNeg = i := nI_clamp (Nat.lt_trans hi hl)
  refine fun H locs ls hP hD hS hll => va_astq (r := (RX2, TX2, 2)) C.1 C.2.1 C.2.2.2.2.2.1.1 hP hD hS q0 3 qk 2 ha rfl hv rfl (vp_in_nI hi hl) d (fun H1 locs1 hP1 hD1 hS1 => ?_)
  rw [hc] at hP1 hD1
  exact kk H1 locs1 ls (hw ▸ hP1) (hw ▸ hD1) hS1 hll
theorem X_rast (C : Cx φ g0 y cc nL0 fr lo mc ms) (q0 qk : Nat) {a v len i n2 : Nat} {f2 : Nat → Int32} {f : Nat → Option Nat} {w' : va_W} (ha : w[q0]? = some (a, aR g0 len f)) (hv : w[qk]? = some (v, aI g0 n2 f2)) (hi : i < len) (hl : len < 2 ^ 31) (d : decode cc pc = .ok (.aastore, 1)) (hw : w.set q0 (a, aR g0 len (va_up f i (some v))) = w') (kk : X φ k n w' L (pc + 1) rest) : X φ k n w L pc (.ref v :: .int (nI i) :: .ref a :: rest) := by
  obtain ⟨p, l, e, R, s, m, args, below, meth, c, A, Q, nL, g⟩ := φ
  have hg : g = g0 := C.g
  subst hg
  have hc : (nI i).toNatClampNeg = i := nI_clamp (Nat.lt_trans hi hl)
  have h0 : ¬ nI i < 0 := nI_pos (Nat.lt_trans hi hl)
  intro H locs ls hP hD hS hll
  have hK := C.2.2.2.2.2.1
  obtain ⟨comp, cA, kA, e1, -, e3, e4, e5⟩ := arrayOverA_spec hK.2.2.2
  have r1 : s.vm.findClass "[I" = some (gI g) := va_nm_int (hK.1.2 0 _ rfl).2
  have r2 : s.vm.findClass ("[" ++ (FieldType.array .int).toString) = some (gR g) := (hK.1.2 4 _ rfl).2
  have q1 : comp = gI g := Option.some.inj (e1.symm.trans (by rw [show (FieldType.array .int).toString = "[I" by decide +kernel]; exact r1))
  have q2 : cA = gR g := Option.some.inj (e5.symm.trans r2)
  subst q1; subst q2
  obtain ⟨kI, hkI, -⟩ := Vm.findClass_spec r1
  refine W.aast C.1 C.2.1 (hP q0 _ ha) (fun q h => by cases h) (fun h => by cases h) e3 e4 rfl hkI ⟨h0, by show _ < (arrV _ _ _).slots.size; rw [arrV_size, hc]; exact hi⟩ (hP qk _ hv) (fun q h => by cases h) hkI (va_asg _ _) rfl rfl d fun H1 e z oq => ?_
  refine kk H1 _ ls (hw ▸ hP.set hD ha ?_ oq) (hw ▸ hD.set ha) (hS.put z oq (hD.2 q0 _ ha)) hll
  show H1[a]? = some (vp_cell _ _)
  rw [e, hc]
  rw [vp_cell_q, vp_cell_q, arrV_store]
  congr 2
  funext q
  by_cases hq : q = i
  · subst hq
    simp [updV, va_up, va_rf]
  · simp [updV, va_up, hq]
theorem X_snew (C : Cx φ g0 y cc nL0 fr lo mc ms) {N : Nat} (hN : N < 1000) (h1 : Cond.classLink y.cls index RX2 ∈ Ts) (hk : k + 1 ≤ mc) (hn : n + N ≤ ms) (hk' : k + 1 = k') (hn' : n + N = n') (d : decode cc pc = .ok (.anewarray index, 3)) (kk : ∀ q : Nat, X φ k' n' (w ++ [(q, aS g0 N (fun _ => none))]) L (pc + 3) (.ref q :: rest)) : X φ k n w L pc (.int (nI N) :: rest) := by
  obtain ⟨p, l, e, R, s, m, args, below, meth, c, A, Q, nL, g⟩ := φ
  obtain ⟨hx, hb, hml, hown, hts, hK, hA, hRR, hlk, hnm, hnL, hg⟩ := C
  subst hRR; subst hg; subst hk'; subst hn'
  refine fun H locs ls hP hD hS hl => va_newq hx hb hown (hts _ h1) hK.2.2.1 hK.1 hP hD hS hA (nI_pos (by omega)) (nI_clamp (by omega)) (by omega) hk hn d (fun q cA1 H1 hK1 hP1 hD1 hS1 => ?_)
  obtain ⟨kA, comp, -, -, -, e1⟩ := (hK.1.2 3 _ rfl).2
  obtain ⟨kA2, comp2, -, -, -, e2⟩ := (hK1.2 5 (cA1, .object RX2) rfl).2
  have e3 : cA1 = gS g := Option.some.inj (e2.symm.trans e1)
  subst e3
  exact kk q H1 locs ls hP1 hD1 hS1 hl
theorem X_rnew (C : Cx φ g0 y cc nL0 fr lo mc ms) {N : Nat} (hN : N < 1000) (h1 : Cond.classLink y.cls index "[I" ∈ Ts) (hk : k + 1 ≤ mc) (hn : n + N ≤ ms) (hk' : k + 1 = k') (hn' : n + N = n') (d : decode cc pc = .ok (.anewarray index, 3)) (kk : ∀ q : Nat, X φ k' n' (w ++ [(q, aR g0 N (fun _ => none))]) L (pc + 3) (.ref q :: rest)) : X φ k n w L pc (.int (nI N) :: rest) := by
  obtain ⟨p, l, e, R, s, m, args, below, meth, c, A, Q, nL, g⟩ := φ
  obtain ⟨hx, hb, hml, hown, hts, hK, hA, hRR, hlk, hnm, hnL, hg⟩ := C
  subst hRR; subst hg; subst hk'; subst hn'
  intro H locs ls hP hD hS hl
  have hc : (nI N).toNatClampNeg = N := nI_clamp (by omega)
  have es : (FieldType.array .int).toString = "[I" := by decide +kernel
  refine W.anewA (t := .int) hx hb hown (by rw [es]; exact hts _ h1) (over_moved (Vm.Alike.refl s.vm) hK.2.2.2) rfl d rfl (nI_pos (by omega)) (by rw [hc]; omega) hk (by rw [hc]; exact hn) fun cA kA comp f1 f2 f3 f4 => ?_
  have q2 : cA = gR g := Option.some.inj (f1.symm.trans (hK.1.2 4 _ rfl).2)
  subst q2
  rw [hc]
  generalize hH1 : H.push ({ cls := gR g, slots := Array.replicate N .null, vm := .none } : Cell) = H1
  have z1 : H1.size = H.size + 1 := by rw [← hH1, Array.size_push]
  have e1 : H1[H.size]? = some (arrV (gR g) N (fun _ => .null)) := by rw [← hH1, Array.getElem?_push_size, ← arrV_new]
  have o1 : ∀ q : Nat, q < H.size → H1[q]? = H[q]? := fun q hq => by rw [← hH1, Array.getElem?_push, if_neg (Nat.ne_of_lt hq)]
  have hkk : ∀ (k : Nat) (x : Nat × va_E), w[k]? = some x → H1[x.1]? = H[x.1]? := fun k x hx => o1 x.1 ((hP k x hx).lt)
  refine kk H.size H1 locs ls ((hP.kept hkk).app (fun k x hx => ?_)) (hD.push hP rfl (hA _ hS.1)) ⟨Nat.le_trans hS.1 (by omega), fun x h1 h2 => (o1 x (Nat.lt_of_lt_of_le h1 hS.1)).trans (hS.2.1 x h1 h2), hS.2.2⟩ hl
  have hz : k < 1 := (List.getElem?_eq_some_iff.mp hx).1
  rw [show k = 0 by omega] at hx
  cases hx
  show H1[H.size]? = some (vp_cell _ _)
  rw [vp_cell_q]
  exact e1
theorem X_copy (C : Cx φ g0 y cc nL0 fr lo mc ms) (q0 q1 : Nat) {a0 a n0 n1 sp dp cn : Nat} {f f1 : Nat → Int32} {w' : va_W} (ha0 : w[q0]? = some (a0, aI g0 n0 f)) (ha1 : w[q1]? = some (a, aI g0 n1 f1)) (hb : n0 < 1000 ∧ n1 < 1000) (h4 : sp + cn ≤ n0) (h5 : dp + cn ≤ n1) (h1 : Cond.methodLink y.cls index arraycopyName ∈ Ts) (h2 : Cond.native arraycopyName ∈ Ts) (h3 : Cond.static arraycopyName ∈ Ts) (h6 : Cond.initialized "java/lang/System" ∈ Ts) (hfr : 1 ≤ fr) (hlo : (rest.map fun v => v.category).sum + (nativeFrameWords "java/lang/System" "arraycopy" 5 + 11) ≤ lo) (d : decode cc pc = .ok (.invokestatic index, 3)) (hw : w.set q1 (a, aI g0 n1 (va_cpy f f1 sp dp cn)) = w') (kk : X φ k n w' L (pc + 3) rest) : X φ k n w L pc (.int (nI cn) :: .int (nI dp) :: .ref a :: .int (nI sp) :: .ref a0 :: rest) := by
  obtain ⟨p, l, e, R, s, m, args, below, meth, c, A, Q, nL, g⟩ := φ
  obtain ⟨hx, hbb, hml, hown, hts, hK, hA, hRR, hlk, hnm, hnL, hg⟩ := C
  subst hRR; subst hg
  have c1 : (nI sp).toNatClampNeg = sp := nI_clamp (by omega)
  have c2 : (nI dp).toNatClampNeg = dp := nI_clamp (by omega)
  have c3 : (nI cn).toNatClampNeg = cn := nI_clamp (by omega)
  refine fun H locs ls hP hD hS hl => va_copyi (ty := .int) hx hbb (by rw [hml]; exact hl.1.symm) hown (hts _ h1) (hts _ h2) (hts _ h3) (hts _ h6) hK.1 hP hD hS q0 q1 0 0 ha0 ha1 rfl rfl rfl (nI_pos (by omega)) (nI_pos (by omega)) (nI_pos (by omega)) (by rw [c1, c3]; exact h4) (by rw [c2, c3]; exact h5) (fun _ _ => rfl) hfr hlo d (fun H1 locs1 hP1 hD1 hS1 => ?_)
  rw [c1, c2, c3] at hP1 hD1
  exact kk H1 locs1 ls (hw ▸ hP1) (hw ▸ hD1) hS1 hl
end LY5
end
section
/-! the sheets: what they are (abs), and how the pool holds them -/
abbrev RW : Type := Option (Nat × (Nat → Int32))
abbrev SH : Type := Option (Int32 × Nat × (Nat → RW))
def nrA (s : SH) : Nat := match s with | none => 0 | some x => x.2.1
def upA {α : Type} (f : Nat → α) (k : Nat) (x : α) : Nat → α := fun j => if j = k then x else f j
theorem upA_s {α : Type} {f : Nat → α} {k : Nat} {x : α} : upA f k x k = x := if_pos rfl
theorem upA_n {α : Type} {f : Nat → α} {k j : Nat} {x : α} (h : j ≠ k) : upA f k x j = f j := if_neg h
def isIA (e : va_E) : Bool := match e with | .inl (_, _, .inl _) => true | _ => false
theorem aI_aR {g : Gx} {n n2 : Nat} {f : Nat → Int32} {f2 : Nat → Option Nat} (h : aI g n f = aR g n2 f2) : False := by have := congrArg isIA h; cases this
/-- one sheet, in the pool -/
def PO1 (g : Gx) (pool : va_W) (s : Option Nat) (ab : SH) (ra : Nat) (rf : Nat → Option Nat) : Prop :=
  (ab = none ∧ s = none) ∨ ∃ (so : Int32) (nr : Nat) (rows : Nat → RW) (a : Nat), ab = some (so, nr, rows) ∧ s = some a ∧ (so = 0 ∨ so = 1) ∧ nr ≤ 4 ∧ (∃ p : Nat, pool[p]? = some (a, oSheet so ra)) ∧ (∃ p : Nat, pool[p]? = some (ra, aR g nr rf)) ∧ ∀ r, r < nr → (rows r = none ∧ rf r = none) ∨ ∃ (len : Nat) (f : Nat → Int32) (b : Nat), rows r = some (len, f) ∧ rf r = some b ∧ len ≤ 40 ∧ ∃ p : Nat, pool[p]? = some (b, aI g len f)
def PO (g : Gx) (pool : va_W) (shf : Nat → Option Nat) (abs : Nat → SH) : Prop := ∃ (ra : Nat → Nat) (rf : Nat → Nat → Option Nat),
  (∀ i, i < 3 → PO1 g pool (shf i) (abs i) (ra i) (rf i))
  ∧ (∀ i i', i < 3 → i' < 3 → abs i ≠ none → abs i' ≠ none → ra i = ra i' → i = i')
  ∧ (∀ i i' r r' b, i < 3 → i' < 3 → r < nrA (abs i) → r' < nrA (abs i') → rf i r = some b → rf i' r' = some b → i = i' ∧ r = r')
theorem po_none {g : Gx} {pool : va_W} {shf : Nat → Option Nat} {abs : Nat → SH} (h : PO g pool shf abs) {j : Nat} (hj : j < 3) (hs : shf j = none) : abs j = none := by
  obtain ⟨ra, rf, h1, -⟩ := h
  rcases h1 j hj with q | ⟨_, _, _, a, -, q, -⟩
  · exact q.1
  · rw [hs] at q; cases q
theorem po_some {g : Gx} {pool : va_W} {shf : Nat → Option Nat} {abs : Nat → SH} (h : PO g pool shf abs) {j a : Nat} (hj : j < 3) (hs : shf j = some a) : ∃ (so : Int32) (nr : Nat) (rows : Nat → RW) (ra : Nat) (rf : Nat → Option Nat) (p1 p2 : Nat), abs j = some (so, nr, rows) ∧ (so = 0 ∨ so = 1) ∧ nr ≤ 4 ∧ pool[p1]? = some (a, oSheet so ra) ∧ pool[p2]? = some (ra, aR g nr rf) ∧ ∀ r, r < nr → (rows r = none ∧ rf r = none) ∨ ∃ (len : Nat) (f : Nat → Int32) (b p : Nat), rows r = some (len, f) ∧ rf r = some b ∧ len ≤ 40 ∧ pool[p]? = some (b, aI g len f) := by
  obtain ⟨ra, rf, h1, -⟩ := h
  rcases h1 j hj with q | ⟨so, nr, rows, a', q1, q2, q3, q4, ⟨p1, q5⟩, ⟨p2, q6⟩, q7⟩
  · rw [hs] at q; cases q.2
  · rw [hs] at q2; cases q2
    refine ⟨so, nr, rows, ra j, rf j, p1, p2, q1, q3, q4, q5, q6, fun r hr => ?_⟩
    rcases q7 r hr with z | ⟨len, f, b, z1, z2, z3, p, z4⟩
    · exact Or.inl z
    · exact Or.inr ⟨len, f, b, p, z1, z2, z3, z4⟩
/-- addresses are apart -/
def ND (w : va_W) : Prop := ∀ (i j : Nat) (p q : Nat × va_E), w[i]? = some p → w[j]? = some q → p.1 = q.1 → i = j
theorem X_nd {φ : Fx} {k n pc : Nat} {w : va_W} {L : List (Nat × Value)} {st : List Value} (kk : ND w → X φ k n w L pc st) : X φ k n w L pc st := by
  obtain ⟨p, l, e, R, s, m, args, below, meth, c, A, Q, nL, g⟩ := φ
  exact fun H locs ls hP hD hS hl => kk hD.1 H locs ls hP hD hS hl
theorem ND.drop {w : va_W} {x : Nat × va_E} (h : ND (x :: w)) : ND w := fun i j p q hi hj e => by
  have := h (i + 1) (j + 1) p q hi hj e
  omega
theorem nd_set {w : va_W} {p : Nat} {a : Nat} {e e' : va_E} (h : ND (w.set p (a, e'))) (hp : w[p]? = some (a, e)) : ND w := by
  have hl := (List.getElem?_eq_some_iff.mp hp).1
  have q : ∀ (i : Nat) (x : Nat × va_E), w[i]? = some x → ∃ y, (w.set p (a, e'))[i]? = some y ∧ y.1 = x.1 := by
    intro i x hx
    by_cases hi : i = p
    · subst hi
      rw [hp] at hx; cases hx
      exact ⟨(a, e'), List.getElem?_set_self hl, rfl⟩
    · exact ⟨x, by rw [List.getElem?_set_ne (fun z => hi z.symm)]; exact hx, rfl⟩
  intro i j x y hx hy exy
  obtain ⟨x', h1, h2⟩ := q i x hx
  obtain ⟨y', h3, h4⟩ := q j y hy
  exact h i j x' y' h1 h3 (by rw [h2, h4]; exact exy)
theorem nd_same {w : va_W} (h : ND w) {i j a : Nat} {e e' : va_E} (hi : w[i]? = some (a, e)) (hj : w[j]? = some (a, e')) : e = e' := by
  have := h i j _ _ hi hj rfl
  subst this
  rw [hi] at hj; cases hj; rfl
theorem get_app {w w2 : va_W} {i : Nat} {x : Nat × va_E} (h : w[i]? = some x) : (w ++ w2)[i]? = some x := by
  rw [List.getElem?_append_left (List.getElem?_eq_some_iff.mp h).1]; exact h
/-- a sheet is kept when another cell is set, or cells come -/
theorem PO1.app {g : Gx} {pool p2 : va_W} {s : Option Nat} {ab : SH} {ra : Nat} {rf : Nat → Option Nat} (h : PO1 g pool s ab ra rf) : PO1 g (pool ++ p2) s ab ra rf := by
  rcases h with q | ⟨so, nr, rows, a, q1, q2, q3, q4, ⟨x1, q5⟩, ⟨x2, q6⟩, q7⟩
  · exact Or.inl q
  · refine Or.inr ⟨so, nr, rows, a, q1, q2, q3, q4, ⟨x1, get_app q5⟩, ⟨x2, get_app q6⟩, fun r hr => ?_⟩
    rcases q7 r hr with z | ⟨len, f, b, z1, z2, z3, p, z4⟩
    · exact Or.inl z
    · exact Or.inr ⟨len, f, b, z1, z2, z3, p, get_app z4⟩
theorem set_ne {w : va_W} {p i a : Nat} {e e0 : va_E} {x : Nat × va_E} (hp : w[p]? = some (a, e0)) (h : w[i]? = some x) (hne : x.1 ≠ a) : (w.set p (a, e))[i]? = some x := by
  rw [List.getElem?_set_ne (fun q => by subst q; rw [hp] at h; cases h; exact hne rfl)]; exact h
theorem PO1.set {g : Gx} {pool : va_W} {s : Option Nat} {ab : SH} {ra : Nat} {rf : Nat → Option Nat} (h : PO1 g pool s ab ra rf) {p c : Nat} {e e0 : va_E} (hp : pool[p]? = some (c, e0)) (h1 : s ≠ some c) (h2 : ab ≠ none → ra ≠ c) (h3 : ∀ r, r < nrA ab → rf r ≠ some c) : PO1 g (pool.set p (c, e)) s ab ra rf := by
  rcases h with q | ⟨so, nr, rows, a, q1, q2, q3, q4, ⟨x1, q5⟩, ⟨x2, q6⟩, q7⟩
  · exact Or.inl q
  · refine Or.inr ⟨so, nr, rows, a, q1, q2, q3, q4, ⟨x1, set_ne hp q5 (fun z => h1 (by rw [q2]; exact congrArg some z))⟩, ⟨x2, set_ne hp q6 (h2 (by rw [q1]; exact fun z => by cases z))⟩, fun r hr => ?_⟩
    rcases q7 r hr with z | ⟨len, f, b, z1, z2, z3, y, z4⟩
    · exact Or.inl z
    · refine Or.inr ⟨len, f, b, z1, z2, z3, y, set_ne hp z4 (fun z => h3 r (by rw [q1]; exact hr) (by rw [z2]; exact congrArg some z))⟩
/-- a new sheet -/
theorem po_sheet {g : Gx} {pool : va_W} {shf : Nat → Option Nat} {abs : Nat → SH} (h : PO g pool shf abs) {j q q2 n : Nat} {so : Int32} (hj : j < 3) (hso : so = 0 ∨ so = 1) (hn : n ≤ 4) (hnd : ND (pool ++ [(q, oSheet so q2), (q2, aR g n (fun _ => none))])) : PO g (pool ++ [(q, oSheet so q2), (q2, aR g n (fun _ => none))]) (va_up shf j (some q)) (upA abs j (some (so, n, fun _ => none))) := by
  obtain ⟨ra, rf, h1, h2, h3⟩ := h
  have fresh : ∀ (i : Nat) (x : Nat × va_E), pool[i]? = some x → x.1 ≠ q2 := by
    intro i x hx e
    have hl := (List.getElem?_eq_some_iff.mp hx).1
    have := hnd i (pool.length + 1) x (q2, aR g n (fun _ => none)) (get_app hx) (by rw [List.getElem?_append_right (by omega)]; simp) e
    omega
  have raf : ∀ i, i < 3 → abs i ≠ none → ra i ≠ q2 := by
    intro i hi ha e
    rcases h1 i hi with z | ⟨_, _, _, _, -, -, -, -, -, ⟨p, z⟩, -⟩
    · exact ha z.1
    · exact fresh p _ z e
  refine ⟨upA ra j q2, upA rf j (fun _ => none), fun i hi => ?_, fun i i' hi hi' ha ha' e => ?_, fun i i' r r' b hi hi' hr hr' e e' => ?_⟩
  · by_cases e : i = j
    · subst e
      rw [upA_s, upA_s, upA_s, va_up_self]
      refine Or.inr ⟨so, n, fun _ => none, q, rfl, rfl, hso, hn, ⟨pool.length, by rw [List.getElem?_append_right (Nat.le_refl _)]; simp⟩, ⟨pool.length + 1, by rw [List.getElem?_append_right (by omega)]; simp⟩, fun r _ => Or.inl ⟨rfl, rfl⟩⟩
    · rw [upA_n e, upA_n e, upA_n e, va_up_ne _ _ e]
      exact (h1 i hi).app
  · by_cases x1 : i = j <;> by_cases x2 : i' = j
    · rw [x1, x2]
    · rw [x1, upA_s, upA_n x2] at e
      rw [upA_n x2] at ha'
      exact absurd e.symm (raf i' hi' ha')
    · rw [x2, upA_s, upA_n x1] at e
      rw [upA_n x1] at ha
      exact absurd e (raf i hi ha)
    · rw [upA_n x1, upA_n x2] at e
      rw [upA_n x1] at ha
      rw [upA_n x2] at ha'
      exact h2 i i' hi hi' ha ha' e
  · by_cases x1 : i = j
    · rw [x1, upA_s] at e; cases e
    · by_cases x2 : i' = j
      · rw [x2, upA_s] at e'; cases e'
      · rw [upA_n x1] at e hr
        rw [upA_n x2] at e' hr'
        exact h3 i i' r r' b hi hi' hr hr' e e'
/-- a row's content changes -/
theorem po_cell {g : Gx} {pool : va_W} {shf : Nat → Option Nat} {abs : Nat → SH} (h : PO g pool shf abs) (hnd : ND pool) {j r nr len a ra0 b p1 p2 p : Nat} {so : Int32} {rows : Nat → RW} {rf0 : Nat → Option Nat} {f f' : Nat → Int32} (hj : j < 3) (hs : shf j = some a) (hab : abs j = some (so, nr, rows)) (hp1 : pool[p1]? = some (a, oSheet so ra0)) (hp2 : pool[p2]? = some (ra0, aR g nr rf0)) (hr : r < nr) (hrow : rows r = some (len, f)) (hrf : rf0 r = some b) (hp : pool[p]? = some (b, aI g len f)) : PO g (pool.set p (b, aI g len f')) shf (upA abs j (some (so, nr, upA rows r (some (len, f'))))) := by
  obtain ⟨ra, rf, h1, h2, h3⟩ := h
  have hl := (List.getElem?_eq_some_iff.mp hp).1
  have kind : ∀ (i x : Nat) (e : va_E), pool[i]? = some (x, e) → x = b → e = aI g len f := fun i x e hx hxb => by
    subst hxb
    exact nd_same hnd hx hp
  -- the sheet's own row array is the one that PO names
  have own : ra j = ra0 ∧ rf j = rf0 := by
    rcases h1 j hj with z | ⟨so', nr', rows', a', z1, z2, -, -, ⟨y1, z5⟩, ⟨y2, z6⟩, -⟩
    · rw [hab] at z; cases z.1
    · rw [hs] at z2; cases z2
      have e1 := nd_same hnd z5 hp1
      cases e1
      have e2 := nd_same hnd z6 hp2
      rw [hab] at z1; cases z1
      injection e2 with e3
      injection e3 with e4 e5
      injection e5 with e6 e7
      injection e7 with e8
      injection e8 with e9
      injection e9 with e10
      injection e10 with e11
      exact ⟨rfl, e11⟩
  refine ⟨ra, rf, fun i hi => ?_, fun i i' hi hi' ha ha' e => ?_, fun i i' r1 r2 c hi hi' q1 q2 e e' => ?_⟩
  · by_cases e : i = j
    · subst e
      rw [upA_s]
      rcases h1 i hi with z | ⟨so', nr', rows', a', z1, z2, z3, z4, ⟨y1, z5⟩, ⟨y2, z6⟩, z7⟩
      · rw [hab] at z; cases z.1
      · rw [hab] at z1; cases z1
        refine Or.inr ⟨so, nr, upA rows r (some (len, f')), a', rfl, z2, z3, z4, ⟨y1, set_ne hp z5 (fun z => by have := kind _ _ _ z5 z; cases this)⟩, ⟨y2, set_ne hp z6 (fun z => aI_aR (kind _ _ _ z6 z).symm)⟩, fun r1 hr1 => ?_⟩
        by_cases er : r1 = r
        · subst er
          rw [upA_s]
          rcases z7 r1 hr1 with y | ⟨len', f1, b', y1, y2, y3, y, y4⟩
          · rw [hrow] at y; cases y.1
          · rw [hrow] at y1; cases y1
            exact Or.inr ⟨len, f', b, rfl, by rw [own.2]; exact hrf, y3, p, List.getElem?_set_self hl⟩
        · rw [upA_n er]
          rcases z7 r1 hr1 with y | ⟨len', f1, b', y1, y2, y3, y, y4⟩
          · exact Or.inl y
          · refine Or.inr ⟨len', f1, b', y1, y2, y3, y, set_ne hp y4 (fun z => ?_)⟩
            have z : b' = b := z
            subst z
            have := h3 i i r1 r b' hi hi (by rw [hab]; exact hr1) (by rw [hab]; exact hr) y2 (by rw [own.2]; exact hrf)
            exact er this.2
    · rw [upA_n e]
      have hi1 := h1 i hi
      refine hi1.set hp (fun z => ?_) (fun ha z => ?_) (fun r1 hr1 z => ?_)
      · rcases hi1 with y | ⟨_, _, _, a', -, y, -, -, ⟨y1, y5⟩, -⟩
        · rw [y.2] at z; cases z
        · rw [y] at z; cases z
          have := kind _ _ _ y5 rfl; cases this
      · rcases hi1 with y | ⟨_, _, _, a', -, -, -, -, -, ⟨y1, y5⟩, -⟩
        · exact ha y.1
        · exact aI_aR (kind _ _ _ y5 z).symm
      · have := h3 i j r1 r b hi hj hr1 (by rw [hab]; exact hr) z (by rw [own.2]; exact hrf)
        exact e this.1
  · have q : ∀ i, upA abs j (some (so, nr, upA rows r (some (len, f')))) i ≠ none → abs i ≠ none := fun i z => by
      by_cases e : i = j
      · subst e; rw [hab]; exact fun z => by cases z
      · rw [upA_n e] at z; exact z
    exact h2 i i' hi hi' (q i ha) (q i' ha') e
  · have q : ∀ i, nrA (upA abs j (some (so, nr, upA rows r (some (len, f')))) i) = nrA (abs i) := fun i => by
      by_cases e : i = j
      · subst e; rw [upA_s, hab]; rfl
      · rw [upA_n e]
    rw [q] at q1 q2
    exact h3 i i' r1 r2 c hi hi' q1 q2 e e'
/-- a new row -/
theorem po_row {g : Gx} {pool : va_W} {shf : Nat → Option Nat} {abs : Nat → SH} (h : PO g pool shf abs) {j r nr n a ra0 b p1 p2 : Nat} {so : Int32} {rows : Nat → RW} {rf0 : Nat → Option Nat} (hj : j < 3) (hs : shf j = some a) (hab : abs j = some (so, nr, rows)) (hp1 : pool[p1]? = some (a, oSheet so ra0)) (hp2 : pool[p2]? = some (ra0, aR g nr rf0)) (hr : r < nr) (hn : n ≤ 40) (hnd : ND (pool ++ [(b, aI g n (fun _ => 0))])) : PO g ((pool ++ [(b, aI g n (fun _ => 0))]).set p2 (ra0, aR g nr (va_up rf0 r (some b)))) shf (upA abs j (some (so, nr, upA rows r (some (n, fun _ => 0))))) := by
  obtain ⟨ra, rf, h1, h2, h3⟩ := h
  have hl2 := (List.getElem?_eq_some_iff.mp hp2).1
  have hp2' := get_app (w2 := [(b, aI g n (fun _ => 0))]) hp2
  have hlast : (pool ++ [(b, aI g n (fun _ => 0))])[pool.length]? = some (b, aI g n (fun _ => 0)) := by rw [List.getElem?_append_right (Nat.le_refl _)]; simp
  have fresh : ∀ (i : Nat) (x : Nat × va_E), pool[i]? = some x → x.1 ≠ b := by
    intro i x hx e
    have hl := (List.getElem?_eq_some_iff.mp hx).1
    have := hnd i pool.length x (b, aI g n (fun _ => 0)) (get_app hx) hlast e
    omega
  have kind : ∀ (i x : Nat) (e : va_E), (pool ++ [(b, aI g n (fun _ => 0))])[i]? = some (x, e) → x = ra0 → e = aR g nr rf0 := fun i x e hx hxb => by
    subst hxb
    exact nd_same hnd hx hp2'
  have own : ra j = ra0 ∧ rf j = rf0 := by
    rcases h1 j hj with z | ⟨so', nr', rows', a', z1, z2, -, -, ⟨y1, z5⟩, ⟨y2, z6⟩, -⟩
    · rw [hab] at z; cases z.1
    · rw [hs] at z2; cases z2
      have e1 := nd_same hnd (get_app z5) (get_app hp1)
      cases e1
      have e2 := nd_same hnd (get_app z6) hp2'
      rw [hab] at z1; cases z1
      injection e2 with e3
      injection e3 with e4 e5
      injection e5 with e6 e7
      injection e7 with e8
      injection e8 with e9
      injection e9 with e10
      injection e10 with e11
      exact ⟨rfl, e11⟩
  have rowf : ∀ i r1, i < 3 → r1 < nrA (abs i) → rf i r1 ≠ some b := by
    intro i r1 hi hr1 z
    rcases h1 i hi with y | ⟨_, nr', rows', a', y0, -, -, -, -, -, y7⟩
    · rw [y.1] at hr1; exact absurd hr1 (Nat.not_lt_zero _)
    · rw [y0] at hr1
      rcases y7 r1 hr1 with y | ⟨len, f, b', -, y2, -, y, y4⟩
      · rw [y.2] at z; cases z
      · rw [y2] at z; cases z
        exact fresh _ _ y4 rfl
  refine ⟨ra, upA rf j (va_up rf0 r (some b)), fun i hi => ?_, fun i i' hi hi' ha ha' e => ?_, fun i i' r1 r2 c hi hi' q1 q2 e e' => ?_⟩
  · by_cases e : i = j
    · subst e
      rw [upA_s, upA_s]
      rcases h1 i hi with z | ⟨so', nr', rows', a', z1, z2, z3, z4, ⟨y1, z5⟩, ⟨y2, z6⟩, z7⟩
      · rw [hab] at z; cases z.1
      · rw [hab] at z1; cases z1
        refine Or.inr ⟨so, nr, upA rows r (some (n, fun _ => 0)), a', rfl, z2, z3, z4, ⟨y1, set_ne hp2' (get_app z5) (fun z => by have := kind _ _ _ (get_app z5) z; cases this)⟩, ⟨p2, by rw [own.1]; exact List.getElem?_set_self (by rw [List.length_append]; omega)⟩, fun r1 hr1 => ?_⟩
        by_cases er : r1 = r
        · subst er
          rw [upA_s, va_up_self]
          exact Or.inr ⟨n, fun _ => 0, b, rfl, rfl, hn, pool.length, set_ne hp2' hlast (fun z => aI_aR (kind _ _ _ hlast z))⟩
        · rw [upA_n er, va_up_ne _ _ er, ← own.2]
          rcases z7 r1 hr1 with y | ⟨len', f1, b', y1, y2, y3, y, y4⟩
          · exact Or.inl y
          · exact Or.inr ⟨len', f1, b', y1, y2, y3, y, set_ne hp2' (get_app y4) (fun z => aI_aR (kind _ _ _ (get_app y4) z))⟩
    · rw [upA_n e, upA_n e]
      have hi1 := h1 i hi
      refine hi1.app.set hp2' (fun z => ?_) (fun ha z => ?_) (fun r1 hr1 z => ?_)
      · rcases hi1 with y | ⟨_, _, _, a', -, y, -, -, ⟨y1, y5⟩, -⟩
        · rw [y.2] at z; cases z
        · rw [y] at z; cases z
          have := kind _ _ _ (get_app y5) rfl; cases this
      · exact e (h2 i j hi hj ha (by rw [hab]; exact fun z => by cases z) (by rw [z, own.1]))
      · rcases hi1 with y | ⟨_, nr', rows', a', y0, -, -, -, -, -, y7⟩
        · rw [y.1] at hr1; exact absurd hr1 (Nat.not_lt_zero _)
        · rw [y0] at hr1
          rcases y7 r1 hr1 with y | ⟨len, f, b', -, y2, -, y, y4⟩
          · rw [y.2] at z; cases z
          · rw [y2] at z; cases z
            exact aI_aR (kind _ _ _ (get_app y4) rfl)
  · have q : ∀ i, upA abs j (some (so, nr, upA rows r (some (n, fun _ => 0)))) i ≠ none → abs i ≠ none := fun i z => by
      by_cases e : i = j
      · subst e; rw [hab]; exact fun z => by cases z
      · rw [upA_n e] at z; exact z
    exact h2 i i' hi hi' (q i ha) (q i' ha') e
  · have q : ∀ i, nrA (upA abs j (some (so, nr, upA rows r (some (n, fun _ => 0)))) i) = nrA (abs i) := fun i => by
      by_cases e : i = j
      · subst e; rw [upA_s, hab]; rfl
      · rw [upA_n e]
    rw [q] at q1 q2
    -- which rows hold c
    have old : ∀ i r1, i < 3 → r1 < nrA (abs i) → upA rf j (va_up rf0 r (some b)) i r1 = some c → (i = j ∧ r1 = r ∧ c = b) ∨ (rf i r1 = some c ∧ c ≠ b) := by
      intro i r1 hi hr1 z
      by_cases e1 : i = j
      · subst e1
        rw [upA_s] at z
        by_cases e2 : r1 = r
        · subst e2; rw [va_up_self] at z; cases z; exact Or.inl ⟨rfl, rfl, rfl⟩
        · rw [va_up_ne _ _ e2, ← own.2] at z
          exact Or.inr ⟨z, fun y => by subst y; exact rowf i r1 hi hr1 z⟩
      · rw [upA_n e1] at z
        exact Or.inr ⟨z, fun y => by subst y; exact rowf i r1 hi hr1 z⟩
    rcases old i r1 hi q1 e with ⟨x1, x2, x3⟩ | ⟨x1, x2⟩ <;> rcases old i' r2 hi' q2 e' with ⟨y1, y2, y3⟩ | ⟨y1, y2⟩
    · exact ⟨by rw [x1, y1], by rw [x2, y2]⟩
    · exact absurd x3 y2
    · exact absurd y3 x2
    · exact h3 i i' r1 r2 c hi hi' q1 q2 x1 y1
end
