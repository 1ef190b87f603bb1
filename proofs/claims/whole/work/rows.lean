section
-- ===== PART A: goes FIRST, ahead of the names: the tables' words, and 'selects' of the private methods out of them =====
/-- a private method of a class that the tables say can be made, by its rows of tables_1 -/
def lw_okq (q : MethodName × Nat) : Prop := (q.1.cls ≠ "java/lang/invoke/MethodHandle" ∧ q.1.cls ≠ "java/lang/invoke/VarHandle") ∧ Cond.instantiable q.1.cls q.2 ∈ tables_1 ∧ Cond.privateMethod q.1 ∈ tables_1 ∧ Cond.instanceMethod q.1 ∈ tables_1
theorem lw_p0 : lw_okq (⟨"GiantStairs", "remember", "()V"⟩, 13) := ⟨⟨by decide +kernel, by decide +kernel⟩, List.mem_of_getElem? (i := 32) (by decide +kernel), List.mem_of_getElem? (i := 298) (by decide +kernel), List.mem_of_getElem? (i := 299) (by decide +kernel)⟩
theorem lw_p1 : lw_okq (⟨"GiantStairs$Treaty", "giveRent", "(LGiantStairs$Stair;)I"⟩, 10) := ⟨⟨by decide +kernel, by decide +kernel⟩, List.mem_of_getElem? (i := 40) (by decide +kernel), List.mem_of_getElem? (i := 329) (by decide +kernel), List.mem_of_getElem? (i := 330) (by decide +kernel)⟩
theorem lw_p2 : lw_okq (⟨"GiantStairs", "areStepsTold", "()Z"⟩, 13) := ⟨⟨by decide +kernel, by decide +kernel⟩, List.mem_of_getElem? (i := 32) (by decide +kernel), List.mem_of_getElem? (i := 402) (by decide +kernel), List.mem_of_getElem? (i := 403) (by decide +kernel)⟩
theorem lw_p3 : lw_okq (⟨"GiantStairs$Ways", "allowOver", "(I)V"⟩, 4) := ⟨⟨by decide +kernel, by decide +kernel⟩, List.mem_of_getElem? (i := 172) (by decide +kernel), List.mem_of_getElem? (i := 411) (by decide +kernel), List.mem_of_getElem? (i := 412) (by decide +kernel)⟩
theorem lw_p4 : lw_okq (⟨"GiantStairs$Ways", "nearestToDo", "()I"⟩, 4) := ⟨⟨by decide +kernel, by decide +kernel⟩, List.mem_of_getElem? (i := 172) (by decide +kernel), List.mem_of_getElem? (i := 424) (by decide +kernel), List.mem_of_getElem? (i := 425) (by decide +kernel)⟩
theorem lw_p5 : lw_okq (⟨"GiantStairs$Ways", "goOnFrom", "(LGiantStairs$Treaty;II)V"⟩, 4) := ⟨⟨by decide +kernel, by decide +kernel⟩, List.mem_of_getElem? (i := 172) (by decide +kernel), List.mem_of_getElem? (i := 428) (by decide +kernel), List.mem_of_getElem? (i := 429) (by decide +kernel)⟩
theorem lw_p6 : lw_okq (⟨"GiantStairs$Ways", "goOver", "(LGiantStairs$Treaty;ILGiantStairs$Stair;I[I)V"⟩, 4) := ⟨⟨by decide +kernel, by decide +kernel⟩, List.mem_of_getElem? (i := 172) (by decide +kernel), List.mem_of_getElem? (i := 433) (by decide +kernel), List.mem_of_getElem? (i := 434) (by decide +kernel)⟩
theorem lw_p7 : lw_okq (⟨"GiantStairs", "areBreathsTold", "(I)Z"⟩, 13) := ⟨⟨by decide +kernel, by decide +kernel⟩, List.mem_of_getElem? (i := 32) (by decide +kernel), List.mem_of_getElem? (i := 442) (by decide +kernel), List.mem_of_getElem? (i := 443) (by decide +kernel)⟩
theorem lw_p8 : lw_okq (⟨"java/lang/Throwable", "fillInStackTrace", "(I)Ljava/lang/Throwable;"⟩, 6) := ⟨⟨by decide +kernel, by decide +kernel⟩, List.mem_of_getElem? (i := 701) (by decide +kernel), List.mem_of_getElem? (i := 699) (by decide +kernel), List.mem_of_getElem? (i := 700) (by decide +kernel)⟩
theorem lw_p9 : lw_okq (⟨"GiantStairs", "isRefused", "(J)Z"⟩, 13) := ⟨⟨by decide +kernel, by decide +kernel⟩, List.mem_of_getElem? (i := 32) (by decide +kernel), List.mem_of_getElem? (i := 854) (by decide +kernel), List.mem_of_getElem? (i := 855) (by decide +kernel)⟩
theorem lw_p10 : lw_okq (⟨"GiantStairs$Orders", "kindThatGoesFarthest", "(I)I"⟩, 4) := ⟨⟨by decide +kernel, by decide +kernel⟩, List.mem_of_getElem? (i := 197) (by decide +kernel), List.mem_of_getElem? (i := 1256) (by decide +kernel), List.mem_of_getElem? (i := 1257) (by decide +kernel)⟩
theorem lw_p11 : lw_okq (⟨"GiantStairs$Orders", "charactersThatFit", "(Ljava/lang/String;I)I"⟩, 4) := ⟨⟨by decide +kernel, by decide +kernel⟩, List.mem_of_getElem? (i := 197) (by decide +kernel), List.mem_of_getElem? (i := 1272) (by decide +kernel), List.mem_of_getElem? (i := 1273) (by decide +kernel)⟩
theorem lw_p12 : lw_okq (⟨"GiantStairs$Orders", "readOrder", "(III)I"⟩, 4) := ⟨⟨by decide +kernel, by decide +kernel⟩, List.mem_of_getElem? (i := 197) (by decide +kernel), List.mem_of_getElem? (i := 1307) (by decide +kernel), List.mem_of_getElem? (i := 1308) (by decide +kernel)⟩
theorem lw_p13 : lw_okq (⟨"GiantStairs", "isAnyOrderRefused", "()Z"⟩, 13) := ⟨⟨by decide +kernel, by decide +kernel⟩, List.mem_of_getElem? (i := 32) (by decide +kernel), List.mem_of_getElem? (i := 1312) (by decide +kernel), List.mem_of_getElem? (i := 1313) (by decide +kernel)⟩
theorem lw_p14 : lw_okq (⟨"GiantStairsModel", "begins", "()V"⟩, 26) := ⟨⟨by decide +kernel, by decide +kernel⟩, List.mem_of_getElem? (i := 1445) (by decide +kernel), List.mem_of_getElem? (i := 1538) (by decide +kernel), List.mem_of_getElem? (i := 1539) (by decide +kernel)⟩
theorem lw_p15 : lw_okq (⟨"GiantStairsModel", "isRefusedBuild", "(III)Z"⟩, 26) := ⟨⟨by decide +kernel, by decide +kernel⟩, List.mem_of_getElem? (i := 1445) (by decide +kernel), List.mem_of_getElem? (i := 1545) (by decide +kernel), List.mem_of_getElem? (i := 1546) (by decide +kernel)⟩
def lw_privs_1 : List (MethodName × Nat) := [(⟨"GiantStairs", "remember", "()V"⟩, 13), (⟨"GiantStairs$Treaty", "giveRent", "(LGiantStairs$Stair;)I"⟩, 10), (⟨"GiantStairs", "areStepsTold", "()Z"⟩, 13), (⟨"GiantStairs$Ways", "allowOver", "(I)V"⟩, 4), (⟨"GiantStairs$Ways", "nearestToDo", "()I"⟩, 4), (⟨"GiantStairs$Ways", "goOnFrom", "(LGiantStairs$Treaty;II)V"⟩, 4), (⟨"GiantStairs$Ways", "goOver", "(LGiantStairs$Treaty;ILGiantStairs$Stair;I[I)V"⟩, 4), (⟨"GiantStairs", "areBreathsTold", "(I)Z"⟩, 13), (⟨"java/lang/Throwable", "fillInStackTrace", "(I)Ljava/lang/Throwable;"⟩, 6), (⟨"GiantStairs", "isRefused", "(J)Z"⟩, 13), (⟨"GiantStairs$Orders", "kindThatGoesFarthest", "(I)I"⟩, 4), (⟨"GiantStairs$Orders", "charactersThatFit", "(Ljava/lang/String;I)I"⟩, 4), (⟨"GiantStairs$Orders", "readOrder", "(III)I"⟩, 4), (⟨"GiantStairs", "isAnyOrderRefused", "()Z"⟩, 13), (⟨"GiantStairsModel", "begins", "()V"⟩, 26), (⟨"GiantStairsModel", "isRefusedBuild", "(III)Z"⟩, 26)]
theorem lw_r1 : ∀ q ∈ lw_privs_1, lw_okq q := List.forall_mem_cons.mpr ⟨lw_p0, List.forall_mem_cons.mpr ⟨lw_p1, List.forall_mem_cons.mpr ⟨lw_p2, List.forall_mem_cons.mpr ⟨lw_p3, List.forall_mem_cons.mpr ⟨lw_p4, List.forall_mem_cons.mpr ⟨lw_p5, List.forall_mem_cons.mpr ⟨lw_p6, List.forall_mem_cons.mpr ⟨lw_p7, List.forall_mem_cons.mpr ⟨lw_p8, List.forall_mem_cons.mpr ⟨lw_p9, List.forall_mem_cons.mpr ⟨lw_p10, List.forall_mem_cons.mpr ⟨lw_p11, List.forall_mem_cons.mpr ⟨lw_p12, List.forall_mem_cons.mpr ⟨lw_p13, List.forall_mem_cons.mpr ⟨lw_p14, List.forall_mem_cons.mpr ⟨lw_p15, fun _ h => absurd h List.not_mem_nil⟩⟩⟩⟩⟩⟩⟩⟩⟩⟩⟩⟩⟩⟩⟩⟩
theorem lw_p16 : lw_okq (⟨"GiantStairsModel", "isNoLanding", "(I)Z"⟩, 26) := ⟨⟨by decide +kernel, by decide +kernel⟩, List.mem_of_getElem? (i := 1445) (by decide +kernel), List.mem_of_getElem? (i := 1549) (by decide +kernel), List.mem_of_getElem? (i := 1550) (by decide +kernel)⟩
theorem lw_p17 : lw_okq (⟨"GiantStairsModel", "isBad", "(II)Z"⟩, 26) := ⟨⟨by decide +kernel, by decide +kernel⟩, List.mem_of_getElem? (i := 1445) (by decide +kernel), List.mem_of_getElem? (i := 1559) (by decide +kernel), List.mem_of_getElem? (i := 1560) (by decide +kernel)⟩
theorem lw_p18 : lw_okq (⟨"GiantStairsModel", "stairBetween", "(II)I"⟩, 26) := ⟨⟨by decide +kernel, by decide +kernel⟩, List.mem_of_getElem? (i := 1445) (by decide +kernel), List.mem_of_getElem? (i := 1563) (by decide +kernel), List.mem_of_getElem? (i := 1564) (by decide +kernel)⟩
theorem lw_p19 : lw_okq (⟨"GiantStairsModel", "joins", "(III)Z"⟩, 26) := ⟨⟨by decide +kernel, by decide +kernel⟩, List.mem_of_getElem? (i := 1445) (by decide +kernel), List.mem_of_getElem? (i := 1567) (by decide +kernel), List.mem_of_getElem? (i := 1568) (by decide +kernel)⟩
theorem lw_p20 : lw_okq (⟨"GiantStairsModel", "sv", "(II)I"⟩, 26) := ⟨⟨by decide +kernel, by decide +kernel⟩, List.mem_of_getElem? (i := 1445) (by decide +kernel), List.mem_of_getElem? (i := 1571) (by decide +kernel), List.mem_of_getElem? (i := 1572) (by decide +kernel)⟩
theorem lw_p21 : lw_okq (⟨"GiantStairsModel", "refused", "()I"⟩, 26) := ⟨⟨by decide +kernel, by decide +kernel⟩, List.mem_of_getElem? (i := 1445) (by decide +kernel), List.mem_of_getElem? (i := 1575) (by decide +kernel), List.mem_of_getElem? (i := 1576) (by decide +kernel)⟩
theorem lw_p22 : lw_okq (⟨"GiantStairsModel", "no", "(I)I"⟩, 26) := ⟨⟨by decide +kernel, by decide +kernel⟩, List.mem_of_getElem? (i := 1445) (by decide +kernel), List.mem_of_getElem? (i := 1579) (by decide +kernel), List.mem_of_getElem? (i := 1580) (by decide +kernel)⟩
theorem lw_p23 : lw_okq (⟨"GiantStairsModel", "builds", "(III)I"⟩, 26) := ⟨⟨by decide +kernel, by decide +kernel⟩, List.mem_of_getElem? (i := 1445) (by decide +kernel), List.mem_of_getElem? (i := 1583) (by decide +kernel), List.mem_of_getElem? (i := 1584) (by decide +kernel)⟩
theorem lw_p24 : lw_okq (⟨"GiantStairsModel", "ls", "(III)V"⟩, 26) := ⟨⟨by decide +kernel, by decide +kernel⟩, List.mem_of_getElem? (i := 1445) (by decide +kernel), List.mem_of_getElem? (i := 1587) (by decide +kernel), List.mem_of_getElem? (i := 1588) (by decide +kernel)⟩
theorem lw_p25 : lw_okq (⟨"GiantStairsModel", "keeps", "(I)I"⟩, 26) := ⟨⟨by decide +kernel, by decide +kernel⟩, List.mem_of_getElem? (i := 1445) (by decide +kernel), List.mem_of_getElem? (i := 1591) (by decide +kernel), List.mem_of_getElem? (i := 1592) (by decide +kernel)⟩
theorem lw_p26 : lw_okq (⟨"GiantStairsModel", "isNoStair", "(I)Z"⟩, 26) := ⟨⟨by decide +kernel, by decide +kernel⟩, List.mem_of_getElem? (i := 1445) (by decide +kernel), List.mem_of_getElem? (i := 1599) (by decide +kernel), List.mem_of_getElem? (i := 1600) (by decide +kernel)⟩
theorem lw_p27 : lw_okq (⟨"GiantStairsModel", "isStair", "(I)Z"⟩, 26) := ⟨⟨by decide +kernel, by decide +kernel⟩, List.mem_of_getElem? (i := 1445) (by decide +kernel), List.mem_of_getElem? (i := 1603) (by decide +kernel), List.mem_of_getElem? (i := 1604) (by decide +kernel)⟩
theorem lw_p28 : lw_okq (⟨"GiantStairsModel", "tears", "(I)I"⟩, 26) := ⟨⟨by decide +kernel, by decide +kernel⟩, List.mem_of_getElem? (i := 1445) (by decide +kernel), List.mem_of_getElem? (i := 1607) (by decide +kernel), List.mem_of_getElem? (i := 1608) (by decide +kernel)⟩
theorem lw_p29 : lw_okq (⟨"GiantStairsModel", "isRefusedHalve", "(I)Z"⟩, 26) := ⟨⟨by decide +kernel, by decide +kernel⟩, List.mem_of_getElem? (i := 1445) (by decide +kernel), List.mem_of_getElem? (i := 1615) (by decide +kernel), List.mem_of_getElem? (i := 1616) (by decide +kernel)⟩
theorem lw_p30 : lw_okq (⟨"GiantStairsModel", "halves", "(I)I"⟩, 26) := ⟨⟨by decide +kernel, by decide +kernel⟩, List.mem_of_getElem? (i := 1445) (by decide +kernel), List.mem_of_getElem? (i := 1619) (by decide +kernel), List.mem_of_getElem? (i := 1620) (by decide +kernel)⟩
theorem lw_p31 : lw_okq (⟨"GiantStairsModel", "isRefusedLease", "(III)Z"⟩, 26) := ⟨⟨by decide +kernel, by decide +kernel⟩, List.mem_of_getElem? (i := 1445) (by decide +kernel), List.mem_of_getElem? (i := 1627) (by decide +kernel), List.mem_of_getElem? (i := 1628) (by decide +kernel)⟩
def lw_privs_2 : List (MethodName × Nat) := [(⟨"GiantStairsModel", "isNoLanding", "(I)Z"⟩, 26), (⟨"GiantStairsModel", "isBad", "(II)Z"⟩, 26), (⟨"GiantStairsModel", "stairBetween", "(II)I"⟩, 26), (⟨"GiantStairsModel", "joins", "(III)Z"⟩, 26), (⟨"GiantStairsModel", "sv", "(II)I"⟩, 26), (⟨"GiantStairsModel", "refused", "()I"⟩, 26), (⟨"GiantStairsModel", "no", "(I)I"⟩, 26), (⟨"GiantStairsModel", "builds", "(III)I"⟩, 26), (⟨"GiantStairsModel", "ls", "(III)V"⟩, 26), (⟨"GiantStairsModel", "keeps", "(I)I"⟩, 26), (⟨"GiantStairsModel", "isNoStair", "(I)Z"⟩, 26), (⟨"GiantStairsModel", "isStair", "(I)Z"⟩, 26), (⟨"GiantStairsModel", "tears", "(I)I"⟩, 26), (⟨"GiantStairsModel", "isRefusedHalve", "(I)Z"⟩, 26), (⟨"GiantStairsModel", "halves", "(I)I"⟩, 26), (⟨"GiantStairsModel", "isRefusedLease", "(III)Z"⟩, 26)]
theorem lw_r2 : ∀ q ∈ lw_privs_2, lw_okq q := List.forall_mem_cons.mpr ⟨lw_p16, List.forall_mem_cons.mpr ⟨lw_p17, List.forall_mem_cons.mpr ⟨lw_p18, List.forall_mem_cons.mpr ⟨lw_p19, List.forall_mem_cons.mpr ⟨lw_p20, List.forall_mem_cons.mpr ⟨lw_p21, List.forall_mem_cons.mpr ⟨lw_p22, List.forall_mem_cons.mpr ⟨lw_p23, List.forall_mem_cons.mpr ⟨lw_p24, List.forall_mem_cons.mpr ⟨lw_p25, List.forall_mem_cons.mpr ⟨lw_p26, List.forall_mem_cons.mpr ⟨lw_p27, List.forall_mem_cons.mpr ⟨lw_p28, List.forall_mem_cons.mpr ⟨lw_p29, List.forall_mem_cons.mpr ⟨lw_p30, List.forall_mem_cons.mpr ⟨lw_p31, fun _ h => absurd h List.not_mem_nil⟩⟩⟩⟩⟩⟩⟩⟩⟩⟩⟩⟩⟩⟩⟩⟩
theorem lw_p32 : lw_okq (⟨"GiantStairsModel", "isNoGiant", "(I)Z"⟩, 26) := ⟨⟨by decide +kernel, by decide +kernel⟩, List.mem_of_getElem? (i := 1445) (by decide +kernel), List.mem_of_getElem? (i := 1631) (by decide +kernel), List.mem_of_getElem? (i := 1632) (by decide +kernel)⟩
theorem lw_p33 : lw_okq (⟨"GiantStairsModel", "leases", "(III)I"⟩, 26) := ⟨⟨by decide +kernel, by decide +kernel⟩, List.mem_of_getElem? (i := 1445) (by decide +kernel), List.mem_of_getElem? (i := 1638) (by decide +kernel), List.mem_of_getElem? (i := 1639) (by decide +kernel)⟩
theorem lw_p34 : lw_okq (⟨"GiantStairsModel", "rentOf", "(I)I"⟩, 26) := ⟨⟨by decide +kernel, by decide +kernel⟩, List.mem_of_getElem? (i := 1445) (by decide +kernel), List.mem_of_getElem? (i := 1642) (by decide +kernel), List.mem_of_getElem? (i := 1643) (by decide +kernel)⟩
theorem lw_p35 : lw_okq (⟨"GiantStairsModel", "isRefusedClimb", "(II)Z"⟩, 26) := ⟨⟨by decide +kernel, by decide +kernel⟩, List.mem_of_getElem? (i := 1445) (by decide +kernel), List.mem_of_getElem? (i := 1650) (by decide +kernel), List.mem_of_getElem? (i := 1651) (by decide +kernel)⟩
theorem lw_p36 : lw_okq (⟨"GiantStairsModel", "gv", "(II)I"⟩, 26) := ⟨⟨by decide +kernel, by decide +kernel⟩, List.mem_of_getElem? (i := 1445) (by decide +kernel), List.mem_of_getElem? (i := 1654) (by decide +kernel), List.mem_of_getElem? (i := 1655) (by decide +kernel)⟩
theorem lw_p37 : lw_okq (⟨"GiantStairsModel", "touches", "(II)Z"⟩, 26) := ⟨⟨by decide +kernel, by decide +kernel⟩, List.mem_of_getElem? (i := 1445) (by decide +kernel), List.mem_of_getElem? (i := 1658) (by decide +kernel), List.mem_of_getElem? (i := 1659) (by decide +kernel)⟩
theorem lw_p38 : lw_okq (⟨"GiantStairsModel", "across", "(II)I"⟩, 26) := ⟨⟨by decide +kernel, by decide +kernel⟩, List.mem_of_getElem? (i := 1445) (by decide +kernel), List.mem_of_getElem? (i := 1662) (by decide +kernel), List.mem_of_getElem? (i := 1663) (by decide +kernel)⟩
theorem lw_p39 : lw_okq (⟨"GiantStairsModel", "owner", "(I)I"⟩, 26) := ⟨⟨by decide +kernel, by decide +kernel⟩, List.mem_of_getElem? (i := 1445) (by decide +kernel), List.mem_of_getElem? (i := 1666) (by decide +kernel), List.mem_of_getElem? (i := 1667) (by decide +kernel)⟩
theorem lw_p40 : lw_okq (⟨"GiantStairsModel", "climbs", "(II)I"⟩, 26) := ⟨⟨by decide +kernel, by decide +kernel⟩, List.mem_of_getElem? (i := 1445) (by decide +kernel), List.mem_of_getElem? (i := 1670) (by decide +kernel), List.mem_of_getElem? (i := 1671) (by decide +kernel)⟩
theorem lw_p41 : lw_okq (⟨"GiantStairsModel", "takesBreaths", "(II)I"⟩, 26) := ⟨⟨by decide +kernel, by decide +kernel⟩, List.mem_of_getElem? (i := 1445) (by decide +kernel), List.mem_of_getElem? (i := 1674) (by decide +kernel), List.mem_of_getElem? (i := 1675) (by decide +kernel)⟩
theorem lw_p42 : lw_okq (⟨"GiantStairsModel", "more", "(III)V"⟩, 26) := ⟨⟨by decide +kernel, by decide +kernel⟩, List.mem_of_getElem? (i := 1445) (by decide +kernel), List.mem_of_getElem? (i := 1678) (by decide +kernel), List.mem_of_getElem? (i := 1679) (by decide +kernel)⟩
theorem lw_p43 : lw_okq (⟨"GiantStairsModel", "isRefusedLevy", "(II)Z"⟩, 26) := ⟨⟨by decide +kernel, by decide +kernel⟩, List.mem_of_getElem? (i := 1445) (by decide +kernel), List.mem_of_getElem? (i := 1686) (by decide +kernel), List.mem_of_getElem? (i := 1687) (by decide +kernel)⟩
theorem lw_p44 : lw_okq (⟨"GiantStairsModel", "levies", "(II)I"⟩, 26) := ⟨⟨by decide +kernel, by decide +kernel⟩, List.mem_of_getElem? (i := 1445) (by decide +kernel), List.mem_of_getElem? (i := 1690) (by decide +kernel), List.mem_of_getElem? (i := 1691) (by decide +kernel)⟩
theorem lw_p45 : lw_okq (⟨"GiantStairsModel", "levyBy", "(II)I"⟩, 26) := ⟨⟨by decide +kernel, by decide +kernel⟩, List.mem_of_getElem? (i := 1445) (by decide +kernel), List.mem_of_getElem? (i := 1694) (by decide +kernel), List.mem_of_getElem? (i := 1695) (by decide +kernel)⟩
theorem lw_p46 : lw_okq (⟨"GiantStairsModel", "isRefusedTake", "(I)Z"⟩, 26) := ⟨⟨by decide +kernel, by decide +kernel⟩, List.mem_of_getElem? (i := 1445) (by decide +kernel), List.mem_of_getElem? (i := 1702) (by decide +kernel), List.mem_of_getElem? (i := 1703) (by decide +kernel)⟩
theorem lw_p47 : lw_okq (⟨"GiantStairsModel", "standing", "(I)I"⟩, 26) := ⟨⟨by decide +kernel, by decide +kernel⟩, List.mem_of_getElem? (i := 1445) (by decide +kernel), List.mem_of_getElem? (i := 1706) (by decide +kernel), List.mem_of_getElem? (i := 1707) (by decide +kernel)⟩
def lw_privs_3 : List (MethodName × Nat) := [(⟨"GiantStairsModel", "isNoGiant", "(I)Z"⟩, 26), (⟨"GiantStairsModel", "leases", "(III)I"⟩, 26), (⟨"GiantStairsModel", "rentOf", "(I)I"⟩, 26), (⟨"GiantStairsModel", "isRefusedClimb", "(II)Z"⟩, 26), (⟨"GiantStairsModel", "gv", "(II)I"⟩, 26), (⟨"GiantStairsModel", "touches", "(II)Z"⟩, 26), (⟨"GiantStairsModel", "across", "(II)I"⟩, 26), (⟨"GiantStairsModel", "owner", "(I)I"⟩, 26), (⟨"GiantStairsModel", "climbs", "(II)I"⟩, 26), (⟨"GiantStairsModel", "takesBreaths", "(II)I"⟩, 26), (⟨"GiantStairsModel", "more", "(III)V"⟩, 26), (⟨"GiantStairsModel", "isRefusedLevy", "(II)Z"⟩, 26), (⟨"GiantStairsModel", "levies", "(II)I"⟩, 26), (⟨"GiantStairsModel", "levyBy", "(II)I"⟩, 26), (⟨"GiantStairsModel", "isRefusedTake", "(I)Z"⟩, 26), (⟨"GiantStairsModel", "standing", "(I)I"⟩, 26)]
theorem lw_r3 : ∀ q ∈ lw_privs_3, lw_okq q := List.forall_mem_cons.mpr ⟨lw_p32, List.forall_mem_cons.mpr ⟨lw_p33, List.forall_mem_cons.mpr ⟨lw_p34, List.forall_mem_cons.mpr ⟨lw_p35, List.forall_mem_cons.mpr ⟨lw_p36, List.forall_mem_cons.mpr ⟨lw_p37, List.forall_mem_cons.mpr ⟨lw_p38, List.forall_mem_cons.mpr ⟨lw_p39, List.forall_mem_cons.mpr ⟨lw_p40, List.forall_mem_cons.mpr ⟨lw_p41, List.forall_mem_cons.mpr ⟨lw_p42, List.forall_mem_cons.mpr ⟨lw_p43, List.forall_mem_cons.mpr ⟨lw_p44, List.forall_mem_cons.mpr ⟨lw_p45, List.forall_mem_cons.mpr ⟨lw_p46, List.forall_mem_cons.mpr ⟨lw_p47, fun _ h => absurd h List.not_mem_nil⟩⟩⟩⟩⟩⟩⟩⟩⟩⟩⟩⟩⟩⟩⟩⟩
theorem lw_p48 : lw_okq (⟨"GiantStairsModel", "isJoined", "(II)Z"⟩, 26) := ⟨⟨by decide +kernel, by decide +kernel⟩, List.mem_of_getElem? (i := 1445) (by decide +kernel), List.mem_of_getElem? (i := 1710) (by decide +kernel), List.mem_of_getElem? (i := 1711) (by decide +kernel)⟩
theorem lw_p49 : lw_okq (⟨"GiantStairsModel", "landingsOf", "(I)I"⟩, 26) := ⟨⟨by decide +kernel, by decide +kernel⟩, List.mem_of_getElem? (i := 1445) (by decide +kernel), List.mem_of_getElem? (i := 1714) (by decide +kernel), List.mem_of_getElem? (i := 1715) (by decide +kernel)⟩
theorem lw_p50 : lw_okq (⟨"GiantStairsModel", "priceOf", "(I)I"⟩, 26) := ⟨⟨by decide +kernel, by decide +kernel⟩, List.mem_of_getElem? (i := 1445) (by decide +kernel), List.mem_of_getElem? (i := 1718) (by decide +kernel), List.mem_of_getElem? (i := 1719) (by decide +kernel)⟩
theorem lw_p51 : lw_okq (⟨"GiantStairsModel", "takes", "(I)I"⟩, 26) := ⟨⟨by decide +kernel, by decide +kernel⟩, List.mem_of_getElem? (i := 1445) (by decide +kernel), List.mem_of_getElem? (i := 1722) (by decide +kernel), List.mem_of_getElem? (i := 1723) (by decide +kernel)⟩
theorem lw_p52 : lw_okq (⟨"GiantStairsModel", "isRefusedCede", "(II)Z"⟩, 26) := ⟨⟨by decide +kernel, by decide +kernel⟩, List.mem_of_getElem? (i := 1445) (by decide +kernel), List.mem_of_getElem? (i := 1730) (by decide +kernel), List.mem_of_getElem? (i := 1731) (by decide +kernel)⟩
theorem lw_p53 : lw_okq (⟨"GiantStairsModel", "cedes", "(II)I"⟩, 26) := ⟨⟨by decide +kernel, by decide +kernel⟩, List.mem_of_getElem? (i := 1445) (by decide +kernel), List.mem_of_getElem? (i := 1734) (by decide +kernel), List.mem_of_getElem? (i := 1735) (by decide +kernel)⟩
theorem lw_p54 : lw_okq (⟨"GiantStairsModel", "goesBy", "()I"⟩, 26) := ⟨⟨by decide +kernel, by decide +kernel⟩, List.mem_of_getElem? (i := 1445) (by decide +kernel), List.mem_of_getElem? (i := 1742) (by decide +kernel), List.mem_of_getElem? (i := 1743) (by decide +kernel)⟩
theorem lw_p55 : lw_okq (⟨"GiantStairsModel", "givesRent", "(I)I"⟩, 26) := ⟨⟨by decide +kernel, by decide +kernel⟩, List.mem_of_getElem? (i := 1445) (by decide +kernel), List.mem_of_getElem? (i := 1749) (by decide +kernel), List.mem_of_getElem? (i := 1750) (by decide +kernel)⟩
theorem lw_p56 : lw_okq (⟨"GiantStairsModel", "ends", "(I)V"⟩, 26) := ⟨⟨by decide +kernel, by decide +kernel⟩, List.mem_of_getElem? (i := 1445) (by decide +kernel), List.mem_of_getElem? (i := 1753) (by decide +kernel), List.mem_of_getElem? (i := 1754) (by decide +kernel)⟩
theorem lw_p57 : lw_okq (⟨"GiantStairsModel", "leasedTo", "(I)I"⟩, 26) := ⟨⟨by decide +kernel, by decide +kernel⟩, List.mem_of_getElem? (i := 1445) (by decide +kernel), List.mem_of_getElem? (i := 1761) (by decide +kernel), List.mem_of_getElem? (i := 1762) (by decide +kernel)⟩
theorem lw_p58 : lw_okq (⟨"GiantStairsModel", "stairsAt", "(I)I"⟩, 26) := ⟨⟨by decide +kernel, by decide +kernel⟩, List.mem_of_getElem? (i := 1445) (by decide +kernel), List.mem_of_getElem? (i := 1769) (by decide +kernel), List.mem_of_getElem? (i := 1770) (by decide +kernel)⟩
theorem lw_p59 : lw_okq (⟨"GiantStairsModel", "joinedTo", "(I)I"⟩, 26) := ⟨⟨by decide +kernel, by decide +kernel⟩, List.mem_of_getElem? (i := 1445) (by decide +kernel), List.mem_of_getElem? (i := 1773) (by decide +kernel), List.mem_of_getElem? (i := 1774) (by decide +kernel)⟩
theorem lw_p60 : lw_okq (⟨"GiantStairsModel", "stepsTo", "(II)I"⟩, 26) := ⟨⟨by decide +kernel, by decide +kernel⟩, List.mem_of_getElem? (i := 1445) (by decide +kernel), List.mem_of_getElem? (i := 1793) (by decide +kernel), List.mem_of_getElem? (i := 1794) (by decide +kernel)⟩
theorem lw_p61 : lw_okq (⟨"GiantStairsModel", "lays", "(II)V"⟩, 26) := ⟨⟨by decide +kernel, by decide +kernel⟩, List.mem_of_getElem? (i := 1445) (by decide +kernel), List.mem_of_getElem? (i := 1797) (by decide +kernel), List.mem_of_getElem? (i := 1798) (by decide +kernel)⟩
theorem lw_p62 : lw_okq (⟨"GiantStairsModel", "lengthOf", "(II)I"⟩, 26) := ⟨⟨by decide +kernel, by decide +kernel⟩, List.mem_of_getElem? (i := 1445) (by decide +kernel), List.mem_of_getElem? (i := 1802) (by decide +kernel), List.mem_of_getElem? (i := 1803) (by decide +kernel)⟩
theorem lw_p63 : lw_okq (⟨"GiantStairsModel", "wayTo", "(II)I"⟩, 26) := ⟨⟨by decide +kernel, by decide +kernel⟩, List.mem_of_getElem? (i := 1445) (by decide +kernel), List.mem_of_getElem? (i := 1814) (by decide +kernel), List.mem_of_getElem? (i := 1815) (by decide +kernel)⟩
def lw_privs_4 : List (MethodName × Nat) := [(⟨"GiantStairsModel", "isJoined", "(II)Z"⟩, 26), (⟨"GiantStairsModel", "landingsOf", "(I)I"⟩, 26), (⟨"GiantStairsModel", "priceOf", "(I)I"⟩, 26), (⟨"GiantStairsModel", "takes", "(I)I"⟩, 26), (⟨"GiantStairsModel", "isRefusedCede", "(II)Z"⟩, 26), (⟨"GiantStairsModel", "cedes", "(II)I"⟩, 26), (⟨"GiantStairsModel", "goesBy", "()I"⟩, 26), (⟨"GiantStairsModel", "givesRent", "(I)I"⟩, 26), (⟨"GiantStairsModel", "ends", "(I)V"⟩, 26), (⟨"GiantStairsModel", "leasedTo", "(I)I"⟩, 26), (⟨"GiantStairsModel", "stairsAt", "(I)I"⟩, 26), (⟨"GiantStairsModel", "joinedTo", "(I)I"⟩, 26), (⟨"GiantStairsModel", "stepsTo", "(II)I"⟩, 26), (⟨"GiantStairsModel", "lays", "(II)V"⟩, 26), (⟨"GiantStairsModel", "lengthOf", "(II)I"⟩, 26), (⟨"GiantStairsModel", "wayTo", "(II)I"⟩, 26)]
theorem lw_r4 : ∀ q ∈ lw_privs_4, lw_okq q := List.forall_mem_cons.mpr ⟨lw_p48, List.forall_mem_cons.mpr ⟨lw_p49, List.forall_mem_cons.mpr ⟨lw_p50, List.forall_mem_cons.mpr ⟨lw_p51, List.forall_mem_cons.mpr ⟨lw_p52, List.forall_mem_cons.mpr ⟨lw_p53, List.forall_mem_cons.mpr ⟨lw_p54, List.forall_mem_cons.mpr ⟨lw_p55, List.forall_mem_cons.mpr ⟨lw_p56, List.forall_mem_cons.mpr ⟨lw_p57, List.forall_mem_cons.mpr ⟨lw_p58, List.forall_mem_cons.mpr ⟨lw_p59, List.forall_mem_cons.mpr ⟨lw_p60, List.forall_mem_cons.mpr ⟨lw_p61, List.forall_mem_cons.mpr ⟨lw_p62, List.forall_mem_cons.mpr ⟨lw_p63, fun _ h => absurd h List.not_mem_nil⟩⟩⟩⟩⟩⟩⟩⟩⟩⟩⟩⟩⟩⟩⟩⟩
theorem lw_p64 : lw_okq (⟨"GiantStairsModel", "dustBy", "(II)I"⟩, 26) := ⟨⟨by decide +kernel, by decide +kernel⟩, List.mem_of_getElem? (i := 1445) (by decide +kernel), List.mem_of_getElem? (i := 1834) (by decide +kernel), List.mem_of_getElem? (i := 1835) (by decide +kernel)⟩
theorem lw_p65 : lw_okq (⟨"GiantStairsModel", "couldLevy", "(II)I"⟩, 26) := ⟨⟨by decide +kernel, by decide +kernel⟩, List.mem_of_getElem? (i := 1445) (by decide +kernel), List.mem_of_getElem? (i := 1853) (by decide +kernel), List.mem_of_getElem? (i := 1854) (by decide +kernel)⟩
theorem lw_p66 : lw_okq (⟨"GiantStairsModel", "measured", "(II)I"⟩, 26) := ⟨⟨by decide +kernel, by decide +kernel⟩, List.mem_of_getElem? (i := 1445) (by decide +kernel), List.mem_of_getElem? (i := 1877) (by decide +kernel), List.mem_of_getElem? (i := 1878) (by decide +kernel)⟩
theorem lw_p67 : lw_okq (⟨"GiantStairsModel", "reads", "()V"⟩, 26) := ⟨⟨by decide +kernel, by decide +kernel⟩, List.mem_of_getElem? (i := 1445) (by decide +kernel), List.mem_of_getElem? (i := 1893) (by decide +kernel), List.mem_of_getElem? (i := 1894) (by decide +kernel)⟩
theorem lw_p68 : lw_okq (⟨"GiantStairsModel", "order", "()V"⟩, 26) := ⟨⟨by decide +kernel, by decide +kernel⟩, List.mem_of_getElem? (i := 1445) (by decide +kernel), List.mem_of_getElem? (i := 1897) (by decide +kernel), List.mem_of_getElem? (i := 1898) (by decide +kernel)⟩
theorem lw_p69 : lw_okq (⟨"GiantStairsModel", "kindHere", "()I"⟩, 26) := ⟨⟨by decide +kernel, by decide +kernel⟩, List.mem_of_getElem? (i := 1445) (by decide +kernel), List.mem_of_getElem? (i := 1901) (by decide +kernel), List.mem_of_getElem? (i := 1902) (by decide +kernel)⟩
theorem lw_p70 : lw_okq (⟨"GiantStairsModel", "blank", "()V"⟩, 26) := ⟨⟨by decide +kernel, by decide +kernel⟩, List.mem_of_getElem? (i := 1445) (by decide +kernel), List.mem_of_getElem? (i := 1911) (by decide +kernel), List.mem_of_getElem? (i := 1912) (by decide +kernel)⟩
theorem lw_p71 : lw_okq (⟨"GiantStairsModel", "mark", "()I"⟩, 26) := ⟨⟨by decide +kernel, by decide +kernel⟩, List.mem_of_getElem? (i := 1445) (by decide +kernel), List.mem_of_getElem? (i := 1915) (by decide +kernel), List.mem_of_getElem? (i := 1916) (by decide +kernel)⟩
theorem lw_p72 : lw_okq (⟨"GiantStairsModel", "digits", "(I)I"⟩, 26) := ⟨⟨by decide +kernel, by decide +kernel⟩, List.mem_of_getElem? (i := 1445) (by decide +kernel), List.mem_of_getElem? (i := 1919) (by decide +kernel), List.mem_of_getElem? (i := 1920) (by decide +kernel)⟩
theorem lw_p73 : lw_okq (⟨"GiantStairsModel", "isDigit", "()Z"⟩, 26) := ⟨⟨by decide +kernel, by decide +kernel⟩, List.mem_of_getElem? (i := 1445) (by decide +kernel), List.mem_of_getElem? (i := 1923) (by decide +kernel), List.mem_of_getElem? (i := 1924) (by decide +kernel)⟩
theorem lw_p74 : lw_okq (⟨"GiantStairsModel", "cannot", "(I)Z"⟩, 26) := ⟨⟨by decide +kernel, by decide +kernel⟩, List.mem_of_getElem? (i := 1445) (by decide +kernel), List.mem_of_getElem? (i := 1927) (by decide +kernel), List.mem_of_getElem? (i := 1928) (by decide +kernel)⟩
theorem lw_p75 : lw_okq (⟨"GiantStairsModel", "writesNumber", "(I)V"⟩, 26) := ⟨⟨by decide +kernel, by decide +kernel⟩, List.mem_of_getElem? (i := 1445) (by decide +kernel), List.mem_of_getElem? (i := 1943) (by decide +kernel), List.mem_of_getElem? (i := 1944) (by decide +kernel)⟩
theorem lw_p76 : lw_okq (⟨"GiantStairsModel", "writes", "(I)V"⟩, 26) := ⟨⟨by decide +kernel, by decide +kernel⟩, List.mem_of_getElem? (i := 1445) (by decide +kernel), List.mem_of_getElem? (i := 1947) (by decide +kernel), List.mem_of_getElem? (i := 1948) (by decide +kernel)⟩
theorem lw_p77 : lw_okq (⟨"GiantStairsModel", "sumOf", "(I)I"⟩, 26) := ⟨⟨by decide +kernel, by decide +kernel⟩, List.mem_of_getElem? (i := 1445) (by decide +kernel), List.mem_of_getElem? (i := 1967) (by decide +kernel), List.mem_of_getElem? (i := 1968) (by decide +kernel)⟩
def lw_privs_5 : List (MethodName × Nat) := [(⟨"GiantStairsModel", "dustBy", "(II)I"⟩, 26), (⟨"GiantStairsModel", "couldLevy", "(II)I"⟩, 26), (⟨"GiantStairsModel", "measured", "(II)I"⟩, 26), (⟨"GiantStairsModel", "reads", "()V"⟩, 26), (⟨"GiantStairsModel", "order", "()V"⟩, 26), (⟨"GiantStairsModel", "kindHere", "()I"⟩, 26), (⟨"GiantStairsModel", "blank", "()V"⟩, 26), (⟨"GiantStairsModel", "mark", "()I"⟩, 26), (⟨"GiantStairsModel", "digits", "(I)I"⟩, 26), (⟨"GiantStairsModel", "isDigit", "()Z"⟩, 26), (⟨"GiantStairsModel", "cannot", "(I)Z"⟩, 26), (⟨"GiantStairsModel", "writesNumber", "(I)V"⟩, 26), (⟨"GiantStairsModel", "writes", "(I)V"⟩, 26), (⟨"GiantStairsModel", "sumOf", "(I)I"⟩, 26)]
theorem lw_r5 : ∀ q ∈ lw_privs_5, lw_okq q := List.forall_mem_cons.mpr ⟨lw_p64, List.forall_mem_cons.mpr ⟨lw_p65, List.forall_mem_cons.mpr ⟨lw_p66, List.forall_mem_cons.mpr ⟨lw_p67, List.forall_mem_cons.mpr ⟨lw_p68, List.forall_mem_cons.mpr ⟨lw_p69, List.forall_mem_cons.mpr ⟨lw_p70, List.forall_mem_cons.mpr ⟨lw_p71, List.forall_mem_cons.mpr ⟨lw_p72, List.forall_mem_cons.mpr ⟨lw_p73, List.forall_mem_cons.mpr ⟨lw_p74, List.forall_mem_cons.mpr ⟨lw_p75, List.forall_mem_cons.mpr ⟨lw_p76, List.forall_mem_cons.mpr ⟨lw_p77, fun _ h => absurd h List.not_mem_nil⟩⟩⟩⟩⟩⟩⟩⟩⟩⟩⟩⟩⟩⟩
def lw_privs : List (MethodName × Nat) := lw_privs_1 ++ (lw_privs_2 ++ (lw_privs_3 ++ (lw_privs_4 ++ (lw_privs_5))))
def lw_tbl : List Cond := k2_sels lw_privs ++ tables_1
theorem lw_privs_ok : ∀ q ∈ lw_privs, lw_okq q := by
  show ∀ q ∈ lw_privs_1 ++ (lw_privs_2 ++ (lw_privs_3 ++ (lw_privs_4 ++ (lw_privs_5)))), lw_okq q
  exact List.forall_mem_append.mpr ⟨lw_r1, List.forall_mem_append.mpr ⟨lw_r2, List.forall_mem_append.mpr ⟨lw_r3, List.forall_mem_append.mpr ⟨lw_r4, lw_r5⟩⟩⟩⟩
/-- the streams that the claim lets the run draw from -/
abbrev lw_cs : List Choice := [Jvm.Choice.named "NaN.bits"]
theorem lw_bits : nanBits ∈ lw_cs := by first | decide | exact List.mem_cons_self | simp [lw_cs, nanBits]
end
section
/-! ===== BEGIN words of one list among another's, by their places ===== -/
theorem goodIn_r {big : List Cond} (ws : List Cond) (ps : List Nat) (hp : ws = ps.filterMap (fun i => big[i]?)) (h : ws.all goodWord = true) : GoodIn big ws := by
  intro w hw
  have h1 := List.all_eq_true.mp h w hw
  rw [hp] at hw
  obtain ⟨i, -, hi⟩ := List.mem_filterMap.mp hw
  have hm : w ∈ big := by first | exact List.mem_of_getElem? hi | exact List.getElem?_mem hi
  exact ⟨hm, good_of_word h1⟩
theorem goodIn_app {big a b : List Cond} (ha : GoodIn big a) (hb : GoodIn big b) : GoodIn big (a ++ b) := fun w h => (List.mem_append.mp h).elim (ha w) (hb w)
theorem goodIn_ca {big a b : List Cond} {c : Cond} (ha : GoodIn big (c :: a)) (hb : GoodIn big b) : GoodIn big (c :: (a ++ b)) := fun w h => (List.mem_cons.mp h).elim (fun e => ha w (List.mem_cons.mpr (Or.inl e))) (fun h => (List.mem_append.mp h).elim (fun h => ha w (List.mem_cons.mpr (Or.inr h))) (hb w))
theorem goodIn_sub {big ws : List Cond} (hm : ∀ w ∈ ws, w ∈ big) (h : ws.all goodWord = true) : GoodIn big ws := fun w hw => ⟨hm w hw, good_of_word (List.all_eq_true.mp h w hw)⟩
/-! ===== END ===== -/
/-! ===== BEGIN exceptions that leave a method, and their catching by the caller (launches without stack traces) ===== -/
section VXA
/-! The laws vx_back, vx_callV, vx_callS, vx_callSW, vx_throw0, vx_throwS follow proofs of the library, with one case more: JvmDerived/Free/Laws.lean (Back.of_free), Shelf42/LK1.lean (callV, callS), Shelf/KitTraced.lean (throwNew0V, throwNewS). -/
/-- where a method has thrown q: the class by its name, the cell, what was written, the world -/
def vx_T (XC : String → State → State → Prop) (st : State) (q : Addr) (t : State) (mc ms : Nat) (free : Addr → Prop) : Prop :=
  ∃ (E : String) (ce : Cell) (L : List Loc), XC E st t ∧ t.heap[q]? = some ce ∧ ce.vm = .none ∧ st.vm.findClass E = some ce.cls ∧ st.WarmedH t.vm ∧ st.sameButNew ({ t with vm := st.vm } : State) L mc ms ∧ ∀ z ∈ L, free z.base
def vx_Q (Qc : Array Value → State → Outcome → State → Prop) (XC : String → State → State → Prop) (mc ms : Nat) (free : Addr → Prop) : Array Value → State → Outcome → State → Prop := fun a st o t =>
  (Qc a st o t ∧ ∃ L, FrameEnd st o t L mc ms ∧ ∀ q ∈ L, free q.base) ∨ ∃ q, o = .threw q ∧ vx_T XC st q t mc ms free
/-- a callee that returns or throws -/
def vx_Met (l : Launch) (y : MethodName) (ws : List Cond) (rm : Room) (Pc : Array Value → State → Prop) (Qc : Array Value → State → Outcome → State → Prop) (XC : String → State → State → Prop) (mc ms : Nat) (free : Addr → Prop) : Prop :=
  MetFree l y (headSpec ws rm) Pc (fun _ _ _ _ _ => True) (vx_Q Qc XC mc ms free)
def vx_Post (XC : String → State → State → Prop) (mc ms : Nat) (free : Addr → Prop) : Pt → Array Value → Addr → Pt → Prop := fun A a q B =>
  ∃ (g : JFrame) (mk : MethodId) (t : State) (L : List Loc) (E : String) (ce : Cell), B.U.heap = t.heap ∧ B.U.vm = t.vm ∧ XC E (A.U.calling g mk a) t ∧ t.heap[q]? = some ce ∧ ce.vm = .none ∧ A.U.vm.findClass E = some ce.cls ∧ B.locs = A.locs ++ L ∧ (∀ z ∈ L, free z.base) ∧ B.cells = A.cells + mc ∧ B.slots = A.slots + ms
def vx_Back (l : Launch) (R : Room) (p : Program) (e : Env) (below : List Frame) (s : State) (sargs : Array Value) (y : MethodName) (len W9 : Nat)
    (Pre : Pt → Array Value → Prop) (Post : Pt → Array Value → Option Value → Pt → Prop) (PostX : Pt → Array Value → Addr → Pt → Prop) : Prop :=
  ∀ (m : MethodId) (meth : Method) (c : Code) (A : Pt) (g : JFrame) (ig : Instr) (mk : MethodId) (a : Array Value),
    Stand p l e R s m sargs below meth c A.U A.locs A.cells A.slots → g.method = m → g.locals.size = c.maxLocals → decode c.code g.pc = .ok (ig, len) →
    2 * g.monitorRoom + (g.stack.map fun v => v.category).sum ≤ W9 → A.U.methodNamed? y = some mk → Pre A a →
    (∃ (v : Option Value) (B : Pt), Stand p l e R s m sargs below meth c B.U B.locs B.cells B.slots ∧ Post A a v B ∧
      Steps p.tables e below (doInvoke e (A.U.setTop g) [] mk a).1 (B.U.setTop { g with pc := g.pc + len, stack := v.toList ++ g.stack })) ∨
    (∃ (q : Addr) (B : Pt), Stand p l e R s m sargs below meth c B.U B.locs B.cells B.slots ∧ PostX A a q B ∧
      Steps p.tables e below (doInvoke e (A.U.setTop g) [] mk a).1 ((B.U.setTop g).pushFrame (.throwing q)))
section Payer
variable {l : Launch} {R : Room} {p : Program} {e : Env} {below : List Frame} {s : State} {sargs : Array Value} {y : MethodName} {len W9 : Nat}
theorem vx_back {ws : List Cond} {rm : Room} {Pc : Array Value → State → Prop} {Qc : Array Value → State → Outcome → State → Prop} {XC : String → State → State → Prop} {mc ms : Nat} {free : Addr → Prop} {bytes : ByteArray} {maxL : Nat} {ret : Option FieldType}
    (hM : vx_Met l y ws rm Pc Qc XC mc ms free) (hblind : FrameBlind Pc) (hrc : rm.cells = mc) (hrs : rm.slots = ms)
    (hframes : rm.frames + 1 ≤ R.frames) (hlocals : W9 + (maxL + 11) + rm.locals ≤ R.locals)
    (hws : ∀ w ∈ ws, ∀ a' U, s.WarmedH U.vm → w.before a' U = true) (hcode : Cond.code y bytes maxL ret ∈ ws) (hinit : ∀ a' U, s.WarmedH U.vm → (Cond.initialized y.cls).before a' U = true) :
    vx_Back l R p e below s sargs y len W9 (PreOf R mc ms Pc) (PostOf Qc mc ms free) (vx_Post XC mc ms free) := by
  intro m meth c A g ig mk a X hg hsize hdg hW hn hp
  have h1 : (headSpec ws rm).pre.before a A.U = true := atoms_intro fun w hw => hws w hw _ _ X.warmed
  have h2 : (Cond.code y bytes maxL ret).before a A.U = true := hws _ hcode _ _ X.warmed
  have h3 : (Cond.initialized y.cls).before a A.U = true := hinit _ _ X.warmed
  have h4 : A.cells + (headSpec ws rm).room.cells ≤ R.cells := by rw [show (headSpec ws rm).room.cells = mc from hrc]; exact hp.1
  have h5 : A.slots + (headSpec ws rm).room.slots ≤ R.slots := by rw [show (headSpec ws rm).room.slots = ms from hrs]; exact hp.2.1
  have hPc : Pc a (A.U.calling g mk a) := hblind _ _ _ _ hp.2.2
  obtain ⟨U, Ls, c0, s0⟩ := A
  dsimp only [Pt.U, Pt.locs, Pt.cells, Pt.slots] at h1 h2 h3 h4 h5 X hn hPc ⊢
  obtain ⟨methY, cY, hmY, hcY, -, hlY, -, -, -, -⟩ := Cond.code_spec hn h2
  obtain ⟨kY, hkY, -⟩ := className_of_methodNamed hn
  have hinitY : kY.init = .initialized := Cond.initialized_spec (findClass_of_methodNamed hn) hkY h3
  have h : At U g.method c below := by rw [hg]; exact X.here
  have hlocals9 : W9 + (maxL + 11) + (headSpec ws rm).room.locals ≤ R.locals := hlocals
  have happ : (headSpec ws rm).appliesLoose y e.platform (U.calling g mk a) = true :=
    Spec.appliesLoose_calling (g := g) h hdg hn hkY hinitY
      (X.room_calling (g := g) (R' := (headSpec ws rm).room) hsize hmY hcY hframes (by rw [hlY]; omega) h4 h5) h1
  obtain ⟨mid, hmid⟩ := h.above
  have hfr : (U.setTop g).frames = (.java g :: mid) ++ below := by rw [State.frames_setTop' g h.top, hmid]; rfl
  obtain ⟨o, s₂, hsteps, -, hend, hq⟩ := Steps.callFree hM p X.admits X.cas X.clock (acts := []) hfr happ hPc trivial
  have hq' : vx_Q Qc XC mc ms free a (U.calling g mk a) o s₂ := hq
  rw [State.frames_setTop' g h.top] at hend
  obtain ⟨g₀, hg0⟩ := Option.isSome_iff_exists.mp h.top
  obtain ⟨r, hr⟩ := State.topJava?_eq_some.mp hg0
  have hr' : (({ U with heap := s₂.heap, slotsUsed := s₂.slotsUsed } : State).setVm s₂.vm).frames = .java g₀ :: r := hr
  rcases hq' with ⟨hqc, L, hfe, hL⟩ | ⟨q, rfl, E, ce, L, hx, hce, hcv, hcl, hW₂, hsm, hL⟩
  · obtain ⟨⟨v, rfl⟩, hW₂, e2, q2, q3, q4, q5, q6⟩ := id hfe
    have e3 : s₂ = ({ (U.calling g mk a).setFrames s₂.frames with heap := s₂.heap, slotsUsed := s₂.slotsUsed } : State).setVm s₂.vm := by
      have : s₂ = ({ s₂ with vm := (U.calling g mk a).vm } : State).setVm s₂.vm := rfl
      rw [e2] at this
      exact this
    obtain ⟨c₂, i₂, len₂, hc₂, hd₂, hf₂⟩ := hend
    have hW' : U.WarmedH s₂.vm := hW₂
    have hcc : c₂ = c := by
      have h1 : s₂.code? g.method = U.code? g.method := by
        rw [State.code?_eq, State.code?_eq, hW'.alike.method?]
      exact Option.some.inj (hc₂.symm.trans (h1.trans h.code))
    subst hcc
    have hlen : len₂ = len := by rw [hdg] at hd₂; cases hd₂; rfl
    subst hlen
    have hs₂ : s₂ = (({ U with heap := s₂.heap, slotsUsed := s₂.slotsUsed } : State).setVm s₂.vm).setTop { g with pc := g.pc + len₂, stack := v.toList ++ g.stack } := by
      refine e3.trans ?_
      rw [hf₂, State.calling_eq h.top, State.setFrames_setFrames, State.setTop_of_frames _ hr', hr]
      rfl
    have hsame : U.sameButNew ({ U with heap := s₂.heap, slotsUsed := s₂.slotsUsed } : State) L mc ms := by
      refine ⟨?_, q2, q3, q4, q5, q6⟩
      obtain ⟨t, ht, -⟩ := State.frames_cons hr
      show ({ U with heap := s₂.heap, slotsUsed := s₂.slotsUsed } : State) = { U.setFrames U.frames with heap := s₂.heap, slotsUsed := s₂.slotsUsed }
      rw [State.setFrames_self ht]
    subst hg
    refine Or.inl ⟨v, ⟨(({ U with heap := s₂.heap, slotsUsed := s₂.slotsUsed } : State).setVm s₂.vm), Ls ++ L, c0 + mc, s0 + ms⟩,
      ⟨X.admits, X.cas, X.clock, X.frames, X.room, X.hears, X.method, X.code, (X.here.setHeapUsed s₂.heap s₂.slotsUsed).setVm hW'.alike, X.tail, State.WarmedH.trans X.warmed hW', X.limits, X.bytes, X.same.trans (hsame.setVm s.vm)⟩,
      ⟨g, mk, s₂, L, rfl, rfl, hqc, rfl, hL, rfl, rfl⟩, ?_⟩
    show Steps p.tables e below _ ((({ U with heap := s₂.heap, slotsUsed := s₂.slotsUsed } : State).setVm s₂.vm).setTop { g with pc := g.pc + len₂, stack := v.toList ++ g.stack })
    rw [← hs₂]
    exact hsteps
  · obtain ⟨e2, q2, q3, q4, q5, q6⟩ := id hsm
    have e3 : s₂ = ({ (U.calling g mk a).setFrames s₂.frames with heap := s₂.heap, slotsUsed := s₂.slotsUsed } : State).setVm s₂.vm := by
      have : s₂ = ({ s₂ with vm := (U.calling g mk a).vm } : State).setVm s₂.vm := rfl
      rw [e2] at this
      exact this
    have hf₂ : s₂.frames = .throwing q :: .java g :: U.frames.tail := hend
    have hW' : U.WarmedH s₂.vm := hW₂
    have hs₂ : s₂ = ((({ U with heap := s₂.heap, slotsUsed := s₂.slotsUsed } : State).setVm s₂.vm).setTop g).pushFrame (.throwing q) := by
      refine e3.trans ?_
      rw [hf₂, State.calling_eq h.top, State.setFrames_setFrames, State.pushFrame, State.frames_setTop _ hr', State.setTop_of_frames _ hr', State.setFrames_setFrames, hr]
      rfl
    have hsame : U.sameButNew ({ U with heap := s₂.heap, slotsUsed := s₂.slotsUsed } : State) L mc ms := by
      refine ⟨?_, q2, q3, q4, q5, q6⟩
      obtain ⟨t, ht, -⟩ := State.frames_cons hr
      show ({ U with heap := s₂.heap, slotsUsed := s₂.slotsUsed } : State) = { U.setFrames U.frames with heap := s₂.heap, slotsUsed := s₂.slotsUsed }
      rw [State.setFrames_self ht]
    subst hg
    refine Or.inr ⟨q, ⟨(({ U with heap := s₂.heap, slotsUsed := s₂.slotsUsed } : State).setVm s₂.vm), Ls ++ L, c0 + mc, s0 + ms⟩,
      ⟨X.admits, X.cas, X.clock, X.frames, X.room, X.hears, X.method, X.code, (X.here.setHeapUsed s₂.heap s₂.slotsUsed).setVm hW'.alike, X.tail, State.WarmedH.trans X.warmed hW', X.limits, X.bytes, X.same.trans (hsame.setVm s.vm)⟩,
      ⟨g, mk, s₂, L, E, ce, rfl, rfl, hx, hce, hcv, hcl, rfl, hL, rfl, rfl⟩, ?_⟩
    show Steps p.tables e below _ (((({ U with heap := s₂.heap, slotsUsed := s₂.slotsUsed } : State).setVm s₂.vm).setTop g).pushFrame (.throwing q))
    rw [← hs₂]
    exact hsteps
end Payer
section Calls
variable {p : Program} {l : Launch} {e : Env} {R : Room} {s : State} {m : MethodId} {args : Array Value} {below : List Frame} {meth : Method} {c : Code} {T : State} {locs : List Loc} {cells slots : Nat}
theorem vx_callV (X : Stand p l e R s m args below meth c T locs cells slots) (hexec : p.tables.exec = Jvm.exec) {own C : String} {index : Nat} {y : MethodName} {bytes : ByteArray} {maxL : Nat} {ret : Option FieldType}
    (hown : s.vm.findClass own = some m.cls) (hlink : (Cond.methodLink own index y).before args s = true) (hinst : (Cond.instanceMethod y).before args s = true) (hsel : (Cond.selects C y y).before args s = true)
    (hcode : (Cond.code y bytes maxL ret).before args s = true) (hy : y.cls ≠ "java/lang/invoke/MethodHandle" ∧ y.cls ≠ "java/lang/invoke/VarHandle")
    {W9 : Nat} {Pre : Pt → Array Value → Prop} {Post : Pt → Array Value → Option Value → Pt → Prop} {PostX : Pt → Array Value → Addr → Pt → Prop} (hK : vx_Back l R p e below s args y 3 W9 Pre Post PostX)
    {b : Addr} {cellB : Cell} (hcell : T.heap[b]? = some cellB) (hobj : cellB.vm.isStatics = false) (hcls : s.vm.findClass C = some cellB.cls)
    {g : JFrame} (hg : g.method = m) (hsize : g.locals.size = c.maxLocals) {argsL rest : List Value} (hlen : ∀ sig, parseMethodDescriptor y.desc = some sig → argsL.length = sig.parameters.length)
    (hstack : g.stack = argsL.reverse ++ .ref b :: rest) (hW : 2 * g.monitorRoom + (rest.map fun v => v.category).sum ≤ W9) (hdg : decode c.code g.pc = .ok (.invokevirtual index, 3))
    (hpre : ∀ vm₁, s.WarmedH vm₁ → Pre ⟨T.setVm vm₁, locs, cells, slots⟩ (Value.ref b :: argsL).toArray) :
    (∃ (v : Option Value) (vm₁ : Vm) (B : Pt), s.WarmedH vm₁ ∧ Stand p l e R s m args below meth c B.U B.locs B.cells B.slots ∧ Post ⟨T.setVm vm₁, locs, cells, slots⟩ (Value.ref b :: argsL).toArray v B ∧
      ∀ target, Steps p.tables e below (B.U.setTop { g with pc := g.pc + 3, stack := v.toList ++ rest }) target → Steps p.tables e below (T.setTop g) target) ∨
    (∃ (q : Addr) (vm₁ : Vm) (B : Pt), s.WarmedH vm₁ ∧ Stand p l e R s m args below meth c B.U B.locs B.cells B.slots ∧ PostX ⟨T.setVm vm₁, locs, cells, slots⟩ (Value.ref b :: argsL).toArray q B ∧
      Steps p.tables e below (T.setTop g) ((B.U.setTop { g with stack := rest }).pushFrame (.throwing q))) := by
  obtain ⟨mk, methM, hnamed, hmethM, hstM, habM⟩ := Cond.instanceMethod_spec hinst
  obtain ⟨methM', cM, hmethM', -, -, -, -, -, -, hsigM⟩ := Cond.code_spec hnamed hcode
  cases hmethM.symm.trans hmethM'
  obtain ⟨c2, r2, m2, q1, q2, q3, q4, kP, hkP, hkPi⟩ := Cond.selects_spec hsel
  cases hcls.symm.trans q1
  cases (State.methodFound?_of_named hnamed hy).symm.trans q2
  cases hnamed.symm.trans q3
  have hselP : selectMethod e.platform s.vm cellB.cls mk = .method mk := by rw [Launch.admits_selectMethod X.admits]; exact q4
  obtain ⟨vm₁, X₁, hstep₁⟩ := X.invokevirtual hexec hown hlink hnamed hmethM hstM hkP hkPi hy (a := b) (cell := cellB) hcell
    (fun z h => by rw [h] at hobj; cases hobj) hselP hmethM habM hkP hkPi (g := g) hg (argsL := argsL) (rest := rest) (hlen _ hsigM) hstack hdg
  rcases hK m meth c ⟨T.setVm vm₁, locs, cells, slots⟩ { g with stack := rest } (.invokevirtual index) mk (Value.ref b :: argsL).toArray X₁ hg hsize hdg hW (X₁.named hnamed) (hpre vm₁ X₁.warmed) with ⟨v, B, X', hpost, hsteps⟩ | ⟨q, B, X', hpost, hsteps⟩
  · exact Or.inl ⟨v, vm₁, B, X₁.warmed, X', hpost, fun target h => hstep₁ _ fun acts => by rw [doInvoke_state]; exact hsteps.trans h⟩
  · exact Or.inr ⟨q, vm₁, B, X₁.warmed, X', hpost, hstep₁ _ fun acts => by rw [doInvoke_state]; exact hsteps⟩
theorem vx_callS (X : Stand p l e R s m args below meth c T locs cells slots) (hexec : p.tables.exec = Jvm.exec) {own : String} {index : Nat} {y : MethodName} {bytes : ByteArray} {maxL : Nat} {ret : Option FieldType}
    (hown : s.vm.findClass own = some m.cls) (hlink : (Cond.methodLink own index y).before args s = true) (hstat : (Cond.static y).before args s = true) (hinit : (Cond.initialized y.cls).before args s = true)
    (hcode : (Cond.code y bytes maxL ret).before args s = true) (hy : y.cls ≠ "java/lang/invoke/MethodHandle" ∧ y.cls ≠ "java/lang/invoke/VarHandle")
    {W9 : Nat} {Pre : Pt → Array Value → Prop} {Post : Pt → Array Value → Option Value → Pt → Prop} {PostX : Pt → Array Value → Addr → Pt → Prop} (hK : vx_Back l R p e below s args y 3 W9 Pre Post PostX)
    {g : JFrame} (hg : g.method = m) (hsize : g.locals.size = c.maxLocals) {argsL rest : List Value} (hlen : ∀ sig, parseMethodDescriptor y.desc = some sig → argsL.length = sig.parameters.length)
    (hstack : g.stack = argsL.reverse ++ rest) (hW : 2 * g.monitorRoom + (rest.map fun v => v.category).sum ≤ W9) (hdg : decode c.code g.pc = .ok (.invokestatic index, 3))
    (hpre : ∀ vm₁, s.WarmedH vm₁ → Pre ⟨T.setVm vm₁, locs, cells, slots⟩ argsL.toArray) :
    (∃ (v : Option Value) (vm₁ : Vm) (B : Pt), s.WarmedH vm₁ ∧ Stand p l e R s m args below meth c B.U B.locs B.cells B.slots ∧ Post ⟨T.setVm vm₁, locs, cells, slots⟩ argsL.toArray v B ∧
      ∀ target, Steps p.tables e below (B.U.setTop { g with pc := g.pc + 3, stack := v.toList ++ rest }) target → Steps p.tables e below (T.setTop g) target) ∨
    (∃ (q : Addr) (vm₁ : Vm) (B : Pt), s.WarmedH vm₁ ∧ Stand p l e R s m args below meth c B.U B.locs B.cells B.slots ∧ PostX ⟨T.setVm vm₁, locs, cells, slots⟩ argsL.toArray q B ∧
      Steps p.tables e below (T.setTop g) ((B.U.setTop { g with stack := rest }).pushFrame (.throwing q))) := by
  obtain ⟨mk, hnamed⟩ := Cond.code_named hcode
  obtain ⟨methM, cM, hmethM, -, -, -, -, -, -, hsigM⟩ := Cond.code_spec hnamed hcode
  have hstatic : methM.isStatic = true := Cond.static_spec hnamed hmethM hstat
  obtain ⟨kP, hkP, -⟩ := className_of_methodNamed hnamed
  have hinitP : kP.init = .initialized := Cond.initialized_spec (findClass_of_methodNamed hnamed) hkP hinit
  obtain ⟨vm₁, X₁, hstep₁⟩ := X.invokestatic hexec hown hlink hnamed hmethM hstatic hkP hinitP hy (g := g) hg (argsL := argsL) (rest := rest) (hlen _ hsigM) hstack hdg
  rcases hK m meth c ⟨T.setVm vm₁, locs, cells, slots⟩ { g with stack := rest } (.invokestatic index) mk argsL.toArray X₁ hg hsize hdg hW (X₁.named hnamed) (hpre vm₁ X₁.warmed) with ⟨v, B, X', hpost, hsteps⟩ | ⟨q, B, X', hpost, hsteps⟩
  · exact Or.inl ⟨v, vm₁, B, X₁.warmed, X', hpost, fun target h => hstep₁ _ fun acts => by rw [doInvoke_state]; exact hsteps.trans h⟩
  · exact Or.inr ⟨q, vm₁, B, X₁.warmed, X', hpost, hstep₁ _ fun acts => by rw [doInvoke_state]; exact hsteps⟩
end Calls
theorem vx_cls {s : State} {T : State} {vm₁ : Vm} {E : String} {k : ClassId} (hW : s.WarmedH vm₁) (h : (T.setVm vm₁).vm.findClass E = some k) : s.vm.findClass E = some k := by
  have h1 : vm₁.findClass E = some k := h
  rw [hW.alike.findClass] at h1
  exact h1
/-- the method's frame g, with q thrown over it -/
def vx_W (p : Program) (l : Launch) (e : Env) (R : Room) (s : State) (m : MethodId) (args : Array Value) (below : List Frame) (meth : Method) (c : Code) (H : Heap) (locs : List Loc) (cells slots : Nat) (Q : State → Prop) (g : JFrame) (q : Addr) : Prop :=
  ∀ T : State, T.heap = H → Stand p l e R s m args below meth c T locs cells slots → ∃ t, Steps p.tables e below ((T.setTop g).pushFrame (.throwing q)) t ∧ Q t
def vx_Run (p : Program) (l : Launch) (e : Env) (R : Room) (s : State) (m : MethodId) (args : Array Value) (below : List Frame) (meth : Method) (c : Code) (H : Heap) (locs : List Loc) (cells slots mc ms : Nat) (g : JFrame) (rest : List Value) (Qa : State → Outcome → State → Prop) (XC : String → State → State → Prop) (free : Addr → Prop) : Prop :=
  ∀ T : State, T.heap = H → Stand p l e R s m args below meth c T locs cells slots →
    (∃ (v : Option Value) (st₀ t T' : State) (L : List Loc), st₀.heap = H ∧ Stand p l e R s m args below meth c T' (locs ++ L) (cells + mc) (slots + ms) ∧ (∀ q ∈ L, free q.base) ∧ T'.heap = t.heap ∧ T'.vm = t.vm ∧ Qa st₀ (.returned v) t ∧
      Goes p e below T g T' { g with pc := g.pc + 3, stack := v.toList ++ rest }) ∨
    (∃ (q : Addr) (st₀ t T' : State) (L : List Loc) (E : String) (ce : Cell), st₀.heap = H ∧ Stand p l e R s m args below meth c T' (locs ++ L) (cells + mc) (slots + ms) ∧ (∀ z ∈ L, free z.base) ∧ T'.heap = t.heap ∧ T'.vm = t.vm ∧ XC E st₀ t ∧ t.heap[q]? = some ce ∧ ce.vm = .none ∧ s.vm.findClass E = some ce.cls ∧
      Steps p.tables e below (T.setTop g) ((T'.setTop { g with stack := rest }).pushFrame (.throwing q)))
def vx_X {S : Type} (px : S → Prop) (B : String → S → State → Prop) (A : Nat → Prop) : String → State → State → Prop := fun E st t => ∃ u : S, px u ∧ B E u t ∧ va_F A st t
section Runs
variable {p : Program} {l : Launch} {e : Env} {R : Room} {s : State} {m : MethodId} {args : Array Value} {below : List Frame} {meth : Method} {c : Code} {H : Heap} {locs : List Loc} {cells slots : Nat}
variable {y : MethodName} {bytes cc : ByteArray} {maxL nL mc ms n index : Nat} {ret : Option FieldType} {ws : List Cond} {rm : Room} {Pc : Array Value → State → Prop} {Qc : Array Value → State → Outcome → State → Prop} {XC : String → State → State → Prop} {free : Addr → Prop} {Ts : List Cond} {own C : String} {b : Addr} {As rest : List Value} {g : JFrame}
theorem vx_callBack (cb : CallB R s args own index y bytes maxL ret ws rm mc ms n) (hM : vx_Met l y ws rm Pc Qc XC mc ms free) (hbl : FrameBlind Pc) : vx_Back l R p e below s args y 3 8 (PreOf R mc ms Pc) (PostOf Qc mc ms free) (vx_Post XC mc ms free) := by
  obtain ⟨hrc, hrs, hfr, hlo, hws, hcw, -, hini, -⟩ := cb
  exact vx_back (bytes := bytes) (maxL := maxL) (ret := ret) hM hbl hrc hrs hfr hlo hws hcw (fun a' U hW => word_at hW (Or.inl (by first | rfl | simp [Cond.onTables, Cond.keeps, Cond.steady])) hini)
theorem vx_runV (S : CallFix p m c cc nL s args Ts own) (hM : vx_Met l y ws rm Pc Qc XC mc ms free) (cw : CallW R s args own C index y bytes maxL ret ws rm mc ms n) (hp : PreV s H C b Pc As)
    (hg : g.method = m) (hn : As.length = n) (hsize : g.locals.size = nL) (hstack : g.stack = As.reverse ++ .ref b :: rest) (hW : 2 * g.monitorRoom + (rest.map fun v => v.category).sum ≤ 8) (hdg : decode cc g.pc = .ok (.invokevirtual index, 3)) (hf : cells + mc ≤ R.cells ∧ slots + ms ≤ R.slots) :
    vx_Run p l e R s m args below meth c H locs cells slots mc ms g rest (Qc (Value.ref b :: As).toArray) XC free := by
  have hK : vx_Back l R p e below s args y 3 8 (PreOf R mc ms Pc) (PostOf Qc mc ms free) (vx_Post XC mc ms free) := vx_callBack cw.1 hM hp.1
  obtain ⟨⟨-, -, -, -, -, -, hcode, -, hy, hlen, hl⟩, hin, hse⟩ := cw
  obtain ⟨hx, hb, hml, ho, -⟩ := S
  obtain ⟨-, ⟨cellB, hcB, hoB, hclB⟩, hPc⟩ := hp
  intro T hT X
  rcases vx_callV X hx (C := C) (bytes := bytes) (maxL := maxL) (ret := ret) ho hl hin hse hcode hy hK (by rw [hT]; exact hcB) hoB hclB hg (hsize.trans hml.symm) (argsL := As) (rest := rest) (fun sig h => hn.trans (hlen sig h)) hstack hW (by rw [hb]; exact hdg)
    (fun vm₁ hW₁ => ⟨hf.1, hf.2, hPc (T.setVm vm₁) hT hW₁⟩) with ⟨v, vm₁, ⟨U', l2, c2, s2⟩, hW₁, X', ⟨g', mk, t, L, e1, e2, hq, h1, hL, h2, h3⟩, st⟩ | ⟨q, vm₁, ⟨U', l2, c2, s2⟩, hW₁, X', ⟨g', mk, t, L, E, ce, e1, e2, hq, hce, hcv, hcl, h1, hL, h2, h3⟩, st⟩
  · dsimp only [Pt.U, Pt.locs, Pt.cells, Pt.slots] at X' e1 e2 h1 h2 h3 st
    subst h1; subst h2; subst h3
    exact Or.inl ⟨v, (T.setVm vm₁).calling g' mk (Value.ref b :: As).toArray, t, U', L, hT, X', hL, e1, e2, hq, st⟩
  · dsimp only [Pt.U, Pt.locs, Pt.cells, Pt.slots] at X' e1 e2 h1 h2 h3 st hcl
    subst h1; subst h2; subst h3
    exact Or.inr ⟨q, (T.setVm vm₁).calling g' mk (Value.ref b :: As).toArray, t, U', L, E, ce, hT, X', hL, e1, e2, hq, hce, hcv, vx_cls hW₁ hcl, st⟩
theorem vx_runS (S : CallFix p m c cc nL s args Ts own) (hM : vx_Met l y ws rm Pc Qc XC mc ms free) (cw : CallB R s args own index y bytes maxL ret ws rm mc ms n ∧ (Cond.static y).before args s = true) (hp : PreS s H Pc As)
    (hg : g.method = m) (hn : As.length = n) (hsize : g.locals.size = nL) (hstack : g.stack = As.reverse ++ rest) (hW : 2 * g.monitorRoom + (rest.map fun v => v.category).sum ≤ 8) (hdg : decode cc g.pc = .ok (.invokestatic index, 3)) (hf : cells + mc ≤ R.cells ∧ slots + ms ≤ R.slots) :
    vx_Run p l e R s m args below meth c H locs cells slots mc ms g rest (Qc As.toArray) XC free := by
  have hK : vx_Back l R p e below s args y 3 8 (PreOf R mc ms Pc) (PostOf Qc mc ms free) (vx_Post XC mc ms free) := vx_callBack cw.1 hM hp.1
  obtain ⟨⟨-, -, -, -, -, -, hcode, hini, hy, hlen, hl⟩, hstt⟩ := cw
  obtain ⟨hx, hb, hml, ho, -⟩ := S
  intro T hT X
  rcases vx_callS X hx (bytes := bytes) (maxL := maxL) (ret := ret) ho hl hstt hini hcode hy hK hg (hsize.trans hml.symm) (argsL := As) (rest := rest) (fun sig h => hn.trans (hlen sig h)) hstack hW (by rw [hb]; exact hdg)
    (fun vm₁ hW₁ => ⟨hf.1, hf.2, hp.2 (T.setVm vm₁) hT hW₁⟩) with ⟨v, vm₁, ⟨U', l2, c2, s2⟩, hW₁, X', ⟨g', mk, t, L, e1, e2, hq, h1, hL, h2, h3⟩, st⟩ | ⟨q, vm₁, ⟨U', l2, c2, s2⟩, hW₁, X', ⟨g', mk, t, L, E, ce, e1, e2, hq, hce, hcv, hcl, h1, hL, h2, h3⟩, st⟩
  · dsimp only [Pt.U, Pt.locs, Pt.cells, Pt.slots] at X' e1 e2 h1 h2 h3 st
    subst h1; subst h2; subst h3
    exact Or.inl ⟨v, (T.setVm vm₁).calling g' mk As.toArray, t, U', L, hT, X', hL, e1, e2, hq, st⟩
  · dsimp only [Pt.U, Pt.locs, Pt.cells, Pt.slots] at X' e1 e2 h1 h2 h3 st hcl
    subst h1; subst h2; subst h3
    exact Or.inr ⟨q, (T.setVm vm₁).calling g' mk As.toArray, t, U', L, E, ce, hT, X', hL, e1, e2, hq, hce, hcv, vx_cls hW₁ hcl, st⟩
end Runs
section Rows
variable {p : Program} {l : Launch} {e : Env} {R : Room} {s : State} {m : MethodId} {args : Array Value} {below : List Frame} {meth : Method} {c : Code} {H : Heap} {locs : List Loc} {cells slots : Nat} {Q : State → Prop}
variable {mc ms : Nat} {free : Addr → Prop} {A0 A1 : Nat → Prop} {H0 : Heap} {a : Array Value} {pc : Nat} {ls : Array Slot} {st0 rest : List Value}
theorem vx_keep {st₀ t T' : State} {L : List Loc} (h0 : st₀.heap = H) (e1 : T'.heap = t.heap) (hS : va_S A0 H0 H locs) (hA : ∀ q, q < H.size → A1 q → A0 q) (hf : ∀ q, free q → A0 q) (hL : ∀ q ∈ L, free q.base) (hF : va_F A1 st₀ t) :
    H.size ≤ T'.heap.size ∧ (∀ q : Nat, q < H.size → ¬ A1 q → T'.heap[q]? = H[q]?) ∧ va_S A0 H0 T'.heap (locs ++ L) := by
  obtain ⟨hz, hk⟩ := hF
  rw [h0] at hz hk
  exact ⟨by rw [e1]; exact hz, fun q h1 h2 => by rw [e1]; exact hk q h1 h2,
    ⟨Nat.le_trans hS.1 (by rw [e1]; exact hz), fun q h1 h2 => by rw [e1, hk q (Nat.lt_of_lt_of_le h1 hS.1) (fun z => h2 (hA q (Nat.lt_of_lt_of_le h1 hS.1) z))]; exact hS.2.1 q h1 h2, fun q hq => by
      rcases List.mem_append.mp hq with h | h
      · exact hS.2.2 q h
      · exact hf _ (hL q h)⟩⟩
theorem vx_calli {S SX : Type} {post : Int32 → S → Prop} {px : SX → Prop} {B : S → State → Prop} {BX : String → SX → State → Prop} {AX : Nat → Prop} (hr : vx_Run p l e R s m args below meth c H locs cells slots mc ms (F0 m pc ls st0) rest (va_Qi post B A1 a) (vx_X px BX AX) free) (hS : va_S A0 H0 H locs) (hA : ∀ q, q < H.size → A1 q → A0 q) (hf : ∀ q, free q → A0 q) (hAX : ∀ q, q < H.size → AX q → A0 q)
    (kx : ∀ (E : String) (ce : Cell) (q9 : Addr) (u : SX) (t : State) (H1 : Heap) (locs1 : List Loc), t.heap = H1 → s.vm.Alike t.vm → px u → BX E u t → H.size ≤ H1.size → (∀ q : Nat, q < H.size → ¬ AX q → H1[q]? = H[q]?) → va_S A0 H0 H1 locs1 → H1[q9]? = some ce → ce.vm = .none → s.vm.findClass E = some ce.cls → vx_W p l e R s m args below meth c H1 locs1 (cells + mc) (slots + ms) Q (F0 m pc ls rest) q9)
    (kk : ∀ (r : Int32) (u : S) (t : State) (H1 : Heap) (locs1 : List Loc), t.heap = H1 → s.vm.Alike t.vm → post r u → B u t → H.size ≤ H1.size → (∀ q : Nat, q < H.size → ¬ A1 q → H1[q]? = H[q]?) → va_S A0 H0 H1 locs1 → W p l e R s m args below meth c H1 locs1 (cells + mc) (slots + ms) Q (F0 m (pc + 3) ls (.int r :: rest))) : W p l e R s m args below meth c H locs cells slots Q (F0 m pc ls st0) := by
  intro T hT X
  rcases hr T hT X with ⟨v, st₀, t, T', L, h0, X', hL, e1, e2, ⟨⟨r, u, hv, hp, hb⟩, hF⟩, st⟩ | ⟨q, st₀, t, T', L, E, ce, h0, X', hL, e1, e2, ⟨u, hp, hb, hF⟩, hce, hcv, hcl, st⟩
  · cases hv
    obtain ⟨k1, k2, k3⟩ := vx_keep h0 e1 hS hA hf hL hF
    obtain ⟨t2, a1, b1⟩ := kk r u t T'.heap (locs ++ L) e1.symm (by rw [← e2]; exact X'.warmed.alike) hp hb k1 k2 k3 T' rfl X'
    exact ⟨t2, st t2 a1, b1⟩
  · obtain ⟨k1, k2, k3⟩ := vx_keep h0 e1 hS hAX hf hL hF
    obtain ⟨t2, a1, b1⟩ := kx E ce q u t T'.heap (locs ++ L) e1.symm (by rw [← e2]; exact X'.warmed.alike) hp hb k1 k2 k3 (by rw [e1]; exact hce) hcv hcl T' rfl X'
    exact ⟨t2, st.trans a1, b1⟩
theorem vx_calll {S SX : Type} {post : Int64 → S → Prop} {px : SX → Prop} {B : S → State → Prop} {BX : String → SX → State → Prop} {AX : Nat → Prop} (hr : vx_Run p l e R s m args below meth c H locs cells slots mc ms (F0 m pc ls st0) rest (va_Ql post B A1 a) (vx_X px BX AX) free) (hS : va_S A0 H0 H locs) (hA : ∀ q, q < H.size → A1 q → A0 q) (hf : ∀ q, free q → A0 q) (hAX : ∀ q, q < H.size → AX q → A0 q)
    (kx : ∀ (E : String) (ce : Cell) (q9 : Addr) (u : SX) (t : State) (H1 : Heap) (locs1 : List Loc), t.heap = H1 → s.vm.Alike t.vm → px u → BX E u t → H.size ≤ H1.size → (∀ q : Nat, q < H.size → ¬ AX q → H1[q]? = H[q]?) → va_S A0 H0 H1 locs1 → H1[q9]? = some ce → ce.vm = .none → s.vm.findClass E = some ce.cls → vx_W p l e R s m args below meth c H1 locs1 (cells + mc) (slots + ms) Q (F0 m pc ls rest) q9)
    (kk : ∀ (r : Int64) (u : S) (t : State) (H1 : Heap) (locs1 : List Loc), t.heap = H1 → s.vm.Alike t.vm → post r u → B u t → H.size ≤ H1.size → (∀ q : Nat, q < H.size → ¬ A1 q → H1[q]? = H[q]?) → va_S A0 H0 H1 locs1 → W p l e R s m args below meth c H1 locs1 (cells + mc) (slots + ms) Q (F0 m (pc + 3) ls (.long r :: rest))) : W p l e R s m args below meth c H locs cells slots Q (F0 m pc ls st0) := by
  intro T hT X
  rcases hr T hT X with ⟨v, st₀, t, T', L, h0, X', hL, e1, e2, ⟨⟨r, u, hv, hp, hb⟩, hF⟩, st⟩ | ⟨q, st₀, t, T', L, E, ce, h0, X', hL, e1, e2, ⟨u, hp, hb, hF⟩, hce, hcv, hcl, st⟩
  · cases hv
    obtain ⟨k1, k2, k3⟩ := vx_keep h0 e1 hS hA hf hL hF
    obtain ⟨t2, a1, b1⟩ := kk r u t T'.heap (locs ++ L) e1.symm (by rw [← e2]; exact X'.warmed.alike) hp hb k1 k2 k3 T' rfl X'
    exact ⟨t2, st t2 a1, b1⟩
  · obtain ⟨k1, k2, k3⟩ := vx_keep h0 e1 hS hAX hf hL hF
    obtain ⟨t2, a1, b1⟩ := kx E ce q u t T'.heap (locs ++ L) e1.symm (by rw [← e2]; exact X'.warmed.alike) hp hb k1 k2 k3 (by rw [e1]; exact hce) hcv hcl T' rfl X'
    exact ⟨t2, st.trans a1, b1⟩
theorem vx_callf {S SX : Type} {post : UInt32 → S → Prop} {px : SX → Prop} {B : S → State → Prop} {BX : String → SX → State → Prop} {AX : Nat → Prop} (hr : vx_Run p l e R s m args below meth c H locs cells slots mc ms (F0 m pc ls st0) rest (va_Qf post B A1 a) (vx_X px BX AX) free) (hS : va_S A0 H0 H locs) (hA : ∀ q, q < H.size → A1 q → A0 q) (hf : ∀ q, free q → A0 q) (hAX : ∀ q, q < H.size → AX q → A0 q)
    (kx : ∀ (E : String) (ce : Cell) (q9 : Addr) (u : SX) (t : State) (H1 : Heap) (locs1 : List Loc), t.heap = H1 → s.vm.Alike t.vm → px u → BX E u t → H.size ≤ H1.size → (∀ q : Nat, q < H.size → ¬ AX q → H1[q]? = H[q]?) → va_S A0 H0 H1 locs1 → H1[q9]? = some ce → ce.vm = .none → s.vm.findClass E = some ce.cls → vx_W p l e R s m args below meth c H1 locs1 (cells + mc) (slots + ms) Q (F0 m pc ls rest) q9)
    (kk : ∀ (r : UInt32) (u : S) (t : State) (H1 : Heap) (locs1 : List Loc), t.heap = H1 → s.vm.Alike t.vm → post r u → B u t → H.size ≤ H1.size → (∀ q : Nat, q < H.size → ¬ A1 q → H1[q]? = H[q]?) → va_S A0 H0 H1 locs1 → W p l e R s m args below meth c H1 locs1 (cells + mc) (slots + ms) Q (F0 m (pc + 3) ls (.float r :: rest))) : W p l e R s m args below meth c H locs cells slots Q (F0 m pc ls st0) := by
  intro T hT X
  rcases hr T hT X with ⟨v, st₀, t, T', L, h0, X', hL, e1, e2, ⟨⟨r, u, hv, hp, hb⟩, hF⟩, st⟩ | ⟨q, st₀, t, T', L, E, ce, h0, X', hL, e1, e2, ⟨u, hp, hb, hF⟩, hce, hcv, hcl, st⟩
  · cases hv
    obtain ⟨k1, k2, k3⟩ := vx_keep h0 e1 hS hA hf hL hF
    obtain ⟨t2, a1, b1⟩ := kk r u t T'.heap (locs ++ L) e1.symm (by rw [← e2]; exact X'.warmed.alike) hp hb k1 k2 k3 T' rfl X'
    exact ⟨t2, st t2 a1, b1⟩
  · obtain ⟨k1, k2, k3⟩ := vx_keep h0 e1 hS hAX hf hL hF
    obtain ⟨t2, a1, b1⟩ := kx E ce q u t T'.heap (locs ++ L) e1.symm (by rw [← e2]; exact X'.warmed.alike) hp hb k1 k2 k3 (by rw [e1]; exact hce) hcv hcl T' rfl X'
    exact ⟨t2, st.trans a1, b1⟩
theorem vx_calld {S SX : Type} {post : UInt64 → S → Prop} {px : SX → Prop} {B : S → State → Prop} {BX : String → SX → State → Prop} {AX : Nat → Prop} (hr : vx_Run p l e R s m args below meth c H locs cells slots mc ms (F0 m pc ls st0) rest (va_Qd post B A1 a) (vx_X px BX AX) free) (hS : va_S A0 H0 H locs) (hA : ∀ q, q < H.size → A1 q → A0 q) (hf : ∀ q, free q → A0 q) (hAX : ∀ q, q < H.size → AX q → A0 q)
    (kx : ∀ (E : String) (ce : Cell) (q9 : Addr) (u : SX) (t : State) (H1 : Heap) (locs1 : List Loc), t.heap = H1 → s.vm.Alike t.vm → px u → BX E u t → H.size ≤ H1.size → (∀ q : Nat, q < H.size → ¬ AX q → H1[q]? = H[q]?) → va_S A0 H0 H1 locs1 → H1[q9]? = some ce → ce.vm = .none → s.vm.findClass E = some ce.cls → vx_W p l e R s m args below meth c H1 locs1 (cells + mc) (slots + ms) Q (F0 m pc ls rest) q9)
    (kk : ∀ (r : UInt64) (u : S) (t : State) (H1 : Heap) (locs1 : List Loc), t.heap = H1 → s.vm.Alike t.vm → post r u → B u t → H.size ≤ H1.size → (∀ q : Nat, q < H.size → ¬ A1 q → H1[q]? = H[q]?) → va_S A0 H0 H1 locs1 → W p l e R s m args below meth c H1 locs1 (cells + mc) (slots + ms) Q (F0 m (pc + 3) ls (.double r :: rest))) : W p l e R s m args below meth c H locs cells slots Q (F0 m pc ls st0) := by
  intro T hT X
  rcases hr T hT X with ⟨v, st₀, t, T', L, h0, X', hL, e1, e2, ⟨⟨r, u, hv, hp, hb⟩, hF⟩, st⟩ | ⟨q, st₀, t, T', L, E, ce, h0, X', hL, e1, e2, ⟨u, hp, hb, hF⟩, hce, hcv, hcl, st⟩
  · cases hv
    obtain ⟨k1, k2, k3⟩ := vx_keep h0 e1 hS hA hf hL hF
    obtain ⟨t2, a1, b1⟩ := kk r u t T'.heap (locs ++ L) e1.symm (by rw [← e2]; exact X'.warmed.alike) hp hb k1 k2 k3 T' rfl X'
    exact ⟨t2, st t2 a1, b1⟩
  · obtain ⟨k1, k2, k3⟩ := vx_keep h0 e1 hS hAX hf hL hF
    obtain ⟨t2, a1, b1⟩ := kx E ce q u t T'.heap (locs ++ L) e1.symm (by rw [← e2]; exact X'.warmed.alike) hp hb k1 k2 k3 (by rw [e1]; exact hce) hcv hcl T' rfl X'
    exact ⟨t2, st.trans a1, b1⟩
theorem vx_callv {S SX : Type} {post : S → Prop} {px : SX → Prop} {B : S → State → Prop} {BX : String → SX → State → Prop} {AX : Nat → Prop} (hr : vx_Run p l e R s m args below meth c H locs cells slots mc ms (F0 m pc ls st0) rest (va_Qv post B A1 a) (vx_X px BX AX) free) (hS : va_S A0 H0 H locs) (hA : ∀ q, q < H.size → A1 q → A0 q) (hf : ∀ q, free q → A0 q) (hAX : ∀ q, q < H.size → AX q → A0 q)
    (kx : ∀ (E : String) (ce : Cell) (q9 : Addr) (u : SX) (t : State) (H1 : Heap) (locs1 : List Loc), t.heap = H1 → s.vm.Alike t.vm → px u → BX E u t → H.size ≤ H1.size → (∀ q : Nat, q < H.size → ¬ AX q → H1[q]? = H[q]?) → va_S A0 H0 H1 locs1 → H1[q9]? = some ce → ce.vm = .none → s.vm.findClass E = some ce.cls → vx_W p l e R s m args below meth c H1 locs1 (cells + mc) (slots + ms) Q (F0 m pc ls rest) q9)
    (kk : ∀ (u : S) (t : State) (H1 : Heap) (locs1 : List Loc), t.heap = H1 → s.vm.Alike t.vm → post u → B u t → H.size ≤ H1.size → (∀ q : Nat, q < H.size → ¬ A1 q → H1[q]? = H[q]?) → va_S A0 H0 H1 locs1 → W p l e R s m args below meth c H1 locs1 (cells + mc) (slots + ms) Q (F0 m (pc + 3) ls (rest))) : W p l e R s m args below meth c H locs cells slots Q (F0 m pc ls st0) := by
  intro T hT X
  rcases hr T hT X with ⟨v, st₀, t, T', L, h0, X', hL, e1, e2, ⟨⟨u, hv, hp, hb⟩, hF⟩, st⟩ | ⟨q, st₀, t, T', L, E, ce, h0, X', hL, e1, e2, ⟨u, hp, hb, hF⟩, hce, hcv, hcl, st⟩
  · cases hv
    obtain ⟨k1, k2, k3⟩ := vx_keep h0 e1 hS hA hf hL hF
    obtain ⟨t2, a1, b1⟩ := kk u t T'.heap (locs ++ L) e1.symm (by rw [← e2]; exact X'.warmed.alike) hp hb k1 k2 k3 T' rfl X'
    exact ⟨t2, st t2 a1, b1⟩
  · obtain ⟨k1, k2, k3⟩ := vx_keep h0 e1 hS hAX hf hL hF
    obtain ⟨t2, a1, b1⟩ := kx E ce q u t T'.heap (locs ++ L) e1.symm (by rw [← e2]; exact X'.warmed.alike) hp hb k1 k2 k3 (by rw [e1]; exact hce) hcv hcl T' rfl X'
    exact ⟨t2, st.trans a1, b1⟩
/-- caught by the row x of this method's table; the rows ahead don't take it -/
theorem vx_catch {own name : String} {E : String} {ce : Cell} {q : Addr} (hown : s.vm.findClass own = some m.cls) (pre : List ExceptionTableEntry) (x : ExceptionTableEntry) (suf : List ExceptionTableEntry) (hsplit : c.exceptionTable.toList = pre ++ x :: suf)
    (hpass : ∀ z ∈ pre, covers z pc = false ∨ (z.catchType ≠ 0 ∧ ∃ nm : String, (Cond.classLink own z.catchType nm).before args s = true ∧ va_Nc E nm s)) (hx : covers x pc = true) (h0 : x.catchType ≠ 0)
    (hlink : (Cond.classLink own x.catchType name).before args s = true) (hcast : (Cond.castable E name).before args s = true) (hcell : H[q]? = some ce) (hv : ce.vm = .none) (hcl : s.vm.findClass E = some ce.cls)
    (kk : W p l e R s m args below meth c H locs cells slots Q (F0 m x.handlerPc ls [.ref q])) : vx_W p l e R s m args below meth c H locs cells slots Q (F0 m pc ls rest) q := by
  intro T hT X
  have hpl : e.platform.magicAccessors = ({} : Platform).magicAccessors := by rw [X.admits.platform]
  obtain ⟨c3, c4, hc3, hc4, hasg⟩ := Cond.castable_spec hcast
  cases Option.some.inj (hc3.symm.trans hcl)
  obtain ⟨c5, hc5, hcl5⟩ := Cond.classLink_spec hown hlink e.platform hpl
  cases Option.some.inj (hc4.symm.trans hc5)
  obtain ⟨vm', X', st⟩ := X.thenCaughtThrough q (g := F0 m pc ls rest) rfl (Steps.refl _) (by rw [hT]; exact hcell) (by rw [hv]; rfl) (by obtain ⟨k9, h9, -⟩ := Vm.findClass_spec hcl; exact ⟨k9, h9⟩) pre x suf hsplit
    (fun z hz => by
      rcases hpass z hz with h | ⟨hz0, nm, hl1, hn1⟩
      · exact Or.inl h
      · obtain ⟨c6, hc6, hcl6⟩ := Cond.classLink_spec hown hl1 e.platform hpl
        obtain ⟨a8, b8, h1, h2, h3⟩ := hn1
        cases Option.some.inj (h1.symm.trans hcl)
        cases Option.some.inj (h2.symm.trans hc6)
        exact Or.inr ⟨hz0, _, hcl6, h3⟩) hx (Or.inr ⟨h0, c4, hcl5, hasg⟩)
  obtain ⟨t, a1, b1⟩ := kk (T.setVm vm') hT X'
  exact ⟨t, st.trans a1, b1⟩
end Rows
section Ends
variable {p : Program} {l : Launch} {e : Env} {R : Room} {s : State} {m : MethodId} {args : Array Value} {below : List Frame} {meth : Method} {c : Code} {H : Heap} {locs : List Loc} {cells slots : Nat} {Q : State → Prop}
variable {mc ms : Nat} {free : Addr → Prop} {A0 A1 : Nat → Prop} {H0 : Heap} {a : Array Value} {ls : Array Slot} {st0 rest : List Value}
variable {Qc : Array Value → State → Outcome → State → Prop} {XC : String → State → State → Prop}
/-- what a body that may throw owes at its end -/
def vx_MQ (below : List Frame) (Qc : Array Value → State → Outcome → State → Prop) (XC : String → State → State → Prop) (a : Array Value) (s : State) (mc ms : Nat) (free : Addr → Prop) : State → Prop := fun t =>
  ∃ o, t.status = .running ∧ Ended t below o ∧ vx_Q Qc XC mc ms free a s o t
theorem vx_ret {g : JFrame} {mc ms : Nat} (k : W p l e R s m args below meth c H locs cells slots (MQ below Qc args s mc ms free) g) : W p l e R s m args below meth c H locs cells slots (vx_MQ below Qc XC args s mc ms free) g := by
  intro T hT X
  obtain ⟨t, a1, o, b1, b2, b3, b4⟩ := k T hT X
  exact ⟨t, a1, o, b1, b2, Or.inl ⟨b3, b4⟩⟩
/-- not caught here: it goes on to the caller -/
theorem vx_widen {g : JFrame} {q : Addr} {k n : Nat} (h1 : cells ≤ k) (h2 : slots ≤ n) (kk : vx_W p l e R s m args below meth c H locs k n Q g q) : vx_W p l e R s m args below meth c H locs cells slots Q g q := fun T hT X => kk T hT (stand_widen X h1 h2)
theorem vx_out {pc : Nat} {E : String} {ce : Cell} {q : Addr} {mc ms : Nat} (hout : ∀ x ∈ c.exceptionTable.toList, covers x pc = false) (hlocks : meth.locks = false) (hcell : H[q]? = some ce) (hv : ce.vm = .none) (hcl : s.vm.findClass E = some ce.cls)
    (hx : ∀ t : State, t.heap = H → s.vm.Alike t.vm → XC E s t) (hf : ∀ z ∈ locs, free z.base) (hc : cells ≤ mc) (hs : slots ≤ ms) :
    vx_W p l e R s m args below meth c H locs cells slots (vx_MQ below Qc XC args s mc ms free) (F0 m pc ls rest) q := by
  intro T hT X
  obtain ⟨st1, hrun, hend, hW, hsm⟩ := X.leaveThrown q (g := F0 m pc ls rest) rfl rfl rfl hout hlocks
  have hcell9 : (T.setFrames (.throwing q :: below)).heap[q]? = some ce := by
    show T.heap[q]? = some ce
    rw [hT]; exact hcell
  exact ⟨_, st1, .threw q, hrun, hend, Or.inr ⟨q, rfl, E, ce, locs, hx _ hT hW.alike, hcell9, hv, hcl, hW, hsm.mono hc hs, hf⟩⟩
theorem vx_frame {U : State} {k n : Nat} (h : s.sameButNew ({ U with vm := s.vm } : State) locs k n) : s.heap.size ≤ U.heap.size ∧ ∀ q : Nat, q < s.heap.size → (∀ z ∈ locs, z.base ≠ q) → U.heap[q]? = s.heap[q]? := by
  obtain ⟨-, h2, -, -, -, h6⟩ := h
  refine ⟨h2, fun q hq hz => ?_⟩
  obtain ⟨c9, e1, e2, e3, e4⟩ := h6 q _ (Array.getElem?_eq_getElem hq)
  have hs : c9.slots = (s.heap[q]).slots := Array.ext_getElem? fun i => e4 i fun hm => hz _ hm rfl
  have h9 : c9 = s.heap[q] := by
    rw [hs] at e2
    exact e2
  have e5 : U.heap[q]? = some c9 := e1
  rw [e5, h9, Array.getElem?_eq_getElem hq]
/-- the words of a throw but the four that speak of the heap -/
def vx_no (w : Cond) : Bool := decide (w ≠ .isRef (.static Bundle.tN "UNASSIGNED_STACK" Bundle.steD)) && decide (w ≠ .isRef (.static Bundle.tN "SUPPRESSED_SENTINEL" Bundle.listD)) && decide (w ≠ .laysStatic Bundle.tN "UNASSIGNED_STACK" Bundle.steD) && decide (w ≠ .laysStatic Bundle.tN "SUPPRESSED_SENTINEL" Bundle.listD)
def vx_at0 (own : String) (ic : Nat) (X : String) (names : List String) : List Cond := (Bundle.ownAtoms0 own ic X names).filter vx_no
def vx_atS (own : String) (ic : Nat) (X : String) (names : List String) : List Cond := (Bundle.ownAtoms own ic X names).filter vx_no
/-- a word that the tables alone decide, or a good one -/
def vx_ot (w : Cond) : Bool := w.onTables || goodWord w
theorem vx_ot_at {args a' : Array Value} {s U : State} {w : Cond} (hW : s.WarmedH U.vm) (hvm : s.vm = U.vm) (hg : vx_ot w = true) (h : w.before args s = true) : w.before a' U = true := by
  simp only [vx_ot, Bool.or_eq_true] at hg
  rcases hg with hg | hg
  · exact va_tabs hg hvm h
  · exact word_at hW (good_of_word hg) h
/-- a list's words: the good ones out of the method's own list, the others by premises of their own -/
theorem vx_hat {args : Array Value} {s : State} {L B : List Cond} (h1 : ∀ w ∈ L.filter goodWord, w.before args s = true) (h2 : ∀ w ∈ L.filter (fun w => !goodWord w), w ∈ B) (h3 : ∀ w ∈ B, w.before args s = true) : ∀ w ∈ L, w.before args s = true := by
  intro w hw
  by_cases g : goodWord w = true
  · exact h1 w (List.mem_filter.mpr ⟨hw, g⟩)
  · refine h3 w (h2 w (List.mem_filter.mpr ⟨hw, ?_⟩))
    show (!goodWord w) = true
    cases hgw : goodWord w
    · rfl
    · exact absurd hgw g
theorem vx_c {args : Array Value} {s : State} {w : Cond} {B : List Cond} (h : w.before args s = true) (t : ∀ w ∈ B, w.before args s = true) : ∀ w' ∈ w :: B, w'.before args s = true := fun w' h' => (List.mem_cons.mp h').elim (fun e => by rw [e]; exact h) (t w')
theorem vx_n {args : Array Value} {s : State} : ∀ w ∈ ([] : List Cond), w.before args s = true := fun _ h => nomatch h
theorem vx_own {args : Array Value} {s : State} {L : List Cond} (h1 : ∀ w ∈ L.filter vx_no, w.before args s = true)
    (hU : (Cond.isRef (.static Bundle.tN "UNASSIGNED_STACK" Bundle.steD)).before args s = true) (hN : (Cond.isRef (.static Bundle.tN "SUPPRESSED_SENTINEL" Bundle.listD)).before args s = true)
    (lU : (Cond.laysStatic Bundle.tN "UNASSIGNED_STACK" Bundle.steD).before args s = true) (lN : (Cond.laysStatic Bundle.tN "SUPPRESSED_SENTINEL" Bundle.listD).before args s = true) : ∀ w ∈ L, w.before args s = true := by
  intro w hw
  by_cases e1 : w = .isRef (.static Bundle.tN "UNASSIGNED_STACK" Bundle.steD)
  · rw [e1]; exact hU
  · by_cases e2 : w = .isRef (.static Bundle.tN "SUPPRESSED_SENTINEL" Bundle.listD)
    · rw [e2]; exact hN
    · by_cases e3 : w = .laysStatic Bundle.tN "UNASSIGNED_STACK" Bundle.steD
      · rw [e3]; exact lU
      · by_cases e4 : w = .laysStatic Bundle.tN "SUPPRESSED_SENTINEL" Bundle.listD
        · rw [e4]; exact lN
        · exact h1 w (List.mem_filter.mpr ⟨hw, by unfold vx_no; rw [decide_eq_true e1, decide_eq_true e2, decide_eq_true e3, decide_eq_true e4]; rfl⟩)
/-- where a static field lies, its class's statics cell in H -/
def vx_L (C n d : String) (A : Nat → Prop) (U : State) (H : Heap) : Prop := ∃ (c : ClassId) (k : Class) (i : Nat) (f : Field) (a : Nat) (cell : Cell), U.vm.findClass C = some c ∧ U.fieldFound? C n d = some (c, k, i, f) ∧ f.isStatic = true ∧ k.statics = some a ∧ H[a]? = some cell ∧ cell.vm.isStatics = true ∧ cell.cls = c ∧ f.slot < cell.slots.size ∧ k.staticTypes[f.slot]? = some f.type ∧ ¬ A a
theorem vx_L.moved {C n d : String} {A : Nat → Prop} {u U : State} {H : Heap} (hvm : u.vm.Alike U.vm) (h : vx_L C n d A u H) : vx_L C n d A U H := by
  obtain ⟨c, k, i, f, a, cell, h1, h2, h3, h4, h5, h6, h7, h8, h9, h10⟩ := h
  obtain ⟨k', hi', he⟩ := State.fieldFound?_setVm hvm h2
  exact ⟨c, k', i, f, a, cell, by rw [hvm.findClass]; exact h1, hi', h3, by rw [he]; exact h4, h5, h6, h7, h8, by rw [he]; exact h9, h10⟩
theorem vx_L.kept {C n d : String} {A : Nat → Prop} {U : State} {H H1 : Heap} (h : vx_L C n d A U H) (hq : ∀ a : Nat, a < H.size → ¬ A a → H1[a]? = H[a]?) : vx_L C n d A U H1 := by
  obtain ⟨c, k, i, f, a, cell, h1, h2, h3, h4, h5, h6, h7, h8, h9, h10⟩ := h
  exact ⟨c, k, i, f, a, cell, h1, h2, h3, h4, by rw [hq a (Array.getElem?_eq_some_iff.mp h5).1 h10]; exact h5, h6, h7, h8, h9, h10⟩
theorem vx_L.narrow {C n d : String} {A B : Nat → Prop} {U : State} {H : Heap} (h : vx_L C n d A U H) (hAB : ∀ q, B q → A q) : vx_L C n d B U H := by
  obtain ⟨c, k, i, f, a, cell, h1, h2, h3, h4, h5, h6, h7, h8, h9, h10⟩ := h
  exact ⟨c, k, i, f, a, cell, h1, h2, h3, h4, h5, h6, h7, h8, h9, fun z => h10 (hAB _ z)⟩
theorem vx_L.word {C n d : String} {A : Nat → Prop} {s : State} {args : Array Value} (h : vx_L C n d A s s.heap) : (Cond.laysStatic C n d).before args s = true := by
  obtain ⟨c, k, i, f, a, cell, h1, h2, h3, h4, h5, h6, h7, h8, h9, -⟩ := h
  show (Cond.laysStatic C n d).holds args s none s [] = true
  exact Cond.laysStatic_of h1 h2 h3 h4 h5 h6 h7 h8 h9
/-- .. and what it holds: null or some reference -/
def vx_Zq (C n d : String) (A : Nat → Prop) (U : State) (H : Heap) : Prop := va_Zq C n d A U H ∧ vx_L C n d A U H
theorem vx_Zq.moved {C n d : String} {A : Nat → Prop} {u U : State} {H : Heap} (hvm : u.vm.Alike U.vm) (h : vx_Zq C n d A u H) : vx_Zq C n d A U H := ⟨va_Zq.moved hvm h.1, vx_L.moved hvm h.2⟩
theorem vx_Zq.kept {C n d : String} {A : Nat → Prop} {U : State} {H H1 : Heap} (h : vx_Zq C n d A U H) (hq : ∀ a : Nat, a < H.size → ¬ A a → H1[a]? = H[a]?) : vx_Zq C n d A U H1 := ⟨va_Zq.kept h.1 hq, vx_L.kept h.2 hq⟩
theorem vx_Zq.narrow {C n d : String} {A B : Nat → Prop} {U : State} {H : Heap} (h : vx_Zq C n d A U H) (hAB : ∀ q, B q → A q) : vx_Zq C n d B U H := ⟨va_Zq.narrow h.1 hAB, vx_L.narrow h.2 hAB⟩
theorem vx_Zqof {args : Array Value} {s : State} {C n d : String} {A : Nat → Prop} (hl : (Cond.laysStatic C n d).before args s = true) (hini : (Cond.initialized C).before args s = true) (h : (Cond.isRef (.static C n d)).before args s = true) (hA : ∀ a : Nat, a < s.heap.size → ¬ A a) : vx_Zq C n d A s s.heap := by
  refine ⟨va_Zqof hl hini h hA, ?_⟩
  obtain ⟨c, k, i, f, a, cell, h1, h2, h3, h4, h5, h6, h7, h8, h9⟩ := Cond.laysStatic_spec hl
  exact ⟨c, k, i, f, a, cell, h1, h2, h3, h4, h5, h6, h7, h8, h9, hA a (Array.getElem?_eq_some_iff.mp h5).1⟩
theorem vx_isRef {C n d : String} {v : Value} {A : Nat → Prop} {s : State} {args : Array Value} (h : va_Z C n d v A s s.heap) (hv : v.isRef = true) : (Cond.isRef (.static C n d)).before args s = true := by
  obtain ⟨cf, kf, fi, f, a, cell, h1, h2, h3, h4, h5, h6, h7, -⟩ := h
  have he : (Term.static C n d).eval args s none [] s = some v := by
    simp [Term.eval, State.fieldNamed?, h1, h2, h4, h5, h6, h7]
  simp only [Cond.before, Cond.holds, Cond.value, he]
  cases v <;> simp_all [Value.isRef]
theorem vx_isRefq {C n d : String} {A : Nat → Prop} {s : State} {args : Array Value} (h : va_Zq C n d A s s.heap) : (Cond.isRef (.static C n d)).before args s = true := by
  rcases h with h | ⟨t, h⟩
  · exact vx_isRef h rfl
  · exact vx_isRef h rfl
/-- the same frame, seen from here: as if the method were called anew in this heap -/
theorem vx_rebase {T : State} (X : Stand p l e R s m args below meth c T locs cells slots) {R' : Room} (hf : R'.frames ≤ R.frames) (hl : R'.locals ≤ R.locals) (hc : cells + R'.cells ≤ R.cells) (hs : slots + R'.slots ≤ R.slots) :
    Stand p l e R' ((T.setVm s.vm).setFrames (.invoking m args :: below)) m args below meth c T [] 0 0 := by
  have htop : (T.setVm s.vm).topJava?.isSome := X.here.top
  have hF : ((T.setVm s.vm).setFrames (.invoking m args :: below)).frames = .invoking m args :: below := State.frames_setFrames _ (State.cur_lt_of_top htop)
  obtain ⟨g₀, hg0⟩ := Option.isSome_iff_exists.mp htop
  obtain ⟨r, hr⟩ := State.topJava?_eq_some.mp hg0
  have hl9 : e.platform.stackLimits (T.setVm s.vm).me = e.platform.stackLimits s.me := X.limits
  have hb9 : (T.setVm s.vm).me.stackBytes = s.me.stackBytes := X.bytes
  refine ⟨X.admits, X.cas, X.clock, hF, ?_, X.hears, X.method, X.code, X.here, X.tail, X.warmed, ?_, ?_, ?_⟩
  · have h := X.room
    have hU : ((T.setVm s.vm).setFrames (.invoking m args :: below)).localsInUse = s.localsInUse := by
      rw [State.localsInUse_invoking hF (meth := meth) (c := c) X.method X.code, State.localsInUse_invoking X.frames X.method X.code]
    simp only [State.hasRoom, Bool.and_eq_true, decide_eq_true_eq] at h ⊢
    obtain ⟨⟨⟨⟨h1, h2, h3, h4, h5, h6⟩, h7⟩, h8⟩, h9⟩ := h
    rw [X.frames, List.length_cons] at h2 h3
    have q1 := X.heapSize
    have q2 := X.used
    simp only [hF, hU, List.length_cons, State.stackLimits_setFrames, State.stackBytes_setFrames, hl9, hb9]
    refine ⟨⟨⟨⟨by omega, by omega, by omega, by omega, by omega, h6⟩, ?_⟩, ?_⟩, X.book⟩
    · show T.heap.size + R'.cells ≤ e.platform.maxCells
      omega
    · show T.slotsUsed + R'.slots ≤ e.platform.maxSlots
      omega
  · rw [State.stackLimits_setFrames]; rfl
  · rw [State.stackBytes_setFrames]; rfl
  · refine ⟨?_, Nat.le_refl _, Nat.le_refl _, ?_, ?_, fun a c9 h9 => ⟨c9, h9, rfl, rfl, fun _ _ => rfl⟩⟩
    · obtain ⟨t, ht, -⟩ := State.frames_cons hr
      show T.setVm s.vm = { ((T.setVm s.vm).setFrames (.invoking m args :: below)).setFrames (T.setVm s.vm).frames with heap := T.heap, slotsUsed := T.slotsUsed }
      rw [State.setFrames_setFrames, State.setFrames_self ht]
      rfl
    · show T.slotsUsed = T.slotsUsed + ((T.heap.toList.drop T.heap.size).map (·.slots.size)).sum
      rw [List.drop_eq_nil_of_le (Nat.le_of_eq Array.length_toList)]
      rfl
    · show ((T.heap.toList.drop T.heap.size).map (·.slots.size)).sum ≤ 0
      rw [List.drop_eq_nil_of_le (Nat.le_of_eq Array.length_toList)]
      exact Nat.le_refl _
/-- 'throw new E()': new; dup; invokespecial; athrow -/
theorem vx_throw0 {cc : ByteArray} {pc : Nat} (hexec : p.tables.exec = Jvm.exec) (hb : c.code = cc) (hl : l.stackTraces = false) {own cls : String} {names : List String} {ik ic mc ms : Nat} {A : Nat → Prop}
    (hown : s.vm.findClass own = some m.cls) (hcls : Bundle.fit cls = true) (hnames : ∀ n ∈ names, Bundle.fit n = true)
    (hk : (Cond.classLink own ik cls).before args s = true) (hini : (Cond.initialized cls).before args s = true) (hat : ∀ w ∈ vx_at0 own ic cls names, w.before args s = true)
    (hgood : ∀ w ∈ Cond.classLink own ik cls :: Cond.initialized cls :: vx_at0 own ic cls names, vx_ot w = true)
    (hU : vx_Zq Bundle.tN "UNASSIGNED_STACK" Bundle.steD A s s.heap) (hN : vx_Zq Bundle.tN "SUPPRESSED_SENTINEL" Bundle.listD A s s.heap) (hS : va_S A s.heap H locs) (hsize : ls.size = c.maxLocals)
    (d0 : decode cc pc = .ok (.new ik, 3)) (d3 : decode cc (pc + 3) = .ok (.dup, 1)) (d4 : decode cc (pc + 4) = .ok (.invokespecial ic, 3)) (d7 : decode cc (pc + 7) = .ok (.athrow, 1))
    (hout : ∀ x ∈ c.exceptionTable.toList, covers x (pc + 7) = false)
    (hRframes : names.length + 3 < R.frames) (hRlocals : (rest.map fun v => v.category).sum + (13 * (names.length + 1) + 42) ≤ R.locals) (hRcells : cells + 1 ≤ R.cells) (hRslots : slots + 6 ≤ R.slots) (hlocks : meth.locks = false)
    (hx : ∀ t : State, s.vm.Alike t.vm → H.size ≤ t.heap.size → (∀ q : Nat, q < H.size → t.heap[q]? = H[q]?) → XC cls s t)
    (hf : ∀ z ∈ locs, free z.base) (hc : cells + 1 ≤ mc) (hs : slots + 6 ≤ ms) :
    W p l e R s m args below meth c H locs cells slots (vx_MQ below Qc XC args s mc ms free) (F0 m pc ls rest) := by
  intro T hT X
  have htr : e.platform.stackTraces = false := (show e.platform.stackTraces = l.stackTraces by rw [X.admits.platform]).trans hl
  have Y := vx_rebase X (R' := { frames := R.frames, locals := R.locals, cells := 1, slots := 6 }) (Nat.le_refl _) (Nat.le_refl _) hRcells hRslots
  obtain ⟨s', hA⟩ : ∃ z, z = (T.setVm s.vm).setFrames (.invoking m args :: below) := ⟨_, rfl⟩
  rw [← hA] at Y
  have hvm : s'.vm = s.vm := by rw [hA]; rfl
  have hhp : s'.heap = H := by rw [hA]; exact hT
  have hW0 : s.WarmedH s'.vm := by rw [hvm]; exact State.WarmedH.refl s
  have hat' : ∀ w ∈ vx_at0 own ic cls names, w.before args s' = true := fun w hw => vx_ot_at hW0 hvm.symm (hgood w (List.mem_cons_of_mem _ (List.mem_cons_of_mem _ hw))) (hat w hw)
  have hk' : (Cond.classLink own ik cls).before args s' = true := vx_ot_at hW0 hvm.symm (hgood _ List.mem_cons_self) hk
  have hini' : (Cond.initialized cls).before args s' = true := vx_ot_at hW0 hvm.symm (hgood _ (List.mem_cons_of_mem _ List.mem_cons_self)) hini
  have hU' : vx_Zq Bundle.tN "UNASSIGNED_STACK" Bundle.steD A s' s'.heap := by rw [hhp]; exact vx_Zq.moved hW0.alike (hU.kept hS.2.1)
  have hN' : vx_Zq Bundle.tN "SUPPRESSED_SENTINEL" Bundle.listD A s' s'.heap := by rw [hhp]; exact vx_Zq.moved hW0.alike (hN.kept hS.2.1)
  have h : ∀ w ∈ Bundle.ownAtoms0 own ic cls names, w.before args s' = true := vx_own hat' (vx_isRefq hU'.1) (vx_isRefq hN'.1) hU'.2.word hN'.2.word
  have hown' : s'.vm.findClass own = some m.cls := by rw [hvm]; exact hown
  have hins : (Cond.instantiable cls 6).before args s' = true := h _ (by simp [Bundle.ownAtoms0])
  obtain ⟨vm₁, cX, kX, hfX, hkX, -, -, X₁, st1⟩ := Y.newCold hexec (own := own) (C := cls) (index := ik) (n := 6) hown' hk' hins hini'
    (g := F0 m pc ls rest) rfl (by rw [hb]; exact d0) (Nat.le_refl _) (Nat.le_refl _)
  generalize hT1 : (T.setVm vm₁).pushCell { cls := cX, slots := kX.instanceTypes.map defaultValue, vm := .none } = T1 at X₁ st1
  have hcat : (Value.ref T.heap.size).category = 1 := rfl
  have hcellA : T1.heap[T.heap.size]? = some (freshCell cX kX) := by rw [← hT1]; exact State.heap_pushCell_size _ _
  have d3' : decode c.code (pc + 3) = .ok (.dup, 1) := by rw [hb]; exact d3
  obtain ⟨U, hsteps, hrun, hend, hW, hsame, ce, hce, hO⟩ := X₁.ctorThrow0 hexec htr (own := own) (cls := cls) (names := names) (ic := ic) hown' hcls hnames h (fun x hx => nomatch hx) hfX hkX hcellA (by rw [hhp, hT]; exact Nat.le_refl _)
    (g := { method := m, pc := pc + 4, locals := ls, stack := .ref T.heap.size :: .ref T.heap.size :: rest, locked := none }) rfl hsize rfl rfl (rest := rest) rfl
    (by rw [hb]; exact d4) (by rw [hb]; exact d7) hout hRframes (by simp only [List.map_cons, List.sum_cons, hcat]; omega) hlocks
  obtain ⟨f1, f2⟩ := vx_frame hsame
  rw [hhp] at f1 f2
  have hWs : s.WarmedH U.vm := State.WarmedH.trans hW0 hW
  have hcl : s.vm.findClass cls = some ce.cls := by
    have h9 := hO.cls
    rw [hvm] at h9
    exact h9
  have hall : s.sameButNew ({ U with vm := s.vm } : State) locs mc ms := by
    subst hA
    obtain ⟨e1, e2⟩ := hsame
    rw [State.setFrames_setFrames] at e1
    have h2 : (T.setVm s.vm).sameButNew ({ U with vm := s.vm } : State) [] (0 + 1) (0 + 6) := ⟨e1, e2⟩
    have h3 := X.same.trans h2
    rw [List.append_nil] at h3
    exact h3.mono hc hs
  refine ⟨U, ?_, .threw T.heap.size, hrun, hend, Or.inr ⟨T.heap.size, rfl, cls, ce, locs, hx U hWs.alike f1 (fun q hq => f2 q hq (fun z hz => nomatch hz)), hce, hO.vm, hcl, hWs, hall, hf⟩⟩
  refine st1 _ ?_
  show Steps p.tables e below (T1.setTop { method := m, pc := pc + 3, locals := ls, stack := .ref T.heap.size :: rest, locked := none }) _
  jvm_step X₁.here [X₁.here.top, hexec, d3', Value.category]
  exact hsteps
/-- 'throw new E("text")': new; dup; ldc; invokespecial; athrow -/
theorem vx_throwS {cc : ByteArray} {pc : Nat} (hexec : p.tables.exec = Jvm.exec) (hb : c.code = cc) (hl : l.stackTraces = false) {own cls text : String} {names : List String} {ik is ic mc ms sa : Nat} {A : Nat → Prop}
    (hown : s.vm.findClass own = some m.cls) (hcls : Bundle.fit cls = true) (hnames : ∀ n ∈ names, Bundle.fit n = true)
    (hk : (Cond.classLink own ik cls).before args s = true) (hini : (Cond.initialized cls).before args s = true) (hstr : vk_R own is text sa s) (hat : ∀ w ∈ vx_atS own ic cls names, w.before args s = true)
    (hgood : ∀ w ∈ Cond.classLink own ik cls :: Cond.initialized cls :: vx_atS own ic cls names, vx_ot w = true)
    (hU : vx_Zq Bundle.tN "UNASSIGNED_STACK" Bundle.steD A s s.heap) (hN : vx_Zq Bundle.tN "SUPPRESSED_SENTINEL" Bundle.listD A s s.heap) (hS : va_S A s.heap H locs) (hsize : ls.size = c.maxLocals)
    (d0 : decode cc pc = .ok (.new ik, 3)) (d3 : decode cc (pc + 3) = .ok (.dup, 1)) (d4 : decode cc (pc + 4) = .ok (.ldc is, 2)) (d6 : decode cc (pc + 6) = .ok (.invokespecial ic, 3)) (d9 : decode cc (pc + 9) = .ok (.athrow, 1))
    (hout : ∀ x ∈ c.exceptionTable.toList, covers x (pc + 9) = false)
    (hRframes : names.length + 3 < R.frames) (hRlocals : (rest.map fun v => v.category).sum + (13 * (names.length + 1) + 43) ≤ R.locals) (hRcells : cells + 1 ≤ R.cells) (hRslots : slots + 6 ≤ R.slots) (hlocks : meth.locks = false)
    (hx : ∀ t : State, s.vm.Alike t.vm → H.size ≤ t.heap.size → (∀ q : Nat, q < H.size → t.heap[q]? = H[q]?) → XC cls s t)
    (hf : ∀ z ∈ locs, free z.base) (hc : cells + 1 ≤ mc) (hs : slots + 6 ≤ ms) :
    W p l e R s m args below meth c H locs cells slots (vx_MQ below Qc XC args s mc ms free) (F0 m pc ls rest) := by
  intro T hT X
  have htr : e.platform.stackTraces = false := (show e.platform.stackTraces = l.stackTraces by rw [X.admits.platform]).trans hl
  have Y := vx_rebase X (R' := { frames := R.frames, locals := R.locals, cells := 1, slots := 6 }) (Nat.le_refl _) (Nat.le_refl _) hRcells hRslots
  obtain ⟨s', hA⟩ : ∃ z, z = (T.setVm s.vm).setFrames (.invoking m args :: below) := ⟨_, rfl⟩
  rw [← hA] at Y
  have hvm : s'.vm = s.vm := by rw [hA]; rfl
  have hhp : s'.heap = H := by rw [hA]; exact hT
  have hW0 : s.WarmedH s'.vm := by rw [hvm]; exact State.WarmedH.refl s
  have hat' : ∀ w ∈ vx_atS own ic cls names, w.before args s' = true := fun w hw => vx_ot_at hW0 hvm.symm (hgood w (List.mem_cons_of_mem _ (List.mem_cons_of_mem _ hw))) (hat w hw)
  have hk' : (Cond.classLink own ik cls).before args s' = true := vx_ot_at hW0 hvm.symm (hgood _ List.mem_cons_self) hk
  have hini' : (Cond.initialized cls).before args s' = true := vx_ot_at hW0 hvm.symm (hgood _ (List.mem_cons_of_mem _ List.mem_cons_self)) hini
  have hU' : vx_Zq Bundle.tN "UNASSIGNED_STACK" Bundle.steD A s' s'.heap := by rw [hhp]; exact vx_Zq.moved hW0.alike (hU.kept hS.2.1)
  have hN' : vx_Zq Bundle.tN "SUPPRESSED_SENTINEL" Bundle.listD A s' s'.heap := by rw [hhp]; exact vx_Zq.moved hW0.alike (hN.kept hS.2.1)
  have h : ∀ w ∈ Bundle.ownAtoms own ic cls names, w.before args s' = true := vx_own hat' (vx_isRefq hU'.1) (vx_isRefq hN'.1) hU'.2.word hN'.2.word
  have hown' : s'.vm.findClass own = some m.cls := by rw [hvm]; exact hown
  have hins : (Cond.instantiable cls 6).before args s' = true := h _ (by simp [Bundle.ownAtoms])
  obtain ⟨vm₁, cX, kX, hfX, hkX, -, -, X₁, st1⟩ := Y.newCold hexec (own := own) (C := cls) (index := ik) (n := 6) hown' hk' hins hini'
    (g := F0 m pc ls rest) rfl (by rw [hb]; exact d0) (Nat.le_refl _) (Nat.le_refl _)
  generalize hT1 : (T.setVm vm₁).pushCell { cls := cX, slots := kX.instanceTypes.map defaultValue, vm := .none } = T1 at X₁ st1
  have hcat : (Value.ref T.heap.size).category = 1 := rfl
  have hcellA : T1.heap[T.heap.size]? = some (freshCell cX kX) := by rw [← hT1]; exact State.heap_pushCell_size _ _
  have d3' : decode c.code (pc + 3) = .ok (.dup, 1) := by rw [hb]; exact d3
  have d4' : decode c.code (pc + 4) = .ok (.ldc is, 2) := by rw [hb]; exact d4
  have hstr' : vk_R own is text sa s' := vk_R.warm hW0 hstr
  obtain ⟨U, hsteps, hrun, hend, hW, hsame, ce, hce, hO⟩ := X₁.ctorThrowS hexec htr (own := own) (cls := cls) (names := names) (ic := ic) hown' hcls hnames h (fun x hx => nomatch hx) hfX hkX hcellA (by rw [hhp, hT]; exact Nat.le_refl _) (msg := .ref sa) rfl
    (g := { method := m, pc := pc + 6, locals := ls, stack := .ref sa :: .ref T.heap.size :: .ref T.heap.size :: rest, locked := none }) rfl hsize rfl rfl (rest := rest) rfl
    (by rw [hb]; exact d6) (by rw [hb]; exact d9) hout hRframes (by simp only [List.map_cons, List.sum_cons, hcat]; omega) hlocks
  obtain ⟨f1, f2⟩ := vx_frame hsame
  rw [hhp] at f1 f2
  have hWs : s.WarmedH U.vm := State.WarmedH.trans hW0 hW
  have hcl : s.vm.findClass cls = some ce.cls := by
    have h9 := hO.cls
    rw [hvm] at h9
    exact h9
  have hall : s.sameButNew ({ U with vm := s.vm } : State) locs mc ms := by
    subst hA
    obtain ⟨e1, e2⟩ := hsame
    rw [State.setFrames_setFrames] at e1
    have h2 : (T.setVm s.vm).sameButNew ({ U with vm := s.vm } : State) [] (0 + 1) (0 + 6) := ⟨e1, e2⟩
    have h3 := X.same.trans h2
    rw [List.append_nil] at h3
    exact h3.mono hc hs
  refine ⟨U, ?_, .threw T.heap.size, hrun, hend, Or.inr ⟨T.heap.size, rfl, cls, ce, locs, hx U hWs.alike f1 (fun q hq => f2 q hq (fun z hz => nomatch hz)), hce, hO.vm, hcl, hWs, hall, hf⟩⟩
  refine st1 _ ?_
  show Steps p.tables e below (T1.setTop { method := m, pc := pc + 3, locals := ls, stack := .ref T.heap.size :: rest, locked := none }) _
  jvm_step X₁.here [X₁.here.top, hexec, d3', Value.category]
  exact X₁.ldcString hexec (own := own) (text := text) (index := is) (a := sa) hown' hstr'.1 hstr'.2
    (g := { method := m, pc := pc + 4, locals := ls, stack := .ref T.heap.size :: .ref T.heap.size :: rest, locked := none }) rfl d4' _ hsteps
/-- 'throw new E("text")', the text by a wide index -/
theorem vx_throwSW {cc : ByteArray} {pc : Nat} (hexec : p.tables.exec = Jvm.exec) (hb : c.code = cc) (hl : l.stackTraces = false) {own cls text : String} {names : List String} {ik is ic mc ms sa : Nat} {A : Nat → Prop}
    (hown : s.vm.findClass own = some m.cls) (hcls : Bundle.fit cls = true) (hnames : ∀ n ∈ names, Bundle.fit n = true)
    (hk : (Cond.classLink own ik cls).before args s = true) (hini : (Cond.initialized cls).before args s = true) (hstr : vk_R own is text sa s) (hat : ∀ w ∈ vx_atS own ic cls names, w.before args s = true)
    (hgood : ∀ w ∈ Cond.classLink own ik cls :: Cond.initialized cls :: vx_atS own ic cls names, vx_ot w = true)
    (hU : vx_Zq Bundle.tN "UNASSIGNED_STACK" Bundle.steD A s s.heap) (hN : vx_Zq Bundle.tN "SUPPRESSED_SENTINEL" Bundle.listD A s s.heap) (hS : va_S A s.heap H locs) (hsize : ls.size = c.maxLocals)
    (d0 : decode cc pc = .ok (.new ik, 3)) (d3 : decode cc (pc + 3) = .ok (.dup, 1)) (d4 : decode cc (pc + 4) = .ok (.ldc_w is, 3)) (d7 : decode cc (pc + 7) = .ok (.invokespecial ic, 3)) (d10 : decode cc (pc + 10) = .ok (.athrow, 1))
    (hout : ∀ x ∈ c.exceptionTable.toList, covers x (pc + 10) = false)
    (hRframes : names.length + 3 < R.frames) (hRlocals : (rest.map fun v => v.category).sum + (13 * (names.length + 1) + 43) ≤ R.locals) (hRcells : cells + 1 ≤ R.cells) (hRslots : slots + 6 ≤ R.slots) (hlocks : meth.locks = false)
    (hx : ∀ t : State, s.vm.Alike t.vm → H.size ≤ t.heap.size → (∀ q : Nat, q < H.size → t.heap[q]? = H[q]?) → XC cls s t)
    (hf : ∀ z ∈ locs, free z.base) (hc : cells + 1 ≤ mc) (hs : slots + 6 ≤ ms) :
    W p l e R s m args below meth c H locs cells slots (vx_MQ below Qc XC args s mc ms free) (F0 m pc ls rest) := by
  intro T hT X
  have htr : e.platform.stackTraces = false := (show e.platform.stackTraces = l.stackTraces by rw [X.admits.platform]).trans hl
  have Y := vx_rebase X (R' := { frames := R.frames, locals := R.locals, cells := 1, slots := 6 }) (Nat.le_refl _) (Nat.le_refl _) hRcells hRslots
  obtain ⟨s', hA⟩ : ∃ z, z = (T.setVm s.vm).setFrames (.invoking m args :: below) := ⟨_, rfl⟩
  rw [← hA] at Y
  have hvm : s'.vm = s.vm := by rw [hA]; rfl
  have hhp : s'.heap = H := by rw [hA]; exact hT
  have hW0 : s.WarmedH s'.vm := by rw [hvm]; exact State.WarmedH.refl s
  have hat' : ∀ w ∈ vx_atS own ic cls names, w.before args s' = true := fun w hw => vx_ot_at hW0 hvm.symm (hgood w (List.mem_cons_of_mem _ (List.mem_cons_of_mem _ hw))) (hat w hw)
  have hk' : (Cond.classLink own ik cls).before args s' = true := vx_ot_at hW0 hvm.symm (hgood _ List.mem_cons_self) hk
  have hini' : (Cond.initialized cls).before args s' = true := vx_ot_at hW0 hvm.symm (hgood _ (List.mem_cons_of_mem _ List.mem_cons_self)) hini
  have hU' : vx_Zq Bundle.tN "UNASSIGNED_STACK" Bundle.steD A s' s'.heap := by rw [hhp]; exact vx_Zq.moved hW0.alike (hU.kept hS.2.1)
  have hN' : vx_Zq Bundle.tN "SUPPRESSED_SENTINEL" Bundle.listD A s' s'.heap := by rw [hhp]; exact vx_Zq.moved hW0.alike (hN.kept hS.2.1)
  have h : ∀ w ∈ Bundle.ownAtoms own ic cls names, w.before args s' = true := vx_own hat' (vx_isRefq hU'.1) (vx_isRefq hN'.1) hU'.2.word hN'.2.word
  have hown' : s'.vm.findClass own = some m.cls := by rw [hvm]; exact hown
  have hins : (Cond.instantiable cls 6).before args s' = true := h _ (by simp [Bundle.ownAtoms])
  obtain ⟨vm₁, cX, kX, hfX, hkX, -, -, X₁, st1⟩ := Y.newCold hexec (own := own) (C := cls) (index := ik) (n := 6) hown' hk' hins hini'
    (g := F0 m pc ls rest) rfl (by rw [hb]; exact d0) (Nat.le_refl _) (Nat.le_refl _)
  generalize hT1 : (T.setVm vm₁).pushCell { cls := cX, slots := kX.instanceTypes.map defaultValue, vm := .none } = T1 at X₁ st1
  have hcat : (Value.ref T.heap.size).category = 1 := rfl
  have hcellA : T1.heap[T.heap.size]? = some (freshCell cX kX) := by rw [← hT1]; exact State.heap_pushCell_size _ _
  have d3' : decode c.code (pc + 3) = .ok (.dup, 1) := by rw [hb]; exact d3
  have d4' : decode c.code (pc + 4) = .ok (.ldc_w is, 3) := by rw [hb]; exact d4
  have hstr' : vk_R own is text sa s' := vk_R.warm hW0 hstr
  obtain ⟨U, hsteps, hrun, hend, hW, hsame, ce, hce, hO⟩ := X₁.ctorThrowS hexec htr (own := own) (cls := cls) (names := names) (ic := ic) hown' hcls hnames h (fun x hx => nomatch hx) hfX hkX hcellA (by rw [hhp, hT]; exact Nat.le_refl _) (msg := .ref sa) rfl
    (g := { method := m, pc := pc + 7, locals := ls, stack := .ref sa :: .ref T.heap.size :: .ref T.heap.size :: rest, locked := none }) rfl hsize rfl rfl (rest := rest) rfl
    (by rw [hb]; exact d7) (by rw [hb]; exact d10) hout hRframes (by simp only [List.map_cons, List.sum_cons, hcat]; omega) hlocks
  obtain ⟨f1, f2⟩ := vx_frame hsame
  rw [hhp] at f1 f2
  have hWs : s.WarmedH U.vm := State.WarmedH.trans hW0 hW
  have hcl : s.vm.findClass cls = some ce.cls := by
    have h9 := hO.cls
    rw [hvm] at h9
    exact h9
  have hall : s.sameButNew ({ U with vm := s.vm } : State) locs mc ms := by
    subst hA
    obtain ⟨e1, e2⟩ := hsame
    rw [State.setFrames_setFrames] at e1
    have h2 : (T.setVm s.vm).sameButNew ({ U with vm := s.vm } : State) [] (0 + 1) (0 + 6) := ⟨e1, e2⟩
    have h3 := X.same.trans h2
    rw [List.append_nil] at h3
    exact h3.mono hc hs
  refine ⟨U, ?_, .threw T.heap.size, hrun, hend, Or.inr ⟨T.heap.size, rfl, cls, ce, locs, hx U hWs.alike f1 (fun q hq => f2 q hq (fun z hz => nomatch hz)), hce, hO.vm, hcl, hWs, hall, hf⟩⟩
  refine st1 _ ?_
  show Steps p.tables e below (T1.setTop { method := m, pc := pc + 3, locals := ls, stack := .ref T.heap.size :: rest, locked := none }) _
  jvm_step X₁.here [X₁.here.top, hexec, d3', Value.category]
  exact X₁.ldcStringW hexec (own := own) (text := text) (index := is) (a := sa) hown' hstr'.1 hstr'.2
    (g := { method := m, pc := pc + 4, locals := ls, stack := .ref T.heap.size :: .ref T.heap.size :: rest, locked := none }) rfl d4' _ hsteps
end Ends
section Bodies
variable {l : Launch}
theorem vx_ofW {y : MethodName} {ws ws' : List Cond} {rm : Room} {Pc : Array Value → State → Prop} {Qc : Array Value → State → Outcome → State → Prop} {XC : String → State → State → Prop} {mc ms : Nat} {free : Addr → Prop} {cc : ByteArray} {maxL : Nat} {ret : Option FieldType}
    (hy : plainName y.cls = true) (hw : ws = Cond.code y cc maxL ret :: ws')
    (body : ∀ p e s m args below meth c s₁, BodyLoose p l y (headSpec ws rm) cc maxL ret e s m args below meth c s₁ → c.maxLocals = maxL → (∀ x ∈ c.exceptionTable.toList, False) → Pc args s →
      W p l e (headSpec ws rm).room s m args below meth c s.heap [] 0 0 (vx_MQ below Qc XC args s mc ms free) (entryFrame m args maxL)) : vx_Met l y ws rm Pc Qc XC mc ms free := by
  refine MetFree.of_bodyS (code := cc) (maxLocals := maxL) (ret := ret) hy ?_ ?_
  · intro args s m h hn
    obtain ⟨meth, c, h1, h2, h3, h4, h5, h6, -, -⟩ := Cond.code_spec hn (atoms_spec (ws := ws) h _ (by rw [hw]; exact List.mem_cons_self))
    exact ⟨meth, c, h1, h2, h3, h4, h5, h6⟩
  · intro p e s m args below meth c s₁ B hml hP _
    have hh0 : s₁.heap = s.heap := by rw [B.state]; rfl
    have ht : ∀ x ∈ c.exceptionTable.toList, False := by
      obtain ⟨meth9, c9, h1, h2, -, -, -, -, h7, -⟩ := Cond.code_spec B.named (atoms_spec (ws := ws) B.pre _ (by rw [hw]; exact List.mem_cons_self))
      cases Option.some.inj (h1.symm.trans B.method)
      cases Option.some.inj (h2.symm.trans (Stand.of_body B).code)
      intro x hx
      rw [Array.isEmpty_iff.mp h7] at hx
      cases hx
    obtain ⟨t, a1, o, b1, b2, b3⟩ := body p e s m args below meth c s₁ B hml ht hP s₁ hh0 (Stand.of_body B)
    exact ⟨t, o, a1, b1, b2, b3⟩
/-- the table of a body with handlers -/
theorem vx_table {p : Program} {x y : MethodName} {S : Spec} {cc bytes : ByteArray} {maxL maxL' : Nat} {ret ret' : Option FieldType} {e : Env} {s s₁ : State} {m : MethodId} {args : Array Value} {below : List Frame} {meth : Method} {c : Code} {hh : List (Nat × Nat × Nat × Nat)}
    (B : BodyLoose p l y S cc maxL ret e s m args below meth c s₁) (h : (Cond.codeWith y bytes maxL' ret' hh).before args s = true) : c.exceptionTable.toList = tableOf hh := by
  obtain ⟨m9, meth9, c9, hn9, h1, h2, -, -, h6, -⟩ := Cond.codeWith_spec h
  cases Option.some.inj (hn9.symm.trans B.named)
  cases Option.some.inj (h1.symm.trans B.method)
  cases Option.some.inj (h2.symm.trans (Stand.of_body B).code)
  rw [← h6, table_eq]
end Bodies
end VXA
/-! ===== END ===== -/
/-! ===== BEGIN a static call of a method with an exception table ===== -/
section VXS
variable {p : Program} {l : Launch} {e : Env} {R : Room} {s : State} {m : MethodId} {args : Array Value} {below : List Frame} {meth : Method} {c : Code} {T : State} {H : Heap} {locs : List Loc} {cells slots : Nat}
abbrev vx_CSW (R : Room) (s : State) (args : Array Value) (own : String) (index : Nat) (y : MethodName) (bytes : ByteArray) (maxL : Nat) (ret : Option FieldType) (hh : List (Nat × Nat × Nat × Nat)) (ws : List Cond) (rm : Room) (mc ms n : Nat) : Prop :=
  (rm.cells = mc ∧ rm.slots = ms ∧ rm.frames + 1 ≤ R.frames ∧ 8 + (maxL + 11) + rm.locals ≤ R.locals ∧ (∀ w ∈ ws, ∀ (a' : Array Value) (U : State), s.WarmedH U.vm → w.before a' U = true) ∧ Cond.codeWith y bytes maxL ret hh ∈ ws) ∧
  (Cond.codeWith y bytes maxL ret hh).before args s = true ∧ (Cond.initialized y.cls).before args s = true ∧ (y.cls ≠ "java/lang/invoke/MethodHandle" ∧ y.cls ≠ "java/lang/invoke/VarHandle") ∧
  (∀ sig, parseMethodDescriptor y.desc = some sig → n = sig.parameters.length) ∧ (Cond.methodLink own index y).before args s = true ∧ (Cond.static y).before args s = true
theorem vx_cwSW {own : String} {index maxL mc ms : Nat} {y : MethodName} {bytes : ByteArray} {ret : Option FieldType} {hh : List (Nat × Nat × Nat × Nat)} {Ts ws ws' : List Cond} {rm : Room} (n : Nat) (ht : ∀ w ∈ Ts, w.before args s = true) (hT : GoodIn Ts (va_wsS own index y ws)) (hw : ws = Cond.codeWith y bytes maxL ret hh :: ws') (hrc : rm.cells = mc) (hrs : rm.slots = ms)
    (hd : y.cls ≠ "java/lang/invoke/MethodHandle" ∧ y.cls ≠ "java/lang/invoke/VarHandle" ∧ (parseMethodDescriptor y.desc).map (fun d => d.parameters.length) = some n) (hR : rm.frames + 1 ≤ R.frames ∧ 8 + (maxL + 11) + rm.locals ≤ R.locals) :
    vx_CSW R s args own index y bytes maxL ret hh ws rm mc ms n := by
  have ok : ∀ w ∈ va_wsS own index y ws, w.before args s = true := fun w h => ht w (hT w h).1
  have hG : GoodIn Ts ws := fun w h => hT w (by unfold va_wsS; exact List.mem_append_right _ h)
  have hc : Cond.codeWith y bytes maxL ret hh ∈ ws := by rw [hw]; exact List.mem_cons_self
  refine ⟨⟨hrc, hrs, hR.1, hR.2, pay_in ht hG, hc⟩, ht _ (hG _ hc).1, ok _ (by simp [va_wsS]), ⟨hd.1, hd.2.1⟩, fun sig h => ?_, ok _ (by simp [va_wsS]), ok _ (by simp [va_wsS])⟩
  have h2 := hd.2.2
  rw [h] at h2
  exact (Option.some.inj h2).symm
theorem vx_callSW (X : Stand p l e R s m args below meth c T locs cells slots) (hexec : p.tables.exec = Jvm.exec) {own : String} {index : Nat} {y : MethodName} {bytes : ByteArray} {maxL : Nat} {ret : Option FieldType} {hh : List (Nat × Nat × Nat × Nat)}
    (hown : s.vm.findClass own = some m.cls) (hlink : (Cond.methodLink own index y).before args s = true) (hstat : (Cond.static y).before args s = true) (hinit : (Cond.initialized y.cls).before args s = true)
    (hcode : (Cond.codeWith y bytes maxL ret hh).before args s = true) (hy : y.cls ≠ "java/lang/invoke/MethodHandle" ∧ y.cls ≠ "java/lang/invoke/VarHandle")
    {W9 : Nat} {Pre : Pt → Array Value → Prop} {Post : Pt → Array Value → Option Value → Pt → Prop} (hK : Back l R p e below s args y 3 W9 Pre Post)
    {g : JFrame} (hg : g.method = m) (hsize : g.locals.size = c.maxLocals) {argsL rest : List Value} (hlen : ∀ sig, parseMethodDescriptor y.desc = some sig → argsL.length = sig.parameters.length)
    (hstack : g.stack = argsL.reverse ++ rest) (hW : 2 * g.monitorRoom + (rest.map fun v => v.category).sum ≤ W9) (hdg : decode c.code g.pc = .ok (.invokestatic index, 3))
    (hpre : ∀ vm₁, s.WarmedH vm₁ → Pre ⟨T.setVm vm₁, locs, cells, slots⟩ argsL.toArray) :
    ∃ (v : Option Value) (vm₁ : Vm) (B : Pt), s.WarmedH vm₁ ∧ Stand p l e R s m args below meth c B.U B.locs B.cells B.slots ∧ Post ⟨T.setVm vm₁, locs, cells, slots⟩ argsL.toArray v B ∧
      ∀ target, Steps p.tables e below (B.U.setTop { g with pc := g.pc + 3, stack := v.toList ++ rest }) target → Steps p.tables e below (T.setTop g) target := by
  obtain ⟨mk, methM, cM, hnamed, hmethM, -, -, -, -, -, -, hsigM⟩ := Cond.codeWith_spec hcode
  have hstatic : methM.isStatic = true := Cond.static_spec hnamed hmethM hstat
  obtain ⟨kP, hkP, -⟩ := className_of_methodNamed hnamed
  have hinitP : kP.init = .initialized := Cond.initialized_spec (findClass_of_methodNamed hnamed) hkP hinit
  obtain ⟨vm₁, X₁, hstep₁⟩ := X.invokestatic hexec hown hlink hnamed hmethM hstatic hkP hinitP hy (g := g) hg (argsL := argsL) (rest := rest) (hlen _ hsigM) hstack hdg
  obtain ⟨v, B, X', hpost, hsteps⟩ := hK m meth c ⟨T.setVm vm₁, locs, cells, slots⟩ { g with stack := rest } (.invokestatic index) mk argsL.toArray X₁ hg hsize hdg hW (X₁.named hnamed) (hpre vm₁ X₁.warmed)
  exact ⟨v, vm₁, B, X₁.warmed, X', hpost, fun target h => hstep₁ _ fun acts => by rw [doInvoke_state]; exact hsteps.trans h⟩
theorem vx_runSW {y : MethodName} {bytes cc : ByteArray} {maxL nL mc ms n index : Nat} {ret : Option FieldType} {hh : List (Nat × Nat × Nat × Nat)} {ws : List Cond} {rm : Room} {Pc : Array Value → State → Prop} {Qc : Array Value → State → Outcome → State → Prop} {free : Addr → Prop} {Ts : List Cond} {own : String} {As rest : List Value} {g : JFrame}
    (S : CallFix p m c cc nL s args Ts own) (hM : Met l y ws rm Pc Qc mc ms free) (cw : vx_CSW R s args own index y bytes maxL ret hh ws rm mc ms n) (hp : PreS s H Pc As)
    (hg : g.method = m) (hn : As.length = n) (hsize : g.locals.size = nL) (hstack : g.stack = As.reverse ++ rest) (hW : 2 * g.monitorRoom + (rest.map fun v => v.category).sum ≤ 8) (hdg : decode cc g.pc = .ok (.invokestatic index, 3)) (hf : cells + mc ≤ R.cells ∧ slots + ms ≤ R.slots) :
    va_Run p l e R s m args below meth c H locs cells slots mc ms g rest (Qc As.toArray) (free) := by
  obtain ⟨⟨hrc, hrs, hfr, hlo, hws, hcw⟩, hcode, hini, hy, hlen, hl, hstt⟩ := cw
  have hK : Back l R p e below s args y 3 8 (PreOf R mc ms Pc) (PostOf Qc mc ms free) := va_backW (hh := hh) (bytes := bytes) (maxL := maxL) (ret := ret) hM hp.1 hrc hrs hfr hlo hws hcw (fun a' U hW => word_at hW (Or.inl (by first | rfl | simp [Cond.onTables, Cond.keeps, Cond.steady])) hini)
  obtain ⟨hx, hb, hml, ho, -⟩ := S
  intro T hT X
  obtain ⟨v, vm₁, ⟨U', l2, c2, s2⟩, hW₁, X', ⟨g', mk, t, L, e1, e2, hq, h1, hL, h2, h3⟩, st⟩ := vx_callSW X hx (hh := hh) (bytes := bytes) (maxL := maxL) (ret := ret) ho hl hstt hini hcode hy hK hg (hsize.trans hml.symm) (argsL := As) (rest := rest) (fun sig h => hn.trans (hlen sig h)) hstack hW (by rw [hb]; exact hdg)
    (fun vm₁ hW₁ => ⟨hf.1, hf.2, hp.2 (T.setVm vm₁) hT hW₁⟩)
  dsimp only [Pt.U, Pt.locs, Pt.cells, Pt.slots] at X' e1 e2 h1 h2 h3 st
  subst h1; subst h2; subst h3
  exact ⟨v, (T.setVm vm₁).calling g' mk As.toArray, t, U', L, hT, X', hL, e1, e2, hq, st⟩
/-- not caught here, past rows that name other classes: it goes on to the caller -/
theorem vx_outP {p : Program} {l : Launch} {e : Env} {R : Room} {s : State} {m : MethodId} {args : Array Value} {below : List Frame} {meth : Method} {c : Code} {H : Heap} {locs : List Loc} {cells slots : Nat} {free : Addr → Prop} {ls : Array Slot} {rest : List Value} {Qc : Array Value → State → Outcome → State → Prop} {XC : String → State → State → Prop}
    {pc : Nat} {own E : String} {ce : Cell} {q : Addr} {mc ms : Nat} (hown : s.vm.findClass own = some m.cls) (hlocks : meth.locks = false)
    (hpass : ∀ z ∈ c.exceptionTable.toList, covers z pc = false ∨ (z.catchType ≠ 0 ∧ ∃ nm : String, (Cond.classLink own z.catchType nm).before args s = true ∧ va_Nc E nm s)) (hcell : H[q]? = some ce) (hv : ce.vm = .none) (hcl : s.vm.findClass E = some ce.cls)
    (hx : ∀ t : State, t.heap = H → s.vm.Alike t.vm → XC E s t) (hf : ∀ z ∈ locs, free z.base) (hc : cells ≤ mc) (hs : slots ≤ ms) :
    vx_W p l e R s m args below meth c H locs cells slots (vx_MQ below Qc XC args s mc ms free) (F0 m pc ls rest) q := by
  intro T hT X
  have hpl : e.platform.magicAccessors = ({} : Platform).magicAccessors := by rw [X.admits.platform]
  obtain ⟨vm', hW', X', st⟩ := X.outThrough hlocks q (g := F0 m pc ls rest) rfl rfl rfl (cell := ce) (by rw [hT]; exact hcell) (by rw [hv]; rfl)
    (by obtain ⟨k9, h9, -⟩ := Vm.findClass_spec hcl; exact ⟨k9, h9⟩) (fun z hz => by
      rcases hpass z hz with h | ⟨hz0, nm, hl1, hn1⟩
      · exact Or.inl h
      · obtain ⟨c6, hc6, hcl6⟩ := Cond.classLink_spec hown hl1 e.platform hpl
        obtain ⟨a8, b8, h1, h2, h3⟩ := hn1
        cases Option.some.inj (h1.symm.trans hcl)
        cases Option.some.inj (h2.symm.trans hc6)
        exact Or.inr ⟨hz0, _, hcl6, h3⟩)
  obtain ⟨g₀, hfr⟩ := X'.frames_eq
  have hcell9 : ((T.setVm vm').setFrames (.throwing q :: below)).heap[q]? = some ce := by
    show T.heap[q]? = some ce
    rw [hT]; exact hcell
  have hend : Ended ((T.setVm vm').setFrames (.throwing q :: below)) below (.threw q) := State.frames_setFrames _ (State.cur_lt_of_frames hfr)
  refine ⟨(T.setVm vm').setFrames (.throwing q :: below), ?_, .threw q, X'.here.running, hend, Or.inr ⟨q, rfl, E, ce, locs, hx _ hT (X'.ends _).1.alike, hcell9, hv, hcl, (X'.ends _).1, (X'.ends _).2.mono hc hs, hf⟩⟩
  rw [X.pushThrowing_eq]
  exact st
/-- a thing of a world lies in the heap -/
theorem vx_lt {D : va_G} {cl : List vw_C} {ws : va_W} {H1 : Heap} (h : va_P D cl ws H1) {k : Nat} {q : Nat × va_E} (hk : ws[k]? = some q) : q.1 < H1.size := (h k q hk).lt
end VXS
/-! ===== END ===== -/
/-! ===== BEGIN methods with a table of their own: called by a name, returning or throwing ===== -/
section VXH
/-! vx_backW, vx_callVX, vx_callSX, vx_callVW, vx_runVW, vx_runVX, vx_runSX, vx_ofWH follow the same proofs as their sisters above (Free/Laws.lean, Shelf42/LK1.lean); vx_outP calls Shelf42/NT130.lean (outThrough). -/
section
variable {l : Launch} {R : Room} {p : Program} {e : Env} {below : List Frame} {s : State} {sargs : Array Value} {y : MethodName} {len W9 : Nat}
theorem vx_backW {ws : List Cond} {rm : Room} {Pc : Array Value → State → Prop} {Qc : Array Value → State → Outcome → State → Prop} {XC : String → State → State → Prop} {mc ms : Nat} {free : Addr → Prop} {bytes : ByteArray} {maxL : Nat} {ret : Option FieldType} {hh : List (Nat × Nat × Nat × Nat)}
    (hM : vx_Met l y ws rm Pc Qc XC mc ms free) (hblind : FrameBlind Pc) (hrc : rm.cells = mc) (hrs : rm.slots = ms)
    (hframes : rm.frames + 1 ≤ R.frames) (hlocals : W9 + (maxL + 11) + rm.locals ≤ R.locals)
    (hws : ∀ w ∈ ws, ∀ a' U, s.WarmedH U.vm → w.before a' U = true) (hcode : Cond.codeWith y bytes maxL ret hh ∈ ws) (hinit : ∀ a' U, s.WarmedH U.vm → (Cond.initialized y.cls).before a' U = true) :
    vx_Back l R p e below s sargs y len W9 (PreOf R mc ms Pc) (PostOf Qc mc ms free) (vx_Post XC mc ms free) := by
  intro m meth c A g ig mk a X hg hsize hdg hW hn hp
  have h1 : (headSpec ws rm).pre.before a A.U = true := atoms_intro fun w hw => hws w hw _ _ X.warmed
  have h2 : (Cond.codeWith y bytes maxL ret hh).before a A.U = true := hws _ hcode _ _ X.warmed
  have h3 : (Cond.initialized y.cls).before a A.U = true := hinit _ _ X.warmed
  have h4 : A.cells + (headSpec ws rm).room.cells ≤ R.cells := by rw [show (headSpec ws rm).room.cells = mc from hrc]; exact hp.1
  have h5 : A.slots + (headSpec ws rm).room.slots ≤ R.slots := by rw [show (headSpec ws rm).room.slots = ms from hrs]; exact hp.2.1
  have hPc : Pc a (A.U.calling g mk a) := hblind _ _ _ _ hp.2.2
  obtain ⟨U, Ls, c0, s0⟩ := A
  dsimp only [Pt.U, Pt.locs, Pt.cells, Pt.slots] at h1 h2 h3 h4 h5 X hn hPc ⊢
  obtain ⟨m9, methY, cY, hn9, hmY, hcY, -, hlY, -⟩ := Cond.codeWith_spec h2
  cases Option.some.inj (hn9.symm.trans hn)
  obtain ⟨kY, hkY, -⟩ := className_of_methodNamed hn
  have hinitY : kY.init = .initialized := Cond.initialized_spec (findClass_of_methodNamed hn) hkY h3
  have h : At U g.method c below := by rw [hg]; exact X.here
  have hlocals9 : W9 + (maxL + 11) + (headSpec ws rm).room.locals ≤ R.locals := hlocals
  have happ : (headSpec ws rm).appliesLoose y e.platform (U.calling g mk a) = true :=
    Spec.appliesLoose_calling (g := g) h hdg hn hkY hinitY
      (X.room_calling (g := g) (R' := (headSpec ws rm).room) hsize hmY hcY hframes (by rw [hlY]; omega) h4 h5) h1
  obtain ⟨mid, hmid⟩ := h.above
  have hfr : (U.setTop g).frames = (.java g :: mid) ++ below := by rw [State.frames_setTop' g h.top, hmid]; rfl
  obtain ⟨o, s₂, hsteps, -, hend, hq⟩ := Steps.callFree hM p X.admits X.cas X.clock (acts := []) hfr happ hPc trivial
  have hq' : vx_Q Qc XC mc ms free a (U.calling g mk a) o s₂ := hq
  rw [State.frames_setTop' g h.top] at hend
  obtain ⟨g₀, hg0⟩ := Option.isSome_iff_exists.mp h.top
  obtain ⟨r, hr⟩ := State.topJava?_eq_some.mp hg0
  have hr' : (({ U with heap := s₂.heap, slotsUsed := s₂.slotsUsed } : State).setVm s₂.vm).frames = .java g₀ :: r := hr
  rcases hq' with ⟨hqc, L, hfe, hL⟩ | ⟨q, rfl, E, ce, L, hx, hce, hcv, hcl, hW₂, hsm, hL⟩
  · obtain ⟨⟨v, rfl⟩, hW₂, e2, q2, q3, q4, q5, q6⟩ := id hfe
    have e3 : s₂ = ({ (U.calling g mk a).setFrames s₂.frames with heap := s₂.heap, slotsUsed := s₂.slotsUsed } : State).setVm s₂.vm := by
      have : s₂ = ({ s₂ with vm := (U.calling g mk a).vm } : State).setVm s₂.vm := rfl
      rw [e2] at this
      exact this
    obtain ⟨c₂, i₂, len₂, hc₂, hd₂, hf₂⟩ := hend
    have hW' : U.WarmedH s₂.vm := hW₂
    have hcc : c₂ = c := by
      have h1 : s₂.code? g.method = U.code? g.method := by
        rw [State.code?_eq, State.code?_eq, hW'.alike.method?]
      exact Option.some.inj (hc₂.symm.trans (h1.trans h.code))
    subst hcc
    have hlen : len₂ = len := by rw [hdg] at hd₂; cases hd₂; rfl
    subst hlen
    have hs₂ : s₂ = (({ U with heap := s₂.heap, slotsUsed := s₂.slotsUsed } : State).setVm s₂.vm).setTop { g with pc := g.pc + len₂, stack := v.toList ++ g.stack } := by
      refine e3.trans ?_
      rw [hf₂, State.calling_eq h.top, State.setFrames_setFrames, State.setTop_of_frames _ hr', hr]
      rfl
    have hsame : U.sameButNew ({ U with heap := s₂.heap, slotsUsed := s₂.slotsUsed } : State) L mc ms := by
      refine ⟨?_, q2, q3, q4, q5, q6⟩
      obtain ⟨t, ht, -⟩ := State.frames_cons hr
      show ({ U with heap := s₂.heap, slotsUsed := s₂.slotsUsed } : State) = { U.setFrames U.frames with heap := s₂.heap, slotsUsed := s₂.slotsUsed }
      rw [State.setFrames_self ht]
    subst hg
    refine Or.inl ⟨v, ⟨(({ U with heap := s₂.heap, slotsUsed := s₂.slotsUsed } : State).setVm s₂.vm), Ls ++ L, c0 + mc, s0 + ms⟩,
      ⟨X.admits, X.cas, X.clock, X.frames, X.room, X.hears, X.method, X.code, (X.here.setHeapUsed s₂.heap s₂.slotsUsed).setVm hW'.alike, X.tail, State.WarmedH.trans X.warmed hW', X.limits, X.bytes, X.same.trans (hsame.setVm s.vm)⟩,
      ⟨g, mk, s₂, L, rfl, rfl, hqc, rfl, hL, rfl, rfl⟩, ?_⟩
    show Steps p.tables e below _ ((({ U with heap := s₂.heap, slotsUsed := s₂.slotsUsed } : State).setVm s₂.vm).setTop { g with pc := g.pc + len₂, stack := v.toList ++ g.stack })
    rw [← hs₂]
    exact hsteps
  · obtain ⟨e2, q2, q3, q4, q5, q6⟩ := id hsm
    have e3 : s₂ = ({ (U.calling g mk a).setFrames s₂.frames with heap := s₂.heap, slotsUsed := s₂.slotsUsed } : State).setVm s₂.vm := by
      have : s₂ = ({ s₂ with vm := (U.calling g mk a).vm } : State).setVm s₂.vm := rfl
      rw [e2] at this
      exact this
    have hf₂ : s₂.frames = .throwing q :: .java g :: U.frames.tail := hend
    have hW' : U.WarmedH s₂.vm := hW₂
    have hs₂ : s₂ = ((({ U with heap := s₂.heap, slotsUsed := s₂.slotsUsed } : State).setVm s₂.vm).setTop g).pushFrame (.throwing q) := by
      refine e3.trans ?_
      rw [hf₂, State.calling_eq h.top, State.setFrames_setFrames, State.pushFrame, State.frames_setTop _ hr', State.setTop_of_frames _ hr', State.setFrames_setFrames, hr]
      rfl
    have hsame : U.sameButNew ({ U with heap := s₂.heap, slotsUsed := s₂.slotsUsed } : State) L mc ms := by
      refine ⟨?_, q2, q3, q4, q5, q6⟩
      obtain ⟨t, ht, -⟩ := State.frames_cons hr
      show ({ U with heap := s₂.heap, slotsUsed := s₂.slotsUsed } : State) = { U.setFrames U.frames with heap := s₂.heap, slotsUsed := s₂.slotsUsed }
      rw [State.setFrames_self ht]
    subst hg
    refine Or.inr ⟨q, ⟨(({ U with heap := s₂.heap, slotsUsed := s₂.slotsUsed } : State).setVm s₂.vm), Ls ++ L, c0 + mc, s0 + ms⟩,
      ⟨X.admits, X.cas, X.clock, X.frames, X.room, X.hears, X.method, X.code, (X.here.setHeapUsed s₂.heap s₂.slotsUsed).setVm hW'.alike, X.tail, State.WarmedH.trans X.warmed hW', X.limits, X.bytes, X.same.trans (hsame.setVm s.vm)⟩,
      ⟨g, mk, s₂, L, E, ce, rfl, rfl, hx, hce, hcv, hcl, rfl, hL, rfl, rfl⟩, ?_⟩
    show Steps p.tables e below _ (((({ U with heap := s₂.heap, slotsUsed := s₂.slotsUsed } : State).setVm s₂.vm).setTop g).pushFrame (.throwing q))
    rw [← hs₂]
    exact hsteps
end
variable {p : Program} {l : Launch} {e : Env} {R : Room} {s : State} {m : MethodId} {args : Array Value} {below : List Frame} {meth : Method} {c : Code} {T : State} {H : Heap} {locs : List Loc} {cells slots : Nat}
theorem vx_callVX (X : Stand p l e R s m args below meth c T locs cells slots) (hexec : p.tables.exec = Jvm.exec) {own C : String} {index : Nat} {y : MethodName} {bytes : ByteArray} {maxL : Nat} {ret : Option FieldType} {hh : List (Nat × Nat × Nat × Nat)}
    (hown : s.vm.findClass own = some m.cls) (hlink : (Cond.methodLink own index y).before args s = true) (hinst : (Cond.instanceMethod y).before args s = true) (hsel : (Cond.selects C y y).before args s = true)
    (hcode : (Cond.codeWith y bytes maxL ret hh).before args s = true) (hy : y.cls ≠ "java/lang/invoke/MethodHandle" ∧ y.cls ≠ "java/lang/invoke/VarHandle")
    {W9 : Nat} {Pre : Pt → Array Value → Prop} {Post : Pt → Array Value → Option Value → Pt → Prop} {PostX : Pt → Array Value → Addr → Pt → Prop} (hK : vx_Back l R p e below s args y 3 W9 Pre Post PostX)
    {b : Addr} {cellB : Cell} (hcell : T.heap[b]? = some cellB) (hobj : cellB.vm.isStatics = false) (hcls : s.vm.findClass C = some cellB.cls)
    {g : JFrame} (hg : g.method = m) (hsize : g.locals.size = c.maxLocals) {argsL rest : List Value} (hlen : ∀ sig, parseMethodDescriptor y.desc = some sig → argsL.length = sig.parameters.length)
    (hstack : g.stack = argsL.reverse ++ .ref b :: rest) (hW : 2 * g.monitorRoom + (rest.map fun v => v.category).sum ≤ W9) (hdg : decode c.code g.pc = .ok (.invokevirtual index, 3))
    (hpre : ∀ vm₁, s.WarmedH vm₁ → Pre ⟨T.setVm vm₁, locs, cells, slots⟩ (Value.ref b :: argsL).toArray) :
    (∃ (v : Option Value) (vm₁ : Vm) (B : Pt), s.WarmedH vm₁ ∧ Stand p l e R s m args below meth c B.U B.locs B.cells B.slots ∧ Post ⟨T.setVm vm₁, locs, cells, slots⟩ (Value.ref b :: argsL).toArray v B ∧
      ∀ target, Steps p.tables e below (B.U.setTop { g with pc := g.pc + 3, stack := v.toList ++ rest }) target → Steps p.tables e below (T.setTop g) target) ∨
    (∃ (q : Addr) (vm₁ : Vm) (B : Pt), s.WarmedH vm₁ ∧ Stand p l e R s m args below meth c B.U B.locs B.cells B.slots ∧ PostX ⟨T.setVm vm₁, locs, cells, slots⟩ (Value.ref b :: argsL).toArray q B ∧
      Steps p.tables e below (T.setTop g) ((B.U.setTop { g with stack := rest }).pushFrame (.throwing q))) := by
  obtain ⟨mk, methM, hnamed, hmethM, hstM, habM⟩ := Cond.instanceMethod_spec hinst
  obtain ⟨m8, methM', cM, hn8, hmethM', -, -, -, -, -, -, hsigM⟩ := Cond.codeWith_spec hcode
  cases Option.some.inj (hn8.symm.trans hnamed)
  cases hmethM.symm.trans hmethM'
  obtain ⟨c2, r2, m2, q1, q2, q3, q4, kP, hkP, hkPi⟩ := Cond.selects_spec hsel
  cases hcls.symm.trans q1
  cases (State.methodFound?_of_named hnamed hy).symm.trans q2
  cases hnamed.symm.trans q3
  have hselP : selectMethod e.platform s.vm cellB.cls mk = .method mk := by rw [Launch.admits_selectMethod X.admits]; exact q4
  obtain ⟨vm₁, X₁, hstep₁⟩ := X.invokevirtual hexec hown hlink hnamed hmethM hstM hkP hkPi hy (a := b) (cell := cellB) hcell
    (fun z h => by rw [h] at hobj; cases hobj) hselP hmethM habM hkP hkPi (g := g) hg (argsL := argsL) (rest := rest) (hlen _ hsigM) hstack hdg
  rcases hK m meth c ⟨T.setVm vm₁, locs, cells, slots⟩ { g with stack := rest } (.invokevirtual index) mk (Value.ref b :: argsL).toArray X₁ hg hsize hdg hW (X₁.named hnamed) (hpre vm₁ X₁.warmed) with ⟨v, B, X', hpost, hsteps⟩ | ⟨q, B, X', hpost, hsteps⟩
  · exact Or.inl ⟨v, vm₁, B, X₁.warmed, X', hpost, fun target h => hstep₁ _ fun acts => by rw [doInvoke_state]; exact hsteps.trans h⟩
  · exact Or.inr ⟨q, vm₁, B, X₁.warmed, X', hpost, hstep₁ _ fun acts => by rw [doInvoke_state]; exact hsteps⟩
theorem vx_callSX (X : Stand p l e R s m args below meth c T locs cells slots) (hexec : p.tables.exec = Jvm.exec) {own : String} {index : Nat} {y : MethodName} {bytes : ByteArray} {maxL : Nat} {ret : Option FieldType} {hh : List (Nat × Nat × Nat × Nat)}
    (hown : s.vm.findClass own = some m.cls) (hlink : (Cond.methodLink own index y).before args s = true) (hstat : (Cond.static y).before args s = true) (hinit : (Cond.initialized y.cls).before args s = true)
    (hcode : (Cond.codeWith y bytes maxL ret hh).before args s = true) (hy : y.cls ≠ "java/lang/invoke/MethodHandle" ∧ y.cls ≠ "java/lang/invoke/VarHandle")
    {W9 : Nat} {Pre : Pt → Array Value → Prop} {Post : Pt → Array Value → Option Value → Pt → Prop} {PostX : Pt → Array Value → Addr → Pt → Prop} (hK : vx_Back l R p e below s args y 3 W9 Pre Post PostX)
    {g : JFrame} (hg : g.method = m) (hsize : g.locals.size = c.maxLocals) {argsL rest : List Value} (hlen : ∀ sig, parseMethodDescriptor y.desc = some sig → argsL.length = sig.parameters.length)
    (hstack : g.stack = argsL.reverse ++ rest) (hW : 2 * g.monitorRoom + (rest.map fun v => v.category).sum ≤ W9) (hdg : decode c.code g.pc = .ok (.invokestatic index, 3))
    (hpre : ∀ vm₁, s.WarmedH vm₁ → Pre ⟨T.setVm vm₁, locs, cells, slots⟩ argsL.toArray) :
    (∃ (v : Option Value) (vm₁ : Vm) (B : Pt), s.WarmedH vm₁ ∧ Stand p l e R s m args below meth c B.U B.locs B.cells B.slots ∧ Post ⟨T.setVm vm₁, locs, cells, slots⟩ argsL.toArray v B ∧
      ∀ target, Steps p.tables e below (B.U.setTop { g with pc := g.pc + 3, stack := v.toList ++ rest }) target → Steps p.tables e below (T.setTop g) target) ∨
    (∃ (q : Addr) (vm₁ : Vm) (B : Pt), s.WarmedH vm₁ ∧ Stand p l e R s m args below meth c B.U B.locs B.cells B.slots ∧ PostX ⟨T.setVm vm₁, locs, cells, slots⟩ argsL.toArray q B ∧
      Steps p.tables e below (T.setTop g) ((B.U.setTop { g with stack := rest }).pushFrame (.throwing q))) := by
  obtain ⟨mk, methM, cM, hnamed, hmethM, -, -, -, -, -, -, hsigM⟩ := Cond.codeWith_spec hcode
  have hstatic : methM.isStatic = true := Cond.static_spec hnamed hmethM hstat
  obtain ⟨kP, hkP, -⟩ := className_of_methodNamed hnamed
  have hinitP : kP.init = .initialized := Cond.initialized_spec (findClass_of_methodNamed hnamed) hkP hinit
  obtain ⟨vm₁, X₁, hstep₁⟩ := X.invokestatic hexec hown hlink hnamed hmethM hstatic hkP hinitP hy (g := g) hg (argsL := argsL) (rest := rest) (hlen _ hsigM) hstack hdg
  rcases hK m meth c ⟨T.setVm vm₁, locs, cells, slots⟩ { g with stack := rest } (.invokestatic index) mk argsL.toArray X₁ hg hsize hdg hW (X₁.named hnamed) (hpre vm₁ X₁.warmed) with ⟨v, B, X', hpost, hsteps⟩ | ⟨q, B, X', hpost, hsteps⟩
  · exact Or.inl ⟨v, vm₁, B, X₁.warmed, X', hpost, fun target h => hstep₁ _ fun acts => by rw [doInvoke_state]; exact hsteps.trans h⟩
  · exact Or.inr ⟨q, vm₁, B, X₁.warmed, X', hpost, hstep₁ _ fun acts => by rw [doInvoke_state]; exact hsteps⟩
theorem vx_callVW (X : Stand p l e R s m args below meth c T locs cells slots) (hexec : p.tables.exec = Jvm.exec) {own C : String} {index : Nat} {y : MethodName} {bytes : ByteArray} {maxL : Nat} {ret : Option FieldType} {hh : List (Nat × Nat × Nat × Nat)}
    (hown : s.vm.findClass own = some m.cls) (hlink : (Cond.methodLink own index y).before args s = true) (hinst : (Cond.instanceMethod y).before args s = true) (hsel : (Cond.selects C y y).before args s = true)
    (hcode : (Cond.codeWith y bytes maxL ret hh).before args s = true) (hy : y.cls ≠ "java/lang/invoke/MethodHandle" ∧ y.cls ≠ "java/lang/invoke/VarHandle")
    {W9 : Nat} {Pre : Pt → Array Value → Prop} {Post : Pt → Array Value → Option Value → Pt → Prop} (hK : Back l R p e below s args y 3 W9 Pre Post)
    {b : Addr} {cellB : Cell} (hcell : T.heap[b]? = some cellB) (hobj : cellB.vm.isStatics = false) (hcls : s.vm.findClass C = some cellB.cls)
    {g : JFrame} (hg : g.method = m) (hsize : g.locals.size = c.maxLocals) {argsL rest : List Value} (hlen : ∀ sig, parseMethodDescriptor y.desc = some sig → argsL.length = sig.parameters.length)
    (hstack : g.stack = argsL.reverse ++ .ref b :: rest) (hW : 2 * g.monitorRoom + (rest.map fun v => v.category).sum ≤ W9) (hdg : decode c.code g.pc = .ok (.invokevirtual index, 3))
    (hpre : ∀ vm₁, s.WarmedH vm₁ → Pre ⟨T.setVm vm₁, locs, cells, slots⟩ (Value.ref b :: argsL).toArray) :
    ∃ (v : Option Value) (vm₁ : Vm) (B : Pt), s.WarmedH vm₁ ∧ Stand p l e R s m args below meth c B.U B.locs B.cells B.slots ∧ Post ⟨T.setVm vm₁, locs, cells, slots⟩ (Value.ref b :: argsL).toArray v B ∧
      ∀ target, Steps p.tables e below (B.U.setTop { g with pc := g.pc + 3, stack := v.toList ++ rest }) target → Steps p.tables e below (T.setTop g) target := by
  obtain ⟨mk, methM, hnamed, hmethM, hstM, habM⟩ := Cond.instanceMethod_spec hinst
  obtain ⟨m8, methM', cM, hn8, hmethM', -, -, -, -, -, -, hsigM⟩ := Cond.codeWith_spec hcode
  cases Option.some.inj (hn8.symm.trans hnamed)
  cases hmethM.symm.trans hmethM'
  obtain ⟨c2, r2, m2, q1, q2, q3, q4, kP, hkP, hkPi⟩ := Cond.selects_spec hsel
  cases hcls.symm.trans q1
  cases (State.methodFound?_of_named hnamed hy).symm.trans q2
  cases hnamed.symm.trans q3
  have hselP : selectMethod e.platform s.vm cellB.cls mk = .method mk := by rw [Launch.admits_selectMethod X.admits]; exact q4
  obtain ⟨vm₁, X₁, hstep₁⟩ := X.invokevirtual hexec hown hlink hnamed hmethM hstM hkP hkPi hy (a := b) (cell := cellB) hcell
    (fun z h => by rw [h] at hobj; cases hobj) hselP hmethM habM hkP hkPi (g := g) hg (argsL := argsL) (rest := rest) (hlen _ hsigM) hstack hdg
  obtain ⟨v, B, X', hpost, hsteps⟩ := hK m meth c ⟨T.setVm vm₁, locs, cells, slots⟩ { g with stack := rest } (.invokevirtual index) mk (Value.ref b :: argsL).toArray X₁ hg hsize hdg hW (X₁.named hnamed) (hpre vm₁ X₁.warmed)
  exact ⟨v, vm₁, B, X₁.warmed, X', hpost, fun target h => hstep₁ _ fun acts => by rw [doInvoke_state]; exact hsteps.trans h⟩
abbrev vx_CVW (R : Room) (s : State) (args : Array Value) (own C : String) (index : Nat) (y : MethodName) (bytes : ByteArray) (maxL : Nat) (ret : Option FieldType) (hh : List (Nat × Nat × Nat × Nat)) (ws : List Cond) (rm : Room) (mc ms n : Nat) : Prop :=
  (rm.cells = mc ∧ rm.slots = ms ∧ rm.frames + 1 ≤ R.frames ∧ 8 + (maxL + 11) + rm.locals ≤ R.locals ∧ (∀ w ∈ ws, ∀ (a' : Array Value) (U : State), s.WarmedH U.vm → w.before a' U = true) ∧ Cond.codeWith y bytes maxL ret hh ∈ ws) ∧
  (Cond.codeWith y bytes maxL ret hh).before args s = true ∧ (Cond.initialized y.cls).before args s = true ∧ (y.cls ≠ "java/lang/invoke/MethodHandle" ∧ y.cls ≠ "java/lang/invoke/VarHandle") ∧
  (∀ sig, parseMethodDescriptor y.desc = some sig → n = sig.parameters.length) ∧ (Cond.methodLink own index y).before args s = true ∧ (Cond.instanceMethod y).before args s = true ∧ (Cond.selects C y y).before args s = true
theorem vx_cwVW {own C : String} {index maxL mc ms : Nat} {y : MethodName} {bytes : ByteArray} {ret : Option FieldType} {hh : List (Nat × Nat × Nat × Nat)} {Ts ws ws' : List Cond} {rm : Room} (n : Nat) (ht : ∀ w ∈ Ts, w.before args s = true) (hT : GoodIn Ts (wsV own index C y ws)) (hw : ws = Cond.codeWith y bytes maxL ret hh :: ws') (hrc : rm.cells = mc) (hrs : rm.slots = ms)
    (hd : y.cls = C ∧ y.cls ≠ "java/lang/invoke/MethodHandle" ∧ y.cls ≠ "java/lang/invoke/VarHandle" ∧ (parseMethodDescriptor y.desc).map (fun d => d.parameters.length) = some n) (hR : rm.frames + 1 ≤ R.frames ∧ 8 + (maxL + 11) + rm.locals ≤ R.locals) :
    vx_CVW R s args own C index y bytes maxL ret hh ws rm mc ms n := by
  obtain ⟨hC, hd⟩ := hd
  subst hC
  have ok : ∀ w ∈ wsV own index y.cls y ws, w.before args s = true := fun w h => ht w (hT w h).1
  have hG : GoodIn Ts ws := fun w h => hT w (by unfold wsV; exact List.mem_append_right _ h)
  have hc : Cond.codeWith y bytes maxL ret hh ∈ ws := by rw [hw]; exact List.mem_cons_self
  refine ⟨⟨hrc, hrs, hR.1, hR.2, pay_in ht hG, hc⟩, ht _ (hG _ hc).1, ok _ (by simp [wsV]), ⟨hd.1, hd.2.1⟩, fun sig h => ?_, ok _ (by simp [wsV]), ok _ (by simp [wsV]), ok _ (by simp [wsV])⟩
  have h2 := hd.2.2
  rw [h] at h2
  exact (Option.some.inj h2).symm
theorem vx_runVW {y : MethodName} {bytes cc : ByteArray} {maxL nL mc ms n index : Nat} {ret : Option FieldType} {hh : List (Nat × Nat × Nat × Nat)} {ws : List Cond} {rm : Room} {Pc : Array Value → State → Prop} {Qc : Array Value → State → Outcome → State → Prop} {free : Addr → Prop} {Ts : List Cond} {own C : String} {b : Addr} {As rest : List Value} {g : JFrame}
    (S : CallFix p m c cc nL s args Ts own) (hM : Met l y ws rm Pc Qc mc ms free) (cw : vx_CVW R s args own C index y bytes maxL ret hh ws rm mc ms n) (hp : PreV s H C b Pc As)
    (hg : g.method = m) (hn : As.length = n) (hsize : g.locals.size = nL) (hstack : g.stack = As.reverse ++ .ref b :: rest) (hW : 2 * g.monitorRoom + (rest.map fun v => v.category).sum ≤ 8) (hdg : decode cc g.pc = .ok (.invokevirtual index, 3)) (hf : cells + mc ≤ R.cells ∧ slots + ms ≤ R.slots) :
    va_Run p l e R s m args below meth c H locs cells slots mc ms g rest (Qc (Value.ref b :: As).toArray) free := by
  obtain ⟨⟨hrc, hrs, hfr, hlo, hws, hcw⟩, hcode, hini, hy, hlen, hl, hin, hse⟩ := cw
  have hK : Back l R p e below s args y 3 8 (PreOf R mc ms Pc) (PostOf Qc mc ms free) := va_backW (hh := hh) (bytes := bytes) (maxL := maxL) (ret := ret) hM hp.1 hrc hrs hfr hlo hws hcw (fun a' U hW => word_at hW (Or.inl (by first | rfl | simp [Cond.onTables, Cond.keeps, Cond.steady])) hini)
  obtain ⟨hx, hb, hml, ho, -⟩ := S
  obtain ⟨-, ⟨cellB, hcB, hoB, hclB⟩, hPc⟩ := hp
  intro T hT X
  obtain ⟨v, vm₁, ⟨U', l2, c2, s2⟩, hW₁, X', ⟨g', mk, t, L, e1, e2, hq, h1, hL, h2, h3⟩, st⟩ := vx_callVW X hx (C := C) (hh := hh) (bytes := bytes) (maxL := maxL) (ret := ret) ho hl hin hse hcode hy hK (by rw [hT]; exact hcB) hoB hclB hg (hsize.trans hml.symm) (argsL := As) (rest := rest) (fun sig h => hn.trans (hlen sig h)) hstack hW (by rw [hb]; exact hdg)
    (fun vm₁ hW₁ => ⟨hf.1, hf.2, hPc (T.setVm vm₁) hT hW₁⟩)
  dsimp only [Pt.U, Pt.locs, Pt.cells, Pt.slots] at X' e1 e2 h1 h2 h3 st
  subst h1; subst h2; subst h3
  exact ⟨v, (T.setVm vm₁).calling g' mk (Value.ref b :: As).toArray, t, U', L, hT, X', hL, e1, e2, hq, st⟩
section
variable {y : MethodName} {bytes cc : ByteArray} {maxL nL mc ms n index : Nat} {ret : Option FieldType} {ws : List Cond} {rm : Room} {Pc : Array Value → State → Prop} {Qc : Array Value → State → Outcome → State → Prop} {XC : String → State → State → Prop} {free : Addr → Prop} {Ts : List Cond} {own C : String} {b : Addr} {As rest : List Value} {g : JFrame}
theorem vx_runVX {hh : List (Nat × Nat × Nat × Nat)} (S : CallFix p m c cc nL s args Ts own) (hM : vx_Met l y ws rm Pc Qc XC mc ms free) (cw : vx_CVW R s args own C index y bytes maxL ret hh ws rm mc ms n) (hp : PreV s H C b Pc As)
    (hg : g.method = m) (hn : As.length = n) (hsize : g.locals.size = nL) (hstack : g.stack = As.reverse ++ .ref b :: rest) (hW : 2 * g.monitorRoom + (rest.map fun v => v.category).sum ≤ 8) (hdg : decode cc g.pc = .ok (.invokevirtual index, 3)) (hf : cells + mc ≤ R.cells ∧ slots + ms ≤ R.slots) :
    vx_Run p l e R s m args below meth c H locs cells slots mc ms g rest (Qc (Value.ref b :: As).toArray) XC free := by
  obtain ⟨⟨hrc, hrs, hfr, hlo, hws, hcw⟩, hcode, hini, hy, hlen, hl, hin, hse⟩ := cw
  have hK : vx_Back l R p e below s args y 3 8 (PreOf R mc ms Pc) (PostOf Qc mc ms free) (vx_Post XC mc ms free) := vx_backW (hh := hh) (bytes := bytes) (maxL := maxL) (ret := ret) hM hp.1 hrc hrs hfr hlo hws hcw (fun a' U hW => word_at hW (Or.inl (by first | rfl | simp [Cond.onTables, Cond.keeps, Cond.steady])) hini)
  obtain ⟨hx, hb, hml, ho, -⟩ := S
  obtain ⟨-, ⟨cellB, hcB, hoB, hclB⟩, hPc⟩ := hp
  intro T hT X
  rcases vx_callVX X hx (C := C) (hh := hh) (bytes := bytes) (maxL := maxL) (ret := ret) ho hl hin hse hcode hy hK (by rw [hT]; exact hcB) hoB hclB hg (hsize.trans hml.symm) (argsL := As) (rest := rest) (fun sig h => hn.trans (hlen sig h)) hstack hW (by rw [hb]; exact hdg)
    (fun vm₁ hW₁ => ⟨hf.1, hf.2, hPc (T.setVm vm₁) hT hW₁⟩) with ⟨v, vm₁, ⟨U', l2, c2, s2⟩, hW₁, X', ⟨g', mk, t, L, e1, e2, hq, h1, hL, h2, h3⟩, st⟩ | ⟨q, vm₁, ⟨U', l2, c2, s2⟩, hW₁, X', ⟨g', mk, t, L, E, ce, e1, e2, hq, hce, hcv, hcl, h1, hL, h2, h3⟩, st⟩
  · dsimp only [Pt.U, Pt.locs, Pt.cells, Pt.slots] at X' e1 e2 h1 h2 h3 st
    subst h1; subst h2; subst h3
    exact Or.inl ⟨v, (T.setVm vm₁).calling g' mk (Value.ref b :: As).toArray, t, U', L, hT, X', hL, e1, e2, hq, st⟩
  · dsimp only [Pt.U, Pt.locs, Pt.cells, Pt.slots] at X' e1 e2 h1 h2 h3 st hcl
    subst h1; subst h2; subst h3
    exact Or.inr ⟨q, (T.setVm vm₁).calling g' mk (Value.ref b :: As).toArray, t, U', L, E, ce, hT, X', hL, e1, e2, hq, hce, hcv, vx_cls hW₁ hcl, st⟩
theorem vx_runSX {hh : List (Nat × Nat × Nat × Nat)} (S : CallFix p m c cc nL s args Ts own) (hM : vx_Met l y ws rm Pc Qc XC mc ms free) (cw : vx_CSW R s args own index y bytes maxL ret hh ws rm mc ms n) (hp : PreS s H Pc As)
    (hg : g.method = m) (hn : As.length = n) (hsize : g.locals.size = nL) (hstack : g.stack = As.reverse ++ rest) (hW : 2 * g.monitorRoom + (rest.map fun v => v.category).sum ≤ 8) (hdg : decode cc g.pc = .ok (.invokestatic index, 3)) (hf : cells + mc ≤ R.cells ∧ slots + ms ≤ R.slots) :
    vx_Run p l e R s m args below meth c H locs cells slots mc ms g rest (Qc As.toArray) XC free := by
  obtain ⟨⟨hrc, hrs, hfr, hlo, hws, hcw⟩, hcode, hini, hy, hlen, hl, hstt⟩ := cw
  have hK : vx_Back l R p e below s args y 3 8 (PreOf R mc ms Pc) (PostOf Qc mc ms free) (vx_Post XC mc ms free) := vx_backW (hh := hh) (bytes := bytes) (maxL := maxL) (ret := ret) hM hp.1 hrc hrs hfr hlo hws hcw (fun a' U hW => word_at hW (Or.inl (by first | rfl | simp [Cond.onTables, Cond.keeps, Cond.steady])) hini)
  obtain ⟨hx, hb, hml, ho, -⟩ := S
  intro T hT X
  rcases vx_callSX X hx (hh := hh) (bytes := bytes) (maxL := maxL) (ret := ret) ho hl hstt hini hcode hy hK hg (hsize.trans hml.symm) (argsL := As) (rest := rest) (fun sig h => hn.trans (hlen sig h)) hstack hW (by rw [hb]; exact hdg)
    (fun vm₁ hW₁ => ⟨hf.1, hf.2, hp.2 (T.setVm vm₁) hT hW₁⟩) with ⟨v, vm₁, ⟨U', l2, c2, s2⟩, hW₁, X', ⟨g', mk, t, L, e1, e2, hq, h1, hL, h2, h3⟩, st⟩ | ⟨q, vm₁, ⟨U', l2, c2, s2⟩, hW₁, X', ⟨g', mk, t, L, E, ce, e1, e2, hq, hce, hcv, hcl, h1, hL, h2, h3⟩, st⟩
  · dsimp only [Pt.U, Pt.locs, Pt.cells, Pt.slots] at X' e1 e2 h1 h2 h3 st
    subst h1; subst h2; subst h3
    exact Or.inl ⟨v, (T.setVm vm₁).calling g' mk As.toArray, t, U', L, hT, X', hL, e1, e2, hq, st⟩
  · dsimp only [Pt.U, Pt.locs, Pt.cells, Pt.slots] at X' e1 e2 h1 h2 h3 st hcl
    subst h1; subst h2; subst h3
    exact Or.inr ⟨q, (T.setVm vm₁).calling g' mk As.toArray, t, U', L, E, ce, hT, X', hL, e1, e2, hq, hce, hcv, vx_cls hW₁ hcl, st⟩
end
end VXH
theorem vx_ofWH {l : Launch} {y : MethodName} {ws ws' : List Cond} {rm : Room} {Pc : Array Value → State → Prop} {Qc : Array Value → State → Outcome → State → Prop} {XC : String → State → State → Prop} {mc ms : Nat} {free : Addr → Prop} {cc : ByteArray} {maxL : Nat} {ret : Option FieldType} {hh : List (Nat × Nat × Nat × Nat)}
    (hy : plainName y.cls = true) (hw : ws = Cond.codeWith y cc maxL ret hh :: ws')
    (body : ∀ p e s m args below meth c s₁, BodyLoose p l y (headSpec ws rm) cc maxL ret e s m args below meth c s₁ → c.maxLocals = maxL → Pc args s →
      W p l e (headSpec ws rm).room s m args below meth c s.heap [] 0 0 (vx_MQ below Qc XC args s mc ms free) (entryFrame m args maxL)) : vx_Met l y ws rm Pc Qc XC mc ms free := by
  refine MetFree.of_bodyS (code := cc) (maxLocals := maxL) (ret := ret) hy ?_ ?_
  · intro args s m h hn
    obtain ⟨m9, meth, c, hn9, h1, h2, h3, h4, -, h5, h6, -⟩ := Cond.codeWith_spec (atoms_spec (ws := ws) h _ (by rw [hw]; exact List.mem_cons_self))
    cases hn.symm.trans hn9
    exact ⟨meth, c, h1, h2, h3, h4, h5, h6⟩
  · intro p e s m args below meth c s₁ B hml hP _
    have hh0 : s₁.heap = s.heap := by rw [B.state]; rfl
    obtain ⟨t, a1, o, b1, b2, b3⟩ := body p e s m args below meth c s₁ B hml hP s₁ hh0 (Stand.of_body B)
    exact ⟨t, o, a1, b1, b2, b3⟩
/-! ===== END ===== -/
/-! ===== BEGIN what the machine throws by itself, no traces kept ===== -/
section VXM
set_option maxHeartbeats 1000000 in
/-- the machine throws cls with the message text, no traces kept: from its note over the frame g to 'throwing' over the same frame (follows the proofs of Stand.vmThrowsMessage, Shelf/KitTracedVmS.lean, and Stand.throwsMessageColdBareV, StandMessageColdV.lean, without the step out of the frame) -/
theorem vx_vmAt {p : Program} {l : Launch} {e : Env} {R : Room} {s : State} {m₀ : MethodId} {args : Array Value} {below : List Frame} {meth : Method} {c : Code} {W : State} {locs : List Loc} {cells slots : Nat}
    (X : Stand p l e R s m₀ args below meth c W locs cells slots) (hexec : p.tables.exec = Jvm.exec) (htr : e.platform.stackTraces = false) {cls : String} {names : List String} {text : String}
    (hcls : Bundle.fit cls = true) (hnames : ∀ n ∈ names, Bundle.fit n = true) (hsoe : (cls == "java/lang/StackOverflowError") = false) (hoom : (cls == "java/lang/OutOfMemoryError") = false)
    (h : ∀ a ∈ Bundle.messageArmAtoms cls names, a.before args s = true)
    (hlocs : ∀ x ∈ locs, ∀ cell, s.heap[x.base]? = some cell → cell.vm.isStatics = false)
    (htext : (text == notModelled) = false) (hlimit : ¬ (stringBytes (stringToUtf16 text)).size > e.platform.arrayLengthLimit) (hheap : ¬ (stringBytes (stringToUtf16 text)).size * componentBytes .byte > e.platform.maxHeapBytes)
    {g : JFrame} (hg : g.method = m₀) (hsize : g.locals.size = c.maxLocals)
    (hRframes : names.length + 4 < R.frames) (hRlocals : 2 * g.monitorRoom + (g.stack.map fun v => v.category).sum + 10240 ≤ R.locals) (hshort : 13 * names.length + 55 ≤ 10240)
    (hRcells : cells + 3 ≤ R.cells) (hRslots : slots + ((stringBytes (stringToUtf16 text)).size + 4 + 6) ≤ R.slots) (hlocks : meth.locks = false) :
    ∃ (S : State) (q : Addr) (ce : Cell), (∀ target, Steps p.tables e below ((S.setTop g).pushFrame (.throwing q)) target → Steps p.tables e below ((W.setTop g).pushFrame (.throwNew cls (some text) none)) target) ∧
      Stand p l e R s m₀ args below meth c S locs (cells + 3) (slots + ((stringBytes (stringToUtf16 text)).size + 4 + 6)) ∧ S.heap[q]? = some ce ∧ s.vm.findClass cls = some ce.cls ∧ ce.vm = .none := by
  have howns : e.platform.frameOwnsMonitors = true := by rw [X.admits.platform]
  have hfin : e.platform.finalization = false := by rw [X.admits.platform]
  have hpl : e.platform.magicAccessors = ({} : Platform).magicAccessors := by rw [X.admits.platform]
  have a : ∀ x, x ∈ Bundle.messageArmAtoms cls names → x.holds args s none s [] = true := fun x hx => h x hx
  obtain ⟨T, Z0, L, -, Y⟩ := ThrowableC.of_atoms (args := args) howns hfin hpl (fun x hx => h x (by simp [Bundle.messageArmAtoms, hx]))
  obtain ⟨Z, M, LZ, LM, hnZ⟩ := Init0T.ofS_atoms (args := args) hpl L Y (fun x hx => h x (by simp [Bundle.messageArmAtoms, hx]))
  obtain ⟨P1, Ps, hlen, L1, hL, hP1m, hlink1, hlink⟩ := Bundle.chainS (args := args) hpl hnZ names cls hcls hnames (fun x hx => h x (by simp [Bundle.messageArmAtoms, hx]))
  obtain ⟨Zs, LZs, hn4, hfitv, hfitc⟩ := StringT.of_atoms (args := args) (fun x hx => h x (by simp [Bundle.messageArmAtoms, hx]))
  have hfound : s.vm.findClass cls = some P1.m.cls := findClass_of_methodNamed hP1m
  obtain ⟨c1, kX, hc1, hk, hord, -, -, hn6⟩ := Cond.instantiable_spec (a (.instantiable cls 6) (by simp [Bundle.messageArmAtoms]))
  cases Option.some.inj (hc1.symm.trans hfound)
  have hinit := Cond.initialized_spec hfound hk (a (.initialized cls) (by simp [Bundle.messageArmAtoms]))
  have hctor : kX.findMethod "<init>" "(Ljava/lang/String;)V" = some P1.m.idx := findMethod_of_methodNamed hP1m hk
  have hsel0 : selectMethod e.platform s.vm P1.m.cls T.fill0 = .method T.fill0 := by
    obtain ⟨c2, r2, m2, q1, q2, q3, q4, -⟩ := Cond.selects_spec (a (.selects cls Bundle.tFill0 Bundle.tFill0) (by simp [Bundle.messageArmAtoms]))
    cases Option.some.inj (q1.symm.trans hfound)
    cases Option.some.inj (q2.symm.trans (State.methodFound?_of_named Y.fill0 (by decide)))
    cases Option.some.inj (q3.symm.trans Y.fill0)
    rw [Launch.admits_selectMethod X.admits]; exact q4
  have hselF : selectMethod e.platform s.vm P1.m.cls T.fill = .method T.fill := by
    obtain ⟨c2, r2, m2, q1, q2, q3, q4, -⟩ := Cond.selects_spec (a (.selects cls Bundle.tFill Bundle.tFill) (by simp [Bundle.messageArmAtoms]))
    cases Option.some.inj (q1.symm.trans hfound)
    cases Option.some.inj (q2.symm.trans (State.methodFound?_of_named Y.fill (by decide)))
    cases Option.some.inj (q3.symm.trans Y.fill)
    rw [Launch.admits_selectMethod X.admits]; exact q4
  obtain ⟨cellS0, hcS0, hiss⟩ := Y.statics
  obtain ⟨u0, hu0⟩ := Cond.staticRefV Y.unassigned L.unassignedStatic L.statics hcS0 hiss (a (.isRef (.static Bundle.tN "UNASSIGNED_STACK" Bundle.steD)) (by simp [Bundle.messageArmAtoms]))
  obtain ⟨sen, hsen⟩ := Cond.staticRefV Y.sentinel L.sentinelStatic L.statics hcS0 hiss (a (.isRef (.static Bundle.tN "SUPPRESSED_SENTINEL" Bundle.listD)) (by simp [Bundle.messageArmAtoms]))
  obtain ⟨ci198, i198, fB, hk198, hg198, ha198, hsB, -, hnB, htB, hffB⟩ := Cond.ownField (t := .object "java/lang/Object") Y.found L.cls (by decide +kernel) (a (.fieldLink Bundle.tN 198 Bundle.tN "backtrace" "Ljava/lang/Object;") (by simp [Bundle.messageArmAtoms])) (a (.lays Bundle.tN Bundle.tN "backtrace" "Ljava/lang/Object;") (by simp [Bundle.messageArmAtoms])) e.platform hpl
  obtain ⟨cellS, hcS', heS, -, hkeep⟩ := X.same.2.2.2.2.2 T.aS cellS0 hcS0
  have hcellS : W.heap[T.aS]? = some cellS := hcS'
  have hout' : ∀ i, (⟨T.aS, i⟩ : Loc) ∉ locs := fun i hmem => by
    have := hlocs _ hmem cellS0 hcS0
    rw [hiss] at this; cases this
  have hknownS : cellS.vm ≠ .unknown := by
    rw [heS]; intro hu
    rw [show cellS0.vm = .unknown from hu] at hiss
    cases hiss
  have hvU : cellS.slots[T.fUnassigned.slot]? = some u0.v := by rw [hkeep _ (hout' _)]; exact hu0
  have hvSen : cellS.slots[T.fSentinel.slot]? = some sen.v := by rw [hkeep _ (hout' _)]; exact hsen
  obtain ⟨iM, hffM⟩ := Y.msg
  obtain ⟨tyC, dC, hdC, hdnC⟩ := Cond.laysAt hfound hk Y.cause (a (.lays cls Bundle.tN "cause" "Ljava/lang/Throwable;") (by simp [Bundle.messageArmAtoms]))
  obtain ⟨tyS, dS, hdS, hdnS⟩ := Cond.laysAt hfound hk Y.stack (a (.lays cls Bundle.tN "stackTrace" Bundle.steD) (by simp [Bundle.messageArmAtoms]))
  obtain ⟨tyP, dP, hdP, hdnP⟩ := Cond.laysAt hfound hk Y.supp (a (.lays cls Bundle.tN "suppressedExceptions" Bundle.listD) (by simp [Bundle.messageArmAtoms]))
  obtain ⟨tyM, dM, hdM, hdnM⟩ := Cond.laysAt hfound hk hffM (a (.lays cls Bundle.tN "detailMessage" "Ljava/lang/String;") (by simp [Bundle.messageArmAtoms]))
  obtain ⟨tyB, dB, hdB, hdnB⟩ := Cond.laysAt hfound hk hffB (a (.lays cls Bundle.tN "backtrace" "Ljava/lang/Object;") (by simp [Bundle.messageArmAtoms]))
  have bC := Cond.laysApart hdB hdC hdnB hdnC (by rw [hnB, Y.causeName]; decide)
  have bS := Cond.laysApart hdB hdS hdnB hdnS (by rw [hnB, Y.stackName]; decide)
  have bP := Cond.laysApart hdB hdP hdnB hdnP (by rw [hnB, Y.suppName]; decide)
  have hbk : ((preparedCellV T.toThrowableT (freshCell P1.m.cls kX) (W.heap.size + 2) u0 sen).withEntry W.cur).slots[fB.slot]? = some .null := by
    have := fresh_default (c := P1.m.cls) tyB
    rw [htB] at this
    simpa [preparedCellV, Cell.setSlot, Cell.withEntry, Array.getElem?_setIfInBounds, bC, bS, bP, bC.symm, bS.symm, bP.symm, defaultValue] using this
  have tkC := Takes.of_laid (v := .ref (W.heap.size + 2)) hk hord tyC (by rw [Y.causeType]; rfl)
  have tkS := Takes.of_laid (v := u0.v) hk hord tyS (by rw [Y.stackType]; exact fits_refV_array _ u0)
  have tkP := Takes.of_laid (v := sen.v) hk hord tyP (by rw [Y.suppType]; exact fits_refV_object _ sen)
  have tkM := Takes.of_laid (v := .ref (W.heap.size + 1)) hk hord tyM (by rw [Y.msgType]; rfl)
  have hskip : SkipFacts T e.platform s (fun u => u) u0 ((preparedCellV T.toThrowableT (freshCell P1.m.cls kX) (W.heap.size + 2) u0 sen).withEntry W.cur) := ⟨{ ci198 := ci198, i198 := i198, fBack := fB }, ⟨hk198, hg198, ha198, hsB⟩, hbk, fun _ _ => rfl⟩
  have h0 : At W g.method c below := by rw [hg]; exact X.here
  obtain ⟨hbeyond, hfreeW⟩ := X.vmMayThrow hsize (.throwNew cls (some text) none) (fun f hf => by cases hf) rfl hRlocals
  have hfr' : W.frames.length + Ps.length + 4 < (e.platform.stackLimits W.me).1 := by have := X.framesAbove hRframes; omega
  have hwd' : (stackUse (.java g :: W.frames.tail)).2 + 13 * Ps.length + 55 ≤ (e.platform.stackLimits W.me).2 := by have := X.stackAbove hsize (K := 13 * Ps.length + 55) (by omega); omega
  have hslots : W.slotsUsed + (stringBytes (stringToUtf16 text)).size + Zs.kS.instanceTypes.size + kX.instanceTypes.size ≤ e.platform.maxSlots := by
    have := X.slotsAbove hRslots
    rw [hn4, hn6]
    omega
  obtain ⟨vm', hW', st⟩ := Steps.vmThrowsMessageColdByV p (s₀ := s) (S := W) (g := g) h0 hexec T L Z LZ M LM X.warmed (t := W.cur) rfl Zs LZs P1 L1 Ps hL hlink1 hlink hsoe hoom hfound hk hinit hord hctor
    (Launch.admits_hotImplicitExceptions X.admits) hbeyond hfreeW htext hlimit hheap (X.cellsAbove hRcells) hslots (hfitv _) (hfitc _)
    (Nn := fun u => u) heapOnly_id (fun _ _ => rfl) (fun _ => rfl) (fun u x y => setCell_twice _ _ _ _) (fun _ => Nat.le_refl _) (cN := ((preparedCellV T.toThrowableT (freshCell P1.m.cls kX) (W.heap.size + 2) u0 sen).withEntry W.cur))
    hsel0 hcellS hknownS hvU tkS (fun _ hu => hu) (fun _ hu => hu) rfl rfl rfl (by simp [preparedCellV, Cell.setSlot, Cell.withEntry]) hskip (fun _ _ hA hW _ hroom _ hrest => L.nativeOff p htr hA hW hroom hrest) hselF hvSen tkC tkP tkM Y.objLocals rfl hfr' hwd'
  rw [plainBareV_eq T.toThrowableT (W.heap.size + 2) u0 sen (.ref (W.heap.size + 1)) W.cur rfl rfl] at st
  obtain ⟨-, -, w3, w4, -, -, -⟩ := withThrown_facts e.platform W Zs text P1.m.cls kX
  have X3 := ((X.pushed (bytesOf Zs.cB (stringToUtf16 text))).pushed (stringAt Zs.cS Zs.kS Zs.fv Zs.fc (stringToUtf16 text) W.heap.size)).pushed (freshCell P1.m.cls kX)
  rw [← withString_eq] at X3
  have X4 := X3.noted hW'
  have ha : (W.heap.size + 2) < ((withThrown W Zs text P1.m.cls kX).setVm vm').heap.size := by show _ < (withThrown W Zs text P1.m.cls kX).heap.size; rw [w3]; omega
  have hcell : ((withThrown W Zs text P1.m.cls kX).setVm vm').heap[(W.heap.size + 2)]? = some (freshCell P1.m.cls kX) := w4
  have X5 := ((((X4.stored hcell T.fCause.slot (.ref (W.heap.size + 2))).storedAgain ha T.fStack.slot u0.v).storedAgain ha T.fSupp.slot sen.v).storedAgain ha T.fStack.slot u0.v).storedAgain ha T.fMsg.slot (.ref (W.heap.size + 1))
  obtain ⟨g₁, hfrM⟩ := X5.frames_eq
  have hU : ((((withThrown W Zs text P1.m.cls kX).setVm vm').setCell (W.heap.size + 2) (plainBareV T.toThrowableT (freshCell P1.m.cls kX) (W.heap.size + 2) u0 sen (.ref (W.heap.size + 1)))).setTop g).pushFrame (.throwing (W.heap.size + 2)) = (((withThrown W Zs text P1.m.cls kX).setVm vm').setCell (W.heap.size + 2) (plainBareV T.toThrowableT (freshCell P1.m.cls kX) (W.heap.size + 2) u0 sen (.ref (W.heap.size + 1)))).setFrames (.throwing (W.heap.size + 2) :: .java g :: below) := by
    rw [State.pushFrame, State.frames_setTop _ hfrM, State.setTop_of_frames _ hfrM, State.setFrames_setFrames]
  have b1 : (bytesOf Zs.cB (stringToUtf16 text)).slots.size = (stringBytes (stringToUtf16 text)).size := by
    rw [(Cell.writeAll_facts _ _).2.2]; simp [bytes0]
  have b2 : (stringAt Zs.cS Zs.kS Zs.fv Zs.fc (stringToUtf16 text) W.heap.size).slots.size = 4 := by simp [string0, Cell.setSlot, hn4]
  have b3 : (freshCell P1.m.cls kX).slots.size = 6 := by simp [hn6]
  rw [b1, b2, b3] at X5
  have e9 : slots + (stringBytes (stringToUtf16 text)).size + 4 + 6 = slots + ((stringBytes (stringToUtf16 text)).size + 4 + 6) := by omega
  rw [e9] at X5
  simp only [List.append_assoc, List.cons_append, List.nil_append] at X5
  refine ⟨((withThrown W Zs text P1.m.cls kX).setVm vm').setCell (W.heap.size + 2) (plainBareV T.toThrowableT (freshCell P1.m.cls kX) (W.heap.size + 2) u0 sen (.ref (W.heap.size + 1))), W.heap.size + 2, _, fun target ht => st _ (by rw [X.tail, ← hU]; exact ht),
    X5.forget (fun y hy => ?_), heapAt_setCell_self _ ha, hfound, rfl⟩
  simp only [List.mem_cons, List.not_mem_nil, or_false] at hy
  have hge : s.heap.size ≤ W.heap.size := X.same.2.1
  rcases hy with rfl | rfl | rfl | rfl | rfl <;> exact Nat.le_trans hge (Nat.le_add_right _ 2)
set_option maxHeartbeats 1000000 in
/-- the machine throws NullPointerException, no traces kept: from its note over the frame g to 'throwing' over the same frame (follows the proof of Stand.vmThrowsNpe, Shelf42/KT2.lean; throwsNpeColdBareVAt, Shelf42/NT91.lean, called) -/
theorem vx_npeAt {p : Program} {l : Launch} {e : Env} {R : Room} {s : State} {m₀ : MethodId} {args : Array Value} {below : List Frame} {meth : Method} {c : Code} {W : State} {locs : List Loc} {cells slots : Nat}
    (X : Stand p l e R s m₀ args below meth c W locs cells slots) (hexec : p.tables.exec = Jvm.exec) (htr : e.platform.stackTraces = false) {n : Nat}
    (h : ∀ a ∈ Bundle.npeArmAtoms n, a.before args s = true)
    (hlocs : ∀ x ∈ locs, ∀ cell, s.heap[x.base]? = some cell → cell.vm.isStatics = false)
    {g : JFrame} (hg : g.method = m₀) (hsize : g.locals.size = c.maxLocals)
    (hRframes : 7 < R.frames) (hRlocals : 2 * g.monitorRoom + (g.stack.map fun v => v.category).sum + 10240 ≤ R.locals)
    (hRcells : cells + 1 ≤ R.cells) (hRslots : slots + n ≤ R.slots) (hlocks : meth.locks = false) :
    ∃ (S : State) (q : Addr) (ce : Cell), (∀ target, Steps p.tables e below ((S.setTop g).pushFrame (.throwing q)) target → Steps p.tables e below ((W.setTop g).pushFrame (.throwNew "java/lang/NullPointerException" none none)) target) ∧
      Stand p l e R s m₀ args below meth c S locs (cells + 1) (slots + n) ∧ S.heap[q]? = some ce ∧ s.vm.findClass "java/lang/NullPointerException" = some ce.cls ∧ ce.vm = .none := by
  have howns : e.platform.frameOwnsMonitors = true := by rw [X.admits.platform]
  have hfin : e.platform.finalization = false := by rw [X.admits.platform]
  have hpl : e.platform.magicAccessors = ({} : Platform).magicAccessors := by rw [X.admits.platform]
  have hpl2 : e.platform.arrayCloneIsPublic = true := by rw [X.admits.platform]
  have a' : ∀ x, x ∈ Bundle.npeArmAtoms n → x.holds args s none s [] = true := fun x hx => h x hx
  obtain ⟨T, Z, L, LZ, Y⟩ := ThrowableC.of_atoms (args := args) howns hfin hpl (fun x hx => h x (by simp [Bundle.npeArmAtoms, hx]))
  obtain ⟨N, LN, hcN, hnNF, hordN, hffS⟩ := NpeC.of_atoms (args := args) hpl hpl2 L Y (fun x hx => h x (by simp [Bundle.npeArmAtoms, hx]))
  obtain ⟨P1, L1, hP1m, hP1s⟩ := PassC.of_atoms (args := args) (s := s) hpl (X := Bundle.nN) (Y := Bundle.rN) (by decide) (by decide) LibCode.NullPointerException.Init0.at_0 LibCode.NullPointerException.Init0.at_1 LibCode.NullPointerException.Init0.at_4 (fun x hx => h x (by simp [Bundle.npeArmAtoms, hx]))
  obtain ⟨PR, LR, hPRm, hPRs⟩ := PassC.of_atoms (args := args) (s := s) hpl (X := Bundle.rN) (Y := Bundle.eN) (by decide) (by decide) LibCode.RuntimeException.Init0.at_0 LibCode.RuntimeException.Init0.at_1 LibCode.RuntimeException.Init0.at_4 (fun x hx => h x (by simp [Bundle.npeArmAtoms, hx]))
  obtain ⟨PE, LEx, hPEm, hPEs⟩ := PassC.of_atoms (args := args) (s := s) hpl (X := Bundle.eN) (Y := Bundle.tN) (by decide) (by decide) LibCode.Exception.Init0.at_0 LibCode.Exception.Init0.at_1 LibCode.Exception.Init0.at_4 (fun x hx => h x (by simp [Bundle.npeArmAtoms, hx]))
  have hfound : s.vm.findClass Bundle.nN = some P1.m.cls := findClass_of_methodNamed hP1m
  have ecls : N.cN = P1.m.cls := Option.some.inj (hcN.symm.trans hfound)
  have hk : s.vm.classes[P1.m.cls]? = some N.kN := by rw [← ecls]; exact LN.cls
  have hinit := Cond.initialized_spec hfound hk (a' (.initialized Bundle.nN) (by simp [Bundle.npeArmAtoms]))
  have hctor : N.kN.findMethod "<init>" "()V" = some P1.m.idx := findMethod_of_methodNamed hP1m hk
  obtain ⟨c1, k1, hc1, hk1, -, -, -, hn⟩ := Cond.instantiable_spec (a' (.instantiable Bundle.nN n) (by simp [Bundle.npeArmAtoms]))
  cases Option.some.inj (hc1.symm.trans hfound)
  cases Option.some.inj (hk1.symm.trans hk)
  have hfsz : (freshCell P1.m.cls N.kN).slots.size = n := by simp [hn]
  have hlink1 : P1.sup = PR.m := Option.some.inj (hP1s.symm.trans hPRm)
  have hlinkR : PR.sup = PE.m := Option.some.inj (hPRs.symm.trans hPEm)
  have hlinkE : PE.sup = Z.m T.toThrowableT := Option.some.inj (hPEs.symm.trans Y.init0)
  have hLs : ∀ P, P ∈ [PR, PE] → P.Links0 e.platform s := fun P hP => by
    simp only [List.mem_cons, List.not_mem_nil, or_false] at hP
    rcases hP with rfl | rfl
    · exact LR
    · exact LEx
  have hsel0 : selectMethod e.platform s.vm P1.m.cls T.fill0 = .method T.fill0 := by
    obtain ⟨c2, r2, m2, q1, q2, q3, q4, -⟩ := Cond.selects_spec (a' (.selects Bundle.nN Bundle.tFill0 Bundle.tFill0) (by simp [Bundle.npeArmAtoms]))
    cases Option.some.inj (q1.symm.trans hfound)
    cases Option.some.inj (q2.symm.trans (State.methodFound?_of_named Y.fill0 (by decide)))
    cases Option.some.inj (q3.symm.trans Y.fill0)
    rw [Launch.admits_selectMethod X.admits]; exact q4
  have hselF : selectMethod e.platform s.vm P1.m.cls T.fill = .method N.fill := by
    obtain ⟨c2, r2, m2, q1, q2, q3, q4, -⟩ := Cond.selects_spec (a' (.selects Bundle.nN Bundle.tFill Bundle.nFill) (by simp [Bundle.npeArmAtoms]))
    cases Option.some.inj (q1.symm.trans hfound)
    cases Option.some.inj (q2.symm.trans (State.methodFound?_of_named Y.fill (by decide)))
    cases Option.some.inj (q3.symm.trans hnNF)
    rw [Launch.admits_selectMethod X.admits]; exact q4
  obtain ⟨cellS0, hcS0, hiss⟩ := Y.statics
  obtain ⟨u0, hu0⟩ := Cond.staticRefV Y.unassigned L.unassignedStatic L.statics hcS0 hiss (a' (.isRef (.static Bundle.tN "UNASSIGNED_STACK" Bundle.steD)) (by simp [Bundle.npeArmAtoms]))
  obtain ⟨sen, hsen⟩ := Cond.staticRefV Y.sentinel L.sentinelStatic L.statics hcS0 hiss (a' (.isRef (.static Bundle.tN "SUPPRESSED_SENTINEL" Bundle.listD)) (by simp [Bundle.npeArmAtoms]))
  obtain ⟨ci198, i198, fB, hk198, hg198, ha198, hsB, -, hnB, htB, hffB⟩ := Cond.ownField (t := .object "java/lang/Object") Y.found L.cls (by decide +kernel) (a' (.fieldLink Bundle.tN 198 Bundle.tN "backtrace" Bundle.objD) (by simp [Bundle.npeArmAtoms])) (a' (.lays Bundle.tN Bundle.tN "backtrace" Bundle.objD) (by simp [Bundle.npeArmAtoms])) e.platform hpl
  obtain ⟨cellS, hcS', heS, -, hkeep⟩ := X.same.2.2.2.2.2 T.aS cellS0 hcS0
  have hcellS : W.heap[T.aS]? = some cellS := hcS'
  have hout' : ∀ i, (⟨T.aS, i⟩ : Loc) ∉ locs := fun i hmem => by
    have := hlocs _ hmem cellS0 hcS0
    rw [hiss] at this; cases this
  have hknownS : cellS.vm ≠ .unknown := by
    rw [heS]; intro hu
    rw [show cellS0.vm = .unknown from hu] at hiss
    cases hiss
  have hvU : cellS.slots[T.fUnassigned.slot]? = some u0.v := by rw [hkeep _ (hout' _)]; exact hu0
  have hvSen : cellS.slots[T.fSentinel.slot]? = some sen.v := by rw [hkeep _ (hout' _)]; exact hsen
  obtain ⟨tyC, dC, hdC, hdnC⟩ := Cond.laysAt hfound hk Y.cause (a' (.lays Bundle.nN Bundle.tN "cause" "Ljava/lang/Throwable;") (by simp [Bundle.npeArmAtoms]))
  obtain ⟨tyS, dS, hdS, hdnS⟩ := Cond.laysAt hfound hk Y.stack (a' (.lays Bundle.nN Bundle.tN "stackTrace" Bundle.steD) (by simp [Bundle.npeArmAtoms]))
  obtain ⟨tyP, dP, hdP, hdnP⟩ := Cond.laysAt hfound hk Y.supp (a' (.lays Bundle.nN Bundle.tN "suppressedExceptions" Bundle.listD) (by simp [Bundle.npeArmAtoms]))
  obtain ⟨tyX, dX, hdX, hdnX⟩ := Cond.laysAt hfound hk hffS (a' (.lays Bundle.nN Bundle.nN "extendedMessageState" "I") (by simp [Bundle.npeArmAtoms, Bundle.npeAtoms]))
  obtain ⟨hnX, htX⟩ := State.fieldFound?_type hffS (t := .int) (by decide +kernel)
  have xC := Cond.laysApart hdC hdX hdnC hdnX (by rw [hnX, Y.causeName]; decide)
  have xS := Cond.laysApart hdS hdX hdnS hdnX (by rw [hnX, Y.stackName]; decide)
  have xP := Cond.laysApart hdP hdX hdnP hdnX (by rw [hnX, Y.suppName]; decide)
  have hv0 : (freshCell P1.m.cls N.kN).slots[N.fState.slot]? = some (.int 0) := by
    have := fresh_default (c := P1.m.cls) tyX
    rw [htX] at this; exact this
  obtain ⟨tyB, dB, hdB, hdnB⟩ := Cond.laysAt hfound hk hffB (a' (.lays Bundle.nN Bundle.tN "backtrace" Bundle.objD) (by simp [Bundle.npeArmAtoms]))
  have bC := Cond.laysApart hdB hdC hdnB hdnC (by rw [hnB, Y.causeName]; decide)
  have bS := Cond.laysApart hdB hdS hdnB hdnS (by rw [hnB, Y.stackName]; decide)
  have bP := Cond.laysApart hdB hdP hdnB hdnP (by rw [hnB, Y.suppName]; decide)
  have bX := Cond.laysApart hdB hdX hdnB hdnX (by rw [hnB, hnX]; decide)
  have hbk : ((npeCell N.toNpeT (preparedCellV T.toThrowableT (freshCell P1.m.cls N.kN) W.heap.size u0 sen) W.cur).withEntry W.cur).slots[fB.slot]? = some .null := by
    have := fresh_default (c := P1.m.cls) tyB
    rw [htB] at this
    simpa [npeCell, preparedCellV, Cell.setSlot, Cell.withEntry, Array.getElem?_setIfInBounds, bC, bS, bP, bX, bC.symm, bS.symm, bP.symm, bX.symm, defaultValue] using this
  have tkC := Takes.of_laid (v := .ref W.heap.size) hk hordN tyC (by rw [Y.causeType]; rfl)
  have tkS := Takes.of_laid (v := u0.v) hk hordN tyS (by rw [Y.stackType]; exact fits_refV_array _ u0)
  have tkP := Takes.of_laid (v := sen.v) hk hordN tyP (by rw [Y.suppType]; exact fits_refV_object _ sen)
  have tkX := Takes.of_laid (v := .int 1) hk hordN tyX (by rw [htX]; rfl)
  have hskip : SkipFacts T e.platform s (fun u => u) u0 ((npeCell N.toNpeT (preparedCellV T.toThrowableT (freshCell P1.m.cls N.kN) W.heap.size u0 sen) W.cur).withEntry W.cur) := ⟨{ ci198 := ci198, i198 := i198, fBack := fB }, ⟨hk198, hg198, ha198, hsB⟩, hbk, fun _ _ => rfl⟩
  obtain ⟨vm', X3, st, -⟩ := X.throwsNpeColdBareVAt hexec hg hsize T L Z LZ N LN P1 L1 [PR, PE] hLs hlink1 ⟨hlinkR, hlinkE, trivial⟩ hfound hk hinit hordN hctor hsel0 hselF hcellS hknownS hvU hvSen
    hv0 xC xS xP tkC tkS tkP tkX Y.objLocals hskip (fun _ _ hA hW _ hroom _ hrest => L.nativeOff p htr hA hW hroom hrest) (by simpa using hRframes) hRlocals (by simp) hRcells (by rw [hn]; exact hRslots)
  have hlt : W.heap.size < ((W.pushCell (freshCell P1.m.cls N.kN)).setVm vm').heap.size := by
    show W.heap.size < (W.pushCell (freshCell P1.m.cls N.kN)).heap.size
    rw [State.heap_size_pushCell]; omega
  rw [hfsz] at X3
  obtain ⟨g₁, hfrM⟩ := X3.frames_eq
  have hU : ((((W.pushCell (freshCell P1.m.cls N.kN)).setVm vm').setCell W.heap.size (npeBareV T.toThrowableT N.toNpeT (freshCell P1.m.cls N.kN) W.heap.size u0 sen)).setTop g).pushFrame (.throwing W.heap.size) = (((W.pushCell (freshCell P1.m.cls N.kN)).setVm vm').setCell W.heap.size (npeBareV T.toThrowableT N.toNpeT (freshCell P1.m.cls N.kN) W.heap.size u0 sen)).setFrames (.throwing W.heap.size :: .java g :: below) := by
    rw [State.pushFrame, State.frames_setTop _ hfrM, State.setTop_of_frames _ hfrM, State.setFrames_setFrames]
  refine ⟨_, W.heap.size, _, fun target ht => st.trans (by rw [← hU]; exact ht), X3.forget (fun y hy => ?_), heapAt_setCell_self _ hlt, hfound, rfl⟩
  simp only [List.mem_cons, List.not_mem_nil, or_false] at hy
  have hge : s.heap.size ≤ W.heap.size := X.same.2.1
  rcases hy with rfl | rfl | rfl | rfl | rfl <;> exact hge
/-- the words of a machine's NullPointerException, but the four that speak of the heap -/
def vx_atN (n : Nat) : List Cond := (Bundle.npeArmAtoms n).filter vx_no
/-- the words of a machine's throw with a message, but the four that speak of the heap -/
def vx_atM (X : String) (names : List String) : List Cond := (Bundle.messageArmAtoms X names).filter vx_no
section
variable {p : Program} {l : Launch} {e : Env} {R : Room} {s : State} {m : MethodId} {args : Array Value} {below : List Frame} {meth : Method} {c : Code} {H : Heap} {locs : List Loc} {cells slots : Nat}
/-- a frame seen from a rebased start, seen from the first start again -/
theorem vx_back9 {T S : State} {R' : Room} {k n : Nat} (X : Stand p l e R s m args below meth c T locs cells slots) (Y : Stand p l e R' ((T.setVm s.vm).setFrames (.invoking m args :: below)) m args below meth c T [] 0 0) (Z : Stand p l e R' ((T.setVm s.vm).setFrames (.invoking m args :: below)) m args below meth c S [] k n) :
    Stand p l e R s m args below meth c S locs (cells + k) (slots + n) := by
  have hW0 : s.WarmedH ((T.setVm s.vm).setFrames (.invoking m args :: below)).vm := State.WarmedH.refl s
  refine { admits := X.admits, cas := X.cas, clock := X.clock, frames := X.frames, room := X.room, hears := X.hears, method := X.method, code := X.code, here := Z.here, tail := Z.tail, warmed := State.WarmedH.trans hW0 Z.warmed, limits := Z.limits.trans (Y.limits.symm.trans X.limits), bytes := Z.bytes.trans (Y.bytes.symm.trans X.bytes), same := ?_ }
  obtain ⟨e1, e2⟩ := Z.same
  rw [State.setFrames_setFrames] at e1
  have h2 : (T.setVm s.vm).sameButNew (S.setVm s.vm) [] k n := ⟨e1, e2⟩
  have h3 := X.same.trans h2
  rw [List.append_nil] at h3
  exact h3
/-- from the machine's note that E is thrown here with this text -/
def vx_Note (p : Program) (l : Launch) (e : Env) (R : Room) (s : State) (m : MethodId) (args : Array Value) (below : List Frame) (meth : Method) (c : Code) (H : Heap) (locs : List Loc) (cells slots : Nat) (Q : State → Prop) (g : JFrame) (E text : String) : Prop :=
  ∀ T : State, T.heap = H → Stand p l e R s m args below meth c T locs cells slots → ∃ t, Steps p.tables e below ((T.setTop g).pushFrame (.throwNew E (some text) none)) t ∧ Q t
theorem vx_vm {pc : Nat} {ls : Array Slot} {rest : List Value} {Q : State → Prop} (hexec : p.tables.exec = Jvm.exec) (hl : l.stackTraces = false) {cls text : String} {names : List String} {nb : Nat} {A : Nat → Prop}
    (hcls : Bundle.fit cls = true) (hnames : ∀ n ∈ names, Bundle.fit n = true) (hsoe : (cls == "java/lang/StackOverflowError") = false) (hoom : (cls == "java/lang/OutOfMemoryError") = false)
    (hat : ∀ w ∈ vx_atM cls names, w.before args s = true) (hgood : ∀ w ∈ vx_atM cls names, vx_ot w = true)
    (hU : vx_Zq Bundle.tN "UNASSIGNED_STACK" Bundle.steD A s s.heap) (hN : vx_Zq Bundle.tN "SUPPRESSED_SENTINEL" Bundle.listD A s s.heap) (hS : va_S A s.heap H locs) (hsize : ls.size = c.maxLocals)
    (htext : (text == notModelled) = false) (hnb : (stringBytes (stringToUtf16 text)).size ≤ nb) (hnb1 : nb ≤ 1000)
    (hRframes : names.length + 4 < R.frames) (hRlocals : (rest.map fun v => v.category).sum + 10240 ≤ R.locals) (hshort : 13 * names.length + 55 ≤ 10240) (hRcells : cells + 3 ≤ R.cells) (hRslots : slots + (nb + 10) ≤ R.slots) (hlocks : meth.locks = false)
    (k : ∀ (H1 : Heap) (q9 : Addr) (ce : Cell), H.size ≤ H1.size → (∀ q : Nat, q < H.size → H1[q]? = H[q]?) → va_S A s.heap H1 locs → H1[q9]? = some ce → ce.vm = .none → s.vm.findClass cls = some ce.cls → vx_W p l e R s m args below meth c H1 locs (cells + 3) (slots + (nb + 10)) Q (F0 m pc ls rest) q9) :
    vx_Note p l e R s m args below meth c H locs cells slots Q (F0 m pc ls rest) cls text := by
  intro T hT X
  have htr : e.platform.stackTraces = false := (show e.platform.stackTraces = l.stackTraces by rw [X.admits.platform]).trans hl
  have Y := vx_rebase X (R' := { frames := R.frames, locals := R.locals, cells := 3, slots := nb + 10 }) (Nat.le_refl _) (Nat.le_refl _) hRcells hRslots
  have hhp : ((T.setVm s.vm).setFrames (.invoking m args :: below)).heap = H := hT
  have hW0 : s.WarmedH ((T.setVm s.vm).setFrames (.invoking m args :: below)).vm := State.WarmedH.refl s
  have hat' : ∀ w ∈ vx_atM cls names, w.before args ((T.setVm s.vm).setFrames (.invoking m args :: below)) = true := fun w hw => vx_ot_at hW0 rfl (hgood w hw) (hat w hw)
  have hU' : vx_Zq Bundle.tN "UNASSIGNED_STACK" Bundle.steD A ((T.setVm s.vm).setFrames (.invoking m args :: below)) ((T.setVm s.vm).setFrames (.invoking m args :: below)).heap := by rw [hhp]; exact vx_Zq.moved hW0.alike (hU.kept hS.2.1)
  have hN' : vx_Zq Bundle.tN "SUPPRESSED_SENTINEL" Bundle.listD A ((T.setVm s.vm).setFrames (.invoking m args :: below)) ((T.setVm s.vm).setFrames (.invoking m args :: below)).heap := by rw [hhp]; exact vx_Zq.moved hW0.alike (hN.kept hS.2.1)
  obtain ⟨S, q, ce, st, Z, hce, hcl', hv⟩ := vx_vmAt Y hexec htr (cls := cls) (names := names) (text := text) hcls hnames hsoe hoom (vx_own hat' (vx_isRefq hU'.1) (vx_isRefq hN'.1) hU'.2.word hN'.2.word) (fun x hx => nomatch hx) htext
    (by rw [Launch.admits_arrayLengthLimit X.admits]; omega) (by rw [Launch.admits_maxHeapBytes X.admits]; simp only [componentBytes]; omega)
    (g := F0 m pc ls rest) rfl hsize hRframes (by show 2 * 0 + (rest.map fun v => v.category).sum + 10240 ≤ R.locals; omega) hshort (by show 0 + 3 ≤ 3; omega) (by show 0 + (_ + 4 + 6) ≤ nb + 10; omega) hlocks
  obtain ⟨f1, f2⟩ := vx_frame Z.same
  have f1' : H.size ≤ S.heap.size := by rw [← hT]; exact f1
  have f2' : ∀ q : Nat, q < H.size → S.heap[q]? = H[q]? := fun q hq => by
    rw [← hT]
    exact f2 q (by rw [← hT] at hq; exact hq) (fun z hz => nomatch hz)
  have X5 := vx_back9 X Y Z
  have X6 : Stand p l e R s m args below meth c S locs (cells + 3) (slots + (nb + 10)) := { X5 with same := X5.same.mono (by omega) (by omega) }
  obtain ⟨t, a1, b1⟩ := k S.heap q ce f1' f2' ⟨Nat.le_trans hS.1 f1', fun q h1 h2 => (f2' q (Nat.lt_of_lt_of_le h1 hS.1)).trans (hS.2.1 q h1 h2), hS.2.2⟩ hce hv hcl' S rfl X6
  exact ⟨t, st t a1, b1⟩
/-- from the machine's note that NullPointerException is thrown here -/
def vx_NoteN (p : Program) (l : Launch) (e : Env) (R : Room) (s : State) (m : MethodId) (args : Array Value) (below : List Frame) (meth : Method) (c : Code) (H : Heap) (locs : List Loc) (cells slots : Nat) (Q : State → Prop) (g : JFrame) : Prop :=
  ∀ T : State, T.heap = H → Stand p l e R s m args below meth c T locs cells slots → ∃ t, Steps p.tables e below ((T.setTop g).pushFrame (.throwNew "java/lang/NullPointerException" none none)) t ∧ Q t
theorem vx_npe {pc : Nat} {ls : Array Slot} {rest : List Value} {Q : State → Prop} (hexec : p.tables.exec = Jvm.exec) (hl : l.stackTraces = false) {nb : Nat} {A : Nat → Prop}
    (hat : ∀ w ∈ vx_atN nb, w.before args s = true) (hgood : ∀ w ∈ vx_atN nb, vx_ot w = true)
    (hU : vx_Zq Bundle.tN "UNASSIGNED_STACK" Bundle.steD A s s.heap) (hN : vx_Zq Bundle.tN "SUPPRESSED_SENTINEL" Bundle.listD A s s.heap) (hS : va_S A s.heap H locs) (hsize : ls.size = c.maxLocals)
    (hRframes : 7 < R.frames) (hRlocals : (rest.map fun v => v.category).sum + 10240 ≤ R.locals) (hRcells : cells + 1 ≤ R.cells) (hRslots : slots + nb ≤ R.slots) (hlocks : meth.locks = false)
    (k : ∀ (H1 : Heap) (q9 : Addr) (ce : Cell), H.size ≤ H1.size → (∀ q : Nat, q < H.size → H1[q]? = H[q]?) → va_S A s.heap H1 locs → H1[q9]? = some ce → ce.vm = .none → s.vm.findClass "java/lang/NullPointerException" = some ce.cls → vx_W p l e R s m args below meth c H1 locs (cells + 1) (slots + nb) Q (F0 m pc ls rest) q9) :
    vx_NoteN p l e R s m args below meth c H locs cells slots Q (F0 m pc ls rest) := by
  intro T hT X
  have htr : e.platform.stackTraces = false := (show e.platform.stackTraces = l.stackTraces by rw [X.admits.platform]).trans hl
  have Y := vx_rebase X (R' := { frames := R.frames, locals := R.locals, cells := 1, slots := nb }) (Nat.le_refl _) (Nat.le_refl _) hRcells hRslots
  have hhp : ((T.setVm s.vm).setFrames (.invoking m args :: below)).heap = H := hT
  have hW0 : s.WarmedH ((T.setVm s.vm).setFrames (.invoking m args :: below)).vm := State.WarmedH.refl s
  have hat' : ∀ w ∈ vx_atN nb, w.before args ((T.setVm s.vm).setFrames (.invoking m args :: below)) = true := fun w hw => vx_ot_at hW0 rfl (hgood w hw) (hat w hw)
  have hU' : vx_Zq Bundle.tN "UNASSIGNED_STACK" Bundle.steD A ((T.setVm s.vm).setFrames (.invoking m args :: below)) ((T.setVm s.vm).setFrames (.invoking m args :: below)).heap := by rw [hhp]; exact vx_Zq.moved hW0.alike (hU.kept hS.2.1)
  have hN' : vx_Zq Bundle.tN "SUPPRESSED_SENTINEL" Bundle.listD A ((T.setVm s.vm).setFrames (.invoking m args :: below)) ((T.setVm s.vm).setFrames (.invoking m args :: below)).heap := by rw [hhp]; exact vx_Zq.moved hW0.alike (hN.kept hS.2.1)
  obtain ⟨S, q, ce, st, Z, hce, hcl', hv⟩ := vx_npeAt Y hexec htr (n := nb) (vx_own hat' (vx_isRefq hU'.1) (vx_isRefq hN'.1) hU'.2.word hN'.2.word) (fun x hx => nomatch hx)
    (g := F0 m pc ls rest) rfl hsize hRframes (by show 2 * 0 + (rest.map fun v => v.category).sum + 10240 ≤ R.locals; omega) (by show 0 + 1 ≤ 1; omega) (by show 0 + nb ≤ nb; omega) hlocks
  obtain ⟨f1, f2⟩ := vx_frame Z.same
  have f1' : H.size ≤ S.heap.size := by rw [← hT]; exact f1
  have f2' : ∀ q : Nat, q < H.size → S.heap[q]? = H[q]? := fun q hq => by
    rw [← hT]
    exact f2 q (by rw [← hT] at hq; exact hq) (fun z hz => nomatch hz)
  have X5 := vx_back9 X Y Z
  have X6 : Stand p l e R s m args below meth c S locs (cells + 1) (slots + nb) := { X5 with same := X5.same.mono (by omega) (by omega) }
  obtain ⟨t, a1, b1⟩ := k S.heap q ce f1' f2' ⟨Nat.le_trans hS.1 f1', fun q h1 h2 => (f2' q (Nat.lt_of_lt_of_le h1 hS.1)).trans (hS.2.1 q h1 h2), hS.2.2⟩ hce hv hcl' S rfl X6
  exact ⟨t, st t a1, b1⟩
variable {Q : State → Prop} {cc : ByteArray} {pc : Nat} {ls : Array Slot} {rest : List Value}
theorem vx_idivZ (hexec : p.tables.exec = Jvm.exec) (hb : c.code = cc) {a b : Int32} (h0 : b = 0) (d : decode cc pc = .ok (.idiv, 1)) (k : vx_Note p l e R s m args below meth c H locs cells slots Q (F0 m pc ls rest) "java/lang/ArithmeticException" "/ by zero") :
    W p l e R s m args below meth c H locs cells slots Q (F0 m pc ls (.int b :: .int a :: rest)) := by
  intro T hT X
  obtain ⟨t, st, q⟩ := k T hT X
  exact ⟨t, X.idivZero hexec (g := F0 m pc ls (.int b :: .int a :: rest)) rfl (a := a) (rest := rest) (by rw [h0]) (by rw [hb]; exact d) t st, q⟩
theorem vx_iremZ (hexec : p.tables.exec = Jvm.exec) (hb : c.code = cc) {a b : Int32} (h0 : b = 0) (d : decode cc pc = .ok (.irem, 1)) (k : vx_Note p l e R s m args below meth c H locs cells slots Q (F0 m pc ls rest) "java/lang/ArithmeticException" "/ by zero") :
    W p l e R s m args below meth c H locs cells slots Q (F0 m pc ls (.int b :: .int a :: rest)) := by
  intro T hT X
  obtain ⟨t, st, q⟩ := k T hT X
  exact ⟨t, X.iremZero hexec (g := F0 m pc ls (.int b :: .int a :: rest)) rfl (a := a) (rest := rest) (by rw [h0]) (by rw [hb]; exact d) t st, q⟩
theorem vx_ldivZ (hexec : p.tables.exec = Jvm.exec) (hb : c.code = cc) {a b : Int64} (h0 : b = 0) (d : decode cc pc = .ok (.ldiv, 1)) (k : vx_Note p l e R s m args below meth c H locs cells slots Q (F0 m pc ls rest) "java/lang/ArithmeticException" "/ by zero") :
    W p l e R s m args below meth c H locs cells slots Q (F0 m pc ls (.long b :: .long a :: rest)) := by
  intro T hT X
  obtain ⟨t, st, q⟩ := k T hT X
  exact ⟨t, X.ldivZero hexec (g := F0 m pc ls (.long b :: .long a :: rest)) rfl (a := a) (rest := rest) (by rw [h0]) (by rw [hb]; exact d) t st, q⟩
theorem vx_lremZ (hexec : p.tables.exec = Jvm.exec) (hb : c.code = cc) {a b : Int64} (h0 : b = 0) (d : decode cc pc = .ok (.lrem, 1)) (k : vx_Note p l e R s m args below meth c H locs cells slots Q (F0 m pc ls rest) "java/lang/ArithmeticException" "/ by zero") :
    W p l e R s m args below meth c H locs cells slots Q (F0 m pc ls (.long b :: .long a :: rest)) := by
  intro T hT X
  obtain ⟨t, st, q⟩ := k T hT X
  exact ⟨t, X.lremZero hexec (g := F0 m pc ls (.long b :: .long a :: rest)) rfl (a := a) (rest := rest) (by rw [h0]) (by rw [hb]; exact d) t st, q⟩
theorem vx_ialdZ {D : va_G} {cl : List vw_C} {ws : va_W} {tys : List (ClassId × FieldType)} {a : Nat} (hexec : p.tables.exec = Jvm.exec) (hb : c.code = cc) (hK : va_K D cl tys s) (hP : va_P D cl ws H) (q0 t0 : Nat) {cA : ClassId} {n : Nat} {f : Nat → Int32} (ha : ws[q0]? = some (a, .inl (cA, n, .inl f))) (ht : tys[t0]? = some (cA, .int)) {i : Int32} (hout : ¬ vp_in i n) (hdg : decode cc pc = .ok (.iaload, 1))
    (k : ∀ tx : String, tx = (toString "Index " ++ toString i ++ toString " out of bounds for length " ++ toString n : String) → vx_Note p l e R s m args below meth c H locs cells slots Q (F0 m pc ls rest) "java/lang/ArrayIndexOutOfBoundsException" tx) : W p l e R s m args below meth c H locs cells slots Q (F0 m pc ls (.int i :: .ref a :: rest)) := by
  intro T hT X
  obtain ⟨t, st, q⟩ := k _ rfl T hT X
  refine ⟨t, ?_, q⟩
  have h1 := X.ialoadOut hexec (by rw [hT]; exact hP q0 _ ha) ((hK.2 t0 _ ht).1 n (fun j => .int (f j))) (j := i) (by show (i < 0 ∨ (arrV _ _ _).slots.size ≤ _); rw [arrV_size]; exact Classical.byContradiction hout) (g := F0 m pc ls (.int i :: .ref a :: rest)) rfl (rest := rest) rfl (by rw [hb]; exact hdg) t
  simp only [arrV_size] at h1
  exact h1 st
theorem vx_iastZ {D : va_G} {cl : List vw_C} {ws : va_W} {tys : List (ClassId × FieldType)} {a : Nat} (hexec : p.tables.exec = Jvm.exec) (hb : c.code = cc) (hK : va_K D cl tys s) (hP : va_P D cl ws H) (q0 t0 : Nat) {cA : ClassId} {n : Nat} {f : Nat → Int32} (ha : ws[q0]? = some (a, .inl (cA, n, .inl f))) (ht : tys[t0]? = some (cA, .int)) {i : Int32} {x : Int32} (hout : ¬ vp_in i n) (hdg : decode cc pc = .ok (.iastore, 1))
    (k : ∀ tx : String, tx = (toString "Index " ++ toString i ++ toString " out of bounds for length " ++ toString n : String) → vx_Note p l e R s m args below meth c H locs cells slots Q (F0 m pc ls rest) "java/lang/ArrayIndexOutOfBoundsException" tx) : W p l e R s m args below meth c H locs cells slots Q (F0 m pc ls (.int x :: .int i :: .ref a :: rest)) := by
  intro T hT X
  obtain ⟨t, st, q⟩ := k _ rfl T hT X
  refine ⟨t, ?_, q⟩
  have h1 := X.iastoreOut hexec (by rw [hT]; exact hP q0 _ ha) ((hK.2 t0 _ ht).1 n (fun j => .int (f j))) (j := i) (by show (i < 0 ∨ (arrV _ _ _).slots.size ≤ _); rw [arrV_size]; exact Classical.byContradiction hout) (g := F0 m pc ls (.int x :: .int i :: .ref a :: rest)) rfl (rest := rest) rfl (by rw [hb]; exact hdg) t
  simp only [arrV_size] at h1
  exact h1 st
theorem vx_baldZ {D : va_G} {cl : List vw_C} {ws : va_W} {tys : List (ClassId × FieldType)} {a : Nat} (hexec : p.tables.exec = Jvm.exec) (hb : c.code = cc) (hK : va_K D cl tys s) (hP : va_P D cl ws H) (q0 t0 : Nat) {cA : ClassId} {n : Nat} {f : Nat → Int32} (ha : ws[q0]? = some (a, .inl (cA, n, .inl f))) (ht : tys[t0]? = some (cA, .byte)) {i : Int32} (hout : ¬ vp_in i n) (hdg : decode cc pc = .ok (.baload, 1))
    (k : ∀ tx : String, tx = (toString "Index " ++ toString i ++ toString " out of bounds for length " ++ toString n : String) → vx_Note p l e R s m args below meth c H locs cells slots Q (F0 m pc ls rest) "java/lang/ArrayIndexOutOfBoundsException" tx) : W p l e R s m args below meth c H locs cells slots Q (F0 m pc ls (.int i :: .ref a :: rest)) := by
  intro T hT X
  obtain ⟨t, st, q⟩ := k _ rfl T hT X
  refine ⟨t, ?_, q⟩
  have h1 := X.baloadOut hexec (by rw [hT]; exact hP q0 _ ha) ((hK.2 t0 _ ht).1 n (fun j => .int (f j))) (j := i) (by show (i < 0 ∨ (arrV _ _ _).slots.size ≤ _); rw [arrV_size]; exact Classical.byContradiction hout) (g := F0 m pc ls (.int i :: .ref a :: rest)) rfl (rest := rest) rfl (by rw [hb]; exact hdg) t
  simp only [arrV_size] at h1
  exact h1 st
theorem vx_bastZ {D : va_G} {cl : List vw_C} {ws : va_W} {tys : List (ClassId × FieldType)} {a : Nat} (hexec : p.tables.exec = Jvm.exec) (hb : c.code = cc) (hK : va_K D cl tys s) (hP : va_P D cl ws H) (q0 t0 : Nat) {cA : ClassId} {n : Nat} {f : Nat → Int32} (ha : ws[q0]? = some (a, .inl (cA, n, .inl f))) (ht : tys[t0]? = some (cA, .byte)) {i : Int32} {x : Int32} (hout : ¬ vp_in i n) (hdg : decode cc pc = .ok (.bastore, 1))
    (k : ∀ tx : String, tx = (toString "Index " ++ toString i ++ toString " out of bounds for length " ++ toString n : String) → vx_Note p l e R s m args below meth c H locs cells slots Q (F0 m pc ls rest) "java/lang/ArrayIndexOutOfBoundsException" tx) : W p l e R s m args below meth c H locs cells slots Q (F0 m pc ls (.int x :: .int i :: .ref a :: rest)) := by
  intro T hT X
  obtain ⟨t, st, q⟩ := k _ rfl T hT X
  refine ⟨t, ?_, q⟩
  have h1 := X.bastoreOut hexec (by rw [hT]; exact hP q0 _ ha) ((hK.2 t0 _ ht).1 n (fun j => .int (f j))) (j := i) (by show (i < 0 ∨ (arrV _ _ _).slots.size ≤ _); rw [arrV_size]; exact Classical.byContradiction hout) (g := F0 m pc ls (.int x :: .int i :: .ref a :: rest)) rfl (rest := rest) rfl (by rw [hb]; exact hdg) t
  simp only [arrV_size] at h1
  exact h1 st
theorem vx_zaldZ {D : va_G} {cl : List vw_C} {ws : va_W} {tys : List (ClassId × FieldType)} {a : Nat} (hexec : p.tables.exec = Jvm.exec) (hb : c.code = cc) (hK : va_K D cl tys s) (hP : va_P D cl ws H) (q0 t0 : Nat) {cA : ClassId} {n : Nat} {f : Nat → Int32} (ha : ws[q0]? = some (a, .inl (cA, n, .inl f))) (ht : tys[t0]? = some (cA, .boolean)) {i : Int32} (hout : ¬ vp_in i n) (hdg : decode cc pc = .ok (.baload, 1))
    (k : ∀ tx : String, tx = (toString "Index " ++ toString i ++ toString " out of bounds for length " ++ toString n : String) → vx_Note p l e R s m args below meth c H locs cells slots Q (F0 m pc ls rest) "java/lang/ArrayIndexOutOfBoundsException" tx) : W p l e R s m args below meth c H locs cells slots Q (F0 m pc ls (.int i :: .ref a :: rest)) := by
  intro T hT X
  obtain ⟨t, st, q⟩ := k _ rfl T hT X
  refine ⟨t, ?_, q⟩
  have h1 := X.baloadOut hexec (by rw [hT]; exact hP q0 _ ha) ((hK.2 t0 _ ht).1 n (fun j => .int (f j))) (j := i) (by show (i < 0 ∨ (arrV _ _ _).slots.size ≤ _); rw [arrV_size]; exact Classical.byContradiction hout) (g := F0 m pc ls (.int i :: .ref a :: rest)) rfl (rest := rest) rfl (by rw [hb]; exact hdg) t
  simp only [arrV_size] at h1
  exact h1 st
theorem vx_zastZ {D : va_G} {cl : List vw_C} {ws : va_W} {tys : List (ClassId × FieldType)} {a : Nat} (hexec : p.tables.exec = Jvm.exec) (hb : c.code = cc) (hK : va_K D cl tys s) (hP : va_P D cl ws H) (q0 t0 : Nat) {cA : ClassId} {n : Nat} {f : Nat → Int32} (ha : ws[q0]? = some (a, .inl (cA, n, .inl f))) (ht : tys[t0]? = some (cA, .boolean)) {i : Int32} {x : Int32} (hout : ¬ vp_in i n) (hdg : decode cc pc = .ok (.bastore, 1))
    (k : ∀ tx : String, tx = (toString "Index " ++ toString i ++ toString " out of bounds for length " ++ toString n : String) → vx_Note p l e R s m args below meth c H locs cells slots Q (F0 m pc ls rest) "java/lang/ArrayIndexOutOfBoundsException" tx) : W p l e R s m args below meth c H locs cells slots Q (F0 m pc ls (.int x :: .int i :: .ref a :: rest)) := by
  intro T hT X
  obtain ⟨t, st, q⟩ := k _ rfl T hT X
  refine ⟨t, ?_, q⟩
  have h1 := X.bastoreOut hexec (by rw [hT]; exact hP q0 _ ha) ((hK.2 t0 _ ht).1 n (fun j => .int (f j))) (j := i) (by show (i < 0 ∨ (arrV _ _ _).slots.size ≤ _); rw [arrV_size]; exact Classical.byContradiction hout) (g := F0 m pc ls (.int x :: .int i :: .ref a :: rest)) rfl (rest := rest) rfl (by rw [hb]; exact hdg) t
  simp only [arrV_size] at h1
  exact h1 st
theorem vx_caldZ {D : va_G} {cl : List vw_C} {ws : va_W} {tys : List (ClassId × FieldType)} {a : Nat} (hexec : p.tables.exec = Jvm.exec) (hb : c.code = cc) (hK : va_K D cl tys s) (hP : va_P D cl ws H) (q0 t0 : Nat) {cA : ClassId} {n : Nat} {f : Nat → Int32} (ha : ws[q0]? = some (a, .inl (cA, n, .inl f))) (ht : tys[t0]? = some (cA, .char)) {i : Int32} (hout : ¬ vp_in i n) (hdg : decode cc pc = .ok (.caload, 1))
    (k : ∀ tx : String, tx = (toString "Index " ++ toString i ++ toString " out of bounds for length " ++ toString n : String) → vx_Note p l e R s m args below meth c H locs cells slots Q (F0 m pc ls rest) "java/lang/ArrayIndexOutOfBoundsException" tx) : W p l e R s m args below meth c H locs cells slots Q (F0 m pc ls (.int i :: .ref a :: rest)) := by
  intro T hT X
  obtain ⟨t, st, q⟩ := k _ rfl T hT X
  refine ⟨t, ?_, q⟩
  have h1 := X.caloadOut hexec (by rw [hT]; exact hP q0 _ ha) ((hK.2 t0 _ ht).1 n (fun j => .int (f j))) (j := i) (by show (i < 0 ∨ (arrV _ _ _).slots.size ≤ _); rw [arrV_size]; exact Classical.byContradiction hout) (g := F0 m pc ls (.int i :: .ref a :: rest)) rfl (rest := rest) rfl (by rw [hb]; exact hdg) t
  simp only [arrV_size] at h1
  exact h1 st
theorem vx_castZ {D : va_G} {cl : List vw_C} {ws : va_W} {tys : List (ClassId × FieldType)} {a : Nat} (hexec : p.tables.exec = Jvm.exec) (hb : c.code = cc) (hK : va_K D cl tys s) (hP : va_P D cl ws H) (q0 t0 : Nat) {cA : ClassId} {n : Nat} {f : Nat → Int32} (ha : ws[q0]? = some (a, .inl (cA, n, .inl f))) (ht : tys[t0]? = some (cA, .char)) {i : Int32} {x : Int32} (hout : ¬ vp_in i n) (hdg : decode cc pc = .ok (.castore, 1))
    (k : ∀ tx : String, tx = (toString "Index " ++ toString i ++ toString " out of bounds for length " ++ toString n : String) → vx_Note p l e R s m args below meth c H locs cells slots Q (F0 m pc ls rest) "java/lang/ArrayIndexOutOfBoundsException" tx) : W p l e R s m args below meth c H locs cells slots Q (F0 m pc ls (.int x :: .int i :: .ref a :: rest)) := by
  intro T hT X
  obtain ⟨t, st, q⟩ := k _ rfl T hT X
  refine ⟨t, ?_, q⟩
  have h1 := X.castoreOut hexec (by rw [hT]; exact hP q0 _ ha) ((hK.2 t0 _ ht).1 n (fun j => .int (f j))) (j := i) (by show (i < 0 ∨ (arrV _ _ _).slots.size ≤ _); rw [arrV_size]; exact Classical.byContradiction hout) (g := F0 m pc ls (.int x :: .int i :: .ref a :: rest)) rfl (rest := rest) rfl (by rw [hb]; exact hdg) t
  simp only [arrV_size] at h1
  exact h1 st
theorem vx_saldZ {D : va_G} {cl : List vw_C} {ws : va_W} {tys : List (ClassId × FieldType)} {a : Nat} (hexec : p.tables.exec = Jvm.exec) (hb : c.code = cc) (hK : va_K D cl tys s) (hP : va_P D cl ws H) (q0 t0 : Nat) {cA : ClassId} {n : Nat} {f : Nat → Int32} (ha : ws[q0]? = some (a, .inl (cA, n, .inl f))) (ht : tys[t0]? = some (cA, .short)) {i : Int32} (hout : ¬ vp_in i n) (hdg : decode cc pc = .ok (.saload, 1))
    (k : ∀ tx : String, tx = (toString "Index " ++ toString i ++ toString " out of bounds for length " ++ toString n : String) → vx_Note p l e R s m args below meth c H locs cells slots Q (F0 m pc ls rest) "java/lang/ArrayIndexOutOfBoundsException" tx) : W p l e R s m args below meth c H locs cells slots Q (F0 m pc ls (.int i :: .ref a :: rest)) := by
  intro T hT X
  obtain ⟨t, st, q⟩ := k _ rfl T hT X
  refine ⟨t, ?_, q⟩
  have h1 := X.saloadOut hexec (by rw [hT]; exact hP q0 _ ha) ((hK.2 t0 _ ht).1 n (fun j => .int (f j))) (j := i) (by show (i < 0 ∨ (arrV _ _ _).slots.size ≤ _); rw [arrV_size]; exact Classical.byContradiction hout) (g := F0 m pc ls (.int i :: .ref a :: rest)) rfl (rest := rest) rfl (by rw [hb]; exact hdg) t
  simp only [arrV_size] at h1
  exact h1 st
theorem vx_sastZ {D : va_G} {cl : List vw_C} {ws : va_W} {tys : List (ClassId × FieldType)} {a : Nat} (hexec : p.tables.exec = Jvm.exec) (hb : c.code = cc) (hK : va_K D cl tys s) (hP : va_P D cl ws H) (q0 t0 : Nat) {cA : ClassId} {n : Nat} {f : Nat → Int32} (ha : ws[q0]? = some (a, .inl (cA, n, .inl f))) (ht : tys[t0]? = some (cA, .short)) {i : Int32} {x : Int32} (hout : ¬ vp_in i n) (hdg : decode cc pc = .ok (.sastore, 1))
    (k : ∀ tx : String, tx = (toString "Index " ++ toString i ++ toString " out of bounds for length " ++ toString n : String) → vx_Note p l e R s m args below meth c H locs cells slots Q (F0 m pc ls rest) "java/lang/ArrayIndexOutOfBoundsException" tx) : W p l e R s m args below meth c H locs cells slots Q (F0 m pc ls (.int x :: .int i :: .ref a :: rest)) := by
  intro T hT X
  obtain ⟨t, st, q⟩ := k _ rfl T hT X
  refine ⟨t, ?_, q⟩
  have h1 := X.sastoreOut hexec (by rw [hT]; exact hP q0 _ ha) ((hK.2 t0 _ ht).1 n (fun j => .int (f j))) (j := i) (by show (i < 0 ∨ (arrV _ _ _).slots.size ≤ _); rw [arrV_size]; exact Classical.byContradiction hout) (g := F0 m pc ls (.int x :: .int i :: .ref a :: rest)) rfl (rest := rest) rfl (by rw [hb]; exact hdg) t
  simp only [arrV_size] at h1
  exact h1 st
theorem vx_laldZ {D : va_G} {cl : List vw_C} {ws : va_W} {tys : List (ClassId × FieldType)} {a : Nat} (hexec : p.tables.exec = Jvm.exec) (hb : c.code = cc) (hK : va_K D cl tys s) (hP : va_P D cl ws H) (q0 t0 : Nat) {cA : ClassId} {n : Nat} {f : Nat → Int64} (ha : ws[q0]? = some (a, .inl (cA, n, .inr (.inl f)))) (ht : tys[t0]? = some (cA, .long)) {i : Int32} (hout : ¬ vp_in i n) (hdg : decode cc pc = .ok (.laload, 1))
    (k : ∀ tx : String, tx = (toString "Index " ++ toString i ++ toString " out of bounds for length " ++ toString n : String) → vx_Note p l e R s m args below meth c H locs cells slots Q (F0 m pc ls rest) "java/lang/ArrayIndexOutOfBoundsException" tx) : W p l e R s m args below meth c H locs cells slots Q (F0 m pc ls (.int i :: .ref a :: rest)) := by
  intro T hT X
  obtain ⟨t, st, q⟩ := k _ rfl T hT X
  refine ⟨t, ?_, q⟩
  have h1 := X.laloadOut hexec (by rw [hT]; exact hP q0 _ ha) ((hK.2 t0 _ ht).1 n (fun j => .long (f j))) (j := i) (by show (i < 0 ∨ (arrV _ _ _).slots.size ≤ _); rw [arrV_size]; exact Classical.byContradiction hout) (g := F0 m pc ls (.int i :: .ref a :: rest)) rfl (rest := rest) rfl (by rw [hb]; exact hdg) t
  simp only [arrV_size] at h1
  exact h1 st
theorem vx_lastZ {D : va_G} {cl : List vw_C} {ws : va_W} {tys : List (ClassId × FieldType)} {a : Nat} (hexec : p.tables.exec = Jvm.exec) (hb : c.code = cc) (hK : va_K D cl tys s) (hP : va_P D cl ws H) (q0 t0 : Nat) {cA : ClassId} {n : Nat} {f : Nat → Int64} (ha : ws[q0]? = some (a, .inl (cA, n, .inr (.inl f)))) (ht : tys[t0]? = some (cA, .long)) {i : Int32} {x : Int64} (hout : ¬ vp_in i n) (hdg : decode cc pc = .ok (.lastore, 1))
    (k : ∀ tx : String, tx = (toString "Index " ++ toString i ++ toString " out of bounds for length " ++ toString n : String) → vx_Note p l e R s m args below meth c H locs cells slots Q (F0 m pc ls rest) "java/lang/ArrayIndexOutOfBoundsException" tx) : W p l e R s m args below meth c H locs cells slots Q (F0 m pc ls (.long x :: .int i :: .ref a :: rest)) := by
  intro T hT X
  obtain ⟨t, st, q⟩ := k _ rfl T hT X
  refine ⟨t, ?_, q⟩
  have h1 := X.lastoreOut hexec (by rw [hT]; exact hP q0 _ ha) ((hK.2 t0 _ ht).1 n (fun j => .long (f j))) (j := i) (by show (i < 0 ∨ (arrV _ _ _).slots.size ≤ _); rw [arrV_size]; exact Classical.byContradiction hout) (g := F0 m pc ls (.long x :: .int i :: .ref a :: rest)) rfl (rest := rest) rfl (by rw [hb]; exact hdg) t
  simp only [arrV_size] at h1
  exact h1 st
theorem vx_faldZ {D : va_G} {cl : List vw_C} {ws : va_W} {tys : List (ClassId × FieldType)} {a : Nat} (hexec : p.tables.exec = Jvm.exec) (hb : c.code = cc) (hK : va_K D cl tys s) (hP : va_P D cl ws H) (q0 t0 : Nat) {cA : ClassId} {n : Nat} {f : Nat → UInt32} (ha : ws[q0]? = some (a, .inl (cA, n, .inr (.inr (.inl f))))) (ht : tys[t0]? = some (cA, .float)) {i : Int32} (hout : ¬ vp_in i n) (hdg : decode cc pc = .ok (.faload, 1))
    (k : ∀ tx : String, tx = (toString "Index " ++ toString i ++ toString " out of bounds for length " ++ toString n : String) → vx_Note p l e R s m args below meth c H locs cells slots Q (F0 m pc ls rest) "java/lang/ArrayIndexOutOfBoundsException" tx) : W p l e R s m args below meth c H locs cells slots Q (F0 m pc ls (.int i :: .ref a :: rest)) := by
  intro T hT X
  obtain ⟨t, st, q⟩ := k _ rfl T hT X
  refine ⟨t, ?_, q⟩
  have h1 := X.faloadOut hexec (by rw [hT]; exact hP q0 _ ha) ((hK.2 t0 _ ht).1 n (fun j => .float (f j))) (j := i) (by show (i < 0 ∨ (arrV _ _ _).slots.size ≤ _); rw [arrV_size]; exact Classical.byContradiction hout) (g := F0 m pc ls (.int i :: .ref a :: rest)) rfl (rest := rest) rfl (by rw [hb]; exact hdg) t
  simp only [arrV_size] at h1
  exact h1 st
theorem vx_fastZ {D : va_G} {cl : List vw_C} {ws : va_W} {tys : List (ClassId × FieldType)} {a : Nat} (hexec : p.tables.exec = Jvm.exec) (hb : c.code = cc) (hK : va_K D cl tys s) (hP : va_P D cl ws H) (q0 t0 : Nat) {cA : ClassId} {n : Nat} {f : Nat → UInt32} (ha : ws[q0]? = some (a, .inl (cA, n, .inr (.inr (.inl f))))) (ht : tys[t0]? = some (cA, .float)) {i : Int32} {x : UInt32} (hout : ¬ vp_in i n) (hdg : decode cc pc = .ok (.fastore, 1))
    (k : ∀ tx : String, tx = (toString "Index " ++ toString i ++ toString " out of bounds for length " ++ toString n : String) → vx_Note p l e R s m args below meth c H locs cells slots Q (F0 m pc ls rest) "java/lang/ArrayIndexOutOfBoundsException" tx) : W p l e R s m args below meth c H locs cells slots Q (F0 m pc ls (.float x :: .int i :: .ref a :: rest)) := by
  intro T hT X
  obtain ⟨t, st, q⟩ := k _ rfl T hT X
  refine ⟨t, ?_, q⟩
  have h1 := X.fastoreOut hexec (by rw [hT]; exact hP q0 _ ha) ((hK.2 t0 _ ht).1 n (fun j => .float (f j))) (j := i) (by show (i < 0 ∨ (arrV _ _ _).slots.size ≤ _); rw [arrV_size]; exact Classical.byContradiction hout) (g := F0 m pc ls (.float x :: .int i :: .ref a :: rest)) rfl (rest := rest) rfl (by rw [hb]; exact hdg) t
  simp only [arrV_size] at h1
  exact h1 st
theorem vx_daldZ {D : va_G} {cl : List vw_C} {ws : va_W} {tys : List (ClassId × FieldType)} {a : Nat} (hexec : p.tables.exec = Jvm.exec) (hb : c.code = cc) (hK : va_K D cl tys s) (hP : va_P D cl ws H) (q0 t0 : Nat) {cA : ClassId} {n : Nat} {f : Nat → UInt64} (ha : ws[q0]? = some (a, .inl (cA, n, .inr (.inr (.inr (.inl f)))))) (ht : tys[t0]? = some (cA, .double)) {i : Int32} (hout : ¬ vp_in i n) (hdg : decode cc pc = .ok (.daload, 1))
    (k : ∀ tx : String, tx = (toString "Index " ++ toString i ++ toString " out of bounds for length " ++ toString n : String) → vx_Note p l e R s m args below meth c H locs cells slots Q (F0 m pc ls rest) "java/lang/ArrayIndexOutOfBoundsException" tx) : W p l e R s m args below meth c H locs cells slots Q (F0 m pc ls (.int i :: .ref a :: rest)) := by
  intro T hT X
  obtain ⟨t, st, q⟩ := k _ rfl T hT X
  refine ⟨t, ?_, q⟩
  have h1 := X.daloadOut hexec (by rw [hT]; exact hP q0 _ ha) ((hK.2 t0 _ ht).1 n (fun j => .double (f j))) (j := i) (by show (i < 0 ∨ (arrV _ _ _).slots.size ≤ _); rw [arrV_size]; exact Classical.byContradiction hout) (g := F0 m pc ls (.int i :: .ref a :: rest)) rfl (rest := rest) rfl (by rw [hb]; exact hdg) t
  simp only [arrV_size] at h1
  exact h1 st
theorem vx_dastZ {D : va_G} {cl : List vw_C} {ws : va_W} {tys : List (ClassId × FieldType)} {a : Nat} (hexec : p.tables.exec = Jvm.exec) (hb : c.code = cc) (hK : va_K D cl tys s) (hP : va_P D cl ws H) (q0 t0 : Nat) {cA : ClassId} {n : Nat} {f : Nat → UInt64} (ha : ws[q0]? = some (a, .inl (cA, n, .inr (.inr (.inr (.inl f)))))) (ht : tys[t0]? = some (cA, .double)) {i : Int32} {x : UInt64} (hout : ¬ vp_in i n) (hdg : decode cc pc = .ok (.dastore, 1))
    (k : ∀ tx : String, tx = (toString "Index " ++ toString i ++ toString " out of bounds for length " ++ toString n : String) → vx_Note p l e R s m args below meth c H locs cells slots Q (F0 m pc ls rest) "java/lang/ArrayIndexOutOfBoundsException" tx) : W p l e R s m args below meth c H locs cells slots Q (F0 m pc ls (.double x :: .int i :: .ref a :: rest)) := by
  intro T hT X
  obtain ⟨t, st, q⟩ := k _ rfl T hT X
  refine ⟨t, ?_, q⟩
  have h1 := X.dastoreOut hexec (by rw [hT]; exact hP q0 _ ha) ((hK.2 t0 _ ht).1 n (fun j => .double (f j))) (j := i) (by show (i < 0 ∨ (arrV _ _ _).slots.size ≤ _); rw [arrV_size]; exact Classical.byContradiction hout) (g := F0 m pc ls (.double x :: .int i :: .ref a :: rest)) rfl (rest := rest) rfl (by rw [hb]; exact hdg) t
  simp only [arrV_size] at h1
  exact h1 st
theorem vx_arraylengthN (hexec : p.tables.exec = Jvm.exec) (hb : c.code = cc) (hdg : decode cc pc = .ok (.arraylength, 1)) (k : vx_NoteN p l e R s m args below meth c H locs cells slots Q (F0 m pc ls rest)) : W p l e R s m args below meth c H locs cells slots Q (F0 m pc ls (.null :: rest)) := by
  intro T hT X
  obtain ⟨t, st, q⟩ := k T hT X
  exact ⟨t, X.arraylengthNull hexec (g := F0 m pc ls (.null :: rest)) rfl (rest := rest) rfl (by rw [hb]; exact hdg) t st, q⟩
theorem vx_ialoadN (hexec : p.tables.exec = Jvm.exec) (hb : c.code = cc) {i : Int32} (hdg : decode cc pc = .ok (.iaload, 1)) (k : vx_NoteN p l e R s m args below meth c H locs cells slots Q (F0 m pc ls rest)) : W p l e R s m args below meth c H locs cells slots Q (F0 m pc ls (.int i :: .null :: rest)) := by
  intro T hT X
  obtain ⟨t, st, q⟩ := k T hT X
  exact ⟨t, X.ialoadNull hexec (g := F0 m pc ls (.int i :: .null :: rest)) rfl (rest := rest) rfl (by rw [hb]; exact hdg) t st, q⟩
theorem vx_laloadN (hexec : p.tables.exec = Jvm.exec) (hb : c.code = cc) {i : Int32} (hdg : decode cc pc = .ok (.laload, 1)) (k : vx_NoteN p l e R s m args below meth c H locs cells slots Q (F0 m pc ls rest)) : W p l e R s m args below meth c H locs cells slots Q (F0 m pc ls (.int i :: .null :: rest)) := by
  intro T hT X
  obtain ⟨t, st, q⟩ := k T hT X
  exact ⟨t, X.laloadNull hexec (g := F0 m pc ls (.int i :: .null :: rest)) rfl (rest := rest) rfl (by rw [hb]; exact hdg) t st, q⟩
theorem vx_faloadN (hexec : p.tables.exec = Jvm.exec) (hb : c.code = cc) {i : Int32} (hdg : decode cc pc = .ok (.faload, 1)) (k : vx_NoteN p l e R s m args below meth c H locs cells slots Q (F0 m pc ls rest)) : W p l e R s m args below meth c H locs cells slots Q (F0 m pc ls (.int i :: .null :: rest)) := by
  intro T hT X
  obtain ⟨t, st, q⟩ := k T hT X
  exact ⟨t, X.faloadNull hexec (g := F0 m pc ls (.int i :: .null :: rest)) rfl (rest := rest) rfl (by rw [hb]; exact hdg) t st, q⟩
theorem vx_daloadN (hexec : p.tables.exec = Jvm.exec) (hb : c.code = cc) {i : Int32} (hdg : decode cc pc = .ok (.daload, 1)) (k : vx_NoteN p l e R s m args below meth c H locs cells slots Q (F0 m pc ls rest)) : W p l e R s m args below meth c H locs cells slots Q (F0 m pc ls (.int i :: .null :: rest)) := by
  intro T hT X
  obtain ⟨t, st, q⟩ := k T hT X
  exact ⟨t, X.daloadNull hexec (g := F0 m pc ls (.int i :: .null :: rest)) rfl (rest := rest) rfl (by rw [hb]; exact hdg) t st, q⟩
theorem vx_aaloadN (hexec : p.tables.exec = Jvm.exec) (hb : c.code = cc) {i : Int32} (hdg : decode cc pc = .ok (.aaload, 1)) (k : vx_NoteN p l e R s m args below meth c H locs cells slots Q (F0 m pc ls rest)) : W p l e R s m args below meth c H locs cells slots Q (F0 m pc ls (.int i :: .null :: rest)) := by
  intro T hT X
  obtain ⟨t, st, q⟩ := k T hT X
  exact ⟨t, X.aaloadNull hexec (g := F0 m pc ls (.int i :: .null :: rest)) rfl (rest := rest) rfl (by rw [hb]; exact hdg) t st, q⟩
theorem vx_baloadN (hexec : p.tables.exec = Jvm.exec) (hb : c.code = cc) {i : Int32} (hdg : decode cc pc = .ok (.baload, 1)) (k : vx_NoteN p l e R s m args below meth c H locs cells slots Q (F0 m pc ls rest)) : W p l e R s m args below meth c H locs cells slots Q (F0 m pc ls (.int i :: .null :: rest)) := by
  intro T hT X
  obtain ⟨t, st, q⟩ := k T hT X
  exact ⟨t, X.baloadNull hexec (g := F0 m pc ls (.int i :: .null :: rest)) rfl (rest := rest) rfl (by rw [hb]; exact hdg) t st, q⟩
theorem vx_caloadN (hexec : p.tables.exec = Jvm.exec) (hb : c.code = cc) {i : Int32} (hdg : decode cc pc = .ok (.caload, 1)) (k : vx_NoteN p l e R s m args below meth c H locs cells slots Q (F0 m pc ls rest)) : W p l e R s m args below meth c H locs cells slots Q (F0 m pc ls (.int i :: .null :: rest)) := by
  intro T hT X
  obtain ⟨t, st, q⟩ := k T hT X
  exact ⟨t, X.caloadNull hexec (g := F0 m pc ls (.int i :: .null :: rest)) rfl (rest := rest) rfl (by rw [hb]; exact hdg) t st, q⟩
theorem vx_saloadN (hexec : p.tables.exec = Jvm.exec) (hb : c.code = cc) {i : Int32} (hdg : decode cc pc = .ok (.saload, 1)) (k : vx_NoteN p l e R s m args below meth c H locs cells slots Q (F0 m pc ls rest)) : W p l e R s m args below meth c H locs cells slots Q (F0 m pc ls (.int i :: .null :: rest)) := by
  intro T hT X
  obtain ⟨t, st, q⟩ := k T hT X
  exact ⟨t, X.saloadNull hexec (g := F0 m pc ls (.int i :: .null :: rest)) rfl (rest := rest) rfl (by rw [hb]; exact hdg) t st, q⟩
theorem vx_iastoreN (hexec : p.tables.exec = Jvm.exec) (hb : c.code = cc) {x : Int32} {i : Int32} (hdg : decode cc pc = .ok (.iastore, 1)) (k : vx_NoteN p l e R s m args below meth c H locs cells slots Q (F0 m pc ls rest)) : W p l e R s m args below meth c H locs cells slots Q (F0 m pc ls (.int x :: .int i :: .null :: rest)) := by
  intro T hT X
  obtain ⟨t, st, q⟩ := k T hT X
  exact ⟨t, X.iastoreNull hexec (g := F0 m pc ls (.int x :: .int i :: .null :: rest)) rfl (rest := rest) rfl (by rw [hb]; exact hdg) t st, q⟩
theorem vx_lastoreN (hexec : p.tables.exec = Jvm.exec) (hb : c.code = cc) {x : Int64} {i : Int32} (hdg : decode cc pc = .ok (.lastore, 1)) (k : vx_NoteN p l e R s m args below meth c H locs cells slots Q (F0 m pc ls rest)) : W p l e R s m args below meth c H locs cells slots Q (F0 m pc ls (.long x :: .int i :: .null :: rest)) := by
  intro T hT X
  obtain ⟨t, st, q⟩ := k T hT X
  exact ⟨t, X.lastoreNull hexec (g := F0 m pc ls (.long x :: .int i :: .null :: rest)) rfl (rest := rest) rfl (by rw [hb]; exact hdg) t st, q⟩
theorem vx_fastoreN (hexec : p.tables.exec = Jvm.exec) (hb : c.code = cc) {x : UInt32} {i : Int32} (hdg : decode cc pc = .ok (.fastore, 1)) (k : vx_NoteN p l e R s m args below meth c H locs cells slots Q (F0 m pc ls rest)) : W p l e R s m args below meth c H locs cells slots Q (F0 m pc ls (.float x :: .int i :: .null :: rest)) := by
  intro T hT X
  obtain ⟨t, st, q⟩ := k T hT X
  exact ⟨t, X.fastoreNull hexec (g := F0 m pc ls (.float x :: .int i :: .null :: rest)) rfl (rest := rest) rfl (by rw [hb]; exact hdg) t st, q⟩
theorem vx_dastoreN (hexec : p.tables.exec = Jvm.exec) (hb : c.code = cc) {x : UInt64} {i : Int32} (hdg : decode cc pc = .ok (.dastore, 1)) (k : vx_NoteN p l e R s m args below meth c H locs cells slots Q (F0 m pc ls rest)) : W p l e R s m args below meth c H locs cells slots Q (F0 m pc ls (.double x :: .int i :: .null :: rest)) := by
  intro T hT X
  obtain ⟨t, st, q⟩ := k T hT X
  exact ⟨t, X.dastoreNull hexec (g := F0 m pc ls (.double x :: .int i :: .null :: rest)) rfl (rest := rest) rfl (by rw [hb]; exact hdg) t st, q⟩
theorem vx_bastoreN (hexec : p.tables.exec = Jvm.exec) (hb : c.code = cc) {x : Int32} {i : Int32} (hdg : decode cc pc = .ok (.bastore, 1)) (k : vx_NoteN p l e R s m args below meth c H locs cells slots Q (F0 m pc ls rest)) : W p l e R s m args below meth c H locs cells slots Q (F0 m pc ls (.int x :: .int i :: .null :: rest)) := by
  intro T hT X
  obtain ⟨t, st, q⟩ := k T hT X
  exact ⟨t, X.bastoreNull hexec (g := F0 m pc ls (.int x :: .int i :: .null :: rest)) rfl (rest := rest) rfl (by rw [hb]; exact hdg) t st, q⟩
theorem vx_castoreN (hexec : p.tables.exec = Jvm.exec) (hb : c.code = cc) {x : Int32} {i : Int32} (hdg : decode cc pc = .ok (.castore, 1)) (k : vx_NoteN p l e R s m args below meth c H locs cells slots Q (F0 m pc ls rest)) : W p l e R s m args below meth c H locs cells slots Q (F0 m pc ls (.int x :: .int i :: .null :: rest)) := by
  intro T hT X
  obtain ⟨t, st, q⟩ := k T hT X
  exact ⟨t, X.castoreNull hexec (g := F0 m pc ls (.int x :: .int i :: .null :: rest)) rfl (rest := rest) rfl (by rw [hb]; exact hdg) t st, q⟩
theorem vx_sastoreN (hexec : p.tables.exec = Jvm.exec) (hb : c.code = cc) {x : Int32} {i : Int32} (hdg : decode cc pc = .ok (.sastore, 1)) (k : vx_NoteN p l e R s m args below meth c H locs cells slots Q (F0 m pc ls rest)) : W p l e R s m args below meth c H locs cells slots Q (F0 m pc ls (.int x :: .int i :: .null :: rest)) := by
  intro T hT X
  obtain ⟨t, st, q⟩ := k T hT X
  exact ⟨t, X.sastoreNull hexec (g := F0 m pc ls (.int x :: .int i :: .null :: rest)) rfl (rest := rest) rfl (by rw [hb]; exact hdg) t st, q⟩
theorem vx_invokeN {own C : String} {index maxL : Nat} {y : MethodName} {bytes : ByteArray} {ret : Option FieldType} (hexec : p.tables.exec = Jvm.exec) (hb : c.code = cc) (hown : s.vm.findClass own = some m.cls) (hlink : (Cond.methodLink own index y).before args s = true) (hinst : (Cond.instanceMethod y).before args s = true) (hcode : (Cond.code y bytes maxL ret).before args s = true) (hsel : (Cond.selects C y y).before args s = true)
    (hx : y.cls ≠ "java/lang/invoke/MethodHandle" ∧ y.cls ≠ "java/lang/invoke/VarHandle") {As : List Value} (hlen : (parseMethodDescriptor y.desc).map (fun d => d.parameters.length) = some As.length) (hdg : decode cc pc = .ok (.invokevirtual index, 3))
    (k : vx_NoteN p l e R s m args below meth c H locs cells slots Q (F0 m pc ls rest)) {st0 : List Value} (hst : st0 = As.reverse ++ .null :: rest) : W p l e R s m args below meth c H locs cells slots Q (F0 m pc ls st0) := by
  intro T hT X
  obtain ⟨r0, r, hn, hrm, hstR, hsigR⟩ := va_Decl.of hinst hcode
  obtain ⟨c2, r2, m2, q1, q2, q3, q4, kP, hkP, hkPi⟩ := Cond.selects_spec hsel
  cases hn.symm.trans q3
  have hl9 : As.length = r.sig.parameters.length := by
    rw [hsigR] at hlen
    exact (Option.some.inj hlen).symm
  obtain ⟨vm', X1, st1⟩ := X.invokevirtualNull hexec hown hlink hn hrm hstR hkP hkPi hx (g := F0 m pc ls st0) rfl (argsL := As) (rest := rest) hl9 hst (by rw [hb]; exact hdg)
  obtain ⟨t, st, q⟩ := k (T.setVm vm') hT X1
  exact ⟨t, st1 t st, q⟩
theorem vx_newarrayZ {atype : ArrayType} (hexec : p.tables.exec = Jvm.exec) (hb : c.code = cc) {n : Int32} (h0 : n < 0) (hdg : decode cc pc = .ok (.newarray atype, 2)) (k : ∀ tx : String, tx = toString n → vx_Note p l e R s m args below meth c H locs cells slots Q (F0 m pc ls rest) "java/lang/NegativeArraySizeException" tx) : W p l e R s m args below meth c H locs cells slots Q (F0 m pc ls (.int n :: rest)) := by
  intro T hT X
  obtain ⟨t, st, q⟩ := k _ rfl T hT X
  exact ⟨t, X.newarrayNegative hexec (g := F0 m pc ls (.int n :: rest)) rfl h0 (rest := rest) rfl (by rw [hb]; exact hdg) t st, q⟩
end
end VXM
/-! ===== END ===== -/
/-! ===== BEGIN an exception as an object: made, kept, thrown later (no traces kept) ===== -/
section VXK
variable {p : Program} {l : Launch} {e : Env} {R : Room} {s : State} {m₀ : MethodId} {args : Array Value} {below : List Frame} {meth : Method} {c : Code} {W : State} {locs : List Loc} {cells slots : Nat}
set_option maxHeartbeats 1000000 in
theorem vx_ctorMadeS (X : Stand p l e R s m₀ args below meth c W locs cells slots) (hexec : p.tables.exec = Jvm.exec) (htr : e.platform.stackTraces = false) {own cls : String} {names : List String} {ic : Nat}
    (hown : s.vm.findClass own = some m₀.cls) (hcls : Bundle.fit cls = true) (hnames : ∀ n ∈ names, Bundle.fit n = true)
    (h : ∀ a ∈ Bundle.ownAtoms own ic cls names, a.before args s = true)
    (hlocs : ∀ x ∈ locs, ∀ cell, s.heap[x.base]? = some cell → cell.vm.isStatics = false)
    {a : Addr} {cX : ClassId} {kX : Class} (hfoundX : s.vm.findClass cls = some cX) (hkX : s.vm.classes[cX]? = some kX) (hcell : W.heap[a]? = some (freshCell cX kX)) (hnew : s.heap.size ≤ a)
    {msg : Value} (hmsg : msg.isRef = true)
    {g : JFrame} (hg : g.method = m₀) (hsize : g.locals.size = c.maxLocals) {rest : List Value} (hstack : g.stack = msg :: .ref a :: .ref a :: rest)
    (hd6 : decode c.code g.pc = .ok (.invokespecial ic, 3))
    (hRframes : names.length + 3 < R.frames) (hRlocals : 2 * g.monitorRoom + ((Value.ref a :: rest).map fun v => v.category).sum + (13 * (names.length + 1) + 42) ≤ R.locals) :
    ∃ (V : State) (ce : Cell) (L : List Loc), Stand p l e R s m₀ args below meth c (V.setCell a ce) (locs ++ L) cells slots ∧ (∀ y ∈ L, y.base = a) ∧ a < V.heap.size ∧ ce.cls = cX ∧ ce.vm = .none ∧
      ∀ target, Steps p.tables e below ((V.setCell a ce).setTop { g with stack := .ref a :: rest, pc := g.pc + 3 }) target → Steps p.tables e below (W.setTop g) target := by
  have howns : e.platform.frameOwnsMonitors = true := by rw [X.admits.platform]
  have hfin : e.platform.finalization = false := by rw [X.admits.platform]
  have hpl : e.platform.magicAccessors = ({} : Platform).magicAccessors := by rw [X.admits.platform]
  have a' : ∀ x, x ∈ Bundle.ownAtoms own ic cls names → x.holds args s none s [] = true := fun x hx => h x hx
  obtain ⟨T, Z0, L, -, Y⟩ := ThrowableC.of_atoms (args := args) howns hfin hpl (fun x hx => h x (by simp [Bundle.ownAtoms, hx]))
  obtain ⟨Z, M, LZ, LM, hnZ⟩ := Init0T.ofS_atoms (args := args) hpl L Y (fun x hx => h x (by simp [Bundle.ownAtoms, hx]))
  obtain ⟨P1, Ps, hlen, L1, hL, hP1m, hlink1, hlink⟩ := Bundle.chainS (args := args) hpl hnZ names cls hcls hnames (fun x hx => h x (by simp [Bundle.ownAtoms, hx]))
  have hfound : s.vm.findClass cls = some P1.m.cls := findClass_of_methodNamed hP1m
  cases Option.some.inj (hfoundX.symm.trans hfound)
  obtain ⟨c1, kX', hc1, hk, hord, -, -, hn6⟩ := Cond.instantiable_spec (a' (.instantiable cls 6) (by simp [Bundle.ownAtoms]))
  cases Option.some.inj (hc1.symm.trans hfound)
  cases Option.some.inj (hkX.symm.trans hk)
  have hsel0 : selectMethod e.platform s.vm P1.m.cls T.fill0 = .method T.fill0 := by
    obtain ⟨c2, r2, m2, q1, q2, q3, q4, -⟩ := Cond.selects_spec (a' (.selects cls Bundle.tFill0 Bundle.tFill0) (by simp [Bundle.ownAtoms]))
    cases Option.some.inj (q1.symm.trans hfound)
    cases Option.some.inj (q2.symm.trans (State.methodFound?_of_named Y.fill0 (by decide)))
    cases Option.some.inj (q3.symm.trans Y.fill0)
    rw [Launch.admits_selectMethod X.admits]; exact q4
  have hselF : selectMethod e.platform s.vm P1.m.cls T.fill = .method T.fill := by
    obtain ⟨c2, r2, m2, q1, q2, q3, q4, -⟩ := Cond.selects_spec (a' (.selects cls Bundle.tFill Bundle.tFill) (by simp [Bundle.ownAtoms]))
    cases Option.some.inj (q1.symm.trans hfound)
    cases Option.some.inj (q2.symm.trans (State.methodFound?_of_named Y.fill (by decide)))
    cases Option.some.inj (q3.symm.trans Y.fill)
    rw [Launch.admits_selectMethod X.admits]; exact q4
  obtain ⟨cellS0, hcS0, hiss⟩ := Y.statics
  obtain ⟨u0, hu0⟩ := Cond.staticRefV Y.unassigned L.unassignedStatic L.statics hcS0 hiss (a' (.isRef (.static Bundle.tN "UNASSIGNED_STACK" Bundle.steD)) (by simp [Bundle.ownAtoms]))
  obtain ⟨sen, hsen⟩ := Cond.staticRefV Y.sentinel L.sentinelStatic L.statics hcS0 hiss (a' (.isRef (.static Bundle.tN "SUPPRESSED_SENTINEL" Bundle.listD)) (by simp [Bundle.ownAtoms]))
  obtain ⟨ci198, i198, fB, hk198, hg198, ha198, hsB, -, hnB, htB, hffB⟩ := Cond.ownField (t := .object "java/lang/Object") Y.found L.cls (by decide +kernel) (a' (.fieldLink Bundle.tN 198 Bundle.tN "backtrace" "Ljava/lang/Object;") (by simp [Bundle.ownAtoms])) (a' (.lays Bundle.tN Bundle.tN "backtrace" "Ljava/lang/Object;") (by simp [Bundle.ownAtoms])) e.platform hpl
  obtain ⟨cellS, hcS', heS, -, hkeep⟩ := X.same.2.2.2.2.2 T.aS cellS0 hcS0
  have hcellS : W.heap[T.aS]? = some cellS := hcS'
  have hout' : ∀ i, (⟨T.aS, i⟩ : Loc) ∉ locs := fun i hmem => by
    have := hlocs _ hmem cellS0 hcS0
    rw [hiss] at this; cases this
  have hknownS : cellS.vm ≠ .unknown := by
    rw [heS]; intro hu
    rw [show cellS0.vm = .unknown from hu] at hiss
    cases hiss
  have hneS : T.aS ≠ a := Nat.ne_of_lt (Nat.lt_of_lt_of_le (Array.getElem?_eq_some_iff.mp hcS0).1 hnew)
  obtain ⟨iM, hffM⟩ := Y.msg
  obtain ⟨tyC, dC, hdC, hdnC⟩ := Cond.laysAt hfound hk Y.cause (a' (.lays cls Bundle.tN "cause" "Ljava/lang/Throwable;") (by simp [Bundle.ownAtoms]))
  obtain ⟨tyS, dS, hdS, hdnS⟩ := Cond.laysAt hfound hk Y.stack (a' (.lays cls Bundle.tN "stackTrace" Bundle.steD) (by simp [Bundle.ownAtoms]))
  obtain ⟨tyP, dP, hdP, hdnP⟩ := Cond.laysAt hfound hk Y.supp (a' (.lays cls Bundle.tN "suppressedExceptions" Bundle.listD) (by simp [Bundle.ownAtoms]))
  obtain ⟨tyM, dM, hdM, hdnM⟩ := Cond.laysAt hfound hk hffM (a' (.lays cls Bundle.tN "detailMessage" "Ljava/lang/String;") (by simp [Bundle.ownAtoms]))
  obtain ⟨tyB, dB, hdB, hdnB⟩ := Cond.laysAt hfound hk hffB (a' (.lays cls Bundle.tN "backtrace" "Ljava/lang/Object;") (by simp [Bundle.ownAtoms]))
  have bC := Cond.laysApart hdB hdC hdnB hdnC (by rw [hnB, Y.causeName]; decide)
  have bS := Cond.laysApart hdB hdS hdnB hdnS (by rw [hnB, Y.stackName]; decide)
  have bP := Cond.laysApart hdB hdP hdnB hdnP (by rw [hnB, Y.suppName]; decide)
  have hskip : SkipFacts T e.platform s (fun u => u) u0 ((preparedCellV T.toThrowableT (freshCell P1.m.cls kX) a u0 sen).withEntry W.cur) :=
    ⟨{ ci198 := ci198, i198 := i198, fBack := fB }, ⟨hk198, hg198, ha198, hsB⟩, by
      have := fresh_default (c := P1.m.cls) tyB
      rw [htB] at this
      simpa [preparedCellV, Cell.setSlot, Cell.withEntry, Array.getElem?_setIfInBounds, bC, bS, bP, bC.symm, bS.symm, bP.symm, defaultValue] using this, fun _ _ => rfl⟩
  obtain ⟨tm, methC, cdC, kC, vm₁, hnC, -, -, -, -, -, -, -, hW₁, st1⟩ := Steps.initColdS (tb := p.tables) (e := e) (below := below) (s := s) (U := W) X.here hexec X.warmed hpl hown (t := Bundle.initS cls) rfl rfl (Bundle.fit_spec hcls).2
    (a' (.methodLink own ic (Bundle.initS cls)) (by simp [Bundle.ownAtoms])) (h (.instanceMethod (Bundle.initS cls)) (by cases names <;> simp [Bundle.ownAtoms, Bundle.chainSAtoms, Bundle.passSAtoms])) (bytes := Bundle.six) (maxL := 2) (h (.code (Bundle.initS cls) Bundle.six 2 none) (by cases names <;> simp [Bundle.ownAtoms, Bundle.chainSAtoms, Bundle.passSAtoms]))
    (f := g) hg (a := a) (msg := msg) (rest := .ref a :: rest) hstack hd6
  cases Option.some.inj (hnC.symm.trans hP1m)
  have X₁ := X.noted hW₁
  obtain ⟨vm₂, X₂, st2⟩ := X₁.ctorMessageOffV hexec (g := { g with stack := .ref a :: rest }) hg hsize T L Z LZ M LM (P1 :: Ps)
    (fun P hP => by rcases List.mem_cons.mp hP with rfl | hP; exact L1; exact hL P hP) ⟨hlink1, hlink⟩ (u0 := u0) (sen := sen) (self := a) hmsg (cell := freshCell P1.m.cls kX) (cellS := cellS)
    hcell (fun _ => by simp) (by simp) rfl rfl hsel0 hselF hcellS hneS hknownS (by rw [hkeep _ (hout' _)]; exact hu0) (by rw [hkeep _ (hout' _)]; exact hsen)
    (Takes.of_laid hk hord tyC (by rw [Y.causeType]; rfl)) (Takes.of_laid hk hord tyS (by rw [Y.stackType]; exact fits_refV_array _ u0)) (Takes.of_laid hk hord tyP (by rw [Y.suppType]; exact fits_refV_object _ sen))
    (Takes.of_laid hk hord tyM (by rw [Y.msgType]; exact fits_refV_object _ ⟨msg, hmsg⟩)) Y.objLocals hskip htr [] hd6
    (by simp only [List.length_cons, hlen]; omega) (by simp only [List.length_cons, hlen]; exact hRlocals)
  have hlt : a < ((W.setVm vm₁).setVm vm₂).heap.size := (Array.getElem?_eq_some_iff.mp hcell).1
  refine ⟨(W.setVm vm₁).setVm vm₂, _, _, X₂, fun y hy => ?_, hlt, rfl, rfl, fun target hwalk => st1 _ (fun acts => ?_)⟩
  · simp only [List.mem_cons, List.not_mem_nil, or_false] at hy
    rcases hy with rfl | rfl | rfl | rfl | rfl <;> rfl
  · rw [doInvoke_state]
    exact st2 _ hwalk
set_option maxHeartbeats 1000000 in
theorem vx_ctorMade0 (X : Stand p l e R s m₀ args below meth c W locs cells slots) (hexec : p.tables.exec = Jvm.exec) (htr : e.platform.stackTraces = false) {own cls : String} {names : List String} {ic : Nat}
    (hown : s.vm.findClass own = some m₀.cls) (hcls : Bundle.fit cls = true) (hnames : ∀ n ∈ names, Bundle.fit n = true)
    (h : ∀ a ∈ Bundle.ownAtoms0 own ic cls names, a.before args s = true)
    (hlocs : ∀ x ∈ locs, ∀ cell, s.heap[x.base]? = some cell → cell.vm.isStatics = false)
    {a : Addr} {cX : ClassId} {kX : Class} (hfoundX : s.vm.findClass cls = some cX) (hkX : s.vm.classes[cX]? = some kX) (hcell : W.heap[a]? = some (freshCell cX kX)) (hnew : s.heap.size ≤ a)
    {g : JFrame} (hg : g.method = m₀) (hsize : g.locals.size = c.maxLocals) {rest : List Value} (hstack : g.stack = .ref a :: .ref a :: rest)
    (hd6 : decode c.code g.pc = .ok (.invokespecial ic, 3))
    (hRframes : names.length + 3 < R.frames) (hRlocals : 2 * g.monitorRoom + ((Value.ref a :: rest).map fun v => v.category).sum + (13 * (names.length + 1) + 41) ≤ R.locals) :
    ∃ (V : State) (ce : Cell) (L : List Loc), Stand p l e R s m₀ args below meth c (V.setCell a ce) (locs ++ L) cells slots ∧ (∀ y ∈ L, y.base = a) ∧ a < V.heap.size ∧ ce.cls = cX ∧ ce.vm = .none ∧
      ∀ target, Steps p.tables e below ((V.setCell a ce).setTop { g with stack := .ref a :: rest, pc := g.pc + 3 }) target → Steps p.tables e below (W.setTop g) target := by
  have howns : e.platform.frameOwnsMonitors = true := by rw [X.admits.platform]
  have hfin : e.platform.finalization = false := by rw [X.admits.platform]
  have hpl : e.platform.magicAccessors = ({} : Platform).magicAccessors := by rw [X.admits.platform]
  have a' : ∀ x, x ∈ Bundle.ownAtoms0 own ic cls names → x.holds args s none s [] = true := fun x hx => h x hx
  obtain ⟨T, Z, L, LZ, Y⟩ := ThrowableC.of_atoms (args := args) howns hfin hpl (fun x hx => h x (by simp [Bundle.ownAtoms0, hx]))
  obtain ⟨P1, Ps, hlen, L1, hL, hP1m, hlink1, hlink⟩ := Bundle.chain0 (args := args) hpl Y.init0 names cls hcls hnames (fun x hx => h x (by simp [Bundle.ownAtoms0, hx]))
  have hfound : s.vm.findClass cls = some P1.m.cls := findClass_of_methodNamed hP1m
  cases Option.some.inj (hfoundX.symm.trans hfound)
  obtain ⟨c1, kX', hc1, hk, hord, -, -, hn6⟩ := Cond.instantiable_spec (a' (.instantiable cls 6) (by simp [Bundle.ownAtoms0]))
  cases Option.some.inj (hc1.symm.trans hfound)
  cases Option.some.inj (hkX.symm.trans hk)
  have hsel0 : selectMethod e.platform s.vm P1.m.cls T.fill0 = .method T.fill0 := by
    obtain ⟨c2, r2, m2, q1, q2, q3, q4, -⟩ := Cond.selects_spec (a' (.selects cls Bundle.tFill0 Bundle.tFill0) (by simp [Bundle.ownAtoms0]))
    cases Option.some.inj (q1.symm.trans hfound)
    cases Option.some.inj (q2.symm.trans (State.methodFound?_of_named Y.fill0 (by decide)))
    cases Option.some.inj (q3.symm.trans Y.fill0)
    rw [Launch.admits_selectMethod X.admits]; exact q4
  have hselF : selectMethod e.platform s.vm P1.m.cls T.fill = .method T.fill := by
    obtain ⟨c2, r2, m2, q1, q2, q3, q4, -⟩ := Cond.selects_spec (a' (.selects cls Bundle.tFill Bundle.tFill) (by simp [Bundle.ownAtoms0]))
    cases Option.some.inj (q1.symm.trans hfound)
    cases Option.some.inj (q2.symm.trans (State.methodFound?_of_named Y.fill (by decide)))
    cases Option.some.inj (q3.symm.trans Y.fill)
    rw [Launch.admits_selectMethod X.admits]; exact q4
  obtain ⟨cellS0, hcS0, hiss⟩ := Y.statics
  obtain ⟨u0, hu0⟩ := Cond.staticRefV Y.unassigned L.unassignedStatic L.statics hcS0 hiss (a' (.isRef (.static Bundle.tN "UNASSIGNED_STACK" Bundle.steD)) (by simp [Bundle.ownAtoms0]))
  obtain ⟨sen, hsen⟩ := Cond.staticRefV Y.sentinel L.sentinelStatic L.statics hcS0 hiss (a' (.isRef (.static Bundle.tN "SUPPRESSED_SENTINEL" Bundle.listD)) (by simp [Bundle.ownAtoms0]))
  obtain ⟨ci198, i198, fB, hk198, hg198, ha198, hsB, -, hnB, htB, hffB⟩ := Cond.ownField (t := .object "java/lang/Object") Y.found L.cls (by decide +kernel) (a' (.fieldLink Bundle.tN 198 Bundle.tN "backtrace" "Ljava/lang/Object;") (by simp [Bundle.ownAtoms0])) (a' (.lays Bundle.tN Bundle.tN "backtrace" "Ljava/lang/Object;") (by simp [Bundle.ownAtoms0])) e.platform hpl
  obtain ⟨cellS, hcS', heS, -, hkeep⟩ := X.same.2.2.2.2.2 T.aS cellS0 hcS0
  have hcellS : W.heap[T.aS]? = some cellS := hcS'
  have hout' : ∀ i, (⟨T.aS, i⟩ : Loc) ∉ locs := fun i hmem => by
    have := hlocs _ hmem cellS0 hcS0
    rw [hiss] at this; cases this
  have hknownS : cellS.vm ≠ .unknown := by
    rw [heS]; intro hu
    rw [show cellS0.vm = .unknown from hu] at hiss
    cases hiss
  have hneS : T.aS ≠ a := Nat.ne_of_lt (Nat.lt_of_lt_of_le (Array.getElem?_eq_some_iff.mp hcS0).1 hnew)
  obtain ⟨iM, hffM⟩ := Y.msg
  obtain ⟨tyC, dC, hdC, hdnC⟩ := Cond.laysAt hfound hk Y.cause (a' (.lays cls Bundle.tN "cause" "Ljava/lang/Throwable;") (by simp [Bundle.ownAtoms0]))
  obtain ⟨tyS, dS, hdS, hdnS⟩ := Cond.laysAt hfound hk Y.stack (a' (.lays cls Bundle.tN "stackTrace" Bundle.steD) (by simp [Bundle.ownAtoms0]))
  obtain ⟨tyP, dP, hdP, hdnP⟩ := Cond.laysAt hfound hk Y.supp (a' (.lays cls Bundle.tN "suppressedExceptions" Bundle.listD) (by simp [Bundle.ownAtoms0]))
  obtain ⟨tyM, dM, hdM, hdnM⟩ := Cond.laysAt hfound hk hffM (a' (.lays cls Bundle.tN "detailMessage" "Ljava/lang/String;") (by simp [Bundle.ownAtoms0]))
  obtain ⟨tyB, dB, hdB, hdnB⟩ := Cond.laysAt hfound hk hffB (a' (.lays cls Bundle.tN "backtrace" "Ljava/lang/Object;") (by simp [Bundle.ownAtoms0]))
  have bC := Cond.laysApart hdB hdC hdnB hdnC (by rw [hnB, Y.causeName]; decide)
  have bS := Cond.laysApart hdB hdS hdnB hdnS (by rw [hnB, Y.stackName]; decide)
  have bP := Cond.laysApart hdB hdP hdnB hdnP (by rw [hnB, Y.suppName]; decide)
  have hskip : SkipFacts T e.platform s (fun u => u) u0 ((preparedCellV T.toThrowableT (freshCell P1.m.cls kX) a u0 sen).withEntry W.cur) :=
    ⟨{ ci198 := ci198, i198 := i198, fBack := fB }, ⟨hk198, hg198, ha198, hsB⟩, by
      have := fresh_default (c := P1.m.cls) tyB
      rw [htB] at this
      simpa [preparedCellV, Cell.setSlot, Cell.withEntry, Array.getElem?_setIfInBounds, bC, bS, bP, bC.symm, bS.symm, bP.symm, defaultValue] using this, fun _ _ => rfl⟩
  obtain ⟨tm, methC, cdC, kC, vm₁, hnC, -, -, -, -, -, -, -, hW₁, st1⟩ := Steps.initCold (tb := p.tables) (e := e) (below := below) (s := s) (U := W) X.here hexec X.warmed hpl hown (t := Bundle.init0 cls) rfl rfl (Bundle.fit_spec hcls).2
    (a' (.methodLink own ic (Bundle.init0 cls)) (by simp [Bundle.ownAtoms0])) (h (.instanceMethod (Bundle.init0 cls)) (by cases names <;> simp [Bundle.ownAtoms0, Bundle.chain0Atoms, Bundle.passAtoms])) (bytes := Bundle.five) (maxL := 1) (h (.code (Bundle.init0 cls) Bundle.five 1 none) (by cases names <;> simp [Bundle.ownAtoms0, Bundle.chain0Atoms, Bundle.passAtoms]))
    (f := g) hg (a := a) (rest := .ref a :: rest) hstack hd6
  cases Option.some.inj (hnC.symm.trans hP1m)
  have X₁ := X.noted hW₁
  obtain ⟨vm₂, X₂, st2⟩ := X₁.ctorPlainOffV hexec (g := { g with stack := .ref a :: rest }) hg hsize T L Z LZ (P1 :: Ps)
    (fun P hP => by rcases List.mem_cons.mp hP with rfl | hP; exact L1; exact hL P hP) ⟨hlink1, hlink⟩ (u0 := u0) (sen := sen) (self := a) (cell := freshCell P1.m.cls kX) (cellS := cellS)
    hcell (fun _ => by simp) (by simp) rfl rfl hsel0 hselF hcellS hneS hknownS (by rw [hkeep _ (hout' _)]; exact hu0) (by rw [hkeep _ (hout' _)]; exact hsen)
    (Takes.of_laid hk hord tyC (by rw [Y.causeType]; rfl)) (Takes.of_laid hk hord tyS (by rw [Y.stackType]; exact fits_refV_array _ u0)) (Takes.of_laid hk hord tyP (by rw [Y.suppType]; exact fits_refV_object _ sen)) Y.objLocals hskip htr [] hd6
    (by simp only [List.length_cons, hlen]; omega) (by simp only [List.length_cons, hlen]; exact hRlocals)
  have hlt : a < ((W.setVm vm₁).setVm vm₂).heap.size := (Array.getElem?_eq_some_iff.mp hcell).1
  refine ⟨(W.setVm vm₁).setVm vm₂, _, _, X₂, fun y hy => ?_, hlt, rfl, rfl, fun target hwalk => st1 _ (fun acts => ?_)⟩
  · simp only [List.mem_cons, List.not_mem_nil, or_false] at hy
    rcases hy with rfl | rfl | rfl | rfl <;> rfl
  · rw [doInvoke_state]
    exact st2 _ hwalk
end VXK
section VXK2
variable {p : Program} {l : Launch} {e : Env} {R : Room} {s : State} {m : MethodId} {args : Array Value} {below : List Frame} {meth : Method} {c : Code} {H : Heap} {locs : List Loc} {cells slots : Nat} {Q : State → Prop}
variable {ls : Array Slot} {rest : List Value} {D : va_G} {cl : List vw_C} {tys : List (ClassId × FieldType)} {ws : va_W}
/-- 'new E("text")' that isn't thrown at once: the object goes on the stack -/
theorem vx_makeS {cc : ByteArray} {pc : Nat} (hexec : p.tables.exec = Jvm.exec) (hb : c.code = cc) (hl : l.stackTraces = false) {own cls text : String} {names : List String} {ik is ic sa ci : Nat} {A : Nat → Prop} {T0 : u_T}
    (hown : s.vm.findClass own = some m.cls) (hcls : Bundle.fit cls = true) (hnames : ∀ n ∈ names, Bundle.fit n = true)
    (hk : (Cond.classLink own ik cls).before args s = true) (hini : (Cond.initialized cls).before args s = true) (hstr : vk_R own is text sa s) (hat : ∀ w ∈ vx_atS own ic cls names, w.before args s = true)
    (hgood : ∀ w ∈ Cond.classLink own ik cls :: Cond.initialized cls :: vx_atS own ic cls names, vx_ot w = true)
    (hU : vx_Zq Bundle.tN "UNASSIGNED_STACK" Bundle.steD A s s.heap) (hN : vx_Zq Bundle.tN "SUPPRESSED_SENTINEL" Bundle.listD A s s.heap) (hS : va_S A s.heap H locs) (hsize : ls.size = c.maxLocals)
    (d0 : decode cc pc = .ok (.new ik, 3)) (d3 : decode cc (pc + 3) = .ok (.dup, 1)) (d4 : decode cc (pc + 4) = .ok (.ldc is, 2)) (d6 : decode cc (pc + 6) = .ok (.invokespecial ic, 3))
    (hK : va_K D cl tys s) (hP : va_P D cl ws H) (hD : va_D A ws) (hA : ∀ q, s.heap.size ≤ q → A q) (hc : cl[ci]? = some (cls, T0, 0))
    (hRframes : names.length + 3 < R.frames) (hRlocals : (rest.map fun v => v.category).sum + (13 * (names.length + 1) + 43) ≤ R.locals) (hRcells : cells + 1 ≤ R.cells) (hRslots : slots + 6 ≤ R.slots)
    (kk : ∀ (q : Nat) (H1 : Heap), va_P D cl (ws ++ [(q, .inr (ci, []))]) H1 → va_D A (ws ++ [(q, .inr (ci, []))]) → va_S A s.heap H1 locs → W p l e R s m args below meth c H1 locs (cells + 1) (slots + 6) Q (F0 m (pc + 9) ls (.ref q :: rest))) :
    W p l e R s m args below meth c H locs cells slots Q (F0 m pc ls rest) := by
  intro T hT X
  subst hT
  have htr : e.platform.stackTraces = false := (show e.platform.stackTraces = l.stackTraces by rw [X.admits.platform]).trans hl
  have Y := vx_rebase X (R' := { frames := R.frames, locals := R.locals, cells := 1, slots := 6 }) (Nat.le_refl _) (Nat.le_refl _) hRcells hRslots
  obtain ⟨s', hA'⟩ : ∃ z, z = (T.setVm s.vm).setFrames (.invoking m args :: below) := ⟨_, rfl⟩
  rw [← hA'] at Y
  have hvm : s'.vm = s.vm := by rw [hA']; rfl
  have hhp : s'.heap = T.heap := by rw [hA']; rfl
  have hW0 : s.WarmedH s'.vm := by rw [hvm]; exact State.WarmedH.refl s
  have hat' : ∀ w ∈ vx_atS own ic cls names, w.before args s' = true := fun w hw => vx_ot_at hW0 hvm.symm (hgood w (List.mem_cons_of_mem _ (List.mem_cons_of_mem _ hw))) (hat w hw)
  have hk' : (Cond.classLink own ik cls).before args s' = true := vx_ot_at hW0 hvm.symm (hgood _ List.mem_cons_self) hk
  have hini' : (Cond.initialized cls).before args s' = true := vx_ot_at hW0 hvm.symm (hgood _ (List.mem_cons_of_mem _ List.mem_cons_self)) hini
  have hU' : vx_Zq Bundle.tN "UNASSIGNED_STACK" Bundle.steD A s' s'.heap := by rw [hhp]; exact vx_Zq.moved hW0.alike (hU.kept hS.2.1)
  have hN' : vx_Zq Bundle.tN "SUPPRESSED_SENTINEL" Bundle.listD A s' s'.heap := by rw [hhp]; exact vx_Zq.moved hW0.alike (hN.kept hS.2.1)
  have h : ∀ w ∈ Bundle.ownAtoms own ic cls names, w.before args s' = true := vx_own hat' (vx_isRefq hU'.1) (vx_isRefq hN'.1) hU'.2.word hN'.2.word
  have hown' : s'.vm.findClass own = some m.cls := by rw [hvm]; exact hown
  have hins : (Cond.instantiable cls 6).before args s' = true := h _ (by simp [Bundle.ownAtoms])
  obtain ⟨vm₁, cX, kX, hfX, hkX, -, -, X₁, st1⟩ := Y.newCold hexec (own := own) (C := cls) (index := ik) (n := 6) hown' hk' hins hini'
    (g := F0 m pc ls rest) rfl (by rw [hb]; exact d0) (Nat.le_refl _) (Nat.le_refl _)
  generalize hT1 : (T.setVm vm₁).pushCell { cls := cX, slots := kX.instanceTypes.map defaultValue, vm := .none } = T1 at X₁ st1
  have hcat : (Value.ref T.heap.size).category = 1 := rfl
  have hcellA : T1.heap[T.heap.size]? = some (freshCell cX kX) := by rw [← hT1]; exact State.heap_pushCell_size _ _
  have d3' : decode c.code (pc + 3) = .ok (.dup, 1) := by rw [hb]; exact d3
  have d4' : decode c.code (pc + 4) = .ok (.ldc is, 2) := by rw [hb]; exact d4
  have hstr' : vk_R own is text sa s' := vk_R.warm hW0 hstr
  obtain ⟨V, ce, L, Z, hL, hlt, hcl9, hvm9, st⟩ := vx_ctorMadeS X₁ hexec htr (own := own) (cls := cls) (names := names) (ic := ic) hown' hcls hnames h (fun x hx => nomatch hx) hfX hkX hcellA (by rw [hhp]; exact Nat.le_refl _) (msg := .ref sa) rfl
    (g := { method := m, pc := pc + 6, locals := ls, stack := .ref sa :: .ref T.heap.size :: .ref T.heap.size :: rest, locked := none }) rfl hsize (rest := rest) rfl
    (by rw [hb]; exact d6) hRframes (by simp only [List.map_cons, List.sum_cons, hcat]; omega)
  have Z0 := Stand.forget (locs := []) Z (fun y hy => by rw [hL y hy, hhp]; exact Nat.le_refl _)
  obtain ⟨f1, f2⟩ := vx_frame Z0.same
  rw [hhp] at f1 f2
  have hcid : ce.cls = D.1 ci := by
    rw [hcl9]
    have h1 := (hK.1 ci _ hc).2.1
    rw [hvm] at hfX
    exact Option.some.inj (hfX.symm.trans h1)
  have hh : (V.setCell T.heap.size ce).heap[T.heap.size]? = some ce := heapAt_setCell_self (s := V) ce hlt
  subst hA'
  have X5 := vx_back9 X Y Z0
  have X6 : Stand p l e R s m args below meth c (V.setCell T.heap.size ce) locs (cells + 1) (slots + 6) := { X5 with same := X5.same.mono (by omega) (by omega) }
  have hk9 : ∀ (k : Nat) (x : Nat × va_E), ws[k]? = some x → (V.setCell T.heap.size ce).heap[x.1]? = T.heap[x.1]? := fun k x hx => f2 x.1 ((hP k x hx).lt) (fun z hz => nomatch hz)
  obtain ⟨t, a1, b1⟩ := kk T.heap.size (V.setCell T.heap.size ce).heap ((hP.kept hk9).app (fun k x hx => by
      have hz : k < 1 := (List.getElem?_eq_some_iff.mp hx).1
      rw [show k = 0 by omega] at hx
      cases hx
      exact ⟨_, hc, ce, hh, hcid, hvm9, fun k hk => absurd hk (Nat.not_lt_zero k)⟩)) (hD.push hP rfl (hA _ hS.1)) ⟨Nat.le_trans hS.1 f1, fun q h1 h2 => (f2 q (Nat.lt_of_lt_of_le h1 hS.1) (fun z hz => nomatch hz)).trans (hS.2.1 q h1 h2), hS.2.2⟩ _ rfl X6
  refine ⟨t, st1 _ ?_, b1⟩
  show Steps p.tables e below (T1.setTop { method := m, pc := pc + 3, locals := ls, stack := .ref T.heap.size :: rest, locked := none }) _
  jvm_step X₁.here [X₁.here.top, hexec, d3', Value.category]
  exact X₁.ldcString hexec (own := own) (text := text) (index := is) (a := sa) hown' hstr'.1 hstr'.2
    (g := { method := m, pc := pc + 4, locals := ls, stack := .ref T.heap.size :: .ref T.heap.size :: rest, locked := none }) rfl d4' _ (st _ a1)
/-- 'new E()' that isn't thrown at once: the object goes on the stack -/
theorem vx_make0 {cc : ByteArray} {pc : Nat} (hexec : p.tables.exec = Jvm.exec) (hb : c.code = cc) (hl : l.stackTraces = false) {own cls : String} {names : List String} {ik ic ci : Nat} {A : Nat → Prop} {T0 : u_T}
    (hown : s.vm.findClass own = some m.cls) (hcls : Bundle.fit cls = true) (hnames : ∀ n ∈ names, Bundle.fit n = true)
    (hk : (Cond.classLink own ik cls).before args s = true) (hini : (Cond.initialized cls).before args s = true) (hat : ∀ w ∈ vx_at0 own ic cls names, w.before args s = true)
    (hgood : ∀ w ∈ Cond.classLink own ik cls :: Cond.initialized cls :: vx_at0 own ic cls names, vx_ot w = true)
    (hU : vx_Zq Bundle.tN "UNASSIGNED_STACK" Bundle.steD A s s.heap) (hN : vx_Zq Bundle.tN "SUPPRESSED_SENTINEL" Bundle.listD A s s.heap) (hS : va_S A s.heap H locs) (hsize : ls.size = c.maxLocals)
    (d0 : decode cc pc = .ok (.new ik, 3)) (d3 : decode cc (pc + 3) = .ok (.dup, 1)) (d4 : decode cc (pc + 4) = .ok (.invokespecial ic, 3))
    (hK : va_K D cl tys s) (hP : va_P D cl ws H) (hD : va_D A ws) (hA : ∀ q, s.heap.size ≤ q → A q) (hc : cl[ci]? = some (cls, T0, 0))
    (hRframes : names.length + 3 < R.frames) (hRlocals : (rest.map fun v => v.category).sum + (13 * (names.length + 1) + 42) ≤ R.locals) (hRcells : cells + 1 ≤ R.cells) (hRslots : slots + 6 ≤ R.slots)
    (kk : ∀ (q : Nat) (H1 : Heap), va_P D cl (ws ++ [(q, .inr (ci, []))]) H1 → va_D A (ws ++ [(q, .inr (ci, []))]) → va_S A s.heap H1 locs → W p l e R s m args below meth c H1 locs (cells + 1) (slots + 6) Q (F0 m (pc + 7) ls (.ref q :: rest))) :
    W p l e R s m args below meth c H locs cells slots Q (F0 m pc ls rest) := by
  intro T hT X
  subst hT
  have htr : e.platform.stackTraces = false := (show e.platform.stackTraces = l.stackTraces by rw [X.admits.platform]).trans hl
  have Y := vx_rebase X (R' := { frames := R.frames, locals := R.locals, cells := 1, slots := 6 }) (Nat.le_refl _) (Nat.le_refl _) hRcells hRslots
  obtain ⟨s', hA'⟩ : ∃ z, z = (T.setVm s.vm).setFrames (.invoking m args :: below) := ⟨_, rfl⟩
  rw [← hA'] at Y
  have hvm : s'.vm = s.vm := by rw [hA']; rfl
  have hhp : s'.heap = T.heap := by rw [hA']; rfl
  have hW0 : s.WarmedH s'.vm := by rw [hvm]; exact State.WarmedH.refl s
  have hat' : ∀ w ∈ vx_at0 own ic cls names, w.before args s' = true := fun w hw => vx_ot_at hW0 hvm.symm (hgood w (List.mem_cons_of_mem _ (List.mem_cons_of_mem _ hw))) (hat w hw)
  have hk' : (Cond.classLink own ik cls).before args s' = true := vx_ot_at hW0 hvm.symm (hgood _ List.mem_cons_self) hk
  have hini' : (Cond.initialized cls).before args s' = true := vx_ot_at hW0 hvm.symm (hgood _ (List.mem_cons_of_mem _ List.mem_cons_self)) hini
  have hU' : vx_Zq Bundle.tN "UNASSIGNED_STACK" Bundle.steD A s' s'.heap := by rw [hhp]; exact vx_Zq.moved hW0.alike (hU.kept hS.2.1)
  have hN' : vx_Zq Bundle.tN "SUPPRESSED_SENTINEL" Bundle.listD A s' s'.heap := by rw [hhp]; exact vx_Zq.moved hW0.alike (hN.kept hS.2.1)
  have h : ∀ w ∈ Bundle.ownAtoms0 own ic cls names, w.before args s' = true := vx_own hat' (vx_isRefq hU'.1) (vx_isRefq hN'.1) hU'.2.word hN'.2.word
  have hown' : s'.vm.findClass own = some m.cls := by rw [hvm]; exact hown
  have hins : (Cond.instantiable cls 6).before args s' = true := h _ (by simp [Bundle.ownAtoms0])
  obtain ⟨vm₁, cX, kX, hfX, hkX, -, -, X₁, st1⟩ := Y.newCold hexec (own := own) (C := cls) (index := ik) (n := 6) hown' hk' hins hini'
    (g := F0 m pc ls rest) rfl (by rw [hb]; exact d0) (Nat.le_refl _) (Nat.le_refl _)
  generalize hT1 : (T.setVm vm₁).pushCell { cls := cX, slots := kX.instanceTypes.map defaultValue, vm := .none } = T1 at X₁ st1
  have hcat : (Value.ref T.heap.size).category = 1 := rfl
  have hcellA : T1.heap[T.heap.size]? = some (freshCell cX kX) := by rw [← hT1]; exact State.heap_pushCell_size _ _
  have d3' : decode c.code (pc + 3) = .ok (.dup, 1) := by rw [hb]; exact d3
  obtain ⟨V, ce, L, Z, hL, hlt, hcl9, hvm9, st⟩ := vx_ctorMade0 X₁ hexec htr (own := own) (cls := cls) (names := names) (ic := ic) hown' hcls hnames h (fun x hx => nomatch hx) hfX hkX hcellA (by rw [hhp]; exact Nat.le_refl _)
    (g := { method := m, pc := pc + 4, locals := ls, stack := .ref T.heap.size :: .ref T.heap.size :: rest, locked := none }) rfl hsize (rest := rest) rfl
    (by rw [hb]; exact d4) hRframes (by simp only [List.map_cons, List.sum_cons, hcat]; omega)
  have Z0 := Stand.forget (locs := []) Z (fun y hy => by rw [hL y hy, hhp]; exact Nat.le_refl _)
  obtain ⟨f1, f2⟩ := vx_frame Z0.same
  rw [hhp] at f1 f2
  have hcid : ce.cls = D.1 ci := by
    rw [hcl9]
    have h1 := (hK.1 ci _ hc).2.1
    rw [hvm] at hfX
    exact Option.some.inj (hfX.symm.trans h1)
  have hh : (V.setCell T.heap.size ce).heap[T.heap.size]? = some ce := heapAt_setCell_self (s := V) ce hlt
  subst hA'
  have X5 := vx_back9 X Y Z0
  have X6 : Stand p l e R s m args below meth c (V.setCell T.heap.size ce) locs (cells + 1) (slots + 6) := { X5 with same := X5.same.mono (by omega) (by omega) }
  have hk9 : ∀ (k : Nat) (x : Nat × va_E), ws[k]? = some x → (V.setCell T.heap.size ce).heap[x.1]? = T.heap[x.1]? := fun k x hx => f2 x.1 ((hP k x hx).lt) (fun z hz => nomatch hz)
  obtain ⟨t, a1, b1⟩ := kk T.heap.size (V.setCell T.heap.size ce).heap ((hP.kept hk9).app (fun k x hx => by
      have hz : k < 1 := (List.getElem?_eq_some_iff.mp hx).1
      rw [show k = 0 by omega] at hx
      cases hx
      exact ⟨_, hc, ce, hh, hcid, hvm9, fun k hk => absurd hk (Nat.not_lt_zero k)⟩)) (hD.push hP rfl (hA _ hS.1)) ⟨Nat.le_trans hS.1 f1, fun q h1 h2 => (f2 q (Nat.lt_of_lt_of_le h1 hS.1) (fun z hz => nomatch hz)).trans (hS.2.1 q h1 h2), hS.2.2⟩ _ rfl X6
  refine ⟨t, st1 _ ?_, b1⟩
  show Steps p.tables e below (T1.setTop { method := m, pc := pc + 3, locals := ls, stack := .ref T.heap.size :: rest, locked := none }) _
  jvm_step X₁.here [X₁.here.top, hexec, d3', Value.category]
  exact st _ a1
/-- 'throw x' of an object that was made before -/
theorem vx_athrow {cc : ByteArray} {pc : Nat} (hexec : p.tables.exec = Jvm.exec) (hb : c.code = cc) {q : Addr} (hdg : decode cc pc = .ok (.athrow, 1)) (k : vx_W p l e R s m args below meth c H locs cells slots Q (F0 m pc ls rest) q) : W p l e R s m args below meth c H locs cells slots Q (F0 m pc ls (.ref q :: rest)) := by
  intro T hT X
  obtain ⟨t, st, hq⟩ := k T hT X
  refine ⟨t, ?_, hq⟩
  have hdg' : decode c.code pc = .ok (.athrow, 1) := by rw [hb]; exact hdg
  jvm_step X.here [X.here.top, hexec, hdg', athrow.wp_sem]
  exact st
end VXK2
/-! ===== END ===== -/
/-! ===== BEGIN a constructor that throws (launches without stack traces) ===== -/
section VXIA
variable {p : Program} {l : Launch} {e : Env} {R : Room} {s : State} {m : MethodId} {args : Array Value} {below : List Frame} {meth : Method} {c : Code} {T : State} {locs : List Loc} {cells slots : Nat}
theorem vx_callI (X : Stand p l e R s m args below meth c T locs cells slots) (hexec : p.tables.exec = Jvm.exec) {own : String} {index : Nat} {y : MethodName} {bytes : ByteArray} {maxL : Nat}
    (hown : s.vm.findClass own = some m.cls) (hy1 : y.name = "<init>") (hlink : (Cond.methodLink own index y).before args s = true) (hinst : (Cond.instanceMethod y).before args s = true)
    (hcode : (Cond.code y bytes maxL none).before args s = true) (hy : y.cls ≠ "java/lang/invoke/MethodHandle" ∧ y.cls ≠ "java/lang/invoke/VarHandle")
    {W9 : Nat} {Pre : Pt → Array Value → Prop} {Post : Pt → Array Value → Option Value → Pt → Prop} {PostX : Pt → Array Value → Addr → Pt → Prop} (hK : vx_Back l R p e below s args y 3 W9 Pre Post PostX)
    {g : JFrame} (hg : g.method = m) (hsize : g.locals.size = c.maxLocals) {a : Addr} {argsL rest : List Value} (hlen : ∀ sig, parseMethodDescriptor y.desc = some sig → argsL.length = sig.parameters.length)
    (hstack : g.stack = argsL.reverse ++ .ref a :: rest) (hW : 2 * g.monitorRoom + (rest.map fun v => v.category).sum ≤ W9) (hdg : decode c.code g.pc = .ok (.invokespecial index, 3))
    (hpre : ∀ vm₁, s.WarmedH vm₁ → Pre ⟨T.setVm vm₁, locs, cells, slots⟩ (Value.ref a :: argsL).toArray) :
    (∃ (v : Option Value) (vm₁ : Vm) (B : Pt), s.WarmedH vm₁ ∧ Stand p l e R s m args below meth c B.U B.locs B.cells B.slots ∧ Post ⟨T.setVm vm₁, locs, cells, slots⟩ (Value.ref a :: argsL).toArray v B ∧
      ∀ target, Steps p.tables e below (B.U.setTop { g with pc := g.pc + 3, stack := v.toList ++ rest }) target → Steps p.tables e below (T.setTop g) target) ∨
    (∃ (q : Addr) (vm₁ : Vm) (B : Pt), s.WarmedH vm₁ ∧ Stand p l e R s m args below meth c B.U B.locs B.cells B.slots ∧ PostX ⟨T.setVm vm₁, locs, cells, slots⟩ (Value.ref a :: argsL).toArray q B ∧
      Steps p.tables e below (T.setTop g) ((B.U.setTop { g with stack := rest }).pushFrame (.throwing q))) := by
  subst hg
  have hpl : e.platform.magicAccessors = ({} : Platform).magicAccessors := by rw [X.admits.platform]
  obtain ⟨mk, methM, cM, kP, vm₁, hnamed, hmethM, hcodeM, -, hlocalsM, -, hkP, -, hW₁, hstep₁⟩ := Steps.initColdArgs (e := e) X.here hexec X.warmed hpl hown hy1 hy hlink hinst hcode (f := g) rfl hlen hstack hdg
  have X₁ := X.noted hW₁
  rcases hK g.method meth c ⟨T.setVm vm₁, locs, cells, slots⟩ { g with stack := rest } (.invokespecial index) mk (Value.ref a :: argsL).toArray X₁ rfl hsize hdg hW (X₁.named hnamed) (hpre vm₁ X₁.warmed) with ⟨v, B, X', hpost, hsteps⟩ | ⟨q, B, X', hpost, hsteps⟩
  · exact Or.inl ⟨v, vm₁, B, X₁.warmed, X', hpost, fun target h => hstep₁ _ fun acts => by rw [doInvoke_state]; exact hsteps.trans h⟩
  · exact Or.inr ⟨q, vm₁, B, X₁.warmed, X', hpost, hstep₁ _ fun acts => by rw [doInvoke_state]; exact hsteps⟩
end VXIA
section VXIB
variable {p : Program} {l : Launch} {e : Env} {R : Room} {s : State} {m : MethodId} {args : Array Value} {below : List Frame} {meth : Method} {c : Code} {H : Heap} {locs : List Loc} {cells slots : Nat}
variable {y : MethodName} {bytes cc : ByteArray} {maxL nL mc ms n index : Nat} {ret : Option FieldType} {ws : List Cond} {rm : Room} {Pc : Array Value → State → Prop} {Qc : Array Value → State → Outcome → State → Prop} {XC : String → State → State → Prop} {free : Addr → Prop} {Ts : List Cond} {own C : String} {b : Addr} {As rest : List Value} {g : JFrame}
theorem vx_runI (S : CallFix p m c cc nL s args Ts own) (hM : vx_Met l y ws rm Pc Qc XC mc ms free) (cw : CallB R s args own index y bytes maxL none ws rm mc ms n ∧ y.name = "<init>" ∧ (Cond.instanceMethod y).before args s = true) (hp : PreS s H Pc (.ref b :: As))
    (hg : g.method = m) (hn : As.length = n) (hsize : g.locals.size = nL) (hstack : g.stack = As.reverse ++ .ref b :: rest) (hW : 2 * g.monitorRoom + (rest.map fun v => v.category).sum ≤ 8) (hdg : decode cc g.pc = .ok (.invokespecial index, 3)) (hf : cells + mc ≤ R.cells ∧ slots + ms ≤ R.slots) :
    vx_Run p l e R s m args below meth c H locs cells slots mc ms g rest (Qc (Value.ref b :: As).toArray) XC free := by
  have hK : vx_Back l R p e below s args y 3 8 (PreOf R mc ms Pc) (PostOf Qc mc ms free) (vx_Post XC mc ms free) := vx_callBack cw.1 hM hp.1
  obtain ⟨⟨-, -, -, -, -, -, hcode, -, hy, hlen, hl⟩, hy1, hin⟩ := cw
  obtain ⟨hx, hb, hml, ho, -⟩ := S
  have hPc := hp.2
  intro T hT X
  rcases vx_callI X hx (bytes := bytes) (maxL := maxL) ho hy1 hl hin hcode hy hK hg (hsize.trans hml.symm) (a := b) (argsL := As) (rest := rest) (fun sig h => hn.trans (hlen sig h)) hstack hW (by rw [hb]; exact hdg)
    (fun vm₁ hW₁ => ⟨hf.1, hf.2, hPc (T.setVm vm₁) hT hW₁⟩) with ⟨v, vm₁, ⟨U', l2, c2, s2⟩, hW₁, X', ⟨g', mk, t, L, e1, e2, hq, h1, hL, h2, h3⟩, st⟩ | ⟨q, vm₁, ⟨U', l2, c2, s2⟩, hW₁, X', ⟨g', mk, t, L, E, ce, e1, e2, hq, hce, hcv, hcl, h1, hL, h2, h3⟩, st⟩
  · dsimp only [Pt.U, Pt.locs, Pt.cells, Pt.slots] at X' e1 e2 h1 h2 h3 st
    subst h1; subst h2; subst h3
    exact Or.inl ⟨v, (T.setVm vm₁).calling g' mk (Value.ref b :: As).toArray, t, U', L, hT, X', hL, e1, e2, hq, st⟩
  · dsimp only [Pt.U, Pt.locs, Pt.cells, Pt.slots] at X' e1 e2 h1 h2 h3 st hcl
    subst h1; subst h2; subst h3
    exact Or.inr ⟨q, (T.setVm vm₁).calling g' mk (Value.ref b :: As).toArray, t, U', L, E, ce, hT, X', hL, e1, e2, hq, hce, hcv, vx_cls hW₁ hcl, st⟩
end VXIB
/-! ===== END ===== -/
/-! ===== BEGIN a private constructor of a nest mate that throws ===== -/
section VXIC
variable {p : Program} {l : Launch} {e : Env} {R : Room} {s : State} {m : MethodId} {args : Array Value} {below : List Frame} {meth : Method} {c : Code} {T : State} {locs : List Loc} {cells slots : Nat}
theorem vx_callIN (X : Stand p l e R s m args below meth c T locs cells slots) (hexec : p.tables.exec = Jvm.exec) {own : String} {index : Nat} {host : String} {y : MethodName} {bytes : ByteArray} {maxL : Nat}
    (hown : s.vm.findClass own = some m.cls) (hy1 : y.name = "<init>") (hlink : (Cond.methodLinkNest own index y host).before args s = true) (hinst : (Cond.instanceMethod y).before args s = true)
    (hcode : (Cond.code y bytes maxL none).before args s = true) (hy : y.cls ≠ "java/lang/invoke/MethodHandle" ∧ y.cls ≠ "java/lang/invoke/VarHandle")
    {W9 : Nat} {Pre : Pt → Array Value → Prop} {Post : Pt → Array Value → Option Value → Pt → Prop} {PostX : Pt → Array Value → Addr → Pt → Prop} (hK : vx_Back l R p e below s args y 3 W9 Pre Post PostX)
    {g : JFrame} (hg : g.method = m) (hsize : g.locals.size = c.maxLocals) {a : Addr} {argsL rest : List Value} (hlen : ∀ sig, parseMethodDescriptor y.desc = some sig → argsL.length = sig.parameters.length)
    (hstack : g.stack = argsL.reverse ++ .ref a :: rest) (hW : 2 * g.monitorRoom + (rest.map fun v => v.category).sum ≤ W9) (hdg : decode c.code g.pc = .ok (.invokespecial index, 3))
    (hpre : ∀ vm₁, s.WarmedH vm₁ → Pre ⟨T.setVm vm₁, locs, cells, slots⟩ (Value.ref a :: argsL).toArray) :
    (∃ (v : Option Value) (vm₁ : Vm) (B : Pt), s.WarmedH vm₁ ∧ Stand p l e R s m args below meth c B.U B.locs B.cells B.slots ∧ Post ⟨T.setVm vm₁, locs, cells, slots⟩ (Value.ref a :: argsL).toArray v B ∧
      ∀ target, Steps p.tables e below (B.U.setTop { g with pc := g.pc + 3, stack := v.toList ++ rest }) target → Steps p.tables e below (T.setTop g) target) ∨
    (∃ (q : Addr) (vm₁ : Vm) (B : Pt), s.WarmedH vm₁ ∧ Stand p l e R s m args below meth c B.U B.locs B.cells B.slots ∧ PostX ⟨T.setVm vm₁, locs, cells, slots⟩ (Value.ref a :: argsL).toArray q B ∧
      Steps p.tables e below (T.setTop g) ((B.U.setTop { g with stack := rest }).pushFrame (.throwing q))) := by
  subst hg
  have hpl : e.platform.magicAccessors = ({} : Platform).magicAccessors := by rw [X.admits.platform]
  obtain ⟨mk, methM, cM, kP, vm₁, hnamed, hmethM, hcodeM, -, hlocalsM, -, hkP, -, hW₁, hstep₁⟩ := Steps.initColdArgsNest (e := e) X.here hexec X.warmed hpl hown hy1 hy hlink hinst hcode (f := g) rfl hlen hstack hdg
  have X₁ := X.noted hW₁
  rcases hK g.method meth c ⟨T.setVm vm₁, locs, cells, slots⟩ { g with stack := rest } (.invokespecial index) mk (Value.ref a :: argsL).toArray X₁ rfl hsize hdg hW (X₁.named hnamed) (hpre vm₁ X₁.warmed) with ⟨v, B, X', hpost, hsteps⟩ | ⟨q, B, X', hpost, hsteps⟩
  · exact Or.inl ⟨v, vm₁, B, X₁.warmed, X', hpost, fun target h => hstep₁ _ fun acts => by rw [doInvoke_state]; exact hsteps.trans h⟩
  · exact Or.inr ⟨q, vm₁, B, X₁.warmed, X', hpost, hstep₁ _ fun acts => by rw [doInvoke_state]; exact hsteps⟩
end VXIC
section VXID
variable {p : Program} {l : Launch} {e : Env} {R : Room} {s : State} {m : MethodId} {args : Array Value} {below : List Frame} {meth : Method} {c : Code} {H : Heap} {locs : List Loc} {cells slots : Nat}
theorem vx_runIN {y : MethodName} {bytes cc : ByteArray} {maxL nL mc ms n index : Nat} {ws : List Cond} {rm : Room} {Pc : Array Value → State → Prop} {Qc : Array Value → State → Outcome → State → Prop} {XC : String → State → State → Prop} {free : Addr → Prop} {Ts : List Cond} {own host : String} {b : Addr} {As rest : List Value} {g : JFrame}
    (S : CallFix p m c cc nL s args Ts own) (hM : vx_Met l y ws rm Pc Qc XC mc ms free) (cw : va_CN R s args own index y host bytes maxL none ws rm mc ms n ∧ y.name = "<init>" ∧ (Cond.instanceMethod y).before args s = true) (hp : PreS s H Pc (.ref b :: As))
    (hg : g.method = m) (hn : As.length = n) (hsize : g.locals.size = nL) (hstack : g.stack = As.reverse ++ .ref b :: rest) (hW : 2 * g.monitorRoom + (rest.map fun v => v.category).sum ≤ 8) (hdg : decode cc g.pc = .ok (.invokespecial index, 3)) (hf : cells + mc ≤ R.cells ∧ slots + ms ≤ R.slots) :
    vx_Run p l e R s m args below meth c H locs cells slots mc ms g rest (Qc (Value.ref b :: As).toArray) XC free := by
  obtain ⟨⟨⟨hrc, hrs, hfr, hlo, hws, hcw⟩, hcode, hini, hy, hlen, hl⟩, hx1, hx2⟩ := cw
  have hK : vx_Back l R p e below s args y 3 8 (PreOf R mc ms Pc) (PostOf Qc mc ms free) (vx_Post XC mc ms free) := vx_back (bytes := bytes) (maxL := maxL) (ret := none) hM hp.1 hrc hrs hfr hlo hws hcw (fun a' U hW => word_at hW (Or.inl (by first | rfl | simp [Cond.onTables, Cond.keeps, Cond.steady])) hini)
  obtain ⟨hx, hb, hml, ho, -⟩ := S
  have hPc := hp.2
  intro T hT X
  rcases vx_callIN X hx (bytes := bytes) (maxL := maxL) ho hx1 hl hx2 hcode hy hK hg (hsize.trans hml.symm) (a := b) (argsL := As) (rest := rest) (fun sig h => hn.trans (hlen sig h)) hstack hW (by rw [hb]; exact hdg)
    (fun vm₁ hW₁ => ⟨hf.1, hf.2, hPc (T.setVm vm₁) hT hW₁⟩) with ⟨v, vm₁, ⟨U', l2, c2, s2⟩, hW₁, X', ⟨g', mk, t, L, e1, e2, hq, h1, hL, h2, h3⟩, st⟩ | ⟨q, vm₁, ⟨U', l2, c2, s2⟩, hW₁, X', ⟨g', mk, t, L, E, ce, e1, e2, hq, hce, hcv, hcl, h1, hL, h2, h3⟩, st⟩
  · dsimp only [Pt.U, Pt.locs, Pt.cells, Pt.slots] at X' e1 e2 h1 h2 h3 st
    subst h1; subst h2; subst h3
    exact Or.inl ⟨v, (T.setVm vm₁).calling g' mk (Value.ref b :: As).toArray, t, U', L, hT, X', hL, e1, e2, hq, st⟩
  · dsimp only [Pt.U, Pt.locs, Pt.cells, Pt.slots] at X' e1 e2 h1 h2 h3 st hcl
    subst h1; subst h2; subst h3
    exact Or.inr ⟨q, (T.setVm vm₁).calling g' mk (Value.ref b :: As).toArray, t, U', L, E, ce, hT, X', hL, e1, e2, hq, hce, hcv, vx_cls hW₁ hcl, st⟩
end VXID
/-! ===== END ===== -/
/-! ===== BEGIN a method of a class above, found by the receiver, that may throw (follows va_callVU, va_runU of this kit) ===== -/
section
variable {p : Program} {l : Launch} {e : Env} {R : Room} {s : State} {m : MethodId} {args : Array Value} {below : List Frame} {meth : Method} {c : Code} {H : Heap} {locs : List Loc} {cells slots : Nat}
theorem vx_callVU {T : State} {locs : List Loc} {cells slots : Nat} (X : Stand p l e R s m args below meth c T locs cells slots) (hexec : p.tables.exec = Jvm.exec) {own C owner : String} {index : Nat} {x y : MethodName} {bytes : ByteArray} {maxL : Nat} {ret : Option FieldType}
    (hown : s.vm.findClass own = some m.cls) (hlink : (Cond.methodLink own index x).before args s = true) (hsame : (Cond.sameMethod x.cls owner x.name x.desc).before args s = true)
    (hd0 : va_Decl s ⟨owner, x.name, x.desc⟩) (howner : owner ≠ "java/lang/invoke/MethodHandle" ∧ owner ≠ "java/lang/invoke/VarHandle")
    (hsel : (Cond.selects C x y).before args s = true) (hinst : (Cond.instanceMethod y).before args s = true) (hcode : (Cond.code y bytes maxL ret).before args s = true)
    {W : Nat} {Pre : Pt → Array Value → Prop} {Post : Pt → Array Value → Option Value → Pt → Prop} {PostX : Pt → Array Value → Addr → Pt → Prop} (hK : vx_Back l R p e below s args y 3 W Pre Post PostX)
    {b : Addr} {cellB : Cell} (hcell : T.heap[b]? = some cellB) (hobj : cellB.vm.isStatics = false) (hcls : s.vm.findClass C = some cellB.cls)
    {g : JFrame} (hg : g.method = m) (hsize : g.locals.size = c.maxLocals) {argsL rest : List Value} (hlen : ∀ sig, parseMethodDescriptor x.desc = some sig → argsL.length = sig.parameters.length)
    (hstack : g.stack = argsL.reverse ++ .ref b :: rest) (hW : 2 * g.monitorRoom + (rest.map fun v => v.category).sum ≤ W) (hdg : decode c.code g.pc = .ok (.invokevirtual index, 3))
    (hpre : ∀ vm₁, s.WarmedH vm₁ → Pre ⟨T.setVm vm₁, locs, cells, slots⟩ (Value.ref b :: argsL).toArray) :
    (∃ (v : Option Value) (vm₁ : Vm) (B : Pt), s.WarmedH vm₁ ∧ Stand p l e R s m args below meth c B.U B.locs B.cells B.slots ∧ Post ⟨T.setVm vm₁, locs, cells, slots⟩ (Value.ref b :: argsL).toArray v B ∧
      ∀ target, Steps p.tables e below (B.U.setTop { g with pc := g.pc + 3, stack := v.toList ++ rest }) target → Steps p.tables e below (T.setTop g) target) ∨
    (∃ (q : Addr) (vm₁ : Vm) (B : Pt), s.WarmedH vm₁ ∧ Stand p l e R s m args below meth c B.U B.locs B.cells B.slots ∧ PostX ⟨T.setVm vm₁, locs, cells, slots⟩ (Value.ref b :: argsL).toArray q B ∧
      Steps p.tables e below (T.setTop g) ((B.U.setTop { g with stack := rest }).pushFrame (.throwing q))) := by
  obtain ⟨r0, r, hn, hrm, hstR, hsigR⟩ := hd0
  obtain ⟨cn, ck, r1, hcn, hck, hni, hf, hn1⟩ := Cond.sameMethod_found hsame
  cases hn.symm.trans hn1
  obtain ⟨mk, methM, hnamed, hmethM, -, habM⟩ := Cond.instanceMethod_spec hinst
  obtain ⟨c2, r2, m2, q1, q2, q3, q4, kP, hkP, hkPi⟩ := Cond.selects_spec hsel
  cases hcls.symm.trans q1
  cases hf.symm.trans q2
  cases hnamed.symm.trans q3
  have hselP : selectMethod e.platform s.vm cellB.cls r0 = .method mk := by rw [Launch.admits_selectMethod X.admits]; exact q4
  obtain ⟨vm₁, X₁, hstep₁⟩ := X.invokevirtualUp hexec hown hlink hsame howner hn hrm hstR (a := b) (cell := cellB) hcell
    (fun z h => by rw [h] at hobj; cases hobj) hselP hmethM habM hkP hkPi (g := g) hg (argsL := argsL) (rest := rest) (hlen _ hsigR) hstack hdg
  rcases hK m meth c ⟨T.setVm vm₁, locs, cells, slots⟩ { g with stack := rest } (.invokevirtual index) mk (Value.ref b :: argsL).toArray X₁ hg hsize hdg hW (X₁.named hnamed) (hpre vm₁ X₁.warmed) with ⟨v, B, X', hpost, hsteps⟩ | ⟨q, B, X', hpost, hsteps⟩
  · exact Or.inl ⟨v, vm₁, B, X₁.warmed, X', hpost, fun target h => hstep₁ _ fun acts => by rw [doInvoke_state]; exact hsteps.trans h⟩
  · exact Or.inr ⟨q, vm₁, B, X₁.warmed, X', hpost, hstep₁ _ fun acts => by rw [doInvoke_state]; exact hsteps⟩
theorem vx_runU {x y : MethodName} {bytes cc : ByteArray} {maxL nL mc ms n index : Nat} {ret : Option FieldType} {ws : List Cond} {rm : Room} {Pc : Array Value → State → Prop} {Qc : Array Value → State → Outcome → State → Prop} {XC : String → State → State → Prop} {free : Addr → Prop} {Ts : List Cond} {own C owner : String} {b : Addr} {As rest : List Value} {g : JFrame}
    (S : CallFix p m c cc nL s args Ts own) (hM : vx_Met l y ws rm Pc Qc XC mc ms free) (cw : va_CU R s args own C owner index x y bytes maxL ret ws rm mc ms n) (hp : PreV s H C b Pc As)
    (hg : g.method = m) (hn : As.length = n) (hsize : g.locals.size = nL) (hstack : g.stack = As.reverse ++ .ref b :: rest) (hW : 2 * g.monitorRoom + (rest.map fun v => v.category).sum ≤ 8) (hdg : decode cc g.pc = .ok (.invokevirtual index, 3)) (hf : cells + mc ≤ R.cells ∧ slots + ms ≤ R.slots) :
    vx_Run p l e R s m args below meth c H locs cells slots mc ms g rest (Qc (Value.ref b :: As).toArray) XC free := by
  obtain ⟨hrc, hrs, hfr, hlo, hws, hcw⟩ := cw.back
  have hini := cw.init
  have hK : vx_Back l R p e below s args y 3 8 (PreOf R mc ms Pc) (PostOf Qc mc ms free) (vx_Post XC mc ms free) := vx_back (bytes := bytes) (maxL := maxL) (ret := ret) hM hp.1 hrc hrs hfr hlo hws hcw (fun a' U hW => word_at hW (Or.inl (by first | rfl | simp [Cond.onTables, Cond.keeps, Cond.steady])) hini)
  obtain ⟨hx, hb, hml, ho, -⟩ := S
  obtain ⟨-, ⟨cellB, hcB, hoB, hclB⟩, hPc⟩ := hp
  intro T hT X
  rcases vx_callVU X hx (C := C) (owner := owner) (bytes := bytes) (maxL := maxL) (ret := ret) ho cw.link cw.same cw.decl cw.notMH cw.sel cw.inst cw.code hK (by rw [hT]; exact hcB) hoB hclB hg (hsize.trans hml.symm) (argsL := As) (rest := rest) (fun sig h => hn.trans (cw.len sig h)) hstack hW (by rw [hb]; exact hdg)
    (fun vm₁ hW₁ => ⟨hf.1, hf.2, hPc (T.setVm vm₁) hT hW₁⟩) with ⟨v, vm₁, ⟨U', l2, c2, s2⟩, hW₁, X', ⟨g', mk, t, L, e1, e2, hq, h1, hL, h2, h3⟩, st⟩ | ⟨q, vm₁, ⟨U', l2, c2, s2⟩, hW₁, X', ⟨g', mk, t, L, E, ce, e1, e2, hq, hce, hcv, hcl, h1, hL, h2, h3⟩, st⟩
  · dsimp only [Pt.U, Pt.locs, Pt.cells, Pt.slots] at X' e1 e2 h1 h2 h3 st
    subst h1; subst h2; subst h3
    exact Or.inl ⟨v, (T.setVm vm₁).calling g' mk (Value.ref b :: As).toArray, t, U', L, hT, X', hL, e1, e2, hq, st⟩
  · dsimp only [Pt.U, Pt.locs, Pt.cells, Pt.slots] at X' e1 e2 h1 h2 h3 st hcl
    subst h1; subst h2; subst h3
    exact Or.inr ⟨q, (T.setVm vm₁).calling g' mk (Value.ref b :: As).toArray, t, U', L, E, ce, hT, X', hL, e1, e2, hq, hce, hcv, vx_cls hW₁ hcl, st⟩
end
/-! ===== END ===== -/
/-! ===== BEGIN super.m(..) that may throw (follows va_callSU, va_runSU) ===== -/
section
variable {p : Program} {l : Launch} {e : Env} {R : Room} {s : State} {m : MethodId} {args : Array Value} {below : List Frame} {meth : Method} {c : Code} {H : Heap} {locs : List Loc} {cells slots : Nat}
theorem vx_callSU {T : State} {locs : List Loc} {cells slots : Nat} (X : Stand p l e R s m args below meth c T locs cells slots) (hexec : p.tables.exec = Jvm.exec) {own : String} {index : Nat} {y : MethodName} {bytes : ByteArray} {maxL : Nat} {ret : Option FieldType}
    (hown : s.vm.findClass own = some m.cls) (hlink : (Cond.methodLink own index y).before args s = true) (hsame : (Cond.sameMethod y.cls y.cls y.name y.desc).before args s = true) (hsup : (Cond.superclass own y.cls).before args s = true)
    (hinst : (Cond.instanceMethod y).before args s = true) (hcode : (Cond.code y bytes maxL ret).before args s = true) (hno : y.name ≠ "<init>")
    {W : Nat} {Pre : Pt → Array Value → Prop} {Post : Pt → Array Value → Option Value → Pt → Prop} {PostX : Pt → Array Value → Addr → Pt → Prop} (hK : vx_Back l R p e below s args y 3 W Pre Post PostX)
    {b : Addr} {cellB : Cell} {kB : Class} (hcell : T.heap[b]? = some cellB) (hobj : cellB.vm.isStatics = false) (hkB : s.vm.classes[cellB.cls]? = some kB)
    {g : JFrame} (hg : g.method = m) (hsize : g.locals.size = c.maxLocals) {argsL rest : List Value} (hlen : ∀ sig, parseMethodDescriptor y.desc = some sig → argsL.length = sig.parameters.length)
    (hstack : g.stack = argsL.reverse ++ .ref b :: rest) (hW : 2 * g.monitorRoom + (rest.map fun v => v.category).sum ≤ W) (hdg : decode c.code g.pc = .ok (.invokespecial index, 3))
    (hpre : ∀ vm₁, s.WarmedH vm₁ → Pre ⟨T.setVm vm₁, locs, cells, slots⟩ (Value.ref b :: argsL).toArray) :
    (∃ (v : Option Value) (vm₁ : Vm) (B : Pt), s.WarmedH vm₁ ∧ Stand p l e R s m args below meth c B.U B.locs B.cells B.slots ∧ Post ⟨T.setVm vm₁, locs, cells, slots⟩ (Value.ref b :: argsL).toArray v B ∧
      ∀ target, Steps p.tables e below (B.U.setTop { g with pc := g.pc + 3, stack := v.toList ++ rest }) target → Steps p.tables e below (T.setTop g) target) ∨
    (∃ (q : Addr) (vm₁ : Vm) (B : Pt), s.WarmedH vm₁ ∧ Stand p l e R s m args below meth c B.U B.locs B.cells B.slots ∧ PostX ⟨T.setVm vm₁, locs, cells, slots⟩ (Value.ref b :: argsL).toArray q B ∧
      Steps p.tables e below (T.setTop g) ((B.U.setTop { g with stack := rest }).pushFrame (.throwing q))) := by
  obtain ⟨mk, methM, hnamed, hmethM, hstM, habM⟩ := Cond.instanceMethod_spec hinst
  obtain ⟨methM', cM, hmethM', -, -, -, -, -, -, hsigM⟩ := Cond.code_spec hnamed hcode
  cases hmethM.symm.trans hmethM'
  obtain ⟨ps, dk, kp, hps, hdk, hkp, hsuper, -, -, hnid⟩ := Cond.superclass_spec hown hsup
  have hn : s.methodNamed? ⟨y.cls, y.name, y.desc⟩ = some mk := hnamed
  have hpm : ps = mk.cls := Option.some.inj (hps.symm.trans (findClass_of_methodNamed hnamed))
  have hsub : s.vm.isSubclass ps mk.cls = true := by rw [hpm]; simp [Vm.isSubclass, Vm.isSubclassAux]
  obtain ⟨vm₁, X₁, hstep₁⟩ := X.invokespecialUp hexec hown hlink hsame hn hmethM hstM habM hno hdk hnid hps hsuper hsub (a := b) (cell := cellB) hcell
    (fun z h => by rw [h] at hobj; cases hobj) hkB (g := g) hg (argsL := argsL) (rest := rest) (hlen _ hsigM) hstack hdg
  rcases hK m meth c ⟨T.setVm vm₁, locs, cells, slots⟩ { g with stack := rest } (.invokespecial index) mk (Value.ref b :: argsL).toArray X₁ hg hsize hdg hW (X₁.named hnamed) (hpre vm₁ X₁.warmed) with ⟨v, B, X', hpost, hsteps⟩ | ⟨q, B, X', hpost, hsteps⟩
  · exact Or.inl ⟨v, vm₁, B, X₁.warmed, X', hpost, fun target h => hstep₁ _ (by rw [doInvoke_state]; exact hsteps.trans h)⟩
  · exact Or.inr ⟨q, vm₁, B, X₁.warmed, X', hpost, hstep₁ _ (by rw [doInvoke_state]; exact hsteps)⟩
theorem vx_runSU {y : MethodName} {bytes cc : ByteArray} {maxL nL mc ms n index : Nat} {ret : Option FieldType} {ws : List Cond} {rm : Room} {Pc : Array Value → State → Prop} {Qc : Array Value → State → Outcome → State → Prop} {XC : String → State → State → Prop} {free : Addr → Prop} {Ts : List Cond} {own C : String} {cC : ClassId} {b : Addr} {As rest : List Value} {g : JFrame}
    (hat : ClassAt s C cC) (S : CallFix p m c cc nL s args Ts own) (hM : vx_Met l y ws rm Pc Qc XC mc ms free) (cw : va_CS R s args own index y bytes maxL ret ws rm mc ms n) (hp : PreV s H C b Pc As)
    (hg : g.method = m) (hn : As.length = n) (hsize : g.locals.size = nL) (hstack : g.stack = As.reverse ++ .ref b :: rest) (hW : 2 * g.monitorRoom + (rest.map fun v => v.category).sum ≤ 8) (hdg : decode cc g.pc = .ok (.invokespecial index, 3)) (hf : cells + mc ≤ R.cells ∧ slots + ms ≤ R.slots) :
    vx_Run p l e R s m args below meth c H locs cells slots mc ms g rest (Qc (Value.ref b :: As).toArray) XC free := by
  obtain ⟨⟨hrc, hrs, hfr, hlo, hws, hcw⟩, hl1, hl2, hl3, hl4, hini, hcode, hno, hlen⟩ := cw
  have hK : vx_Back l R p e below s args y 3 8 (PreOf R mc ms Pc) (PostOf Qc mc ms free) (vx_Post XC mc ms free) := vx_back (bytes := bytes) (maxL := maxL) (ret := ret) hM hp.1 hrc hrs hfr hlo hws hcw (fun a' U hW => word_at hW (Or.inl (by first | rfl | simp [Cond.onTables, Cond.keeps, Cond.steady])) hini)
  obtain ⟨hx, hb, hml, ho, -⟩ := S
  obtain ⟨-, ⟨cellB, hcB, hoB, hclB⟩, hPc⟩ := hp
  obtain ⟨hfc, kB, hkB, -⟩ := hat
  cases hfc.symm.trans hclB
  intro T hT X
  rcases vx_callSU X hx (bytes := bytes) (maxL := maxL) (ret := ret) ho hl1 hl2 hl3 hl4 hcode hno hK (by rw [hT]; exact hcB) hoB hkB hg (hsize.trans hml.symm) (argsL := As) (rest := rest) (fun sig h => hn.trans (hlen sig h)) hstack hW (by rw [hb]; exact hdg)
    (fun vm₁ hW₁ => ⟨hf.1, hf.2, hPc (T.setVm vm₁) hT hW₁⟩) with ⟨v, vm₁, ⟨U', l2, c2, s2⟩, hW₁, X', ⟨g', mk, t, L, e1, e2, hq, h1, hL, h2, h3⟩, st⟩ | ⟨q, vm₁, ⟨U', l2, c2, s2⟩, hW₁, X', ⟨g', mk, t, L, E, ce, e1, e2, hq, hce, hcv, hcl, h1, hL, h2, h3⟩, st⟩
  · dsimp only [Pt.U, Pt.locs, Pt.cells, Pt.slots] at X' e1 e2 h1 h2 h3 st
    subst h1; subst h2; subst h3
    exact Or.inl ⟨v, (T.setVm vm₁).calling g' mk (Value.ref b :: As).toArray, t, U', L, hT, X', hL, e1, e2, hq, st⟩
  · dsimp only [Pt.U, Pt.locs, Pt.cells, Pt.slots] at X' e1 e2 h1 h2 h3 st hcl
    subst h1; subst h2; subst h3
    exact Or.inr ⟨q, (T.setVm vm₁).calling g' mk (Value.ref b :: As).toArray, t, U', L, E, ce, hT, X', hL, e1, e2, hq, hce, hcv, vx_cls hW₁ hcl, st⟩
end
/-! ===== END ===== -/
/-! ===== BEGIN a private method of a nest mate that may throw (follows va_callVN, va_callSN, va_runVN, va_runSN) ===== -/
section
variable {p : Program} {l : Launch} {e : Env} {R : Room} {s : State} {m : MethodId} {args : Array Value} {below : List Frame} {meth : Method} {c : Code} {H : Heap} {locs : List Loc} {cells slots : Nat}
variable {T : State}
theorem vx_callVN (X : Stand p l e R s m args below meth c T locs cells slots) (hexec : p.tables.exec = Jvm.exec) {own C : String} {index : Nat} {host : String} {y : MethodName} {bytes : ByteArray} {maxL : Nat} {ret : Option FieldType}
    (hown : s.vm.findClass own = some m.cls) (hlink : (Cond.methodLinkNest own index y host).before args s = true) (hinst : (Cond.instanceMethod y).before args s = true) (hsel : (Cond.selects C y y).before args s = true)
    (hcode : (Cond.code y bytes maxL ret).before args s = true) (hy : y.cls ≠ "java/lang/invoke/MethodHandle" ∧ y.cls ≠ "java/lang/invoke/VarHandle")
    {W : Nat} {Pre : Pt → Array Value → Prop} {Post : Pt → Array Value → Option Value → Pt → Prop} {PostX : Pt → Array Value → Addr → Pt → Prop} (hK : vx_Back l R p e below s args y 3 W Pre Post PostX)
    {b : Addr} {cellB : Cell} (hcell : T.heap[b]? = some cellB) (hobj : cellB.vm.isStatics = false) (hcls : s.vm.findClass C = some cellB.cls)
    {g : JFrame} (hg : g.method = m) (hsize : g.locals.size = c.maxLocals) {argsL rest : List Value} (hlen : ∀ sig, parseMethodDescriptor y.desc = some sig → argsL.length = sig.parameters.length)
    (hstack : g.stack = argsL.reverse ++ .ref b :: rest) (hW : 2 * g.monitorRoom + (rest.map fun v => v.category).sum ≤ W) (hdg : decode c.code g.pc = .ok (.invokevirtual index, 3))
    (hpre : ∀ vm₁, s.WarmedH vm₁ → Pre ⟨T.setVm vm₁, locs, cells, slots⟩ (Value.ref b :: argsL).toArray) :
    (∃ (v : Option Value) (vm₁ : Vm) (B : Pt), s.WarmedH vm₁ ∧ Stand p l e R s m args below meth c B.U B.locs B.cells B.slots ∧ Post ⟨T.setVm vm₁, locs, cells, slots⟩ (Value.ref b :: argsL).toArray v B ∧
      ∀ target, Steps p.tables e below (B.U.setTop { g with pc := g.pc + 3, stack := v.toList ++ rest }) target → Steps p.tables e below (T.setTop g) target) ∨
    (∃ (q : Addr) (vm₁ : Vm) (B : Pt), s.WarmedH vm₁ ∧ Stand p l e R s m args below meth c B.U B.locs B.cells B.slots ∧ PostX ⟨T.setVm vm₁, locs, cells, slots⟩ (Value.ref b :: argsL).toArray q B ∧
      Steps p.tables e below (T.setTop g) ((B.U.setTop { g with stack := rest }).pushFrame (.throwing q))) := by
  obtain ⟨mk, methM, hnamed, hmethM, hstM, habM⟩ := Cond.instanceMethod_spec hinst
  obtain ⟨methM', cM, hmethM', -, -, -, -, -, -, hsigM⟩ := Cond.code_spec hnamed hcode
  cases hmethM.symm.trans hmethM'
  obtain ⟨c2, r2, m2, q1, q2, q3, q4, kP, hkP, hkPi⟩ := Cond.selects_spec hsel
  cases hcls.symm.trans q1
  cases (State.methodFound?_of_named hnamed hy).symm.trans q2
  cases hnamed.symm.trans q3
  have hselP : selectMethod e.platform s.vm cellB.cls mk = .method mk := by rw [Launch.admits_selectMethod X.admits]; exact q4
  obtain ⟨vm₁, X₁, hstep₁⟩ := X.invokevirtualNest hexec hown hlink hnamed hmethM hstM hkP hkPi hy (a := b) (cell := cellB) hcell
    (fun z h => by rw [h] at hobj; cases hobj) hselP hmethM habM hkP hkPi (g := g) hg (argsL := argsL) (rest := rest) (hlen _ hsigM) hstack hdg
  rcases hK m meth c ⟨T.setVm vm₁, locs, cells, slots⟩ { g with stack := rest } (.invokevirtual index) mk (Value.ref b :: argsL).toArray X₁ hg hsize hdg hW (X₁.named hnamed) (hpre vm₁ X₁.warmed) with ⟨v, B, X', hpost, hsteps⟩ | ⟨q, B, X', hpost, hsteps⟩
  · exact Or.inl ⟨v, vm₁, B, X₁.warmed, X', hpost, fun target h => hstep₁ _ fun acts => by rw [doInvoke_state]; exact hsteps.trans h⟩
  · exact Or.inr ⟨q, vm₁, B, X₁.warmed, X', hpost, hstep₁ _ fun acts => by rw [doInvoke_state]; exact hsteps⟩
theorem vx_callSN (X : Stand p l e R s m args below meth c T locs cells slots) (hexec : p.tables.exec = Jvm.exec) {own : String} {index : Nat} {host : String} {y : MethodName} {bytes : ByteArray} {maxL : Nat} {ret : Option FieldType}
    (hown : s.vm.findClass own = some m.cls) (hlink : (Cond.methodLinkNest own index y host).before args s = true) (hstat : (Cond.static y).before args s = true) (hinit : (Cond.initialized y.cls).before args s = true)
    (hcode : (Cond.code y bytes maxL ret).before args s = true) (hy : y.cls ≠ "java/lang/invoke/MethodHandle" ∧ y.cls ≠ "java/lang/invoke/VarHandle")
    {W : Nat} {Pre : Pt → Array Value → Prop} {Post : Pt → Array Value → Option Value → Pt → Prop} {PostX : Pt → Array Value → Addr → Pt → Prop} (hK : vx_Back l R p e below s args y 3 W Pre Post PostX)
    {g : JFrame} (hg : g.method = m) (hsize : g.locals.size = c.maxLocals) {argsL rest : List Value} (hlen : ∀ sig, parseMethodDescriptor y.desc = some sig → argsL.length = sig.parameters.length)
    (hstack : g.stack = argsL.reverse ++ rest) (hW : 2 * g.monitorRoom + (rest.map fun v => v.category).sum ≤ W) (hdg : decode c.code g.pc = .ok (.invokestatic index, 3))
    (hpre : ∀ vm₁, s.WarmedH vm₁ → Pre ⟨T.setVm vm₁, locs, cells, slots⟩ argsL.toArray) :
    (∃ (v : Option Value) (vm₁ : Vm) (B : Pt), s.WarmedH vm₁ ∧ Stand p l e R s m args below meth c B.U B.locs B.cells B.slots ∧ Post ⟨T.setVm vm₁, locs, cells, slots⟩ argsL.toArray v B ∧
      ∀ target, Steps p.tables e below (B.U.setTop { g with pc := g.pc + 3, stack := v.toList ++ rest }) target → Steps p.tables e below (T.setTop g) target) ∨
    (∃ (q : Addr) (vm₁ : Vm) (B : Pt), s.WarmedH vm₁ ∧ Stand p l e R s m args below meth c B.U B.locs B.cells B.slots ∧ PostX ⟨T.setVm vm₁, locs, cells, slots⟩ argsL.toArray q B ∧
      Steps p.tables e below (T.setTop g) ((B.U.setTop { g with stack := rest }).pushFrame (.throwing q))) := by
  obtain ⟨mk, hnamed⟩ := Cond.code_named hcode
  obtain ⟨methM, cM, hmethM, -, -, -, -, -, -, hsigM⟩ := Cond.code_spec hnamed hcode
  have hstatic : methM.isStatic = true := Cond.static_spec hnamed hmethM hstat
  obtain ⟨kP, hkP, -⟩ := className_of_methodNamed hnamed
  have hinitP : kP.init = .initialized := Cond.initialized_spec (findClass_of_methodNamed hnamed) hkP hinit
  obtain ⟨vm₁, X₁, hstep₁⟩ := X.invokestaticNest hexec hown hlink hnamed hmethM hstatic hkP hinitP hy (g := g) hg (argsL := argsL) (rest := rest) (hlen _ hsigM) hstack hdg
  rcases hK m meth c ⟨T.setVm vm₁, locs, cells, slots⟩ { g with stack := rest } (.invokestatic index) mk argsL.toArray X₁ hg hsize hdg hW (X₁.named hnamed) (hpre vm₁ X₁.warmed) with ⟨v, B, X', hpost, hsteps⟩ | ⟨q, B, X', hpost, hsteps⟩
  · exact Or.inl ⟨v, vm₁, B, X₁.warmed, X', hpost, fun target h => hstep₁ _ fun acts => by rw [doInvoke_state]; exact hsteps.trans h⟩
  · exact Or.inr ⟨q, vm₁, B, X₁.warmed, X', hpost, hstep₁ _ fun acts => by rw [doInvoke_state]; exact hsteps⟩
theorem vx_runVN {y : MethodName} {bytes cc : ByteArray} {maxL nL mc ms n index : Nat} {ret : Option FieldType} {ws : List Cond} {rm : Room} {Pc : Array Value → State → Prop} {Qc : Array Value → State → Outcome → State → Prop} {XC : String → State → State → Prop} {free : Addr → Prop} {Ts : List Cond} {own C host : String} {b : Addr} {As rest : List Value} {g : JFrame}
    (S : CallFix p m c cc nL s args Ts own) (hM : vx_Met l y ws rm Pc Qc XC mc ms free) (cw : va_CN R s args own index y host bytes maxL ret ws rm mc ms n ∧ (Cond.instanceMethod y).before args s = true ∧ (Cond.selects C y y).before args s = true) (hp : PreV s H C b Pc As)
    (hg : g.method = m) (hn : As.length = n) (hsize : g.locals.size = nL) (hstack : g.stack = As.reverse ++ .ref b :: rest) (hW : 2 * g.monitorRoom + (rest.map fun v => v.category).sum ≤ 8) (hdg : decode cc g.pc = .ok (.invokevirtual index, 3)) (hf : cells + mc ≤ R.cells ∧ slots + ms ≤ R.slots) :
    vx_Run p l e R s m args below meth c H locs cells slots mc ms g rest (Qc (Value.ref b :: As).toArray) XC free := by
  obtain ⟨⟨⟨hrc, hrs, hfr, hlo, hws, hcw⟩, hcode, hini, hy, hlen, hl⟩, hx1, hx2⟩ := cw
  have hK : vx_Back l R p e below s args y 3 8 (PreOf R mc ms Pc) (PostOf Qc mc ms free) (vx_Post XC mc ms free) := vx_back (bytes := bytes) (maxL := maxL) (ret := ret) hM hp.1 hrc hrs hfr hlo hws hcw (fun a' U hW => word_at hW (Or.inl (by first | rfl | simp [Cond.onTables, Cond.keeps, Cond.steady])) hini)
  obtain ⟨hx, hb, hml, ho, -⟩ := S
  obtain ⟨-, ⟨cellB, hcB, hoB, hclB⟩, hPc⟩ := hp
  intro T hT X
  rcases vx_callVN X hx (C := C) (bytes := bytes) (maxL := maxL) (ret := ret) ho hl hx1 hx2 hcode hy hK (by rw [hT]; exact hcB) hoB hclB hg (hsize.trans hml.symm) (argsL := As) (rest := rest) (fun sig h => hn.trans (hlen sig h)) hstack hW (by rw [hb]; exact hdg)
    (fun vm₁ hW₁ => ⟨hf.1, hf.2, hPc (T.setVm vm₁) hT hW₁⟩) with ⟨v, vm₁, ⟨U', l2, c2, s2⟩, hW₁, X', ⟨g', mk, t, L, e1, e2, hq, h1, hL, h2, h3⟩, st⟩ | ⟨q, vm₁, ⟨U', l2, c2, s2⟩, hW₁, X', ⟨g', mk, t, L, E, ce, e1, e2, hq, hce, hcv, hcl, h1, hL, h2, h3⟩, st⟩
  · dsimp only [Pt.U, Pt.locs, Pt.cells, Pt.slots] at X' e1 e2 h1 h2 h3 st
    subst h1; subst h2; subst h3
    exact Or.inl ⟨v, (T.setVm vm₁).calling g' mk (Value.ref b :: As).toArray, t, U', L, hT, X', hL, e1, e2, hq, st⟩
  · dsimp only [Pt.U, Pt.locs, Pt.cells, Pt.slots] at X' e1 e2 h1 h2 h3 st hcl
    subst h1; subst h2; subst h3
    exact Or.inr ⟨q, (T.setVm vm₁).calling g' mk (Value.ref b :: As).toArray, t, U', L, E, ce, hT, X', hL, e1, e2, hq, hce, hcv, vx_cls hW₁ hcl, st⟩
theorem vx_runSN {y : MethodName} {bytes cc : ByteArray} {maxL nL mc ms n index : Nat} {ret : Option FieldType} {ws : List Cond} {rm : Room} {Pc : Array Value → State → Prop} {Qc : Array Value → State → Outcome → State → Prop} {XC : String → State → State → Prop} {free : Addr → Prop} {Ts : List Cond} {own host : String} {As rest : List Value} {g : JFrame}
    (S : CallFix p m c cc nL s args Ts own) (hM : vx_Met l y ws rm Pc Qc XC mc ms free) (cw : va_CN R s args own index y host bytes maxL ret ws rm mc ms n ∧ (Cond.static y).before args s = true ∧ True) (hp : PreS s H Pc As)
    (hg : g.method = m) (hn : As.length = n) (hsize : g.locals.size = nL) (hstack : g.stack = As.reverse ++ rest) (hW : 2 * g.monitorRoom + (rest.map fun v => v.category).sum ≤ 8) (hdg : decode cc g.pc = .ok (.invokestatic index, 3)) (hf : cells + mc ≤ R.cells ∧ slots + ms ≤ R.slots) :
    vx_Run p l e R s m args below meth c H locs cells slots mc ms g rest (Qc As.toArray) XC free := by
  obtain ⟨⟨⟨hrc, hrs, hfr, hlo, hws, hcw⟩, hcode, hini, hy, hlen, hl⟩, hx1, hx2⟩ := cw
  have hK : vx_Back l R p e below s args y 3 8 (PreOf R mc ms Pc) (PostOf Qc mc ms free) (vx_Post XC mc ms free) := vx_back (bytes := bytes) (maxL := maxL) (ret := ret) hM hp.1 hrc hrs hfr hlo hws hcw (fun a' U hW => word_at hW (Or.inl (by first | rfl | simp [Cond.onTables, Cond.keeps, Cond.steady])) hini)
  obtain ⟨hx, hb, hml, ho, -⟩ := S
  have hPc := hp.2
  intro T hT X
  rcases vx_callSN X hx (bytes := bytes) (maxL := maxL) (ret := ret) ho hl hx1 hini hcode hy hK hg (hsize.trans hml.symm) (argsL := As) (rest := rest) (fun sig h => hn.trans (hlen sig h)) hstack hW (by rw [hb]; exact hdg)
    (fun vm₁ hW₁ => ⟨hf.1, hf.2, hPc (T.setVm vm₁) hT hW₁⟩) with ⟨v, vm₁, ⟨U', l2, c2, s2⟩, hW₁, X', ⟨g', mk, t, L, e1, e2, hq, h1, hL, h2, h3⟩, st⟩ | ⟨q, vm₁, ⟨U', l2, c2, s2⟩, hW₁, X', ⟨g', mk, t, L, E, ce, e1, e2, hq, hce, hcv, hcl, h1, hL, h2, h3⟩, st⟩
  · dsimp only [Pt.U, Pt.locs, Pt.cells, Pt.slots] at X' e1 e2 h1 h2 h3 st
    subst h1; subst h2; subst h3
    exact Or.inl ⟨v, (T.setVm vm₁).calling g' mk As.toArray, t, U', L, hT, X', hL, e1, e2, hq, st⟩
  · dsimp only [Pt.U, Pt.locs, Pt.cells, Pt.slots] at X' e1 e2 h1 h2 h3 st hcl
    subst h1; subst h2; subst h3
    exact Or.inr ⟨q, (T.setVm vm₁).calling g' mk As.toArray, t, U', L, E, ce, hT, X', hL, e1, e2, hq, hce, hcv, vx_cls hW₁ hcl, st⟩
end
/-! ===== END ===== -/
/-! ===== BEGIN calls by an interface of methods that may throw (vx_callIF, vx_runF follow va_callIF, va_runF of this kit) ===== -/
section
variable {p : Program} {l : Launch} {e : Env} {R : Room} {s : State} {m : MethodId} {args : Array Value} {below : List Frame} {meth : Method} {c : Code} {H : Heap} {locs : List Loc} {cells slots : Nat} {Q : State → Prop}
variable {mc ms : Nat} {free : Addr → Prop} {A0 A1 : Nat → Prop} {H0 : Heap} {a : Array Value} {pc : Nat} {ls : Array Slot} {st0 rest : List Value}
def vx_Run5 (p : Program) (l : Launch) (e : Env) (R : Room) (s : State) (m : MethodId) (args : Array Value) (below : List Frame) (meth : Method) (c : Code) (H : Heap) (locs : List Loc) (cells slots mc ms : Nat) (g : JFrame) (rest : List Value) (Qa : State → Outcome → State → Prop) (XC : String → State → State → Prop) (free : Addr → Prop) : Prop :=
  ∀ T : State, T.heap = H → Stand p l e R s m args below meth c T locs cells slots →
    (∃ (v : Option Value) (st₀ t T' : State) (L : List Loc), st₀.heap = H ∧ Stand p l e R s m args below meth c T' (locs ++ L) (cells + mc) (slots + ms) ∧ (∀ q ∈ L, free q.base) ∧ T'.heap = t.heap ∧ T'.vm = t.vm ∧ Qa st₀ (.returned v) t ∧
      Goes p e below T g T' { g with pc := g.pc + 5, stack := v.toList ++ rest }) ∨
    (∃ (q : Addr) (st₀ t T' : State) (L : List Loc) (E : String) (ce : Cell), st₀.heap = H ∧ Stand p l e R s m args below meth c T' (locs ++ L) (cells + mc) (slots + ms) ∧ (∀ z ∈ L, free z.base) ∧ T'.heap = t.heap ∧ T'.vm = t.vm ∧ XC E st₀ t ∧ t.heap[q]? = some ce ∧ ce.vm = .none ∧ s.vm.findClass E = some ce.cls ∧
      Steps p.tables e below (T.setTop g) ((T'.setTop { g with stack := rest }).pushFrame (.throwing q)))
theorem vx_callIF {T : State} (X : Stand p l e R s m args below meth c T locs cells slots) (hexec : p.tables.exec = Jvm.exec) {own C : String} {index count : Nat} {x y : MethodName} {bytes : ByteArray} {maxL : Nat} {ret : Option FieldType}
    (hown : s.vm.findClass own = some m.cls) (hlink : (Cond.methodLink own index x).before args s = true) (hdecl : (Cond.declares x).before args s = true) (hface : (Cond.interfaceMethod x.cls x.cls x.name x.desc).before args s = true)
    (hsel : (Cond.selects C x y).before args s = true) (hinst : (Cond.instanceMethod y).before args s = true) (hpub : (Cond.publicMethod y).before args s = true) (hunh : (Cond.unhidden C x.name x.desc).before args s = true)
    (hcast : (Cond.castable C x.cls).before args s = true) (hcode : (Cond.code y bytes maxL ret).before args s = true) (hx : x.cls ≠ "java/lang/invoke/MethodHandle" ∧ x.cls ≠ "java/lang/invoke/VarHandle")
    {W9 : Nat} {Pre : Pt → Array Value → Prop} {Post : Pt → Array Value → Option Value → Pt → Prop} {PostX : Pt → Array Value → Addr → Pt → Prop} (hK : vx_Back l R p e below s args y 5 W9 Pre Post PostX)
    {b : Addr} {cellB : Cell} {kB : Class} (hcell : T.heap[b]? = some cellB) (hobj : cellB.vm.isStatics = false) (hcls : s.vm.findClass C = some cellB.cls) (hkB : s.vm.classes[cellB.cls]? = some kB)
    {g : JFrame} (hg : g.method = m) (hsize : g.locals.size = c.maxLocals) {argsL rest : List Value} (hlen : ∀ sig, parseMethodDescriptor x.desc = some sig → argsL.length = sig.parameters.length)
    (hstack : g.stack = argsL.reverse ++ .ref b :: rest) (hW : 2 * g.monitorRoom + (rest.map fun v => v.category).sum ≤ W9) (hdg : decode c.code g.pc = .ok (.invokeinterface index count, 5))
    (hpre : ∀ vm₁, s.WarmedH vm₁ → Pre ⟨T.setVm vm₁, locs, cells, slots⟩ (Value.ref b :: argsL).toArray) :
    (∃ (v : Option Value) (vm₁ : Vm) (B : Pt), s.WarmedH vm₁ ∧ Stand p l e R s m args below meth c B.U B.locs B.cells B.slots ∧ Post ⟨T.setVm vm₁, locs, cells, slots⟩ (Value.ref b :: argsL).toArray v B ∧
      ∀ target, Steps p.tables e below (B.U.setTop { g with pc := g.pc + 5, stack := v.toList ++ rest }) target → Steps p.tables e below (T.setTop g) target) ∨
    (∃ (q : Addr) (vm₁ : Vm) (B : Pt), s.WarmedH vm₁ ∧ Stand p l e R s m args below meth c B.U B.locs B.cells B.slots ∧ PostX ⟨T.setVm vm₁, locs, cells, slots⟩ (Value.ref b :: argsL).toArray q B ∧
      Steps p.tables e below (T.setTop g) ((B.U.setTop { g with stack := rest }).pushFrame (.throwing q))) := by
  obtain ⟨r0, r, hn, hrm, hstR, hsigR⟩ := Cond.declares_spec hdecl
  obtain ⟨cL, kL, r1, hcL, hkL, hiL, hfoundL, hn1⟩ := Cond.interfaceMethod_spec hface
  cases hn.symm.trans hn1
  have hr0cls : r0.cls = cL := Option.some.inj ((findClass_of_methodNamed hn).symm.trans hcL)
  obtain ⟨hnameR, hdescR⟩ := name_of_methodNamed hn hrm
  obtain ⟨mk, methM, hnamed, hmethM, -, habM⟩ := Cond.instanceMethod_spec hinst
  obtain ⟨c2, r2, m2, q1, q2, q3, q4, -⟩ := Cond.selects_spec hsel
  cases hcls.symm.trans q1
  cases hfoundL.symm.trans q2
  cases hnamed.symm.trans q3
  have hselP : selectMethod e.platform s.vm cellB.cls r0 = .method mk := by rw [Launch.admits_selectMethod X.admits]; exact q4
  have hpubM : hasFlag methM.accessFlags Acc.public_ = true := Cond.publicMethod_spec hnamed hmethM hpub
  have hway : ((cellB.cls :: s.vm.superclasses cellB.cls).any fun k => (declaredIn s.vm r.name r.desc k).any fun (_, z) => z.isPrivate || z.isStatic) = false := by
    rw [hnameR, hdescR]; exact Cond.unhidden_spec hcls hunh
  obtain ⟨c3, t3, w1, w2, w3⟩ := Cond.castable_spec hcast
  cases hcls.symm.trans w1
  cases hcL.symm.trans w2
  obtain ⟨vm₁, X₁, hstep₁⟩ := X.invokeinterface hexec hown hlink hn hrm hstR (by rw [hr0cls]; exact hkL) hiL hx (a := b) (cell := cellB) (kcell := kB) hcell
    (fun z h => by rw [h] at hobj; cases hobj) hkB (by rw [hr0cls]; exact w3) hselP hmethM hway hpubM habM (g := g) hg (argsL := argsL) (rest := rest) (hlen _ hsigR) hstack hdg
  rcases hK m meth c ⟨T.setVm vm₁, locs, cells, slots⟩ { g with stack := rest } (.invokeinterface index count) mk (Value.ref b :: argsL).toArray X₁ hg hsize hdg hW (X₁.named hnamed) (hpre vm₁ X₁.warmed) with ⟨v, B, X', hpost, hsteps⟩ | ⟨q, B, X', hpost, hsteps⟩
  · exact Or.inl ⟨v, vm₁, B, X₁.warmed, X', hpost, fun target h => hstep₁ _ fun acts => by rw [doInvoke_state]; exact hsteps.trans h⟩
  · exact Or.inr ⟨q, vm₁, B, X₁.warmed, X', hpost, hstep₁ _ fun acts => by rw [doInvoke_state]; exact hsteps⟩
theorem vx_runF {x y : MethodName} {bytes cc : ByteArray} {maxL nL mc ms n index count : Nat} {ret : Option FieldType} {ws : List Cond} {rm : Room} {Pc : Array Value → State → Prop} {Qc : Array Value → State → Outcome → State → Prop} {XC : String → State → State → Prop} {free : Addr → Prop} {Ts : List Cond} {own C : String} {cC : ClassId} {b : Addr} {As rest : List Value} {g : JFrame}
    (hat : ClassAt s C cC) (S : CallFix p m c cc nL s args Ts own) (hM : vx_Met l y ws rm Pc Qc XC mc ms free) (cw : va_CI R s args own C index x y bytes maxL ret ws rm mc ms n) (hp : PreV s H C b Pc As)
    (hg : g.method = m) (hn : As.length = n) (hsize : g.locals.size = nL) (hstack : g.stack = As.reverse ++ .ref b :: rest) (hW : 2 * g.monitorRoom + (rest.map fun v => v.category).sum ≤ 8) (hdg : decode cc g.pc = .ok (.invokeinterface index count, 5)) (hf : cells + mc ≤ R.cells ∧ slots + ms ≤ R.slots) :
    vx_Run5 p l e R s m args below meth c H locs cells slots mc ms g rest (Qc (Value.ref b :: As).toArray) XC free := by
  obtain ⟨hrc, hrs, hfr, hlo, hws, hcw⟩ := cw.back
  have hini := cw.init
  have hK : vx_Back l R p e below s args y 5 8 (PreOf R mc ms Pc) (PostOf Qc mc ms free) (vx_Post XC mc ms free) := vx_back (bytes := bytes) (maxL := maxL) (ret := ret) hM hp.1 hrc hrs hfr hlo hws hcw (fun a' U hW => word_at hW (Or.inl (by first | rfl | simp [Cond.onTables, Cond.keeps, Cond.steady])) hini)
  obtain ⟨hx, hb, hml, ho, -⟩ := S
  obtain ⟨-, ⟨cellB, hcB, hoB, hclB⟩, hPc⟩ := hp
  obtain ⟨hfc, kB, hkB, -⟩ := hat
  cases hfc.symm.trans hclB
  intro T hT X
  rcases vx_callIF X hx (C := C) (bytes := bytes) (maxL := maxL) (ret := ret) ho cw.link cw.decl cw.face cw.sel cw.inst cw.pub cw.unh cw.cast cw.code cw.notMH hK (by rw [hT]; exact hcB) hoB hclB hkB hg (hsize.trans hml.symm) (argsL := As) (rest := rest) (fun sig h => hn.trans (cw.len sig h)) hstack hW (by rw [hb]; exact hdg)
    (fun vm₁ hW₁ => ⟨hf.1, hf.2, hPc (T.setVm vm₁) hT hW₁⟩) with ⟨v, vm₁, ⟨U', l2, c2, s2⟩, hW₁, X', ⟨g', mk, t, L, e1, e2, hq, h1, hL, h2, h3⟩, st⟩ | ⟨q, vm₁, ⟨U', l2, c2, s2⟩, hW₁, X', ⟨g', mk, t, L, E, ce, e1, e2, hq, hce, hcv, hcl, h1, hL, h2, h3⟩, st⟩
  · dsimp only [Pt.U, Pt.locs, Pt.cells, Pt.slots] at X' e1 e2 h1 h2 h3 st
    subst h1; subst h2; subst h3
    exact Or.inl ⟨v, (T.setVm vm₁).calling g' mk (Value.ref b :: As).toArray, t, U', L, hT, X', hL, e1, e2, hq, st⟩
  · dsimp only [Pt.U, Pt.locs, Pt.cells, Pt.slots] at X' e1 e2 h1 h2 h3 st hcl
    subst h1; subst h2; subst h3
    exact Or.inr ⟨q, (T.setVm vm₁).calling g' mk (Value.ref b :: As).toArray, t, U', L, E, ce, hT, X', hL, e1, e2, hq, hce, hcv, vx_cls hW₁ hcl, st⟩
theorem vx_callFv {S SX : Type} {post : S → Prop} {px : SX → Prop} {B : S → State → Prop} {BX : String → SX → State → Prop} {AX : Nat → Prop} (hr : vx_Run5 p l e R s m args below meth c H locs cells slots mc ms (F0 m pc ls st0) rest (va_Qv post B A1 a) (vx_X px BX AX) free) (hS : va_S A0 H0 H locs) (hA : ∀ q, q < H.size → A1 q → A0 q) (hf : ∀ q, free q → A0 q) (hAX : ∀ q, q < H.size → AX q → A0 q)
    (kx : ∀ (E : String) (ce : Cell) (q9 : Addr) (u : SX) (t : State) (H1 : Heap) (locs1 : List Loc), t.heap = H1 → s.vm.Alike t.vm → px u → BX E u t → H.size ≤ H1.size → (∀ q : Nat, q < H.size → ¬ AX q → H1[q]? = H[q]?) → va_S A0 H0 H1 locs1 → H1[q9]? = some ce → ce.vm = .none → s.vm.findClass E = some ce.cls → vx_W p l e R s m args below meth c H1 locs1 (cells + mc) (slots + ms) Q (F0 m pc ls rest) q9)
    (kk : ∀ (u : S) (t : State) (H1 : Heap) (locs1 : List Loc), t.heap = H1 → s.vm.Alike t.vm → post u → B u t → H.size ≤ H1.size → (∀ q : Nat, q < H.size → ¬ A1 q → H1[q]? = H[q]?) → va_S A0 H0 H1 locs1 → W p l e R s m args below meth c H1 locs1 (cells + mc) (slots + ms) Q (F0 m (pc + 5) ls (rest))) : W p l e R s m args below meth c H locs cells slots Q (F0 m pc ls st0) := by
  intro T hT X
  rcases hr T hT X with ⟨v, st₀, t, T', L, h0, X', hL, e1, e2, ⟨⟨u, hv, hp, hb⟩, hF⟩, st⟩ | ⟨q, st₀, t, T', L, E, ce, h0, X', hL, e1, e2, ⟨u, hp, hb, hF⟩, hce, hcv, hcl, st⟩
  · cases hv
    obtain ⟨k1, k2, k3⟩ := vx_keep h0 e1 hS hA hf hL hF
    obtain ⟨t2, a1, b1⟩ := kk u t T'.heap (locs ++ L) e1.symm (by rw [← e2]; exact X'.warmed.alike) hp hb k1 k2 k3 T' rfl X'
    exact ⟨t2, st t2 a1, b1⟩
  · obtain ⟨k1, k2, k3⟩ := vx_keep h0 e1 hS hAX hf hL hF
    obtain ⟨t2, a1, b1⟩ := kx E ce q u t T'.heap (locs ++ L) e1.symm (by rw [← e2]; exact X'.warmed.alike) hp hb k1 k2 k3 (by rw [e1]; exact hce) hcv hcl T' rfl X'
    exact ⟨t2, st.trans a1, b1⟩
theorem vx_callFi {S SX : Type} {post : Int32 → S → Prop} {px : SX → Prop} {B : S → State → Prop} {BX : String → SX → State → Prop} {AX : Nat → Prop} (hr : vx_Run5 p l e R s m args below meth c H locs cells slots mc ms (F0 m pc ls st0) rest (va_Qi post B A1 a) (vx_X px BX AX) free) (hS : va_S A0 H0 H locs) (hA : ∀ q, q < H.size → A1 q → A0 q) (hf : ∀ q, free q → A0 q) (hAX : ∀ q, q < H.size → AX q → A0 q)
    (kx : ∀ (E : String) (ce : Cell) (q9 : Addr) (u : SX) (t : State) (H1 : Heap) (locs1 : List Loc), t.heap = H1 → s.vm.Alike t.vm → px u → BX E u t → H.size ≤ H1.size → (∀ q : Nat, q < H.size → ¬ AX q → H1[q]? = H[q]?) → va_S A0 H0 H1 locs1 → H1[q9]? = some ce → ce.vm = .none → s.vm.findClass E = some ce.cls → vx_W p l e R s m args below meth c H1 locs1 (cells + mc) (slots + ms) Q (F0 m pc ls rest) q9)
    (kk : ∀ (r : Int32) (u : S) (t : State) (H1 : Heap) (locs1 : List Loc), t.heap = H1 → s.vm.Alike t.vm → post r u → B u t → H.size ≤ H1.size → (∀ q : Nat, q < H.size → ¬ A1 q → H1[q]? = H[q]?) → va_S A0 H0 H1 locs1 → W p l e R s m args below meth c H1 locs1 (cells + mc) (slots + ms) Q (F0 m (pc + 5) ls (.int r :: rest))) : W p l e R s m args below meth c H locs cells slots Q (F0 m pc ls st0) := by
  intro T hT X
  rcases hr T hT X with ⟨v, st₀, t, T', L, h0, X', hL, e1, e2, ⟨⟨r, u, hv, hp, hb⟩, hF⟩, st⟩ | ⟨q, st₀, t, T', L, E, ce, h0, X', hL, e1, e2, ⟨u, hp, hb, hF⟩, hce, hcv, hcl, st⟩
  · cases hv
    obtain ⟨k1, k2, k3⟩ := vx_keep h0 e1 hS hA hf hL hF
    obtain ⟨t2, a1, b1⟩ := kk r u t T'.heap (locs ++ L) e1.symm (by rw [← e2]; exact X'.warmed.alike) hp hb k1 k2 k3 T' rfl X'
    exact ⟨t2, st t2 a1, b1⟩
  · obtain ⟨k1, k2, k3⟩ := vx_keep h0 e1 hS hAX hf hL hF
    obtain ⟨t2, a1, b1⟩ := kx E ce q u t T'.heap (locs ++ L) e1.symm (by rw [← e2]; exact X'.warmed.alike) hp hb k1 k2 k3 (by rw [e1]; exact hce) hcv hcl T' rfl X'
    exact ⟨t2, st.trans a1, b1⟩
theorem vx_callFl {S SX : Type} {post : Int64 → S → Prop} {px : SX → Prop} {B : S → State → Prop} {BX : String → SX → State → Prop} {AX : Nat → Prop} (hr : vx_Run5 p l e R s m args below meth c H locs cells slots mc ms (F0 m pc ls st0) rest (va_Ql post B A1 a) (vx_X px BX AX) free) (hS : va_S A0 H0 H locs) (hA : ∀ q, q < H.size → A1 q → A0 q) (hf : ∀ q, free q → A0 q) (hAX : ∀ q, q < H.size → AX q → A0 q)
    (kx : ∀ (E : String) (ce : Cell) (q9 : Addr) (u : SX) (t : State) (H1 : Heap) (locs1 : List Loc), t.heap = H1 → s.vm.Alike t.vm → px u → BX E u t → H.size ≤ H1.size → (∀ q : Nat, q < H.size → ¬ AX q → H1[q]? = H[q]?) → va_S A0 H0 H1 locs1 → H1[q9]? = some ce → ce.vm = .none → s.vm.findClass E = some ce.cls → vx_W p l e R s m args below meth c H1 locs1 (cells + mc) (slots + ms) Q (F0 m pc ls rest) q9)
    (kk : ∀ (r : Int64) (u : S) (t : State) (H1 : Heap) (locs1 : List Loc), t.heap = H1 → s.vm.Alike t.vm → post r u → B u t → H.size ≤ H1.size → (∀ q : Nat, q < H.size → ¬ A1 q → H1[q]? = H[q]?) → va_S A0 H0 H1 locs1 → W p l e R s m args below meth c H1 locs1 (cells + mc) (slots + ms) Q (F0 m (pc + 5) ls (.long r :: rest))) : W p l e R s m args below meth c H locs cells slots Q (F0 m pc ls st0) := by
  intro T hT X
  rcases hr T hT X with ⟨v, st₀, t, T', L, h0, X', hL, e1, e2, ⟨⟨r, u, hv, hp, hb⟩, hF⟩, st⟩ | ⟨q, st₀, t, T', L, E, ce, h0, X', hL, e1, e2, ⟨u, hp, hb, hF⟩, hce, hcv, hcl, st⟩
  · cases hv
    obtain ⟨k1, k2, k3⟩ := vx_keep h0 e1 hS hA hf hL hF
    obtain ⟨t2, a1, b1⟩ := kk r u t T'.heap (locs ++ L) e1.symm (by rw [← e2]; exact X'.warmed.alike) hp hb k1 k2 k3 T' rfl X'
    exact ⟨t2, st t2 a1, b1⟩
  · obtain ⟨k1, k2, k3⟩ := vx_keep h0 e1 hS hAX hf hL hF
    obtain ⟨t2, a1, b1⟩ := kx E ce q u t T'.heap (locs ++ L) e1.symm (by rw [← e2]; exact X'.warmed.alike) hp hb k1 k2 k3 (by rw [e1]; exact hce) hcv hcl T' rfl X'
    exact ⟨t2, st.trans a1, b1⟩
theorem vx_callFf {S SX : Type} {post : UInt32 → S → Prop} {px : SX → Prop} {B : S → State → Prop} {BX : String → SX → State → Prop} {AX : Nat → Prop} (hr : vx_Run5 p l e R s m args below meth c H locs cells slots mc ms (F0 m pc ls st0) rest (va_Qf post B A1 a) (vx_X px BX AX) free) (hS : va_S A0 H0 H locs) (hA : ∀ q, q < H.size → A1 q → A0 q) (hf : ∀ q, free q → A0 q) (hAX : ∀ q, q < H.size → AX q → A0 q)
    (kx : ∀ (E : String) (ce : Cell) (q9 : Addr) (u : SX) (t : State) (H1 : Heap) (locs1 : List Loc), t.heap = H1 → s.vm.Alike t.vm → px u → BX E u t → H.size ≤ H1.size → (∀ q : Nat, q < H.size → ¬ AX q → H1[q]? = H[q]?) → va_S A0 H0 H1 locs1 → H1[q9]? = some ce → ce.vm = .none → s.vm.findClass E = some ce.cls → vx_W p l e R s m args below meth c H1 locs1 (cells + mc) (slots + ms) Q (F0 m pc ls rest) q9)
    (kk : ∀ (r : UInt32) (u : S) (t : State) (H1 : Heap) (locs1 : List Loc), t.heap = H1 → s.vm.Alike t.vm → post r u → B u t → H.size ≤ H1.size → (∀ q : Nat, q < H.size → ¬ A1 q → H1[q]? = H[q]?) → va_S A0 H0 H1 locs1 → W p l e R s m args below meth c H1 locs1 (cells + mc) (slots + ms) Q (F0 m (pc + 5) ls (.float r :: rest))) : W p l e R s m args below meth c H locs cells slots Q (F0 m pc ls st0) := by
  intro T hT X
  rcases hr T hT X with ⟨v, st₀, t, T', L, h0, X', hL, e1, e2, ⟨⟨r, u, hv, hp, hb⟩, hF⟩, st⟩ | ⟨q, st₀, t, T', L, E, ce, h0, X', hL, e1, e2, ⟨u, hp, hb, hF⟩, hce, hcv, hcl, st⟩
  · cases hv
    obtain ⟨k1, k2, k3⟩ := vx_keep h0 e1 hS hA hf hL hF
    obtain ⟨t2, a1, b1⟩ := kk r u t T'.heap (locs ++ L) e1.symm (by rw [← e2]; exact X'.warmed.alike) hp hb k1 k2 k3 T' rfl X'
    exact ⟨t2, st t2 a1, b1⟩
  · obtain ⟨k1, k2, k3⟩ := vx_keep h0 e1 hS hAX hf hL hF
    obtain ⟨t2, a1, b1⟩ := kx E ce q u t T'.heap (locs ++ L) e1.symm (by rw [← e2]; exact X'.warmed.alike) hp hb k1 k2 k3 (by rw [e1]; exact hce) hcv hcl T' rfl X'
    exact ⟨t2, st.trans a1, b1⟩
theorem vx_callFd {S SX : Type} {post : UInt64 → S → Prop} {px : SX → Prop} {B : S → State → Prop} {BX : String → SX → State → Prop} {AX : Nat → Prop} (hr : vx_Run5 p l e R s m args below meth c H locs cells slots mc ms (F0 m pc ls st0) rest (va_Qd post B A1 a) (vx_X px BX AX) free) (hS : va_S A0 H0 H locs) (hA : ∀ q, q < H.size → A1 q → A0 q) (hf : ∀ q, free q → A0 q) (hAX : ∀ q, q < H.size → AX q → A0 q)
    (kx : ∀ (E : String) (ce : Cell) (q9 : Addr) (u : SX) (t : State) (H1 : Heap) (locs1 : List Loc), t.heap = H1 → s.vm.Alike t.vm → px u → BX E u t → H.size ≤ H1.size → (∀ q : Nat, q < H.size → ¬ AX q → H1[q]? = H[q]?) → va_S A0 H0 H1 locs1 → H1[q9]? = some ce → ce.vm = .none → s.vm.findClass E = some ce.cls → vx_W p l e R s m args below meth c H1 locs1 (cells + mc) (slots + ms) Q (F0 m pc ls rest) q9)
    (kk : ∀ (r : UInt64) (u : S) (t : State) (H1 : Heap) (locs1 : List Loc), t.heap = H1 → s.vm.Alike t.vm → post r u → B u t → H.size ≤ H1.size → (∀ q : Nat, q < H.size → ¬ A1 q → H1[q]? = H[q]?) → va_S A0 H0 H1 locs1 → W p l e R s m args below meth c H1 locs1 (cells + mc) (slots + ms) Q (F0 m (pc + 5) ls (.double r :: rest))) : W p l e R s m args below meth c H locs cells slots Q (F0 m pc ls st0) := by
  intro T hT X
  rcases hr T hT X with ⟨v, st₀, t, T', L, h0, X', hL, e1, e2, ⟨⟨r, u, hv, hp, hb⟩, hF⟩, st⟩ | ⟨q, st₀, t, T', L, E, ce, h0, X', hL, e1, e2, ⟨u, hp, hb, hF⟩, hce, hcv, hcl, st⟩
  · cases hv
    obtain ⟨k1, k2, k3⟩ := vx_keep h0 e1 hS hA hf hL hF
    obtain ⟨t2, a1, b1⟩ := kk r u t T'.heap (locs ++ L) e1.symm (by rw [← e2]; exact X'.warmed.alike) hp hb k1 k2 k3 T' rfl X'
    exact ⟨t2, st t2 a1, b1⟩
  · obtain ⟨k1, k2, k3⟩ := vx_keep h0 e1 hS hAX hf hL hF
    obtain ⟨t2, a1, b1⟩ := kx E ce q u t T'.heap (locs ++ L) e1.symm (by rw [← e2]; exact X'.warmed.alike) hp hb k1 k2 k3 (by rw [e1]; exact hce) hcv hcl T' rfl X'
    exact ⟨t2, st.trans a1, b1⟩
end
/-! ===== END ===== -/
/-! ===== BEGIN by an interface, a method with a table of its own that may throw (follows va_callIFW, va_runFW) ===== -/
section
variable {p : Program} {l : Launch} {e : Env} {R : Room} {s : State} {m : MethodId} {args : Array Value} {below : List Frame} {meth : Method} {c : Code} {H : Heap} {locs : List Loc} {cells slots : Nat}
theorem vx_callIFW {T : State} (X : Stand p l e R s m args below meth c T locs cells slots) (hexec : p.tables.exec = Jvm.exec) {own C : String} {index count : Nat} {x y : MethodName} {bytes : ByteArray} {maxL : Nat} {ret : Option FieldType} {hh : List (Nat × Nat × Nat × Nat)}
    (hown : s.vm.findClass own = some m.cls) (hlink : (Cond.methodLink own index x).before args s = true) (hdecl : (Cond.declares x).before args s = true) (hface : (Cond.interfaceMethod x.cls x.cls x.name x.desc).before args s = true)
    (hsel : (Cond.selects C x y).before args s = true) (hinst : (Cond.instanceMethod y).before args s = true) (hpub : (Cond.publicMethod y).before args s = true) (hunh : (Cond.unhidden C x.name x.desc).before args s = true)
    (hcast : (Cond.castable C x.cls).before args s = true) (hcode : (Cond.codeWith y bytes maxL ret hh).before args s = true) (hx : x.cls ≠ "java/lang/invoke/MethodHandle" ∧ x.cls ≠ "java/lang/invoke/VarHandle")
    {W : Nat} {Pre : Pt → Array Value → Prop} {Post : Pt → Array Value → Option Value → Pt → Prop} {PostX : Pt → Array Value → Addr → Pt → Prop} (hK : vx_Back l R p e below s args y 5 W Pre Post PostX)
    {b : Addr} {cellB : Cell} {kB : Class} (hcell : T.heap[b]? = some cellB) (hobj : cellB.vm.isStatics = false) (hcls : s.vm.findClass C = some cellB.cls) (hkB : s.vm.classes[cellB.cls]? = some kB)
    {g : JFrame} (hg : g.method = m) (hsize : g.locals.size = c.maxLocals) {argsL rest : List Value} (hlen : ∀ sig, parseMethodDescriptor x.desc = some sig → argsL.length = sig.parameters.length)
    (hstack : g.stack = argsL.reverse ++ .ref b :: rest) (hW : 2 * g.monitorRoom + (rest.map fun v => v.category).sum ≤ W) (hdg : decode c.code g.pc = .ok (.invokeinterface index count, 5))
    (hpre : ∀ vm₁, s.WarmedH vm₁ → Pre ⟨T.setVm vm₁, locs, cells, slots⟩ (Value.ref b :: argsL).toArray) :
    (∃ (v : Option Value) (vm₁ : Vm) (B : Pt), s.WarmedH vm₁ ∧ Stand p l e R s m args below meth c B.U B.locs B.cells B.slots ∧ Post ⟨T.setVm vm₁, locs, cells, slots⟩ (Value.ref b :: argsL).toArray v B ∧
      ∀ target, Steps p.tables e below (B.U.setTop { g with pc := g.pc + 5, stack := v.toList ++ rest }) target → Steps p.tables e below (T.setTop g) target) ∨
    (∃ (q : Addr) (vm₁ : Vm) (B : Pt), s.WarmedH vm₁ ∧ Stand p l e R s m args below meth c B.U B.locs B.cells B.slots ∧ PostX ⟨T.setVm vm₁, locs, cells, slots⟩ (Value.ref b :: argsL).toArray q B ∧
      Steps p.tables e below (T.setTop g) ((B.U.setTop { g with stack := rest }).pushFrame (.throwing q))) := by
  obtain ⟨r0, r, hn, hrm, hstR, hsigR⟩ := Cond.declares_spec hdecl
  obtain ⟨cL, kL, r1, hcL, hkL, hiL, hfoundL, hn1⟩ := Cond.interfaceMethod_spec hface
  cases hn.symm.trans hn1
  have hr0cls : r0.cls = cL := Option.some.inj ((findClass_of_methodNamed hn).symm.trans hcL)
  obtain ⟨hnameR, hdescR⟩ := name_of_methodNamed hn hrm
  obtain ⟨mk, methM, hnamed, hmethM, -, habM⟩ := Cond.instanceMethod_spec hinst
  obtain ⟨c2, r2, m2, q1, q2, q3, q4, -⟩ := Cond.selects_spec hsel
  cases hcls.symm.trans q1
  cases hfoundL.symm.trans q2
  cases hnamed.symm.trans q3
  have hselP : selectMethod e.platform s.vm cellB.cls r0 = .method mk := by rw [Launch.admits_selectMethod X.admits]; exact q4
  have hpubM : hasFlag methM.accessFlags Acc.public_ = true := Cond.publicMethod_spec hnamed hmethM hpub
  have hway : ((cellB.cls :: s.vm.superclasses cellB.cls).any fun k => (declaredIn s.vm r.name r.desc k).any fun (_, z) => z.isPrivate || z.isStatic) = false := by
    rw [hnameR, hdescR]; exact Cond.unhidden_spec hcls hunh
  obtain ⟨c3, t3, w1, w2, w3⟩ := Cond.castable_spec hcast
  cases hcls.symm.trans w1
  cases hcL.symm.trans w2
  obtain ⟨vm₁, X₁, hstep₁⟩ := X.invokeinterface hexec hown hlink hn hrm hstR (by rw [hr0cls]; exact hkL) hiL hx (a := b) (cell := cellB) (kcell := kB) hcell
    (fun z h => by rw [h] at hobj; cases hobj) hkB (by rw [hr0cls]; exact w3) hselP hmethM hway hpubM habM (g := g) hg (argsL := argsL) (rest := rest) (hlen _ hsigR) hstack hdg
  rcases hK m meth c ⟨T.setVm vm₁, locs, cells, slots⟩ { g with stack := rest } (.invokeinterface index count) mk (Value.ref b :: argsL).toArray X₁ hg hsize hdg hW (X₁.named hnamed) (hpre vm₁ X₁.warmed) with ⟨v, B, X', hpost, hsteps⟩ | ⟨q, B, X', hpost, hsteps⟩
  · exact Or.inl ⟨v, vm₁, B, X₁.warmed, X', hpost, fun target h => hstep₁ _ fun acts => by rw [doInvoke_state]; exact hsteps.trans h⟩
  · exact Or.inr ⟨q, vm₁, B, X₁.warmed, X', hpost, hstep₁ _ fun acts => by rw [doInvoke_state]; exact hsteps⟩
theorem vx_runFW {x y : MethodName} {bytes cc : ByteArray} {maxL nL mc ms n index count : Nat} {ret : Option FieldType} {hh : List (Nat × Nat × Nat × Nat)} {ws : List Cond} {rm : Room} {Pc : Array Value → State → Prop} {Qc : Array Value → State → Outcome → State → Prop} {XC : String → State → State → Prop} {free : Addr → Prop} {Ts : List Cond} {own C : String} {cC : ClassId} {b : Addr} {As rest : List Value} {g : JFrame}
    (hat : ClassAt s C cC) (S : CallFix p m c cc nL s args Ts own) (hM : vx_Met l y ws rm Pc Qc XC mc ms free) (cw : va_CIW R s args own C index x y bytes maxL ret hh ws rm mc ms n) (hp : PreV s H C b Pc As)
    (hg : g.method = m) (hn : As.length = n) (hsize : g.locals.size = nL) (hstack : g.stack = As.reverse ++ .ref b :: rest) (hW : 2 * g.monitorRoom + (rest.map fun v => v.category).sum ≤ 8) (hdg : decode cc g.pc = .ok (.invokeinterface index count, 5)) (hf : cells + mc ≤ R.cells ∧ slots + ms ≤ R.slots) :
    vx_Run5 p l e R s m args below meth c H locs cells slots mc ms g rest (Qc (Value.ref b :: As).toArray) XC free := by
  obtain ⟨hrc, hrs, hfr, hlo, hws, hcw⟩ := cw.back
  have hini := cw.init
  have hK : vx_Back l R p e below s args y 5 8 (PreOf R mc ms Pc) (PostOf Qc mc ms free) (vx_Post XC mc ms free) := vx_backW (hh := hh) (bytes := bytes) (maxL := maxL) (ret := ret) hM hp.1 hrc hrs hfr hlo hws hcw (fun a' U hW => word_at hW (Or.inl (by first | rfl | simp [Cond.onTables, Cond.keeps, Cond.steady])) hini)
  obtain ⟨hx, hb, hml, ho, -⟩ := S
  obtain ⟨-, ⟨cellB, hcB, hoB, hclB⟩, hPc⟩ := hp
  obtain ⟨hfc, kB, hkB, -⟩ := hat
  cases hfc.symm.trans hclB
  intro T hT X
  rcases vx_callIFW X hx (C := C) (hh := hh) (bytes := bytes) (maxL := maxL) (ret := ret) ho cw.link cw.decl cw.face cw.sel cw.inst cw.pub cw.unh cw.cast cw.code cw.notMH hK (by rw [hT]; exact hcB) hoB hclB hkB hg (hsize.trans hml.symm) (argsL := As) (rest := rest) (fun sig h => hn.trans (cw.len sig h)) hstack hW (by rw [hb]; exact hdg)
    (fun vm₁ hW₁ => ⟨hf.1, hf.2, hPc (T.setVm vm₁) hT hW₁⟩) with ⟨v, vm₁, ⟨U', l2, c2, s2⟩, hW₁, X', ⟨g', mk, t, L, e1, e2, hq, h1, hL, h2, h3⟩, st⟩ | ⟨q, vm₁, ⟨U', l2, c2, s2⟩, hW₁, X', ⟨g', mk, t, L, E, ce, e1, e2, hq, hce, hcv, hcl, h1, hL, h2, h3⟩, st⟩
  · dsimp only [Pt.U, Pt.locs, Pt.cells, Pt.slots] at X' e1 e2 h1 h2 h3 st
    subst h1; subst h2; subst h3
    exact Or.inl ⟨v, (T.setVm vm₁).calling g' mk (Value.ref b :: As).toArray, t, U', L, hT, X', hL, e1, e2, hq, st⟩
  · dsimp only [Pt.U, Pt.locs, Pt.cells, Pt.slots] at X' e1 e2 h1 h2 h3 st hcl
    subst h1; subst h2; subst h3
    exact Or.inr ⟨q, (T.setVm vm₁).calling g' mk (Value.ref b :: As).toArray, t, U', L, E, ce, hT, X', hL, e1, e2, hq, hce, hcv, vx_cls hW₁ hcl, st⟩
end
/-! ===== END ===== -/
/-! ===== BEGIN .. of methods that hand back an object of the pool ===== -/
section
variable {p : Program} {l : Launch} {e : Env} {R : Room} {s : State} {m : MethodId} {args : Array Value} {below : List Frame} {meth : Method} {c : Code} {H : Heap} {locs : List Loc} {cells slots : Nat} {Q : State → Prop}
variable {mc ms : Nat} {free : Addr → Prop} {A0 A1 : Nat → Prop} {H0 : Heap} {a : Array Value} {pc : Nat} {ls : Array Slot} {st0 rest : List Value}
theorem vx_callq {S SX : Type} {post : Option Nat → S → Prop} {px : SX → Prop} {B : S → State → Prop} {BX : String → SX → State → Prop} {AX : Nat → Prop} (hr : vx_Run p l e R s m args below meth c H locs cells slots mc ms (F0 m pc ls st0) rest (va_Qq post B A1 a) (vx_X px BX AX) free) (hS : va_S A0 H0 H locs) (hA : ∀ q, q < H.size → A1 q → A0 q) (hf : ∀ q, free q → A0 q) (hAX : ∀ q, q < H.size → AX q → A0 q)
    (kx : ∀ (E : String) (ce : Cell) (q9 : Addr) (u : SX) (t : State) (H1 : Heap) (locs1 : List Loc), t.heap = H1 → s.vm.Alike t.vm → px u → BX E u t → H.size ≤ H1.size → (∀ q : Nat, q < H.size → ¬ AX q → H1[q]? = H[q]?) → va_S A0 H0 H1 locs1 → H1[q9]? = some ce → ce.vm = .none → s.vm.findClass E = some ce.cls → vx_W p l e R s m args below meth c H1 locs1 (cells + mc) (slots + ms) Q (F0 m pc ls rest) q9)
    (kk : ∀ (r : Option Nat) (u : S) (t : State) (H1 : Heap) (locs1 : List Loc), t.heap = H1 → s.vm.Alike t.vm → post r u → B u t → H.size ≤ H1.size → (∀ q : Nat, q < H.size → ¬ A1 q → H1[q]? = H[q]?) → va_S A0 H0 H1 locs1 → W p l e R s m args below meth c H1 locs1 (cells + mc) (slots + ms) Q (F0 m (pc + 3) ls (va_rf r :: rest))) : W p l e R s m args below meth c H locs cells slots Q (F0 m pc ls st0) := by
  intro T hT X
  rcases hr T hT X with ⟨v, st₀, t, T', L, h0, X', hL, e1, e2, ⟨⟨r, u, hv, hp, hb⟩, hF⟩, st⟩ | ⟨q, st₀, t, T', L, E, ce, h0, X', hL, e1, e2, ⟨u, hp, hb, hF⟩, hce, hcv, hcl, st⟩
  · cases hv
    obtain ⟨k1, k2, k3⟩ := vx_keep h0 e1 hS hA hf hL hF
    obtain ⟨t2, a1, b1⟩ := kk r u t T'.heap (locs ++ L) e1.symm (by rw [← e2]; exact X'.warmed.alike) hp hb k1 k2 k3 T' rfl X'
    exact ⟨t2, st t2 a1, b1⟩
  · obtain ⟨k1, k2, k3⟩ := vx_keep h0 e1 hS hAX hf hL hF
    obtain ⟨t2, a1, b1⟩ := kx E ce q u t T'.heap (locs ++ L) e1.symm (by rw [← e2]; exact X'.warmed.alike) hp hb k1 k2 k3 (by rw [e1]; exact hce) hcv hcl T' rfl X'
    exact ⟨t2, st.trans a1, b1⟩
end
/-! ===== END ===== -/
/-! ===== BEGIN .. a constant ===== -/
section
variable {p : Program} {l : Launch} {e : Env} {R : Room} {s : State} {m : MethodId} {args : Array Value} {below : List Frame} {meth : Method} {c : Code} {H : Heap} {locs : List Loc} {cells slots : Nat} {Q : State → Prop}
variable {mc ms : Nat} {free : Addr → Prop} {A0 A1 : Nat → Prop} {H0 : Heap} {a : Array Value} {pc : Nat} {ls : Array Slot} {st0 rest : List Value}
theorem vx_calle {ad : Nat → Nat} {S SX : Type} {post : Option Nat → S → Prop} {px : SX → Prop} {B : S → State → Prop} {BX : String → SX → State → Prop} {AX : Nat → Prop} (hr : vx_Run p l e R s m args below meth c H locs cells slots mc ms (F0 m pc ls st0) rest (va_Qe ad post B A1 a) (vx_X px BX AX) free) (hS : va_S A0 H0 H locs) (hA : ∀ q, q < H.size → A1 q → A0 q) (hf : ∀ q, free q → A0 q) (hAX : ∀ q, q < H.size → AX q → A0 q)
    (kx : ∀ (E : String) (ce : Cell) (q9 : Addr) (u : SX) (t : State) (H1 : Heap) (locs1 : List Loc), t.heap = H1 → s.vm.Alike t.vm → px u → BX E u t → H.size ≤ H1.size → (∀ q : Nat, q < H.size → ¬ AX q → H1[q]? = H[q]?) → va_S A0 H0 H1 locs1 → H1[q9]? = some ce → ce.vm = .none → s.vm.findClass E = some ce.cls → vx_W p l e R s m args below meth c H1 locs1 (cells + mc) (slots + ms) Q (F0 m pc ls rest) q9)
    (kk : ∀ (r : Option Nat) (u : S) (t : State) (H1 : Heap) (locs1 : List Loc), t.heap = H1 → s.vm.Alike t.vm → post r u → B u t → H.size ≤ H1.size → (∀ q : Nat, q < H.size → ¬ A1 q → H1[q]? = H[q]?) → va_S A0 H0 H1 locs1 → W p l e R s m args below meth c H1 locs1 (cells + mc) (slots + ms) Q (F0 m (pc + 3) ls (va_re ad r :: rest))) : W p l e R s m args below meth c H locs cells slots Q (F0 m pc ls st0) := by
  intro T hT X
  rcases hr T hT X with ⟨v, st₀, t, T', L, h0, X', hL, e1, e2, ⟨⟨r, u, hv, hp, hb⟩, hF⟩, st⟩ | ⟨q, st₀, t, T', L, E, ce, h0, X', hL, e1, e2, ⟨u, hp, hb, hF⟩, hce, hcv, hcl, st⟩
  · cases hv
    obtain ⟨k1, k2, k3⟩ := vx_keep h0 e1 hS hA hf hL hF
    obtain ⟨t2, a1, b1⟩ := kk r u t T'.heap (locs ++ L) e1.symm (by rw [← e2]; exact X'.warmed.alike) hp hb k1 k2 k3 T' rfl X'
    exact ⟨t2, st t2 a1, b1⟩
  · obtain ⟨k1, k2, k3⟩ := vx_keep h0 e1 hS hAX hf hL hF
    obtain ⟨t2, a1, b1⟩ := kx E ce q u t T'.heap (locs ++ L) e1.symm (by rw [← e2]; exact X'.warmed.alike) hp hb k1 k2 k3 (by rw [e1]; exact hce) hcv hcl T' rfl X'
    exact ⟨t2, st.trans a1, b1⟩
end
/-! ===== END ===== -/
/-! ===== BEGIN .. by an interface, an object ===== -/
section
variable {p : Program} {l : Launch} {e : Env} {R : Room} {s : State} {m : MethodId} {args : Array Value} {below : List Frame} {meth : Method} {c : Code} {H : Heap} {locs : List Loc} {cells slots : Nat} {Q : State → Prop}
variable {mc ms : Nat} {free : Addr → Prop} {A0 A1 : Nat → Prop} {H0 : Heap} {a : Array Value} {pc : Nat} {ls : Array Slot} {st0 rest : List Value}
theorem vx_callFq {S SX : Type} {post : Option Nat → S → Prop} {px : SX → Prop} {B : S → State → Prop} {BX : String → SX → State → Prop} {AX : Nat → Prop} (hr : vx_Run5 p l e R s m args below meth c H locs cells slots mc ms (F0 m pc ls st0) rest (va_Qq post B A1 a) (vx_X px BX AX) free) (hS : va_S A0 H0 H locs) (hA : ∀ q, q < H.size → A1 q → A0 q) (hf : ∀ q, free q → A0 q) (hAX : ∀ q, q < H.size → AX q → A0 q)
    (kx : ∀ (E : String) (ce : Cell) (q9 : Addr) (u : SX) (t : State) (H1 : Heap) (locs1 : List Loc), t.heap = H1 → s.vm.Alike t.vm → px u → BX E u t → H.size ≤ H1.size → (∀ q : Nat, q < H.size → ¬ AX q → H1[q]? = H[q]?) → va_S A0 H0 H1 locs1 → H1[q9]? = some ce → ce.vm = .none → s.vm.findClass E = some ce.cls → vx_W p l e R s m args below meth c H1 locs1 (cells + mc) (slots + ms) Q (F0 m pc ls rest) q9)
    (kk : ∀ (r : Option Nat) (u : S) (t : State) (H1 : Heap) (locs1 : List Loc), t.heap = H1 → s.vm.Alike t.vm → post r u → B u t → H.size ≤ H1.size → (∀ q : Nat, q < H.size → ¬ A1 q → H1[q]? = H[q]?) → va_S A0 H0 H1 locs1 → W p l e R s m args below meth c H1 locs1 (cells + mc) (slots + ms) Q (F0 m (pc + 5) ls (va_rf r :: rest))) : W p l e R s m args below meth c H locs cells slots Q (F0 m pc ls st0) := by
  intro T hT X
  rcases hr T hT X with ⟨v, st₀, t, T', L, h0, X', hL, e1, e2, ⟨⟨r, u, hv, hp, hb⟩, hF⟩, st⟩ | ⟨q, st₀, t, T', L, E, ce, h0, X', hL, e1, e2, ⟨u, hp, hb, hF⟩, hce, hcv, hcl, st⟩
  · cases hv
    obtain ⟨k1, k2, k3⟩ := vx_keep h0 e1 hS hA hf hL hF
    obtain ⟨t2, a1, b1⟩ := kk r u t T'.heap (locs ++ L) e1.symm (by rw [← e2]; exact X'.warmed.alike) hp hb k1 k2 k3 T' rfl X'
    exact ⟨t2, st t2 a1, b1⟩
  · obtain ⟨k1, k2, k3⟩ := vx_keep h0 e1 hS hAX hf hL hF
    obtain ⟨t2, a1, b1⟩ := kx E ce q u t T'.heap (locs ++ L) e1.symm (by rw [← e2]; exact X'.warmed.alike) hp hb k1 k2 k3 (by rw [e1]; exact hce) hcv hcl T' rfl X'
    exact ⟨t2, st.trans a1, b1⟩
end
/-! ===== END ===== -/
/-! ===== BEGIN .. by an interface, a constant ===== -/
section
variable {p : Program} {l : Launch} {e : Env} {R : Room} {s : State} {m : MethodId} {args : Array Value} {below : List Frame} {meth : Method} {c : Code} {H : Heap} {locs : List Loc} {cells slots : Nat} {Q : State → Prop}
variable {mc ms : Nat} {free : Addr → Prop} {A0 A1 : Nat → Prop} {H0 : Heap} {a : Array Value} {pc : Nat} {ls : Array Slot} {st0 rest : List Value}
theorem vx_callFe {ad : Nat → Nat} {S SX : Type} {post : Option Nat → S → Prop} {px : SX → Prop} {B : S → State → Prop} {BX : String → SX → State → Prop} {AX : Nat → Prop} (hr : vx_Run5 p l e R s m args below meth c H locs cells slots mc ms (F0 m pc ls st0) rest (va_Qe ad post B A1 a) (vx_X px BX AX) free) (hS : va_S A0 H0 H locs) (hA : ∀ q, q < H.size → A1 q → A0 q) (hf : ∀ q, free q → A0 q) (hAX : ∀ q, q < H.size → AX q → A0 q)
    (kx : ∀ (E : String) (ce : Cell) (q9 : Addr) (u : SX) (t : State) (H1 : Heap) (locs1 : List Loc), t.heap = H1 → s.vm.Alike t.vm → px u → BX E u t → H.size ≤ H1.size → (∀ q : Nat, q < H.size → ¬ AX q → H1[q]? = H[q]?) → va_S A0 H0 H1 locs1 → H1[q9]? = some ce → ce.vm = .none → s.vm.findClass E = some ce.cls → vx_W p l e R s m args below meth c H1 locs1 (cells + mc) (slots + ms) Q (F0 m pc ls rest) q9)
    (kk : ∀ (r : Option Nat) (u : S) (t : State) (H1 : Heap) (locs1 : List Loc), t.heap = H1 → s.vm.Alike t.vm → post r u → B u t → H.size ≤ H1.size → (∀ q : Nat, q < H.size → ¬ A1 q → H1[q]? = H[q]?) → va_S A0 H0 H1 locs1 → W p l e R s m args below meth c H1 locs1 (cells + mc) (slots + ms) Q (F0 m (pc + 5) ls (va_re ad r :: rest))) : W p l e R s m args below meth c H locs cells slots Q (F0 m pc ls st0) := by
  intro T hT X
  rcases hr T hT X with ⟨v, st₀, t, T', L, h0, X', hL, e1, e2, ⟨⟨r, u, hv, hp, hb⟩, hF⟩, st⟩ | ⟨q, st₀, t, T', L, E, ce, h0, X', hL, e1, e2, ⟨u, hp, hb, hF⟩, hce, hcv, hcl, st⟩
  · cases hv
    obtain ⟨k1, k2, k3⟩ := vx_keep h0 e1 hS hA hf hL hF
    obtain ⟨t2, a1, b1⟩ := kk r u t T'.heap (locs ++ L) e1.symm (by rw [← e2]; exact X'.warmed.alike) hp hb k1 k2 k3 T' rfl X'
    exact ⟨t2, st t2 a1, b1⟩
  · obtain ⟨k1, k2, k3⟩ := vx_keep h0 e1 hS hAX hf hL hF
    obtain ⟨t2, a1, b1⟩ := kx E ce q u t T'.heap (locs ++ L) e1.symm (by rw [← e2]; exact X'.warmed.alike) hp hb k1 k2 k3 (by rw [e1]; exact hce) hcv hcl T' rfl X'
    exact ⟨t2, st.trans a1, b1⟩
end
/-! ===== END ===== -/
/-! ===== BEGIN what the machine throws by itself: null at a field, at athrow ===== -/
section VXM2
variable {p : Program} {l : Launch} {e : Env} {R : Room} {s : State} {m : MethodId} {args : Array Value} {below : List Frame} {meth : Method} {c : Code} {H : Heap} {locs : List Loc} {cells slots : Nat}
variable {Q : State → Prop} {cc : ByteArray} {pc : Nat} {ls : Array Slot} {rest : List Value}
theorem vx_getfN {D cl tys} {own ref C : String} {T : u_T} {N ci index : Nat} {Ts : List Cond} (hexec : p.tables.exec = Jvm.exec) (hb : c.code = cc) (hts : ∀ w ∈ Ts, w.before args s = true) (hin : ∀ w ∈ u_ws C T N, w ∈ Ts) (hown : s.vm.findClass own = some m.cls) (hK : va_K D cl tys s) (hc : cl[ci]? = some (C, T, N)) (k : Nat) (hk : k < N) (hlink : (Cond.fieldLink own index ref (T k).2.1 (T k).2.2.1).before args s = true) (hsame : ∀ x, s.fieldFound? (T k).1 (T k).2.1 (T k).2.2.1 = some x → s.fieldFound? ref (T k).2.1 (T k).2.2.1 = some x) (hdg : decode cc pc = .ok (.getfield index, 3)) (kk : vx_NoteN p l e R s m args below meth c H locs cells slots Q (F0 m pc ls rest)) : W p l e R s m args below meth c H locs cells slots Q (F0 m pc ls (.null :: rest)) := by
  obtain ⟨hS, hfc, kC, hkC, -⟩ := hK.1 ci _ hc
  obtain ⟨cf, kf, fi, f, hi, -⟩ := hS k hk
  intro U hU X
  obtain ⟨vm', X1, st1⟩ := X.getfieldNull hexec hown hlink (hsame _ hi) (u_facts hfc hkC (u_lays hts hin hk) hi).1 (g := F0 m pc ls (.null :: rest)) rfl (rest := rest) rfl (by rw [hb]; exact hdg)
  obtain ⟨t, st, q⟩ := kk (U.setVm vm') hU X1
  exact ⟨t, st1 t st, q⟩
theorem vx_getfNN {D cl tys} {own ref C host : String} {T : u_T} {N ci index : Nat} {Ts : List Cond} (hexec : p.tables.exec = Jvm.exec) (hb : c.code = cc) (hts : ∀ w ∈ Ts, w.before args s = true) (hin : ∀ w ∈ u_ws C T N, w ∈ Ts) (hown : s.vm.findClass own = some m.cls) (hK : va_K D cl tys s) (hc : cl[ci]? = some (C, T, N)) (k : Nat) (hk : k < N) (hlink : (Cond.fieldLinkNest own index ref (T k).2.1 (T k).2.2.1 host).before args s = true) (hsame : ∀ x, s.fieldFound? (T k).1 (T k).2.1 (T k).2.2.1 = some x → s.fieldFound? ref (T k).2.1 (T k).2.2.1 = some x) (hdg : decode cc pc = .ok (.getfield index, 3)) (kk : vx_NoteN p l e R s m args below meth c H locs cells slots Q (F0 m pc ls rest)) : W p l e R s m args below meth c H locs cells slots Q (F0 m pc ls (.null :: rest)) := by
  obtain ⟨hS, hfc, kC, hkC, -⟩ := hK.1 ci _ hc
  obtain ⟨cf, kf, fi, f, hi, -⟩ := hS k hk
  intro U hU X
  obtain ⟨vm', X1, st1⟩ := X.getfieldNullNest hexec hown hlink (hsame _ hi) (u_facts hfc hkC (u_lays hts hin hk) hi).1 (g := F0 m pc ls (.null :: rest)) rfl (rest := rest) rfl (by rw [hb]; exact hdg)
  obtain ⟨t, st, q⟩ := kk (U.setVm vm') hU X1
  exact ⟨t, st1 t st, q⟩
theorem vx_putfN {D cl tys} {own ref C : String} {T : u_T} {N ci index : Nat} {Ts : List Cond} (hexec : p.tables.exec = Jvm.exec) (hb : c.code = cc) (hts : ∀ w ∈ Ts, w.before args s = true) (hin : ∀ w ∈ u_ws C T N, w ∈ Ts) (hown : s.vm.findClass own = some m.cls) (hK : va_K D cl tys s) (hc : cl[ci]? = some (C, T, N)) (k : Nat) (hk : k < N) (hlink : (Cond.fieldLink own index ref (T k).2.1 (T k).2.2.1).before args s = true) (hsame : ∀ x, s.fieldFound? (T k).1 (T k).2.1 (T k).2.2.1 = some x → s.fieldFound? ref (T k).2.1 (T k).2.2.1 = some x) (hfin : (T k).2.2.2 = false) {v : Value} (hdg : decode cc pc = .ok (.putfield index, 3)) (kk : vx_NoteN p l e R s m args below meth c H locs cells slots Q (F0 m pc ls rest)) : W p l e R s m args below meth c H locs cells slots Q (F0 m pc ls (v :: .null :: rest)) := by
  obtain ⟨hS, hfc, kC, hkC, -⟩ := hK.1 ci _ hc
  obtain ⟨cf, kf, fi, f, hi, -⟩ := hS k hk
  have hlay := hts _ (hin _ (u_in_lay hk))
  unfold u_lay at hlay
  rw [if_neg (by rw [hfin]; decide)] at hlay
  obtain ⟨c9, k9, cf9, kf9, fi9, f9, -, -, hi9, hst9, hnf9, -⟩ := Cond.lays_spec hlay
  cases hi.symm.trans hi9
  intro U hU X
  obtain ⟨vm', X1, st1⟩ := X.putfieldNull hexec hown hlink (hsame _ hi) hst9 hnf9 (g := F0 m pc ls (v :: .null :: rest)) rfl (v := v) (rest := rest) rfl (by rw [hb]; exact hdg)
  obtain ⟨t, st, q⟩ := kk (U.setVm vm') hU X1
  exact ⟨t, st1 t st, q⟩
theorem vx_putfNN {D cl tys} {own ref C host : String} {T : u_T} {N ci index : Nat} {Ts : List Cond} (hexec : p.tables.exec = Jvm.exec) (hb : c.code = cc) (hts : ∀ w ∈ Ts, w.before args s = true) (hin : ∀ w ∈ u_ws C T N, w ∈ Ts) (hown : s.vm.findClass own = some m.cls) (hK : va_K D cl tys s) (hc : cl[ci]? = some (C, T, N)) (k : Nat) (hk : k < N) (hlink : (Cond.fieldLinkNest own index ref (T k).2.1 (T k).2.2.1 host).before args s = true) (hsame : ∀ x, s.fieldFound? (T k).1 (T k).2.1 (T k).2.2.1 = some x → s.fieldFound? ref (T k).2.1 (T k).2.2.1 = some x) (hfin : (T k).2.2.2 = false) {v : Value} (hdg : decode cc pc = .ok (.putfield index, 3)) (kk : vx_NoteN p l e R s m args below meth c H locs cells slots Q (F0 m pc ls rest)) : W p l e R s m args below meth c H locs cells slots Q (F0 m pc ls (v :: .null :: rest)) := by
  obtain ⟨hS, hfc, kC, hkC, -⟩ := hK.1 ci _ hc
  obtain ⟨cf, kf, fi, f, hi, -⟩ := hS k hk
  have hlay := hts _ (hin _ (u_in_lay hk))
  unfold u_lay at hlay
  rw [if_neg (by rw [hfin]; decide)] at hlay
  obtain ⟨c9, k9, cf9, kf9, fi9, f9, -, -, hi9, hst9, hnf9, -⟩ := Cond.lays_spec hlay
  cases hi.symm.trans hi9
  intro U hU X
  obtain ⟨vm', X1, st1⟩ := X.putfieldNullNest hexec hown hlink (hsame _ hi) hst9 hnf9 (g := F0 m pc ls (v :: .null :: rest)) rfl (v := v) (rest := rest) rfl (by rw [hb]; exact hdg)
  obtain ⟨t, st, q⟩ := kk (U.setVm vm') hU X1
  exact ⟨t, st1 t st, q⟩
theorem vx_athrowN (hexec : p.tables.exec = Jvm.exec) (hb : c.code = cc) (hdg : decode cc pc = .ok (.athrow, 1)) (k : vx_NoteN p l e R s m args below meth c H locs cells slots Q (F0 m pc ls rest)) : W p l e R s m args below meth c H locs cells slots Q (F0 m pc ls (.null :: rest)) := by
  intro T hT X
  obtain ⟨t, st, q⟩ := k T hT X
  exact ⟨t, X.athrowNull hexec (g := F0 m pc ls (.null :: rest)) rfl (rest := rest) rfl (by rw [hb]; exact hdg) t st, q⟩
end VXM2
/-! ===== END ===== -/
end
section
def RX0 : String := "GiantStairs$Giant"
def TX0 : u_T := fun k => match k with
  | 0 => ("GiantStairs$Giant", "coins", "I", false)
  | 1 => ("GiantStairs$Giant", "landing", "I", false)
  | 2 => ("GiantStairs$Giant", "breathsSoFar", "I", false)
  | 3 => ("GiantStairs$Giant", "rentsGiven", "I", false)
  | _ => ("GiantStairs$Giant", "tollsGot", "I", false)
def tyX0 : Nat → FieldType := fun k => match k with
  | 0 => .int
  | 1 => .int
  | 2 => .int
  | 3 => .int
  | _ => .int
abbrev wsX00 : List Cond := u_ws RX0 TX0 5
theorem nmX0 : ∀ a, a < 5 → ∀ b, b < 5 → a ≠ b → (TX0 a).2.1 ≠ (TX0 b).2.1 := by decide +kernel
theorem tyX0_ok : ∀ k, k < 5 → parseFieldDescriptor (TX0 k).2.2.1 = some (tyX0 k) := by decide +kernel
abbrev cX0_init : ByteArray := prog_2_method_1_code
def yX0_init : MethodName := ⟨RX0, "<init>", "(I)V"⟩
abbrev cX0_copyFrom : ByteArray := prog_2_method_2_code
def yX0_copyFrom : MethodName := ⟨RX0, "copyFrom", "(LGiantStairs$Giant;)V"⟩
def RX1 : String := "GiantStairs$Orders"
def TX1 : u_T := fun k => match k with
  | 0 => ("GiantStairs$Orders", "text", "Ljava/lang/StringBuilder;", true)
  | 1 => ("GiantStairs$Orders", "kinds", "[I", true)
  | 2 => ("GiantStairs$Orders", "numbers", "[[I", true)
  | _ => ("GiantStairs$Orders", "count", "I", false)
def tyX1 : Nat → FieldType := fun k => match k with
  | 0 => .object "java/lang/StringBuilder"
  | 1 => .array .int
  | 2 => .array (.array .int)
  | _ => .int
abbrev wsX10 : List Cond := u_ws RX1 TX1 4
theorem nmX1 : ∀ a, a < 4 → ∀ b, b < 4 → a ≠ b → (TX1 a).2.1 ≠ (TX1 b).2.1 := by decide +kernel
theorem tyX1_ok : ∀ k, k < 4 → parseFieldDescriptor (TX1 k).2.2.1 = some (tyX1 k) := by decide +kernel
abbrev cX1_init : ByteArray := prog_3_method_1_code
def yX1_init : MethodName := ⟨RX1, "<init>", "()V"⟩
abbrev cX1_formOf : ByteArray := prog_3_method_2_code
def yX1_formOf : MethodName := ⟨RX1, "formOf", "(I)Ljava/lang/String;"⟩
abbrev cX1_isDigit : ByteArray := prog_3_method_3_code
def yX1_isDigit : MethodName := ⟨RX1, "isDigit", "(C)Z"⟩
abbrev cX1_read : ByteArray := prog_3_method_4_code
def yX1_read : MethodName := ⟨RX1, "read", "()I"⟩
abbrev cX1_kindThatGoesFarthest : ByteArray := prog_3_method_5_code
def yX1_kindThatGoesFarthest : MethodName := ⟨RX1, "kindThatGoesFarthest", "(I)I"⟩
abbrev cX1_charactersThatFit : ByteArray := prog_3_method_6_code
def yX1_charactersThatFit : MethodName := ⟨RX1, "charactersThatFit", "(Ljava/lang/String;I)I"⟩
abbrev cX1_readOrder : ByteArray := prog_3_method_7_code
def yX1_readOrder : MethodName := ⟨RX1, "readOrder", "(III)I"⟩
abbrev cX1_whyNotDo : ByteArray := prog_3_method_8_code
def yX1_whyNotDo : MethodName := ⟨RX1, "whyNotDo", "(ILGiantStairs$Treaty;)J"⟩
abbrev cX1_doOrder : ByteArray := prog_3_method_9_code
def yX1_doOrder : MethodName := ⟨RX1, "doOrder", "(ILGiantStairs$Treaty;)I"⟩
def RX2 : String := "GiantStairs$Stair"
def TX2 : u_T := fun k => match k with
  | 0 => ("GiantStairs$Stair", "lower", "I", false)
  | 1 => ("GiantStairs$Stair", "upper", "I", false)
  | 2 => ("GiantStairs$Stair", "stepCount", "I", false)
  | 3 => ("GiantStairs$Stair", "dust", "I", false)
  | 4 => ("GiantStairs$Stair", "halvings", "I", false)
  | 5 => ("GiantStairs$Stair", "leaser", "I", false)
  | _ => ("GiantStairs$Stair", "leaseDays", "I", false)
def tyX2 : Nat → FieldType := fun k => match k with
  | 0 => .int
  | 1 => .int
  | 2 => .int
  | 3 => .int
  | 4 => .int
  | 5 => .int
  | _ => .int
abbrev wsX20 : List Cond := u_ws RX2 TX2 7
theorem nmX2 : ∀ a, a < 7 → ∀ b, b < 7 → a ≠ b → (TX2 a).2.1 ≠ (TX2 b).2.1 := by decide +kernel
theorem tyX2_ok : ∀ k, k < 7 → parseFieldDescriptor (TX2 k).2.2.1 = some (tyX2 k) := by decide +kernel
abbrev cX2_init : ByteArray := prog_4_method_1_code
def yX2_init : MethodName := ⟨RX2, "<init>", "()V"⟩
abbrev cX2_copyFrom : ByteArray := prog_4_method_2_code
def yX2_copyFrom : MethodName := ⟨RX2, "copyFrom", "(LGiantStairs$Stair;)V"⟩
abbrev cX2_startAnew : ByteArray := prog_4_method_3_code
def yX2_startAnew : MethodName := ⟨RX2, "startAnew", "(III)V"⟩
abbrev cX2_endLease : ByteArray := prog_4_method_4_code
def yX2_endLease : MethodName := ⟨RX2, "endLease", "()V"⟩
abbrev cX2_isLeased : ByteArray := prog_4_method_5_code
def yX2_isLeased : MethodName := ⟨RX2, "isLeased", "()Z"⟩
abbrev cX2_isEnd : ByteArray := prog_4_method_6_code
def yX2_isEnd : MethodName := ⟨RX2, "isEnd", "(I)Z"⟩
abbrev cX2_otherEnd : ByteArray := prog_4_method_7_code
def yX2_otherEnd : MethodName := ⟨RX2, "otherEnd", "(I)I"⟩
abbrev cX2_rent : ByteArray := prog_4_method_8_code
def yX2_rent : MethodName := ⟨RX2, "rent", "()I"⟩
abbrev cX2_dustPerDay : ByteArray := prog_4_method_9_code
def yX2_dustPerDay : MethodName := ⟨RX2, "dustPerDay", "()I"⟩
abbrev cX2_costFor : ByteArray := prog_4_method_10_code
def yX2_costFor : MethodName := ⟨RX2, "costFor", "(I)I"⟩
abbrev cX2_keyOf : ByteArray := prog_4_method_11_code
def yX2_keyOf : MethodName := ⟨RX2, "keyOf", "(I)I"⟩
def RX3 : String := "GiantStairs$Treaty"
def TX3 : u_T := fun k => match k with
  | 0 => ("GiantStairs$Treaty", "giants", "[LGiantStairs$Giant;", true)
  | 1 => ("GiantStairs$Treaty", "owners", "[I", true)
  | 2 => ("GiantStairs$Treaty", "stairs", "[LGiantStairs$Stair;", true)
  | 3 => ("GiantStairs$Treaty", "stairCount", "I", false)
  | 4 => ("GiantStairs$Treaty", "dayCount", "I", false)
  | 5 => ("GiantStairs$Treaty", "turnOf", "I", false)
  | 6 => ("GiantStairs$Treaty", "coins", "I", false)
  | 7 => ("GiantStairs$Treaty", "coinsLevied", "I", false)
  | 8 => ("GiantStairs$Treaty", "landingsTaken", "I", false)
  | _ => ("GiantStairs$Treaty", "stairsHalved", "I", false)
def tyX3 : Nat → FieldType := fun k => match k with
  | 0 => .array (.object "GiantStairs$Giant")
  | 1 => .array .int
  | 2 => .array (.object "GiantStairs$Stair")
  | 3 => .int
  | 4 => .int
  | 5 => .int
  | 6 => .int
  | 7 => .int
  | 8 => .int
  | _ => .int
abbrev wsX30 : List Cond := u_ws RX3 TX3 10
theorem nmX3 : ∀ a, a < 10 → ∀ b, b < 10 → a ≠ b → (TX3 a).2.1 ≠ (TX3 b).2.1 := by decide +kernel
theorem tyX3_ok : ∀ k, k < 10 → parseFieldDescriptor (TX3 k).2.2.1 = some (tyX3 k) := by decide +kernel
abbrev cX3_init : ByteArray := prog_5_method_1_code
def yX3_init : MethodName := ⟨RX3, "<init>", "()V"⟩
abbrev cX3_copyFrom : ByteArray := prog_5_method_2_code
def yX3_copyFrom : MethodName := ⟨RX3, "copyFrom", "(LGiantStairs$Treaty;)V"⟩
abbrev cX3_isStair : ByteArray := prog_5_method_3_code
def yX3_isStair : MethodName := ⟨RX3, "isStair", "(I)Z"⟩
abbrev cX3_whyNotBuild : ByteArray := prog_5_method_4_code
def yX3_whyNotBuild : MethodName := ⟨RX3, "whyNotBuild", "(III)J"⟩
abbrev cX3_addStair : ByteArray := prog_5_method_5_code
def yX3_addStair : MethodName := ⟨RX3, "addStair", "(III)I"⟩
abbrev cX3_whyNotTear : ByteArray := prog_5_method_6_code
def yX3_whyNotTear : MethodName := ⟨RX3, "whyNotTear", "(I)J"⟩
abbrev cX3_removeStair : ByteArray := prog_5_method_7_code
def yX3_removeStair : MethodName := ⟨RX3, "removeStair", "(I)I"⟩
abbrev cX3_whyNotHalve : ByteArray := prog_5_method_8_code
def yX3_whyNotHalve : MethodName := ⟨RX3, "whyNotHalve", "(I)J"⟩
abbrev cX3_halveSteps : ByteArray := prog_5_method_9_code
def yX3_halveSteps : MethodName := ⟨RX3, "halveSteps", "(I)I"⟩
abbrev cX3_whyNoGiantOrStair : ByteArray := prog_5_method_10_code
def yX3_whyNoGiantOrStair : MethodName := ⟨RX3, "whyNoGiantOrStair", "(II)J"⟩
abbrev cX3_whyNotLease : ByteArray := prog_5_method_11_code
def yX3_whyNotLease : MethodName := ⟨RX3, "whyNotLease", "(III)J"⟩
abbrev cX3_leaseTo : ByteArray := prog_5_method_12_code
def yX3_leaseTo : MethodName := ⟨RX3, "leaseTo", "(III)I"⟩
abbrev cX3_whyNotClimb : ByteArray := prog_5_method_13_code
def yX3_whyNotClimb : MethodName := ⟨RX3, "whyNotClimb", "(II)J"⟩
abbrev cX3_goOver : ByteArray := prog_5_method_14_code
def yX3_goOver : MethodName := ⟨RX3, "goOver", "(II)I"⟩
abbrev cX3_whyNotLevy : ByteArray := prog_5_method_15_code
def yX3_whyNotLevy : MethodName := ⟨RX3, "whyNotLevy", "(II)J"⟩
abbrev cX3_levyToCome : ByteArray := prog_5_method_16_code
def yX3_levyToCome : MethodName := ⟨RX3, "levyToCome", "(II)I"⟩
abbrev cX3_levyDust : ByteArray := prog_5_method_17_code
def yX3_levyDust : MethodName := ⟨RX3, "levyDust", "(II)I"⟩
abbrev cX3_takingCoins : ByteArray := prog_5_method_18_code
def yX3_takingCoins : MethodName := ⟨RX3, "takingCoins", "(I)I"⟩
abbrev cX3_whyNotTake : ByteArray := prog_5_method_19_code
def yX3_whyNotTake : MethodName := ⟨RX3, "whyNotTake", "(I)J"⟩
abbrev cX3_takeLanding : ByteArray := prog_5_method_20_code
def yX3_takeLanding : MethodName := ⟨RX3, "takeLanding", "(I)I"⟩
abbrev cX3_whyNotFree : ByteArray := prog_5_method_21_code
def yX3_whyNotFree : MethodName := ⟨RX3, "whyNotFree", "(II)J"⟩
abbrev cX3_freeLanding : ByteArray := prog_5_method_22_code
def yX3_freeLanding : MethodName := ⟨RX3, "freeLanding", "(II)I"⟩
abbrev cX3_passDay : ByteArray := prog_5_method_23_code
def yX3_passDay : MethodName := ⟨RX3, "passDay", "()I"⟩
abbrev cX3_giveRent : ByteArray := prog_5_method_24_code
def yX3_giveRent : MethodName := ⟨RX3, "giveRent", "(LGiantStairs$Stair;)I"⟩
abbrev cX3_stairThatJoins : ByteArray := prog_5_method_25_code
def yX3_stairThatJoins : MethodName := ⟨RX3, "stairThatJoins", "(II)I"⟩
abbrev cX3_joinedWith : ByteArray := prog_5_method_26_code
def yX3_joinedWith : MethodName := ⟨RX3, "joinedWith", "(I)I"⟩
abbrev cX3_isNextTo : ByteArray := prog_5_method_27_code
def yX3_isNextTo : MethodName := ⟨RX3, "isNextTo", "(II)Z"⟩
abbrev cX3_whoStandsOn : ByteArray := prog_5_method_28_code
def yX3_whoStandsOn : MethodName := ⟨RX3, "whoStandsOn", "(I)I"⟩
abbrev cX3_landingsOf : ByteArray := prog_5_method_29_code
def yX3_landingsOf : MethodName := ⟨RX3, "landingsOf", "(I)I"⟩
abbrev cX3_leasesOf : ByteArray := prog_5_method_30_code
def yX3_leasesOf : MethodName := ⟨RX3, "leasesOf", "(I)I"⟩
abbrev cX3_dustOnAll : ByteArray := prog_5_method_31_code
def yX3_dustOnAll : MethodName := ⟨RX3, "dustOnAll", "()I"⟩
abbrev cX3_stepsOfAll : ByteArray := prog_5_method_32_code
def yX3_stepsOfAll : MethodName := ⟨RX3, "stepsOfAll", "()I"⟩
abbrev cX3_placeOf : ByteArray := prog_5_method_33_code
def yX3_placeOf : MethodName := ⟨RX3, "placeOf", "(II)I"⟩
abbrev cX3_isOpenTo : ByteArray := prog_5_method_34_code
def yX3_isOpenTo : MethodName := ⟨RX3, "isOpenTo", "(II)Z"⟩
abbrev cX3_isNoGiantOnNeutral : ByteArray := prog_5_method_35_code
def yX3_isNoGiantOnNeutral : MethodName := ⟨RX3, "isNoGiantOnNeutral", "()Z"⟩
abbrev cX3_coinsOfAll : ByteArray := prog_5_method_36_code
def yX3_coinsOfAll : MethodName := ⟨RX3, "coinsOfAll", "()I"⟩
def RX4 : String := "GiantStairs$Ways"
def TX4 : u_T := fun k => match k with
  | 0 => ("GiantStairs$Ways", "lengths", "[I", true)
  | 1 => ("GiantStairs$Ways", "isDone", "[Z", true)
  | 2 => ("GiantStairs$Ways", "lengthsAgain", "[I", true)
  | _ => ("GiantStairs$Ways", "table", "[[I", true)
def tyX4 : Nat → FieldType := fun k => match k with
  | 0 => .array .int
  | 1 => .array .boolean
  | 2 => .array .int
  | _ => .array (.array .int)
abbrev wsX40 : List Cond := u_ws RX4 TX4 4
theorem nmX4 : ∀ a, a < 4 → ∀ b, b < 4 → a ≠ b → (TX4 a).2.1 ≠ (TX4 b).2.1 := by decide +kernel
theorem tyX4_ok : ∀ k, k < 4 → parseFieldDescriptor (TX4 k).2.2.1 = some (tyX4 k) := by decide +kernel
abbrev cX4_init : ByteArray := prog_6_method_1_code
def yX4_init : MethodName := ⟨RX4, "<init>", "()V"⟩
abbrev cX4_goNearestFirst : ByteArray := prog_6_method_2_code
def yX4_goNearestFirst : MethodName := ⟨RX4, "goNearestFirst", "(LGiantStairs$Treaty;II)V"⟩
abbrev cX4_nearestToDo : ByteArray := prog_6_method_3_code
def yX4_nearestToDo : MethodName := ⟨RX4, "nearestToDo", "()I"⟩
abbrev cX4_goOnFrom : ByteArray := prog_6_method_4_code
def yX4_goOnFrom : MethodName := ⟨RX4, "goOnFrom", "(LGiantStairs$Treaty;II)V"⟩
abbrev cX4_goOver : ByteArray := prog_6_method_5_code
def yX4_goOver : MethodName := ⟨RX4, "goOver", "(LGiantStairs$Treaty;ILGiantStairs$Stair;I[I)V"⟩
abbrev cX4_goOverMoreAndMore : ByteArray := prog_6_method_6_code
def yX4_goOverMoreAndMore : MethodName := ⟨RX4, "goOverMoreAndMore", "(LGiantStairs$Treaty;)V"⟩
abbrev cX4_allowOver : ByteArray := prog_6_method_7_code
def yX4_allowOver : MethodName := ⟨RX4, "allowOver", "(I)V"⟩
abbrev cX4_goAgainAndAgain : ByteArray := prog_6_method_8_code
def yX4_goAgainAndAgain : MethodName := ⟨RX4, "goAgainAndAgain", "(LGiantStairs$Treaty;I)V"⟩
abbrev cX4_firstStair : ByteArray := prog_6_method_9_code
def yX4_firstStair : MethodName := ⟨RX4, "firstStair", "(LGiantStairs$Treaty;II)I"⟩
def RX5 : String := "GiantStairs"
def TX5 : u_T := fun k => match k with
  | 0 => ("GiantStairs", "now", "LGiantStairs$Treaty;", true)
  | 1 => ("GiantStairs", "draft", "LGiantStairs$Treaty;", true)
  | 2 => ("GiantStairs", "saved", "LGiantStairs$Treaty;", true)
  | 3 => ("GiantStairs", "isSaved", "Z", false)
  | 4 => ("GiantStairs", "earlier", "[LGiantStairs$Treaty;", true)
  | 5 => ("GiantStairs", "earlierCount", "I", false)
  | 6 => ("GiantStairs", "earlierNext", "I", false)
  | 7 => ("GiantStairs", "ways", "LGiantStairs$Ways;", true)
  | 8 => ("GiantStairs", "orders", "LGiantStairs$Orders;", true)
  | 9 => ("GiantStairs", "fault", "I", false)
  | 10 => ("GiantStairs", "keptReason", "J", false)
  | 11 => ("GiantStairs", "keptCause", "J", false)
  | _ => ("GiantStairs", "line", "Ljava/lang/StringBuilder;", true)
def tyX5 : Nat → FieldType := fun k => match k with
  | 0 => .object "GiantStairs$Treaty"
  | 1 => .object "GiantStairs$Treaty"
  | 2 => .object "GiantStairs$Treaty"
  | 3 => .boolean
  | 4 => .array (.object "GiantStairs$Treaty")
  | 5 => .int
  | 6 => .int
  | 7 => .object "GiantStairs$Ways"
  | 8 => .object "GiantStairs$Orders"
  | 9 => .int
  | 10 => .long
  | 11 => .long
  | _ => .object "java/lang/StringBuilder"
abbrev wsX50 : List Cond := u_ws RX5 TX5 13
theorem nmX5 : ∀ a, a < 13 → ∀ b, b < 13 → a ≠ b → (TX5 a).2.1 ≠ (TX5 b).2.1 := by decide +kernel
theorem tyX5_ok : ∀ k, k < 13 → parseFieldDescriptor (TX5 k).2.2.1 = some (tyX5 k) := by decide +kernel
abbrev cX5_init : ByteArray := prog_1_method_1_code
def yX5_init : MethodName := ⟨RX5, "<init>", "()V"⟩
abbrev cX5_build : ByteArray := prog_1_method_2_code
def yX5_build : MethodName := ⟨RX5, "build", "(III)I"⟩
abbrev cX5_tear : ByteArray := prog_1_method_3_code
def yX5_tear : MethodName := ⟨RX5, "tear", "(I)I"⟩
abbrev cX5_halve : ByteArray := prog_1_method_4_code
def yX5_halve : MethodName := ⟨RX5, "halve", "(I)I"⟩
abbrev cX5_lease : ByteArray := prog_1_method_5_code
def yX5_lease : MethodName := ⟨RX5, "lease", "(III)I"⟩
abbrev cX5_climb : ByteArray := prog_1_method_6_code
def yX5_climb : MethodName := ⟨RX5, "climb", "(II)I"⟩
abbrev cX5_levy : ByteArray := prog_1_method_7_code
def yX5_levy : MethodName := ⟨RX5, "levy", "(II)I"⟩
abbrev cX5_take : ByteArray := prog_1_method_8_code
def yX5_take : MethodName := ⟨RX5, "take", "(I)I"⟩
abbrev cX5_free : ByteArray := prog_1_method_9_code
def yX5_free : MethodName := ⟨RX5, "free", "(II)I"⟩
abbrev cX5_day : ByteArray := prog_1_method_10_code
def yX5_day : MethodName := ⟨RX5, "day", "()I"⟩
abbrev cX5_giantOf : ByteArray := prog_1_method_11_code
def yX5_giantOf : MethodName := ⟨RX5, "giantOf", "(II)I"⟩
abbrev cX5_landingOf : ByteArray := prog_1_method_12_code
def yX5_landingOf : MethodName := ⟨RX5, "landingOf", "(II)I"⟩
abbrev cX5_stairOf : ByteArray := prog_1_method_13_code
def yX5_stairOf : MethodName := ⟨RX5, "stairOf", "(II)I"⟩
abbrev cX5_between : ByteArray := prog_1_method_14_code
def yX5_between : MethodName := ⟨RX5, "between", "(II)I"⟩
abbrev cX5_breaths : ByteArray := prog_1_method_15_code
def yX5_breaths : MethodName := ⟨RX5, "breaths", "(II)I"⟩
abbrev cX5_steps : ByteArray := prog_1_method_16_code
def yX5_steps : MethodName := ⟨RX5, "steps", "(II)I"⟩
abbrev cX5_stepsAgain : ByteArray := prog_1_method_17_code
def yX5_stepsAgain : MethodName := ⟨RX5, "stepsAgain", "(II)I"⟩
abbrev cX5_way : ByteArray := prog_1_method_18_code
def yX5_way : MethodName := ⟨RX5, "way", "(II)I"⟩
abbrev cX5_wayAgain : ByteArray := prog_1_method_19_code
def yX5_wayAgain : MethodName := ⟨RX5, "wayAgain", "(II)I"⟩
abbrev cX5_first : ByteArray := prog_1_method_20_code
def yX5_first : MethodName := ⟨RX5, "first", "(II)I"⟩
abbrev cX5_reach : ByteArray := prog_1_method_21_code
def yX5_reach : MethodName := ⟨RX5, "reach", "(I)I"⟩
abbrev cX5_dustIn : ByteArray := prog_1_method_22_code
def yX5_dustIn : MethodName := ⟨RX5, "dustIn", "(II)I"⟩
abbrev cX5_dustAgain : ByteArray := prog_1_method_23_code
def yX5_dustAgain : MethodName := ⟨RX5, "dustAgain", "(II)I"⟩
abbrev cX5_rentsIn : ByteArray := prog_1_method_24_code
def yX5_rentsIn : MethodName := ⟨RX5, "rentsIn", "(I)I"⟩
abbrev cX5_levyOf : ByteArray := prog_1_method_25_code
def yX5_levyOf : MethodName := ⟨RX5, "levyOf", "(II)I"⟩
abbrev cX5_bestLevy : ByteArray := prog_1_method_26_code
def yX5_bestLevy : MethodName := ⟨RX5, "bestLevy", "(I)I"⟩
abbrev cX5_canTake : ByteArray := prog_1_method_27_code
def yX5_canTake : MethodName := ⟨RX5, "canTake", "(I)Z"⟩
abbrev cX5_takable : ByteArray := prog_1_method_28_code
def yX5_takable : MethodName := ⟨RX5, "takable", "()I"⟩
abbrev cX5_turn : ByteArray := prog_1_method_29_code
def yX5_turn : MethodName := ⟨RX5, "turn", "()I"⟩
abbrev cX5_ranked : ByteArray := prog_1_method_30_code
def yX5_ranked : MethodName := ⟨RX5, "ranked", "(II)I"⟩
abbrev cX5_isTold : ByteArray := prog_1_method_31_code
def yX5_isTold : MethodName := ⟨RX5, "isTold", "()Z"⟩
abbrev cX5_append : ByteArray := prog_1_method_32_code
def yX5_append : MethodName := ⟨RX5, "append", "(C)I"⟩
abbrev cX5_run : ByteArray := prog_1_method_33_code
def yX5_run : MethodName := ⟨RX5, "run", "()I"⟩
abbrev cX5_faultPosition : ByteArray := prog_1_method_34_code
def yX5_faultPosition : MethodName := ⟨RX5, "faultPosition", "()I"⟩
abbrev cX5_reason : ByteArray := prog_1_method_35_code
def yX5_reason : MethodName := ⟨RX5, "reason", "(IZ)I"⟩
abbrev cX5_tellGiant : ByteArray := prog_1_method_36_code
def yX5_tellGiant : MethodName := ⟨RX5, "tellGiant", "(I)I"⟩
abbrev cX5_tellStair : ByteArray := prog_1_method_37_code
def yX5_tellStair : MethodName := ⟨RX5, "tellStair", "(I)I"⟩
abbrev cX5_tellLandings : ByteArray := prog_1_method_38_code
def yX5_tellLandings : MethodName := ⟨RX5, "tellLandings", "()I"⟩
abbrev cX5_character : ByteArray := prog_1_method_39_code
def yX5_character : MethodName := ⟨RX5, "character", "(I)C"⟩
abbrev cX5_account : ByteArray := prog_1_method_40_code
def yX5_account : MethodName := ⟨RX5, "account", "(I)I"⟩
abbrev cX5_meanSteps : ByteArray := prog_1_method_41_code
def yX5_meanSteps : MethodName := ⟨RX5, "meanSteps", "()D"⟩
abbrev cX5_leasedShare : ByteArray := prog_1_method_42_code
def yX5_leasedShare : MethodName := ⟨RX5, "leasedShare", "()F"⟩
abbrev cX5_undo : ByteArray := prog_1_method_43_code
def yX5_undo : MethodName := ⟨RX5, "undo", "()I"⟩
abbrev cX5_save : ByteArray := prog_1_method_44_code
def yX5_save : MethodName := ⟨RX5, "save", "()I"⟩
abbrev cX5_restore : ByteArray := prog_1_method_45_code
def yX5_restore : MethodName := ⟨RX5, "restore", "()I"⟩
abbrev cX5_remember : ByteArray := prog_1_method_46_code
def yX5_remember : MethodName := ⟨RX5, "remember", "()V"⟩
abbrev cX5_isRefused : ByteArray := prog_1_method_47_code
def yX5_isRefused : MethodName := ⟨RX5, "isRefused", "(J)Z"⟩
abbrev cX5_isAnyOrderRefused : ByteArray := prog_1_method_48_code
def yX5_isAnyOrderRefused : MethodName := ⟨RX5, "isAnyOrderRefused", "()Z"⟩
abbrev cX5_areStepsTold : ByteArray := prog_1_method_49_code
def yX5_areStepsTold : MethodName := ⟨RX5, "areStepsTold", "()Z"⟩
abbrev cX5_areBreathsTold : ByteArray := prog_1_method_50_code
def yX5_areBreathsTold : MethodName := ⟨RX5, "areBreathsTold", "(I)Z"⟩
abbrev cX5_isInRange : ByteArray := prog_1_method_51_code
def yX5_isInRange : MethodName := ⟨RX5, "isInRange", "(III)Z"⟩
abbrev cX5_isGiant : ByteArray := prog_1_method_52_code
def yX5_isGiant : MethodName := ⟨RX5, "isGiant", "(I)Z"⟩
abbrev cX5_isLanding : ByteArray := prog_1_method_53_code
def yX5_isLanding : MethodName := ⟨RX5, "isLanding", "(I)Z"⟩
abbrev cX5_refusalFor : ByteArray := prog_1_method_54_code
def yX5_refusalFor : MethodName := ⟨RX5, "refusalFor", "(II)J"⟩
abbrev cX5_numberOf : ByteArray := prog_1_method_55_code
def yX5_numberOf : MethodName := ⟨RX5, "numberOf", "(J)I"⟩
abbrev cX5_detailOf : ByteArray := prog_1_method_56_code
def yX5_detailOf : MethodName := ⟨RX5, "detailOf", "(J)I"⟩
def RX6 : String := "GiantStairsModel"
def TX6 : u_T := fun k => match k with
  | 0 => ("GiantStairsModel", "now", "[I", true)
  | 1 => ("GiantStairsModel", "before", "[I", true)
  | 2 => ("GiantStairsModel", "aside", "[I", true)
  | 3 => ("GiantStairsModel", "saved", "[I", true)
  | 4 => ("GiantStairsModel", "changes", "[I", true)
  | 5 => ("GiantStairsModel", "thrown", "I", false)
  | 6 => ("GiantStairsModel", "changed", "I", false)
  | 7 => ("GiantStairsModel", "why", "I", false)
  | 8 => ("GiantStairsModel", "number", "I", false)
  | 9 => ("GiantStairsModel", "reason", "I", false)
  | 10 => ("GiantStairsModel", "detail", "I", false)
  | 11 => ("GiantStairsModel", "behind", "I", false)
  | 12 => ("GiantStairsModel", "behindNumber", "I", false)
  | 13 => ("GiantStairsModel", "wrongAt", "I", false)
  | 14 => ("GiantStairsModel", "isSaved", "Z", false)
  | 15 => ("GiantStairsModel", "far", "[I", true)
  | 16 => ("GiantStairsModel", "input", "[I", true)
  | 17 => ("GiantStairsModel", "kinds", "[I", true)
  | 18 => ("GiantStairsModel", "numbers", "[I", true)
  | 19 => ("GiantStairsModel", "fed", "I", false)
  | 20 => ("GiantStairsModel", "inputLong", "I", false)
  | 21 => ("GiantStairsModel", "spot", "I", false)
  | 22 => ("GiantStairsModel", "orders", "I", false)
  | 23 => ("GiantStairsModel", "isWrong", "Z", false)
  | 24 => ("GiantStairsModel", "line", "[I", true)
  | _ => ("GiantStairsModel", "lineLong", "I", false)
def tyX6 : Nat → FieldType := fun k => match k with
  | 0 => .array .int
  | 1 => .array .int
  | 2 => .array .int
  | 3 => .array .int
  | 4 => .array .int
  | 5 => .int
  | 6 => .int
  | 7 => .int
  | 8 => .int
  | 9 => .int
  | 10 => .int
  | 11 => .int
  | 12 => .int
  | 13 => .int
  | 14 => .boolean
  | 15 => .array .int
  | 16 => .array .int
  | 17 => .array .int
  | 18 => .array .int
  | 19 => .int
  | 20 => .int
  | 21 => .int
  | 22 => .int
  | 23 => .boolean
  | 24 => .array .int
  | _ => .int
abbrev wsX60 : List Cond := u_ws RX6 TX6 26
theorem nmX6 : ∀ a, a < 26 → ∀ b, b < 26 → a ≠ b → (TX6 a).2.1 ≠ (TX6 b).2.1 := by decide +kernel
theorem tyX6_ok : ∀ k, k < 26 → parseFieldDescriptor (TX6 k).2.2.1 = some (tyX6 k) := by decide +kernel
abbrev cX6_init : ByteArray := prog_8_method_1_code
def yX6_init : MethodName := ⟨RX6, "<init>", "()V"⟩
abbrev cX6_thrown : ByteArray := prog_8_method_2_code
def yX6_thrown : MethodName := ⟨RX6, "thrown", "()I"⟩
abbrev cX6_in : ByteArray := prog_8_method_3_code
def yX6_in : MethodName := ⟨RX6, "in", "(III)Z"⟩
abbrev cX6_copies : ByteArray := prog_8_method_4_code
def yX6_copies : MethodName := ⟨RX6, "copies", "([II[II)V"⟩
abbrev cX6_no : ByteArray := prog_8_method_5_code
def yX6_no : MethodName := ⟨RX6, "no", "(I)I"⟩
abbrev cX6_isBad : ByteArray := prog_8_method_6_code
def yX6_isBad : MethodName := ⟨RX6, "isBad", "(II)Z"⟩
abbrev cX6_refused : ByteArray := prog_8_method_7_code
def yX6_refused : MethodName := ⟨RX6, "refused", "()I"⟩
abbrev cX6_begins : ByteArray := prog_8_method_8_code
def yX6_begins : MethodName := ⟨RX6, "begins", "()V"⟩
abbrev cX6_keeps : ByteArray := prog_8_method_9_code
def yX6_keeps : MethodName := ⟨RX6, "keeps", "(I)I"⟩
abbrev cX6_gv : ByteArray := prog_8_method_10_code
def yX6_gv : MethodName := ⟨RX6, "gv", "(II)I"⟩
abbrev cX6_more : ByteArray := prog_8_method_11_code
def yX6_more : MethodName := ⟨RX6, "more", "(III)V"⟩
abbrev cX6_sv : ByteArray := prog_8_method_12_code
def yX6_sv : MethodName := ⟨RX6, "sv", "(II)I"⟩
abbrev cX6_ls : ByteArray := prog_8_method_13_code
def yX6_ls : MethodName := ⟨RX6, "ls", "(III)V"⟩
abbrev cX6_owner : ByteArray := prog_8_method_14_code
def yX6_owner : MethodName := ⟨RX6, "owner", "(I)I"⟩
abbrev cX6_isGiant : ByteArray := prog_8_method_15_code
def yX6_isGiant : MethodName := ⟨RX6, "isGiant", "(I)Z"⟩
abbrev cX6_isLanding : ByteArray := prog_8_method_16_code
def yX6_isLanding : MethodName := ⟨RX6, "isLanding", "(I)Z"⟩
abbrev cX6_isStair : ByteArray := prog_8_method_17_code
def yX6_isStair : MethodName := ⟨RX6, "isStair", "(I)Z"⟩
abbrev cX6_isNoGiant : ByteArray := prog_8_method_18_code
def yX6_isNoGiant : MethodName := ⟨RX6, "isNoGiant", "(I)Z"⟩
abbrev cX6_isNoLanding : ByteArray := prog_8_method_19_code
def yX6_isNoLanding : MethodName := ⟨RX6, "isNoLanding", "(I)Z"⟩
abbrev cX6_isNoStair : ByteArray := prog_8_method_20_code
def yX6_isNoStair : MethodName := ⟨RX6, "isNoStair", "(I)Z"⟩
abbrev cX6_joins : ByteArray := prog_8_method_21_code
def yX6_joins : MethodName := ⟨RX6, "joins", "(III)Z"⟩
abbrev cX6_stairBetween : ByteArray := prog_8_method_22_code
def yX6_stairBetween : MethodName := ⟨RX6, "stairBetween", "(II)I"⟩
abbrev cX6_touches : ByteArray := prog_8_method_23_code
def yX6_touches : MethodName := ⟨RX6, "touches", "(II)Z"⟩
abbrev cX6_across : ByteArray := prog_8_method_24_code
def yX6_across : MethodName := ⟨RX6, "across", "(II)I"⟩
abbrev cX6_isRefusedBuild : ByteArray := prog_8_method_25_code
def yX6_isRefusedBuild : MethodName := ⟨RX6, "isRefusedBuild", "(III)Z"⟩
abbrev cX6_builds : ByteArray := prog_8_method_26_code
def yX6_builds : MethodName := ⟨RX6, "builds", "(III)I"⟩
abbrev cX6_build : ByteArray := prog_8_method_27_code
def yX6_build : MethodName := ⟨RX6, "build", "(III)I"⟩
abbrev cX6_tears : ByteArray := prog_8_method_28_code
def yX6_tears : MethodName := ⟨RX6, "tears", "(I)I"⟩
abbrev cX6_tear : ByteArray := prog_8_method_29_code
def yX6_tear : MethodName := ⟨RX6, "tear", "(I)I"⟩
abbrev cX6_isRefusedHalve : ByteArray := prog_8_method_30_code
def yX6_isRefusedHalve : MethodName := ⟨RX6, "isRefusedHalve", "(I)Z"⟩
abbrev cX6_halves : ByteArray := prog_8_method_31_code
def yX6_halves : MethodName := ⟨RX6, "halves", "(I)I"⟩
abbrev cX6_halve : ByteArray := prog_8_method_32_code
def yX6_halve : MethodName := ⟨RX6, "halve", "(I)I"⟩
abbrev cX6_rentOf : ByteArray := prog_8_method_33_code
def yX6_rentOf : MethodName := ⟨RX6, "rentOf", "(I)I"⟩
abbrev cX6_isRefusedLease : ByteArray := prog_8_method_34_code
def yX6_isRefusedLease : MethodName := ⟨RX6, "isRefusedLease", "(III)Z"⟩
abbrev cX6_leases : ByteArray := prog_8_method_35_code
def yX6_leases : MethodName := ⟨RX6, "leases", "(III)I"⟩
abbrev cX6_lease : ByteArray := prog_8_method_36_code
def yX6_lease : MethodName := ⟨RX6, "lease", "(III)I"⟩
abbrev cX6_takesBreaths : ByteArray := prog_8_method_37_code
def yX6_takesBreaths : MethodName := ⟨RX6, "takesBreaths", "(II)I"⟩
abbrev cX6_isRefusedClimb : ByteArray := prog_8_method_38_code
def yX6_isRefusedClimb : MethodName := ⟨RX6, "isRefusedClimb", "(II)Z"⟩
abbrev cX6_climbs : ByteArray := prog_8_method_39_code
def yX6_climbs : MethodName := ⟨RX6, "climbs", "(II)I"⟩
abbrev cX6_climb : ByteArray := prog_8_method_40_code
def yX6_climb : MethodName := ⟨RX6, "climb", "(II)I"⟩
abbrev cX6_isRefusedLevy : ByteArray := prog_8_method_41_code
def yX6_isRefusedLevy : MethodName := ⟨RX6, "isRefusedLevy", "(II)Z"⟩
abbrev cX6_levyBy : ByteArray := prog_8_method_42_code
def yX6_levyBy : MethodName := ⟨RX6, "levyBy", "(II)I"⟩
abbrev cX6_levies : ByteArray := prog_8_method_43_code
def yX6_levies : MethodName := ⟨RX6, "levies", "(II)I"⟩
abbrev cX6_levy : ByteArray := prog_8_method_44_code
def yX6_levy : MethodName := ⟨RX6, "levy", "(II)I"⟩
abbrev cX6_standing : ByteArray := prog_8_method_45_code
def yX6_standing : MethodName := ⟨RX6, "standing", "(I)I"⟩
abbrev cX6_landingsOf : ByteArray := prog_8_method_46_code
def yX6_landingsOf : MethodName := ⟨RX6, "landingsOf", "(I)I"⟩
abbrev cX6_isJoined : ByteArray := prog_8_method_47_code
def yX6_isJoined : MethodName := ⟨RX6, "isJoined", "(II)Z"⟩
abbrev cX6_priceOf : ByteArray := prog_8_method_48_code
def yX6_priceOf : MethodName := ⟨RX6, "priceOf", "(I)I"⟩
abbrev cX6_isRefusedTake : ByteArray := prog_8_method_49_code
def yX6_isRefusedTake : MethodName := ⟨RX6, "isRefusedTake", "(I)Z"⟩
abbrev cX6_takes : ByteArray := prog_8_method_50_code
def yX6_takes : MethodName := ⟨RX6, "takes", "(I)I"⟩
abbrev cX6_take : ByteArray := prog_8_method_51_code
def yX6_take : MethodName := ⟨RX6, "take", "(I)I"⟩
abbrev cX6_isRefusedCede : ByteArray := prog_8_method_52_code
def yX6_isRefusedCede : MethodName := ⟨RX6, "isRefusedCede", "(II)Z"⟩
abbrev cX6_cedes : ByteArray := prog_8_method_53_code
def yX6_cedes : MethodName := ⟨RX6, "cedes", "(II)I"⟩
abbrev cX6_free : ByteArray := prog_8_method_54_code
def yX6_free : MethodName := ⟨RX6, "free", "(II)I"⟩
abbrev cX6_ends : ByteArray := prog_8_method_55_code
def yX6_ends : MethodName := ⟨RX6, "ends", "(I)V"⟩
abbrev cX6_givesRent : ByteArray := prog_8_method_56_code
def yX6_givesRent : MethodName := ⟨RX6, "givesRent", "(I)I"⟩
abbrev cX6_least : ByteArray := prog_8_method_57_code
def yX6_least : MethodName := ⟨RX6, "least", "(II)I"⟩
abbrev cX6_goesBy : ByteArray := prog_8_method_58_code
def yX6_goesBy : MethodName := ⟨RX6, "goesBy", "()I"⟩
abbrev cX6_day : ByteArray := prog_8_method_59_code
def yX6_day : MethodName := ⟨RX6, "day", "()I"⟩
abbrev cX6_leasedTo : ByteArray := prog_8_method_60_code
def yX6_leasedTo : MethodName := ⟨RX6, "leasedTo", "(I)I"⟩
abbrev cX6_giantOf : ByteArray := prog_8_method_61_code
def yX6_giantOf : MethodName := ⟨RX6, "giantOf", "(II)I"⟩
abbrev cX6_stairsAt : ByteArray := prog_8_method_62_code
def yX6_stairsAt : MethodName := ⟨RX6, "stairsAt", "(I)I"⟩
abbrev cX6_joinedTo : ByteArray := prog_8_method_63_code
def yX6_joinedTo : MethodName := ⟨RX6, "joinedTo", "(I)I"⟩
abbrev cX6_landingOf : ByteArray := prog_8_method_64_code
def yX6_landingOf : MethodName := ⟨RX6, "landingOf", "(II)I"⟩
abbrev cX6_stairOf : ByteArray := prog_8_method_65_code
def yX6_stairOf : MethodName := ⟨RX6, "stairOf", "(II)I"⟩
abbrev cX6_between : ByteArray := prog_8_method_66_code
def yX6_between : MethodName := ⟨RX6, "between", "(II)I"⟩
abbrev cX6_breaths : ByteArray := prog_8_method_67_code
def yX6_breaths : MethodName := ⟨RX6, "breaths", "(II)I"⟩
abbrev cX6_lengthOf : ByteArray := prog_8_method_68_code
def yX6_lengthOf : MethodName := ⟨RX6, "lengthOf", "(II)I"⟩
abbrev cX6_lays : ByteArray := prog_8_method_69_code
def yX6_lays : MethodName := ⟨RX6, "lays", "(II)V"⟩
abbrev cX6_stepsTo : ByteArray := prog_8_method_70_code
def yX6_stepsTo : MethodName := ⟨RX6, "stepsTo", "(II)I"⟩
abbrev cX6_steps : ByteArray := prog_8_method_71_code
def yX6_steps : MethodName := ⟨RX6, "steps", "(II)I"⟩
abbrev cX6_stepsAgain : ByteArray := prog_8_method_72_code
def yX6_stepsAgain : MethodName := ⟨RX6, "stepsAgain", "(II)I"⟩
abbrev cX6_wayTo : ByteArray := prog_8_method_73_code
def yX6_wayTo : MethodName := ⟨RX6, "wayTo", "(II)I"⟩
abbrev cX6_way : ByteArray := prog_8_method_74_code
def yX6_way : MethodName := ⟨RX6, "way", "(II)I"⟩
abbrev cX6_wayAgain : ByteArray := prog_8_method_75_code
def yX6_wayAgain : MethodName := ⟨RX6, "wayAgain", "(II)I"⟩
abbrev cX6_first : ByteArray := prog_8_method_76_code
def yX6_first : MethodName := ⟨RX6, "first", "(II)I"⟩
abbrev cX6_reach : ByteArray := prog_8_method_77_code
def yX6_reach : MethodName := ⟨RX6, "reach", "(I)I"⟩
abbrev cX6_areDays : ByteArray := prog_8_method_78_code
def yX6_areDays : MethodName := ⟨RX6, "areDays", "(I)Z"⟩
abbrev cX6_dustBy : ByteArray := prog_8_method_79_code
def yX6_dustBy : MethodName := ⟨RX6, "dustBy", "(II)I"⟩
abbrev cX6_dustIn : ByteArray := prog_8_method_80_code
def yX6_dustIn : MethodName := ⟨RX6, "dustIn", "(II)I"⟩
abbrev cX6_dustAgain : ByteArray := prog_8_method_81_code
def yX6_dustAgain : MethodName := ⟨RX6, "dustAgain", "(II)I"⟩
abbrev cX6_rentsIn : ByteArray := prog_8_method_82_code
def yX6_rentsIn : MethodName := ⟨RX6, "rentsIn", "(I)I"⟩
abbrev cX6_couldLevy : ByteArray := prog_8_method_83_code
def yX6_couldLevy : MethodName := ⟨RX6, "couldLevy", "(II)I"⟩
abbrev cX6_levyOf : ByteArray := prog_8_method_84_code
def yX6_levyOf : MethodName := ⟨RX6, "levyOf", "(II)I"⟩
abbrev cX6_bestLevy : ByteArray := prog_8_method_85_code
def yX6_bestLevy : MethodName := ⟨RX6, "bestLevy", "(I)I"⟩
abbrev cX6_canTake : ByteArray := prog_8_method_86_code
def yX6_canTake : MethodName := ⟨RX6, "canTake", "(I)Z"⟩
abbrev cX6_takable : ByteArray := prog_8_method_87_code
def yX6_takable : MethodName := ⟨RX6, "takable", "()I"⟩
abbrev cX6_turn : ByteArray := prog_8_method_88_code
def yX6_turn : MethodName := ⟨RX6, "turn", "()I"⟩
abbrev cX6_measured : ByteArray := prog_8_method_89_code
def yX6_measured : MethodName := ⟨RX6, "measured", "(II)I"⟩
abbrev cX6_ranked : ByteArray := prog_8_method_90_code
def yX6_ranked : MethodName := ⟨RX6, "ranked", "(II)I"⟩
abbrev cX6_isTold : ByteArray := prog_8_method_91_code
def yX6_isTold : MethodName := ⟨RX6, "isTold", "()Z"⟩
abbrev cX6_append : ByteArray := prog_8_method_92_code
def yX6_append : MethodName := ⟨RX6, "append", "(C)I"⟩
abbrev cX6_mark : ByteArray := prog_8_method_93_code
def yX6_mark : MethodName := ⟨RX6, "mark", "()I"⟩
abbrev cX6_isDigit : ByteArray := prog_8_method_94_code
def yX6_isDigit : MethodName := ⟨RX6, "isDigit", "()Z"⟩
abbrev cX6_blank : ByteArray := prog_8_method_95_code
def yX6_blank : MethodName := ⟨RX6, "blank", "()V"⟩
abbrev cX6_digits : ByteArray := prog_8_method_96_code
def yX6_digits : MethodName := ⟨RX6, "digits", "(I)I"⟩
abbrev cX6_inWord : ByteArray := prog_8_method_97_code
def yX6_inWord : MethodName := ⟨RX6, "inWord", "(IIIIII)I"⟩
abbrev cX6_letter : ByteArray := prog_8_method_98_code
def yX6_letter : MethodName := ⟨RX6, "letter", "(II)I"⟩
abbrev cX6_kindHere : ByteArray := prog_8_method_99_code
def yX6_kindHere : MethodName := ⟨RX6, "kindHere", "()I"⟩
abbrev cX6_order : ByteArray := prog_8_method_100_code
def yX6_order : MethodName := ⟨RX6, "order", "()V"⟩
abbrev cX6_reads : ByteArray := prog_8_method_101_code
def yX6_reads : MethodName := ⟨RX6, "reads", "()V"⟩
abbrev cX6_cannot : ByteArray := prog_8_method_102_code
def yX6_cannot : MethodName := ⟨RX6, "cannot", "(I)Z"⟩
abbrev cX6_run : ByteArray := prog_8_method_103_code
def yX6_run : MethodName := ⟨RX6, "run", "()I"⟩
abbrev cX6_faultPosition : ByteArray := prog_8_method_104_code
def yX6_faultPosition : MethodName := ⟨RX6, "faultPosition", "()I"⟩
abbrev cX6_reason : ByteArray := prog_8_method_105_code
def yX6_reason : MethodName := ⟨RX6, "reason", "(IZ)I"⟩
abbrev cX6_writes : ByteArray := prog_8_method_106_code
def yX6_writes : MethodName := ⟨RX6, "writes", "(I)V"⟩
abbrev cX6_writesNumber : ByteArray := prog_8_method_107_code
def yX6_writesNumber : MethodName := ⟨RX6, "writesNumber", "(I)V"⟩
abbrev cX6_tellGiant : ByteArray := prog_8_method_108_code
def yX6_tellGiant : MethodName := ⟨RX6, "tellGiant", "(I)I"⟩
abbrev cX6_tellStair : ByteArray := prog_8_method_109_code
def yX6_tellStair : MethodName := ⟨RX6, "tellStair", "(I)I"⟩
abbrev cX6_tellLandings : ByteArray := prog_8_method_110_code
def yX6_tellLandings : MethodName := ⟨RX6, "tellLandings", "()I"⟩
abbrev cX6_character : ByteArray := prog_8_method_111_code
def yX6_character : MethodName := ⟨RX6, "character", "(I)C"⟩
abbrev cX6_sumOf : ByteArray := prog_8_method_112_code
def yX6_sumOf : MethodName := ⟨RX6, "sumOf", "(I)I"⟩
abbrev cX6_account : ByteArray := prog_8_method_113_code
def yX6_account : MethodName := ⟨RX6, "account", "(I)I"⟩
abbrev cX6_meanSteps : ByteArray := prog_8_method_114_code
def yX6_meanSteps : MethodName := ⟨RX6, "meanSteps", "()D"⟩
abbrev cX6_leasedShare : ByteArray := prog_8_method_115_code
def yX6_leasedShare : MethodName := ⟨RX6, "leasedShare", "()F"⟩
abbrev cX6_undo : ByteArray := prog_8_method_116_code
def yX6_undo : MethodName := ⟨RX6, "undo", "()I"⟩
abbrev cX6_save : ByteArray := prog_8_method_117_code
def yX6_save : MethodName := ⟨RX6, "save", "()I"⟩
abbrev cX6_restore : ByteArray := prog_8_method_118_code
def yX6_restore : MethodName := ⟨RX6, "restore", "()I"⟩
def RJx145de : String := "java/io/Serializable"
def TJx145de : u_T := fun k => match k with
  | _ => ("", "", "", false)
def tyJx145de : Nat → FieldType := fun k => match k with
  | _ => .int
abbrev wsJx145de0 : List Cond := u_ws RJx145de TJx145de 0
theorem nmJx145de : ∀ a, a < 0 → ∀ b, b < 0 → a ≠ b → (TJx145de a).2.1 ≠ (TJx145de b).2.1 := by decide +kernel
theorem tyJx145de_ok : ∀ k, k < 0 → parseFieldDescriptor (TJx145de k).2.2.1 = some (tyJx145de k) := by decide +kernel
def RJ5 : String := "java/lang/AbstractStringBuilder"
def TJ5 : u_T := fun k => match k with
  | _ => ("", "", "", false)
def tyJ5 : Nat → FieldType := fun k => match k with
  | _ => .int
abbrev wsJ50 : List Cond := u_ws RJ5 TJ5 0
theorem nmJ5 : ∀ a, a < 0 → ∀ b, b < 0 → a ≠ b → (TJ5 a).2.1 ≠ (TJ5 b).2.1 := by decide +kernel
theorem tyJ5_ok : ∀ k, k < 0 → parseFieldDescriptor (TJ5 k).2.2.1 = some (tyJ5 k) := by decide +kernel
abbrev cJ5_init_d00df : ByteArray := prog_10_method_2_code
def yJ5_init_d00df : MethodName := ⟨RJ5, "<init>", "(I)V"⟩
abbrev cJ5_length_8abf5 : ByteArray := prog_10_method_6_code
def yJ5_length_8abf5 : MethodName := ⟨RJ5, "length", "()I"⟩
abbrev cJ5_ensureCapacityInternal_d00df : ByteArray := prog_10_method_9_code
def yJ5_ensureCapacityInternal_d00df : MethodName := ⟨RJ5, "ensureCapacityInternal", "(I)V"⟩
abbrev cJ5_newCapacity_0f7a4 : ByteArray := prog_10_method_10_code
def yJ5_newCapacity_0f7a4 : MethodName := ⟨RJ5, "newCapacity", "(I)I"⟩
abbrev cJ5_inflate_da8c8 : ByteArray := prog_10_method_11_code
def yJ5_inflate_da8c8 : MethodName := ⟨RJ5, "inflate", "()V"⟩
abbrev cJ5_setLength_d00df : ByteArray := prog_10_method_13_code
def yJ5_setLength_d00df : MethodName := ⟨RJ5, "setLength", "(I)V"⟩
abbrev cJ5_charAt_5068e : ByteArray := prog_10_method_14_code
def yJ5_charAt_5068e : MethodName := ⟨RJ5, "charAt", "(I)C"⟩
abbrev cJ5_append_cf1ce : ByteArray := prog_10_method_22_code
def yJ5_append_cf1ce : MethodName := ⟨RJ5, "append", "(Ljava/lang/String;)Ljava/lang/AbstractStringBuilder;"⟩
abbrev cJ5_appendNull_278bc : ByteArray := prog_10_method_26_code
def yJ5_appendNull_278bc : MethodName := ⟨RJ5, "appendNull", "()Ljava/lang/AbstractStringBuilder;"⟩
abbrev cJ5_append_3fe6f : ByteArray := prog_10_method_31_code
def yJ5_append_3fe6f : MethodName := ⟨RJ5, "append", "(C)Ljava/lang/AbstractStringBuilder;"⟩
abbrev cJ5_append_c97b9 : ByteArray := prog_10_method_32_code
def yJ5_append_c97b9 : MethodName := ⟨RJ5, "append", "(I)Ljava/lang/AbstractStringBuilder;"⟩
abbrev cJ5_getValue_6d5f1 : ByteArray := prog_10_method_64_code
def yJ5_getValue_6d5f1 : MethodName := ⟨RJ5, "getValue", "()[B"⟩
abbrev cJ5_isLatin1_aae02 : ByteArray := prog_10_method_68_code
def yJ5_isLatin1_aae02 : MethodName := ⟨RJ5, "isLatin1", "()Z"⟩
abbrev cJ5_inflateIfNeededFor_a7421 : ByteArray := prog_10_method_71_code
def yJ5_inflateIfNeededFor_a7421 : MethodName := ⟨RJ5, "inflateIfNeededFor", "(Ljava/lang/String;)V"⟩
abbrev cJ5_putStringAt_47b60 : ByteArray := prog_10_method_73_code
def yJ5_putStringAt_47b60 : MethodName := ⟨RJ5, "putStringAt", "(ILjava/lang/String;)V"⟩
def RJx2cfe8 : String := "java/lang/Appendable"
def TJx2cfe8 : u_T := fun k => match k with
  | _ => ("", "", "", false)
def tyJx2cfe8 : Nat → FieldType := fun k => match k with
  | _ => .int
abbrev wsJx2cfe80 : List Cond := u_ws RJx2cfe8 TJx2cfe8 0
theorem nmJx2cfe8 : ∀ a, a < 0 → ∀ b, b < 0 → a ≠ b → (TJx2cfe8 a).2.1 ≠ (TJx2cfe8 b).2.1 := by decide +kernel
theorem tyJx2cfe8_ok : ∀ k, k < 0 → parseFieldDescriptor (TJx2cfe8 k).2.2.1 = some (tyJx2cfe8 k) := by decide +kernel
def RJx00060 : String := "java/lang/ArrayIndexOutOfBoundsException"
def TJx00060 : u_T := fun k => match k with
  | 0 => ("java/lang/Throwable", "cause", "Ljava/lang/Throwable;", false)
  | 1 => ("java/lang/Throwable", "stackTrace", "[Ljava/lang/StackTraceElement;", false)
  | 2 => ("java/lang/Throwable", "suppressedExceptions", "Ljava/util/List;", false)
  | 3 => ("java/lang/Throwable", "detailMessage", "Ljava/lang/String;", false)
  | 4 => ("java/lang/Throwable", "backtrace", "Ljava/lang/Object;", false)
  | _ => ("java/lang/Throwable", "depth", "I", false)
def tyJx00060 : Nat → FieldType := fun k => match k with
  | 0 => .object "java/lang/Throwable"
  | 1 => .array (.object "java/lang/StackTraceElement")
  | 2 => .object "java/util/List"
  | 3 => .object "java/lang/String"
  | 4 => .object "java/lang/Object"
  | _ => .int
abbrev wsJx000600 : List Cond := u_ws RJx00060 TJx00060 6
theorem nmJx00060 : ∀ a, a < 6 → ∀ b, b < 6 → a ≠ b → (TJx00060 a).2.1 ≠ (TJx00060 b).2.1 := by decide +kernel
theorem tyJx00060_ok : ∀ k, k < 6 → parseFieldDescriptor (TJx00060 k).2.2.1 = some (tyJx00060 k) := by decide +kernel
abbrev cJx00060_init_a7421 : ByteArray := prog_13_method_2_code
def yJx00060_init_a7421 : MethodName := ⟨RJx00060, "<init>", "(Ljava/lang/String;)V"⟩
abbrev cJx00060_init_d00df : ByteArray := prog_13_method_3_code
def yJx00060_init_d00df : MethodName := ⟨RJx00060, "<init>", "(I)V"⟩
def RJx9f9b0 : String := "java/lang/CharSequence"
def TJx9f9b0 : u_T := fun k => match k with
  | _ => ("", "", "", false)
def tyJx9f9b0 : Nat → FieldType := fun k => match k with
  | _ => .int
abbrev wsJx9f9b00 : List Cond := u_ws RJx9f9b0 TJx9f9b0 0
theorem nmJx9f9b0 : ∀ a, a < 0 → ∀ b, b < 0 → a ≠ b → (TJx9f9b0 a).2.1 ≠ (TJx9f9b0 b).2.1 := by decide +kernel
theorem tyJx9f9b0_ok : ∀ k, k < 0 → parseFieldDescriptor (TJx9f9b0 k).2.2.1 = some (tyJx9f9b0 k) := by decide +kernel
def RJx8e188 : String := "java/lang/Cloneable"
def TJx8e188 : u_T := fun k => match k with
  | _ => ("", "", "", false)
def tyJx8e188 : Nat → FieldType := fun k => match k with
  | _ => .int
abbrev wsJx8e1880 : List Cond := u_ws RJx8e188 TJx8e188 0
theorem nmJx8e188 : ∀ a, a < 0 → ∀ b, b < 0 → a ≠ b → (TJx8e188 a).2.1 ≠ (TJx8e188 b).2.1 := by decide +kernel
theorem tyJx8e188_ok : ∀ k, k < 0 → parseFieldDescriptor (TJx8e188 k).2.2.1 = some (tyJx8e188 k) := by decide +kernel
def RJxb160c : String := "java/lang/Comparable"
def TJxb160c : u_T := fun k => match k with
  | _ => ("", "", "", false)
def tyJxb160c : Nat → FieldType := fun k => match k with
  | _ => .int
abbrev wsJxb160c0 : List Cond := u_ws RJxb160c TJxb160c 0
theorem nmJxb160c : ∀ a, a < 0 → ∀ b, b < 0 → a ≠ b → (TJxb160c a).2.1 ≠ (TJxb160c b).2.1 := by decide +kernel
theorem tyJxb160c_ok : ∀ k, k < 0 → parseFieldDescriptor (TJxb160c k).2.2.1 = some (tyJxb160c k) := by decide +kernel
def RJ6 : String := "java/lang/Integer"
def TJ6 : u_T := fun k => match k with
  | _ => ("", "", "", false)
def tyJ6 : Nat → FieldType := fun k => match k with
  | _ => .int
abbrev wsJ60 : List Cond := u_ws RJ6 TJ6 0
theorem nmJ6 : ∀ a, a < 0 → ∀ b, b < 0 → a ≠ b → (TJ6 a).2.1 ≠ (TJ6 b).2.1 := by decide +kernel
theorem tyJ6_ok : ∀ k, k < 0 → parseFieldDescriptor (TJ6 k).2.2.1 = some (tyJ6 k) := by decide +kernel
abbrev cJ6_getChars_ba4f3 : ByteArray := prog_21_method_12_code
def yJ6_getChars_ba4f3 : MethodName := ⟨RJ6, "getChars", "(II[B)I"⟩
abbrev cJ6_stringSize_0f7a4 : ByteArray := prog_21_method_13_code
def yJ6_stringSize_0f7a4 : MethodName := ⟨RJ6, "stringSize", "(I)I"⟩
abbrev cJ6_bitCount_0f7a4 : ByteArray := prog_21_method_49_code
def yJ6_bitCount_0f7a4 : MethodName := ⟨RJ6, "bitCount", "(I)I"⟩
def RJ9 : String := "java/lang/Math"
def TJ9 : u_T := fun k => match k with
  | _ => ("", "", "", false)
def tyJ9 : Nat → FieldType := fun k => match k with
  | _ => .int
abbrev wsJ90 : List Cond := u_ws RJ9 TJ9 0
theorem nmJ9 : ∀ a, a < 0 → ∀ b, b < 0 → a ≠ b → (TJ9 a).2.1 ≠ (TJ9 b).2.1 := by decide +kernel
theorem tyJ9_ok : ∀ k, k < 0 → parseFieldDescriptor (TJ9 k).2.2.1 = some (tyJ9 k) := by decide +kernel
abbrev cJ9_max_7cf53 : ByteArray := prog_22_method_65_code
def yJ9_max_7cf53 : MethodName := ⟨RJ9, "max", "(II)I"⟩
abbrev cJ9_min_7cf53 : ByteArray := prog_22_method_69_code
def yJ9_min_7cf53 : MethodName := ⟨RJ9, "min", "(II)I"⟩
def RJxd2413 : String := "java/lang/Number"
def TJxd2413 : u_T := fun k => match k with
  | _ => ("", "", "", false)
def tyJxd2413 : Nat → FieldType := fun k => match k with
  | _ => .int
abbrev wsJxd24130 : List Cond := u_ws RJxd2413 TJxd2413 0
theorem nmJxd2413 : ∀ a, a < 0 → ∀ b, b < 0 → a ≠ b → (TJxd2413 a).2.1 ≠ (TJxd2413 b).2.1 := by decide +kernel
theorem tyJxd2413_ok : ∀ k, k < 0 → parseFieldDescriptor (TJxd2413 k).2.2.1 = some (tyJxd2413 k) := by decide +kernel
def RJ0 : String := "java/lang/String"
def TJ0 : u_T := fun k => match k with
  | 0 => ("java/lang/String", "value", "[B", true)
  | 1 => ("java/lang/String", "coder", "B", true)
  | 2 => ("java/lang/String", "hash", "I", false)
  | _ => ("java/lang/String", "hashIsZero", "Z", false)
def tyJ0 : Nat → FieldType := fun k => match k with
  | 0 => .array .byte
  | 1 => .byte
  | 2 => .int
  | _ => .boolean
abbrev wsJ00 : List Cond := u_ws RJ0 TJ0 4
theorem nmJ0 : ∀ a, a < 4 → ∀ b, b < 4 → a ≠ b → (TJ0 a).2.1 ≠ (TJ0 b).2.1 := by decide +kernel
theorem tyJ0_ok : ∀ k, k < 4 → parseFieldDescriptor (TJ0 k).2.2.1 = some (tyJ0 k) := by decide +kernel
abbrev cJ0_init_81219 : ByteArray := prog_25_method_53_code
def yJ0_init_81219 : MethodName := ⟨RJ0, "<init>", "(Ljava/lang/StringBuilder;)V"⟩
abbrev cJ0_length_8abf5 : ByteArray := prog_25_method_54_code
def yJ0_length_8abf5 : MethodName := ⟨RJ0, "length", "()I"⟩
abbrev cJ0_charAt_5068e : ByteArray := prog_25_method_56_code
def yJ0_charAt_5068e : MethodName := ⟨RJ0, "charAt", "(I)C"⟩
abbrev cJ0_getBytes_840e7 : ByteArray := prog_25_method_147_code
def yJ0_getBytes_840e7 : MethodName := ⟨RJ0, "getBytes", "([BIB)V"⟩
abbrev cJ0_init_db425 : ByteArray := prog_25_method_150_code
def yJ0_init_db425 : MethodName := ⟨RJ0, "<init>", "(Ljava/lang/AbstractStringBuilder;Ljava/lang/Void;)V"⟩
abbrev cJ0_coder_7d493 : ByteArray := prog_25_method_152_code
def yJ0_coder_7d493 : MethodName := ⟨RJ0, "coder", "()B"⟩
abbrev cJ0_isLatin1_aae02 : ByteArray := prog_25_method_154_code
def yJ0_isLatin1_aae02 : MethodName := ⟨RJ0, "isLatin1", "()Z"⟩
abbrev cJ0_checkIndex_df160 : ByteArray := prog_25_method_155_code
def yJ0_checkIndex_df160 : MethodName := ⟨RJ0, "checkIndex", "(II)V"⟩
abbrev cJ0_checkBoundsOffCount_cabcc : ByteArray := prog_25_method_157_code
def yJ0_checkBoundsOffCount_cabcc : MethodName := ⟨RJ0, "checkBoundsOffCount", "(III)I"⟩
abbrev cJ0_checkBoundsBeginEnd_23922 : ByteArray := prog_25_method_158_code
def yJ0_checkBoundsBeginEnd_23922 : MethodName := ⟨RJ0, "checkBoundsBeginEnd", "(III)V"⟩
def RJ4 : String := "java/lang/StringBuilder"
def TJ4 : u_T := fun k => match k with
  | 0 => ("java/lang/AbstractStringBuilder", "value", "[B", false)
  | 1 => ("java/lang/AbstractStringBuilder", "coder", "B", false)
  | 2 => ("java/lang/AbstractStringBuilder", "maybeLatin1", "Z", false)
  | _ => ("java/lang/AbstractStringBuilder", "count", "I", false)
def tyJ4 : Nat → FieldType := fun k => match k with
  | 0 => .array .byte
  | 1 => .byte
  | 2 => .boolean
  | _ => .int
abbrev wsJ40 : List Cond := u_ws RJ4 TJ4 4
theorem nmJ4 : ∀ a, a < 4 → ∀ b, b < 4 → a ≠ b → (TJ4 a).2.1 ≠ (TJ4 b).2.1 := by decide +kernel
theorem tyJ4_ok : ∀ k, k < 4 → parseFieldDescriptor (TJ4 k).2.2.1 = some (tyJ4 k) := by decide +kernel
abbrev cJ4_init_da8c8 : ByteArray := prog_26_method_1_code
def yJ4_init_da8c8 : MethodName := ⟨RJ4, "<init>", "()V"⟩
abbrev cJ4_append_15ec4 : ByteArray := prog_26_method_7_code
def yJ4_append_15ec4 : MethodName := ⟨RJ4, "append", "(Ljava/lang/String;)Ljava/lang/StringBuilder;"⟩
abbrev cJ4_append_cf468 : ByteArray := prog_26_method_14_code
def yJ4_append_cf468 : MethodName := ⟨RJ4, "append", "(C)Ljava/lang/StringBuilder;"⟩
abbrev cJ4_append_bf812 : ByteArray := prog_26_method_15_code
def yJ4_append_bf812 : MethodName := ⟨RJ4, "append", "(I)Ljava/lang/StringBuilder;"⟩
abbrev cJ4_toString_0e30d : ByteArray := prog_26_method_42_code
def yJ4_toString_0e30d : MethodName := ⟨RJ4, "toString", "()Ljava/lang/String;"⟩
abbrev cJ4_charAt_5068e : ByteArray := prog_26_method_88_code
def yJ4_charAt_5068e : MethodName := ⟨RJ4, "charAt", "(I)C"⟩
abbrev cJ4_setLength_d00df : ByteArray := prog_26_method_89_code
def yJ4_setLength_d00df : MethodName := ⟨RJ4, "setLength", "(I)V"⟩
abbrev cJ4_length_8abf5 : ByteArray := prog_26_method_93_code
def yJ4_length_8abf5 : MethodName := ⟨RJ4, "length", "()I"⟩
def RJx7c733 : String := "java/lang/StringIndexOutOfBoundsException"
def TJx7c733 : u_T := fun k => match k with
  | 0 => ("java/lang/Throwable", "backtrace", "Ljava/lang/Object;", false)
  | 1 => ("java/lang/Throwable", "detailMessage", "Ljava/lang/String;", false)
  | 2 => ("java/lang/Throwable", "cause", "Ljava/lang/Throwable;", false)
  | 3 => ("java/lang/Throwable", "stackTrace", "[Ljava/lang/StackTraceElement;", false)
  | 4 => ("java/lang/Throwable", "depth", "I", false)
  | _ => ("java/lang/Throwable", "suppressedExceptions", "Ljava/util/List;", false)
def tyJx7c733 : Nat → FieldType := fun k => match k with
  | 0 => .object "java/lang/Object"
  | 1 => .object "java/lang/String"
  | 2 => .object "java/lang/Throwable"
  | 3 => .array (.object "java/lang/StackTraceElement")
  | 4 => .int
  | _ => .object "java/util/List"
abbrev wsJx7c7330 : List Cond := u_ws RJx7c733 TJx7c733 6
theorem nmJx7c733 : ∀ a, a < 6 → ∀ b, b < 6 → a ≠ b → (TJx7c733 a).2.1 ≠ (TJx7c733 b).2.1 := by decide +kernel
theorem tyJx7c733_ok : ∀ k, k < 6 → parseFieldDescriptor (TJx7c733 k).2.2.1 = some (tyJx7c733 k) := by decide +kernel
abbrev cJx7c733_init_d00df : ByteArray := prog_27_method_3_code
def yJx7c733_init_d00df : MethodName := ⟨RJx7c733, "<init>", "(I)V"⟩
def RJ1 : String := "java/lang/StringLatin1"
def TJ1 : u_T := fun k => match k with
  | _ => ("", "", "", false)
def tyJ1 : Nat → FieldType := fun k => match k with
  | _ => .int
abbrev wsJ10 : List Cond := u_ws RJ1 TJ1 0
theorem nmJ1 : ∀ a, a < 0 → ∀ b, b < 0 → a ≠ b → (TJ1 a).2.1 ≠ (TJ1 b).2.1 := by decide +kernel
theorem tyJ1_ok : ∀ k, k < 0 → parseFieldDescriptor (TJ1 k).2.2.1 = some (tyJ1 k) := by decide +kernel
abbrev cJ1_charAt_3b067 : ByteArray := prog_28_method_2_code
def yJ1_charAt_3b067 : MethodName := ⟨RJ1, "charAt", "([BI)C"⟩
abbrev cJ1_canEncode_fc78d : ByteArray := prog_28_method_3_code
def yJ1_canEncode_fc78d : MethodName := ⟨RJ1, "canEncode", "(C)Z"⟩
abbrev cJ1_fillNull_b72d1 : ByteArray := prog_28_method_48_code
def yJ1_fillNull_b72d1 : MethodName := ⟨RJ1, "fillNull", "([BII)V"⟩
abbrev cJ1_inflate_0e8fd : ByteArray := prog_28_method_50_code
def yJ1_inflate_0e8fd : MethodName := ⟨RJ1, "inflate", "([BI[BII)V"⟩
def RJ2 : String := "java/lang/StringUTF16"
def TJ2 : u_T := fun k => match k with
  | _ => ("", "", "", false)
def tyJ2 : Nat → FieldType := fun k => match k with
  | _ => .int
abbrev wsJ20 : List Cond := u_ws RJ2 TJ2 0
theorem nmJ2 : ∀ a, a < 0 → ∀ b, b < 0 → a ≠ b → (TJ2 a).2.1 ≠ (TJ2 b).2.1 := by decide +kernel
theorem tyJ2_ok : ∀ k, k < 0 → parseFieldDescriptor (TJ2 k).2.2.1 = some (tyJ2 k) := by decide +kernel
abbrev cJ2_newBytesFor_77867 : ByteArray := prog_29_method_2_code
def yJ2_newBytesFor_77867 : MethodName := ⟨RJ2, "newBytesFor", "(I)[B"⟩
abbrev cJ2_newBytesLength_0f7a4 : ByteArray := prog_29_method_3_code
def yJ2_newBytesLength_0f7a4 : MethodName := ⟨RJ2, "newBytesLength", "(I)I"⟩
abbrev cJ2_putChar_b72d1 : ByteArray := prog_29_method_4_code
def yJ2_putChar_b72d1 : MethodName := ⟨RJ2, "putChar", "([BII)V"⟩
abbrev cJ2_getChar_3b067 : ByteArray := prog_29_method_5_code
def yJ2_getChar_3b067 : MethodName := ⟨RJ2, "getChar", "([BI)C"⟩
abbrev cJ2_length_9d52b : ByteArray := prog_29_method_6_code
def yJ2_length_9d52b : MethodName := ⟨RJ2, "length", "([B)I"⟩
abbrev cJ2_coderFromArrayLen_85cad : ByteArray := prog_29_method_15_code
def yJ2_coderFromArrayLen_85cad : MethodName := ⟨RJ2, "coderFromArrayLen", "([BI)B"⟩
abbrev cJ2_compress_39247 : ByteArray := prog_29_method_17_code
def yJ2_compress_39247 : MethodName := ⟨RJ2, "compress", "([BII)[B"⟩
abbrev cJ2_compress_5af95 : ByteArray := prog_29_method_22_code
def yJ2_compress_5af95 : MethodName := ⟨RJ2, "compress", "([BI[BII)I"⟩
abbrev cJ2_fillNull_b72d1 : ByteArray := prog_29_method_70_code
def yJ2_fillNull_b72d1 : MethodName := ⟨RJ2, "fillNull", "([BII)V"⟩
abbrev cJ2_putCharSB_b72d1 : ByteArray := prog_29_method_71_code
def yJ2_putCharSB_b72d1 : MethodName := ⟨RJ2, "putCharSB", "([BII)V"⟩
abbrev cJ2_getChars_46870 : ByteArray := prog_29_method_77_code
def yJ2_getChars_46870 : MethodName := ⟨RJ2, "getChars", "(III[B)I"⟩
abbrev cJ2_putCharsAt_cd4e5 : ByteArray := prog_29_method_81_code
def yJ2_putCharsAt_cd4e5 : MethodName := ⟨RJ2, "putCharsAt", "([BICCCC)I"⟩
abbrev cJ2_charAt_3b067 : ByteArray := prog_29_method_83_code
def yJ2_charAt_3b067 : MethodName := ⟨RJ2, "charAt", "([BI)C"⟩
abbrev cJ2_inflate_0e8fd : ByteArray := prog_29_method_86_code
def yJ2_inflate_0e8fd : MethodName := ⟨RJ2, "inflate", "([BI[BII)V"⟩
abbrev cJ2_getChars_ba4f3 : ByteArray := prog_29_method_89_code
def yJ2_getChars_ba4f3 : MethodName := ⟨RJ2, "getChars", "(II[B)I"⟩
abbrev cJ2_checkIndex_2214a : ByteArray := prog_29_method_91_code
def yJ2_checkIndex_2214a : MethodName := ⟨RJ2, "checkIndex", "(I[B)V"⟩
abbrev cJ2_checkBoundsBeginEnd_d044e : ByteArray := prog_29_method_93_code
def yJ2_checkBoundsBeginEnd_d044e : MethodName := ⟨RJ2, "checkBoundsBeginEnd", "(II[B)V"⟩
abbrev cJ2_checkBoundsOffCount_d044e : ByteArray := prog_29_method_94_code
def yJ2_checkBoundsOffCount_d044e : MethodName := ⟨RJ2, "checkBoundsOffCount", "(II[B)V"⟩
def RJ10 : String := "java/lang/System"
def TJ10 : u_T := fun k => match k with
  | _ => ("", "", "", false)
def tyJ10 : Nat → FieldType := fun k => match k with
  | _ => .int
abbrev wsJ100 : List Cond := u_ws RJ10 TJ10 0
theorem nmJ10 : ∀ a, a < 0 → ∀ b, b < 0 → a ≠ b → (TJ10 a).2.1 ≠ (TJ10 b).2.1 := by decide +kernel
theorem tyJ10_ok : ∀ k, k < 0 → parseFieldDescriptor (TJ10 k).2.2.1 = some (tyJ10 k) := by decide +kernel
def RJxfd54e : String := "java/lang/constant/Constable"
def TJxfd54e : u_T := fun k => match k with
  | _ => ("", "", "", false)
def tyJxfd54e : Nat → FieldType := fun k => match k with
  | _ => .int
abbrev wsJxfd54e0 : List Cond := u_ws RJxfd54e TJxfd54e 0
theorem nmJxfd54e : ∀ a, a < 0 → ∀ b, b < 0 → a ≠ b → (TJxfd54e a).2.1 ≠ (TJxfd54e b).2.1 := by decide +kernel
theorem tyJxfd54e_ok : ∀ k, k < 0 → parseFieldDescriptor (TJxfd54e k).2.2.1 = some (tyJxfd54e k) := by decide +kernel
def RJx3cf43 : String := "java/lang/constant/ConstantDesc"
def TJx3cf43 : u_T := fun k => match k with
  | _ => ("", "", "", false)
def tyJx3cf43 : Nat → FieldType := fun k => match k with
  | _ => .int
abbrev wsJx3cf430 : List Cond := u_ws RJx3cf43 TJx3cf43 0
theorem nmJx3cf43 : ∀ a, a < 0 → ∀ b, b < 0 → a ≠ b → (TJx3cf43 a).2.1 ≠ (TJx3cf43 b).2.1 := by decide +kernel
theorem tyJx3cf43_ok : ∀ k, k < 0 → parseFieldDescriptor (TJx3cf43 k).2.2.1 = some (tyJx3cf43 k) := by decide +kernel
def RJ7 : String := "java/util/Arrays"
def TJ7 : u_T := fun k => match k with
  | _ => ("", "", "", false)
def tyJ7 : Nat → FieldType := fun k => match k with
  | _ => .int
abbrev wsJ70 : List Cond := u_ws RJ7 TJ7 0
theorem nmJ7 : ∀ a, a < 0 → ∀ b, b < 0 → a ≠ b → (TJ7 a).2.1 ≠ (TJ7 b).2.1 := by decide +kernel
theorem tyJ7_ok : ∀ k, k < 0 → parseFieldDescriptor (TJ7 k).2.2.1 = some (tyJ7 k) := by decide +kernel
abbrev cJ7_rangeCheck_23922 : ByteArray := prog_35_method_30_code
def yJ7_rangeCheck_23922 : MethodName := ⟨RJ7, "rangeCheck", "(III)V"⟩
abbrev cJ7_fill_eb02e : ByteArray := prog_35_method_110_code
def yJ7_fill_eb02e : MethodName := ⟨RJ7, "fill", "([BIIB)V"⟩
abbrev cJ7_copyOf_9075b : ByteArray := prog_35_method_121_code
def yJ7_copyOf_9075b : MethodName := ⟨RJ7, "copyOf", "([BI)[B"⟩
abbrev cJ7_checkLength_df160 : ByteArray := prog_35_method_131_code
def yJ7_checkLength_df160 : MethodName := ⟨RJ7, "checkLength", "(II)V"⟩
abbrev cJ7_copyOfRange_39247 : ByteArray := prog_35_method_132_code
def yJ7_copyOfRange_39247 : MethodName := ⟨RJ7, "copyOfRange", "([BII)[B"⟩
abbrev cJ7_copyOfRangeByte_39247 : ByteArray := prog_35_method_133_code
def yJ7_copyOfRangeByte_39247 : MethodName := ⟨RJ7, "copyOfRangeByte", "([BII)[B"⟩
def RJ8 : String := "jdk/internal/util/ArraysSupport"
def TJ8 : u_T := fun k => match k with
  | _ => ("", "", "", false)
def tyJ8 : Nat → FieldType := fun k => match k with
  | _ => .int
abbrev wsJ80 : List Cond := u_ws RJ8 TJ8 0
theorem nmJ8 : ∀ a, a < 0 → ∀ b, b < 0 → a ≠ b → (TJ8 a).2.1 ≠ (TJ8 b).2.1 := by decide +kernel
theorem tyJ8_ok : ∀ k, k < 0 → parseFieldDescriptor (TJ8 k).2.2.1 = some (tyJ8 k) := by decide +kernel
abbrev cJ8_newLength_cabcc : ByteArray := prog_37_method_27_code
def yJ8_newLength_cabcc : MethodName := ⟨RJ8, "newLength", "(III)I"⟩
abbrev cJ8_hugeLength_7cf53 : ByteArray := prog_37_method_28_code
def yJ8_hugeLength_7cf53 : MethodName := ⟨RJ8, "hugeLength", "(II)I"⟩
def RJ3 : String := "jdk/internal/util/Preconditions"
def TJ3 : u_T := fun k => match k with
  | _ => ("", "", "", false)
def tyJ3 : Nat → FieldType := fun k => match k with
  | _ => .int
abbrev wsJ30 : List Cond := u_ws RJ3 TJ3 0
theorem nmJ3 : ∀ a, a < 0 → ∀ b, b < 0 → a ≠ b → (TJ3 a).2.1 ≠ (TJ3 b).2.1 := by decide +kernel
theorem tyJ3_ok : ∀ k, k < 0 → parseFieldDescriptor (TJ3 k).2.2.1 = some (tyJ3 k) := by decide +kernel
abbrev cJ3_checkIndex_8e157 : ByteArray := prog_38_method_11_code
def yJ3_checkIndex_8e157 : MethodName := ⟨RJ3, "checkIndex", "(IILjava/util/function/BiFunction;)I"⟩
abbrev cJ3_checkFromToIndex_8c36e : ByteArray := prog_38_method_12_code
def yJ3_checkFromToIndex_8c36e : MethodName := ⟨RJ3, "checkFromToIndex", "(IIILjava/util/function/BiFunction;)I"⟩
abbrev cJ3_checkFromIndexSize_8c36e : ByteArray := prog_38_method_13_code
def yJ3_checkFromIndexSize_8c36e : MethodName := ⟨RJ3, "checkFromIndexSize", "(IIILjava/util/function/BiFunction;)I"⟩
def RL : String := "GiantStairsLaw"
abbrev cL_build : ByteArray := method_3_code
def yL_build : MethodName := ⟨RL, "build", "(LGiantStairs;III[J)I"⟩
abbrev cL_tear : ByteArray := method_4_code
def yL_tear : MethodName := ⟨RL, "tear", "(LGiantStairs;I[J)I"⟩
abbrev cL_halve : ByteArray := method_5_code
def yL_halve : MethodName := ⟨RL, "halve", "(LGiantStairs;I[J)I"⟩
abbrev cL_lease : ByteArray := method_6_code
def yL_lease : MethodName := ⟨RL, "lease", "(LGiantStairs;III[J)I"⟩
abbrev cL_climb : ByteArray := method_7_code
def yL_climb : MethodName := ⟨RL, "climb", "(LGiantStairs;II[J)I"⟩
abbrev cL_levy : ByteArray := method_8_code
def yL_levy : MethodName := ⟨RL, "levy", "(LGiantStairs;II[J)I"⟩
abbrev cL_take : ByteArray := method_9_code
def yL_take : MethodName := ⟨RL, "take", "(LGiantStairs;I[J)I"⟩
abbrev cL_free : ByteArray := method_10_code
def yL_free : MethodName := ⟨RL, "free", "(LGiantStairs;II[J)I"⟩
abbrev cL_giantOf : ByteArray := method_11_code
def yL_giantOf : MethodName := ⟨RL, "giantOf", "(LGiantStairs;II[J)I"⟩
abbrev cL_landingOf : ByteArray := method_12_code
def yL_landingOf : MethodName := ⟨RL, "landingOf", "(LGiantStairs;II[J)I"⟩
abbrev cL_stairOf : ByteArray := method_13_code
def yL_stairOf : MethodName := ⟨RL, "stairOf", "(LGiantStairs;II[J)I"⟩
abbrev cL_between : ByteArray := method_14_code
def yL_between : MethodName := ⟨RL, "between", "(LGiantStairs;II[J)I"⟩
abbrev cL_breaths : ByteArray := method_15_code
def yL_breaths : MethodName := ⟨RL, "breaths", "(LGiantStairs;II[J)I"⟩
abbrev cL_steps : ByteArray := method_16_code
def yL_steps : MethodName := ⟨RL, "steps", "(LGiantStairs;II[J)I"⟩
abbrev cL_stepsAgain : ByteArray := method_17_code
def yL_stepsAgain : MethodName := ⟨RL, "stepsAgain", "(LGiantStairs;II[J)I"⟩
abbrev cL_way : ByteArray := method_18_code
def yL_way : MethodName := ⟨RL, "way", "(LGiantStairs;II[J)I"⟩
abbrev cL_wayAgain : ByteArray := method_19_code
def yL_wayAgain : MethodName := ⟨RL, "wayAgain", "(LGiantStairs;II[J)I"⟩
abbrev cL_first : ByteArray := method_20_code
def yL_first : MethodName := ⟨RL, "first", "(LGiantStairs;II[J)I"⟩
abbrev cL_reach : ByteArray := method_21_code
def yL_reach : MethodName := ⟨RL, "reach", "(LGiantStairs;I[J)I"⟩
abbrev cL_dustIn : ByteArray := method_22_code
def yL_dustIn : MethodName := ⟨RL, "dustIn", "(LGiantStairs;II[J)I"⟩
abbrev cL_dustAgain : ByteArray := method_23_code
def yL_dustAgain : MethodName := ⟨RL, "dustAgain", "(LGiantStairs;II[J)I"⟩
abbrev cL_rentsIn : ByteArray := method_24_code
def yL_rentsIn : MethodName := ⟨RL, "rentsIn", "(LGiantStairs;I[J)I"⟩
abbrev cL_levyOf : ByteArray := method_25_code
def yL_levyOf : MethodName := ⟨RL, "levyOf", "(LGiantStairs;II[J)I"⟩
abbrev cL_bestLevy : ByteArray := method_26_code
def yL_bestLevy : MethodName := ⟨RL, "bestLevy", "(LGiantStairs;I[J)I"⟩
abbrev cL_canTake : ByteArray := method_27_code
def yL_canTake : MethodName := ⟨RL, "canTake", "(LGiantStairs;I[J)I"⟩
abbrev cL_ranked : ByteArray := method_28_code
def yL_ranked : MethodName := ⟨RL, "ranked", "(LGiantStairs;II[J)I"⟩
abbrev cL_append : ByteArray := method_29_code
def yL_append : MethodName := ⟨RL, "append", "(LGiantStairs;C[J)I"⟩
abbrev cL_run : ByteArray := method_30_code
def yL_run : MethodName := ⟨RL, "run", "(LGiantStairs;[J)I"⟩
abbrev cL_reason : ByteArray := method_31_code
def yL_reason : MethodName := ⟨RL, "reason", "(LGiantStairs;IZ[J)I"⟩
abbrev cL_tellGiant : ByteArray := method_32_code
def yL_tellGiant : MethodName := ⟨RL, "tellGiant", "(LGiantStairs;I[J)I"⟩
abbrev cL_tellStair : ByteArray := method_33_code
def yL_tellStair : MethodName := ⟨RL, "tellStair", "(LGiantStairs;I[J)I"⟩
abbrev cL_character : ByteArray := method_34_code
def yL_character : MethodName := ⟨RL, "character", "(LGiantStairs;I[J)I"⟩
abbrev cL_account : ByteArray := method_35_code
def yL_account : MethodName := ⟨RL, "account", "(LGiantStairs;I[J)I"⟩
abbrev cL_meanSteps : ByteArray := method_36_code
def yL_meanSteps : MethodName := ⟨RL, "meanSteps", "(LGiantStairs;[D)I"⟩
abbrev cL_leasedShare : ByteArray := method_37_code
def yL_leasedShare : MethodName := ⟨RL, "leasedShare", "(LGiantStairs;[D)I"⟩
abbrev cL_undo : ByteArray := method_38_code
def yL_undo : MethodName := ⟨RL, "undo", "(LGiantStairs;[J)I"⟩
abbrev cL_restore : ByteArray := method_39_code
def yL_restore : MethodName := ⟨RL, "restore", "(LGiantStairs;[J)I"⟩
abbrev cL_law : ByteArray := code
def yL_law : MethodName := ⟨RL, "law", "([I)Z"⟩
end
section
abbrev mm_E : Type := Nat × Instr × Nat × Nat
/-- the classes that own code; the classes whose objects are met; the types of arrays -/
def mm_own : List String := [RX0, RX1, RX2, RX3, RX4, RX5, RX6, RJ4, RJ5, RJ6, RJ1, RJ7, RJ8, RJ0]
def mm_cl : List vw_C := [(RX0, TX0, 5), (RX1, TX1, 4), (RX2, TX2, 7), (RX3, TX3, 10), (RX4, TX4, 4), (RX5, TX5, 13), (RX6, TX6, 26), (RJ4, TJ4, 4)]
def mm_tyl : List FieldType := [.int, .boolean, .long, .double, .byte, .object RX0, .object RX2, .object RX3, .array .int]
def mm_fty (c k : Nat) : FieldType := match c with
  | 0 => tyX0 k
  | 1 => tyX1 k
  | 2 => tyX2 k
  | 3 => tyX3 k
  | 4 => tyX4 k
  | 5 => tyX5 k
  | 6 => tyX6 k
  | _ => tyJ4 k
def mm_dfl (c : Nat) : List Value := match c with
  | 0 => [.int 0, .int 0, .int 0, .int 0, .int 0]
  | 1 => [.null, .null, .null, .int 0]
  | 2 => [.int 0, .int 0, .int 0, .int 0, .int 0, .int 0, .int 0]
  | 3 => [.null, .null, .null, .int 0, .int 0, .int 0, .int 0, .int 0, .int 0, .int 0]
  | 4 => [.null, .null, .null, .null]
  | 5 => [.null, .null, .null, .int 0, .null, .int 0, .int 0, .null, .null, .int 0, .long 0, .long 0, .null]
  | 6 => [.null, .null, .null, .null, .null, .int 0, .int 0, .int 0, .int 0, .int 0, .int 0, .int 0, .int 0, .int 0, .int 0, .null, .null, .null, .null, .int 0, .int 0, .int 0, .int 0, .int 0, .null, .int 0]
  | _ => [.null, .int 0, .int 0, .int 0]
/-- the methods: the owner, the name, the code, the locals, what is returned -/
def mm_pr_0 : List (Nat × MethodName × ByteArray × Nat × Option FieldType) := [(0, yX0_init, cX0_init, 2, none), (0, yX0_copyFrom, cX0_copyFrom, 2, none), (1, yX1_init, cX1_init, 1, none), (1, yX1_formOf, cX1_formOf, 1, (some (.object "java/lang/String"))), (1, yX1_isDigit, cX1_isDigit, 1, (some .boolean)), (1, yX1_read, cX1_read, 5, (some .int)), (1, yX1_kindThatGoesFarthest, cX1_kindThatGoesFarthest, 6, (some .int)), (1, yX1_charactersThatFit, cX1_charactersThatFit, 6, (some .int)), (1, yX1_readOrder, cX1_readOrder, 7, (some .int)), (1, yX1_whyNotDo, cX1_whyNotDo, 4, (some .long)), (1, yX1_doOrder, cX1_doOrder, 4, (some .int)), (2, yX2_init, cX2_init, 1, none), (2, yX2_copyFrom, cX2_copyFrom, 2, none), (2, yX2_startAnew, cX2_startAnew, 4, none), (2, yX2_endLease, cX2_endLease, 1, none), (2, yX2_isLeased, cX2_isLeased, 1, (some .boolean))]
def mm_pr_1 : List (Nat × MethodName × ByteArray × Nat × Option FieldType) := [(2, yX2_isEnd, cX2_isEnd, 2, (some .boolean)), (2, yX2_otherEnd, cX2_otherEnd, 2, (some .int)), (2, yX2_rent, cX2_rent, 1, (some .int)), (2, yX2_dustPerDay, cX2_dustPerDay, 1, (some .int)), (2, yX2_costFor, cX2_costFor, 2, (some .int)), (2, yX2_keyOf, cX2_keyOf, 2, (some .int)), (3, yX3_init, cX3_init, 2, none), (3, yX3_copyFrom, cX3_copyFrom, 3, none), (3, yX3_isStair, cX3_isStair, 2, (some .boolean)), (3, yX3_whyNotBuild, cX3_whyNotBuild, 5, (some .long)), (3, yX3_addStair, cX3_addStair, 5, (some .int)), (3, yX3_whyNotTear, cX3_whyNotTear, 2, (some .long)), (3, yX3_removeStair, cX3_removeStair, 4, (some .int)), (3, yX3_whyNotHalve, cX3_whyNotHalve, 3, (some .long)), (3, yX3_halveSteps, cX3_halveSteps, 3, (some .int)), (3, yX3_whyNoGiantOrStair, cX3_whyNoGiantOrStair, 3, (some .long))]
def mm_pr_2 : List (Nat × MethodName × ByteArray × Nat × Option FieldType) := [(3, yX3_whyNotLease, cX3_whyNotLease, 6, (some .long)), (3, yX3_leaseTo, cX3_leaseTo, 5, (some .int)), (3, yX3_whyNotClimb, cX3_whyNotClimb, 7, (some .long)), (3, yX3_goOver, cX3_goOver, 6, (some .int)), (3, yX3_whyNotLevy, cX3_whyNotLevy, 6, (some .long)), (3, yX3_levyToCome, cX3_levyToCome, 3, (some .int)), (3, yX3_levyDust, cX3_levyDust, 4, (some .int)), (3, yX3_takingCoins, cX3_takingCoins, 2, (some .int)), (3, yX3_whyNotTake, cX3_whyNotTake, 2, (some .long)), (3, yX3_takeLanding, cX3_takeLanding, 3, (some .int)), (3, yX3_whyNotFree, cX3_whyNotFree, 3, (some .long)), (3, yX3_freeLanding, cX3_freeLanding, 3, (some .int)), (3, yX3_passDay, cX3_passDay, 4, (some .int)), (3, yX3_giveRent, cX3_giveRent, 4, (some .int)), (3, yX3_stairThatJoins, cX3_stairThatJoins, 4, (some .int)), (3, yX3_joinedWith, cX3_joinedWith, 4, (some .int))]
def mm_pr_3 : List (Nat × MethodName × ByteArray × Nat × Option FieldType) := [(3, yX3_isNextTo, cX3_isNextTo, 5, (some .boolean)), (3, yX3_whoStandsOn, cX3_whoStandsOn, 3, (some .int)), (3, yX3_landingsOf, cX3_landingsOf, 4, (some .int)), (3, yX3_leasesOf, cX3_leasesOf, 4, (some .int)), (3, yX3_dustOnAll, cX3_dustOnAll, 3, (some .int)), (3, yX3_stepsOfAll, cX3_stepsOfAll, 3, (some .int)), (3, yX3_placeOf, cX3_placeOf, 7, (some .int)), (3, yX3_isOpenTo, cX3_isOpenTo, 3, (some .boolean)), (3, yX3_isNoGiantOnNeutral, cX3_isNoGiantOnNeutral, 1, (some .boolean)), (3, yX3_coinsOfAll, cX3_coinsOfAll, 1, (some .int)), (4, yX4_init, cX4_init, 1, none), (4, yX4_goNearestFirst, cX4_goNearestFirst, 6, none), (4, yX4_nearestToDo, cX4_nearestToDo, 4, (some .int)), (4, yX4_goOnFrom, cX4_goOnFrom, 5, none), (4, yX4_goOver, cX4_goOver, 7, none), (4, yX4_goOverMoreAndMore, cX4_goOverMoreAndMore, 4, none)]
def mm_pr_4 : List (Nat × MethodName × ByteArray × Nat × Option FieldType) := [(4, yX4_allowOver, cX4_allowOver, 5, none), (4, yX4_goAgainAndAgain, cX4_goAgainAndAgain, 6, none), (4, yX4_firstStair, cX4_firstStair, 7, (some .int)), (5, yX5_init, cX5_init, 2, none), (5, yX5_build, cX5_build, 4, (some .int)), (5, yX5_tear, cX5_tear, 2, (some .int)), (5, yX5_halve, cX5_halve, 2, (some .int)), (5, yX5_lease, cX5_lease, 4, (some .int)), (5, yX5_climb, cX5_climb, 3, (some .int)), (5, yX5_levy, cX5_levy, 3, (some .int)), (5, yX5_take, cX5_take, 2, (some .int)), (5, yX5_free, cX5_free, 3, (some .int)), (5, yX5_day, cX5_day, 1, (some .int)), (5, yX5_giantOf, cX5_giantOf, 3, (some .int)), (5, yX5_landingOf, cX5_landingOf, 3, (some .int)), (5, yX5_stairOf, cX5_stairOf, 4, (some .int))]
def mm_pr_5 : List (Nat × MethodName × ByteArray × Nat × Option FieldType) := [(5, yX5_between, cX5_between, 4, (some .int)), (5, yX5_breaths, cX5_breaths, 3, (some .int)), (5, yX5_steps, cX5_steps, 3, (some .int)), (5, yX5_stepsAgain, cX5_stepsAgain, 3, (some .int)), (5, yX5_way, cX5_way, 3, (some .int)), (5, yX5_wayAgain, cX5_wayAgain, 3, (some .int)), (5, yX5_first, cX5_first, 4, (some .int)), (5, yX5_reach, cX5_reach, 4, (some .int)), (5, yX5_dustIn, cX5_dustIn, 6, (some .int)), (5, yX5_dustAgain, cX5_dustAgain, 4, (some .int)), (5, yX5_rentsIn, cX5_rentsIn, 4, (some .int)), (5, yX5_levyOf, cX5_levyOf, 3, (some .int)), (5, yX5_bestLevy, cX5_bestLevy, 6, (some .int)), (5, yX5_canTake, cX5_canTake, 2, (some .boolean)), (5, yX5_takable, cX5_takable, 3, (some .int)), (5, yX5_turn, cX5_turn, 1, (some .int))]
def mm_pr_6 : List (Nat × MethodName × ByteArray × Nat × Option FieldType) := [(5, yX5_ranked, cX5_ranked, 5, (some .int)), (5, yX5_isTold, cX5_isTold, 1, (some .boolean)), (5, yX5_append, cX5_append, 2, (some .int)), (5, yX5_run, cX5_run, 1, (some .int)), (5, yX5_faultPosition, cX5_faultPosition, 1, (some .int)), (5, yX5_reason, cX5_reason, 5, (some .int)), (5, yX5_tellGiant, cX5_tellGiant, 3, (some .int)), (5, yX5_tellStair, cX5_tellStair, 3, (some .int)), (5, yX5_tellLandings, cX5_tellLandings, 2, (some .int)), (5, yX5_character, cX5_character, 2, (some .char)), (5, yX5_account, cX5_account, 2, (some .int)), (5, yX5_meanSteps, cX5_meanSteps, 1, (some .double)), (5, yX5_leasedShare, cX5_leasedShare, 1, (some .float)), (5, yX5_undo, cX5_undo, 1, (some .int)), (5, yX5_save, cX5_save, 1, (some .int)), (5, yX5_restore, cX5_restore, 1, (some .int))]
def mm_pr_7 : List (Nat × MethodName × ByteArray × Nat × Option FieldType) := [(5, yX5_remember, cX5_remember, 1, none), (5, yX5_isRefused, cX5_isRefused, 3, (some .boolean)), (5, yX5_isAnyOrderRefused, cX5_isAnyOrderRefused, 4, (some .boolean)), (5, yX5_areStepsTold, cX5_areStepsTold, 3, (some .boolean)), (5, yX5_areBreathsTold, cX5_areBreathsTold, 3, (some .boolean)), (5, yX5_isInRange, cX5_isInRange, 3, (some .boolean)), (5, yX5_isGiant, cX5_isGiant, 1, (some .boolean)), (5, yX5_isLanding, cX5_isLanding, 1, (some .boolean)), (5, yX5_refusalFor, cX5_refusalFor, 2, (some .long)), (5, yX5_numberOf, cX5_numberOf, 2, (some .int)), (5, yX5_detailOf, cX5_detailOf, 2, (some .int)), (6, yX6_init, cX6_init, 2, none), (6, yX6_thrown, cX6_thrown, 1, (some .int)), (6, yX6_in, cX6_in, 3, (some .boolean)), (6, yX6_copies, cX6_copies, 5, none), (6, yX6_no, cX6_no, 2, (some .int))]
def mm_pr_8 : List (Nat × MethodName × ByteArray × Nat × Option FieldType) := [(6, yX6_isBad, cX6_isBad, 3, (some .boolean)), (6, yX6_refused, cX6_refused, 1, (some .int)), (6, yX6_begins, cX6_begins, 1, none), (6, yX6_keeps, cX6_keeps, 3, (some .int)), (6, yX6_gv, cX6_gv, 3, (some .int)), (6, yX6_more, cX6_more, 4, none), (6, yX6_sv, cX6_sv, 3, (some .int)), (6, yX6_ls, cX6_ls, 4, none), (6, yX6_owner, cX6_owner, 2, (some .int)), (6, yX6_isGiant, cX6_isGiant, 1, (some .boolean)), (6, yX6_isLanding, cX6_isLanding, 1, (some .boolean)), (6, yX6_isStair, cX6_isStair, 2, (some .boolean)), (6, yX6_isNoGiant, cX6_isNoGiant, 2, (some .boolean)), (6, yX6_isNoLanding, cX6_isNoLanding, 2, (some .boolean)), (6, yX6_isNoStair, cX6_isNoStair, 2, (some .boolean)), (6, yX6_joins, cX6_joins, 4, (some .boolean))]
def mm_pr_9 : List (Nat × MethodName × ByteArray × Nat × Option FieldType) := [(6, yX6_stairBetween, cX6_stairBetween, 4, (some .int)), (6, yX6_touches, cX6_touches, 3, (some .boolean)), (6, yX6_across, cX6_across, 3, (some .int)), (6, yX6_isRefusedBuild, cX6_isRefusedBuild, 4, (some .boolean)), (6, yX6_builds, cX6_builds, 6, (some .int)), (6, yX6_build, cX6_build, 4, (some .int)), (6, yX6_tears, cX6_tears, 4, (some .int)), (6, yX6_tear, cX6_tear, 2, (some .int)), (6, yX6_isRefusedHalve, cX6_isRefusedHalve, 2, (some .boolean)), (6, yX6_halves, cX6_halves, 2, (some .int)), (6, yX6_halve, cX6_halve, 2, (some .int)), (6, yX6_rentOf, cX6_rentOf, 2, (some .int)), (6, yX6_isRefusedLease, cX6_isRefusedLease, 4, (some .boolean)), (6, yX6_leases, cX6_leases, 4, (some .int)), (6, yX6_lease, cX6_lease, 4, (some .int)), (6, yX6_takesBreaths, cX6_takesBreaths, 3, (some .int))]
def mm_pr_10 : List (Nat × MethodName × ByteArray × Nat × Option FieldType) := [(6, yX6_isRefusedClimb, cX6_isRefusedClimb, 4, (some .boolean)), (6, yX6_climbs, cX6_climbs, 5, (some .int)), (6, yX6_climb, cX6_climb, 3, (some .int)), (6, yX6_isRefusedLevy, cX6_isRefusedLevy, 3, (some .boolean)), (6, yX6_levyBy, cX6_levyBy, 4, (some .int)), (6, yX6_levies, cX6_levies, 4, (some .int)), (6, yX6_levy, cX6_levy, 3, (some .int)), (6, yX6_standing, cX6_standing, 2, (some .int)), (6, yX6_landingsOf, cX6_landingsOf, 4, (some .int)), (6, yX6_isJoined, cX6_isJoined, 4, (some .boolean)), (6, yX6_priceOf, cX6_priceOf, 2, (some .int)), (6, yX6_isRefusedTake, cX6_isRefusedTake, 3, (some .boolean)), (6, yX6_takes, cX6_takes, 3, (some .int)), (6, yX6_take, cX6_take, 2, (some .int)), (6, yX6_isRefusedCede, cX6_isRefusedCede, 3, (some .boolean)), (6, yX6_cedes, cX6_cedes, 3, (some .int))]
def mm_pr_11 : List (Nat × MethodName × ByteArray × Nat × Option FieldType) := [(6, yX6_free, cX6_free, 3, (some .int)), (6, yX6_ends, cX6_ends, 2, none), (6, yX6_givesRent, cX6_givesRent, 4, (some .int)), (6, yX6_least, cX6_least, 2, (some .int)), (6, yX6_goesBy, cX6_goesBy, 3, (some .int)), (6, yX6_day, cX6_day, 1, (some .int)), (6, yX6_leasedTo, cX6_leasedTo, 4, (some .int)), (6, yX6_giantOf, cX6_giantOf, 3, (some .int)), (6, yX6_stairsAt, cX6_stairsAt, 4, (some .int)), (6, yX6_joinedTo, cX6_joinedTo, 4, (some .int)), (6, yX6_landingOf, cX6_landingOf, 3, (some .int)), (6, yX6_stairOf, cX6_stairOf, 3, (some .int)), (6, yX6_between, cX6_between, 4, (some .int)), (6, yX6_breaths, cX6_breaths, 3, (some .int)), (6, yX6_lengthOf, cX6_lengthOf, 3, (some .int)), (6, yX6_lays, cX6_lays, 7, none)]
def mm_pr_12 : List (Nat × MethodName × ByteArray × Nat × Option FieldType) := [(6, yX6_stepsTo, cX6_stepsTo, 3, (some .int)), (6, yX6_steps, cX6_steps, 3, (some .int)), (6, yX6_stepsAgain, cX6_stepsAgain, 3, (some .int)), (6, yX6_wayTo, cX6_wayTo, 3, (some .int)), (6, yX6_way, cX6_way, 3, (some .int)), (6, yX6_wayAgain, cX6_wayAgain, 3, (some .int)), (6, yX6_first, cX6_first, 6, (some .int)), (6, yX6_reach, cX6_reach, 4, (some .int)), (6, yX6_areDays, cX6_areDays, 1, (some .boolean)), (6, yX6_dustBy, cX6_dustBy, 3, (some .int)), (6, yX6_dustIn, cX6_dustIn, 3, (some .int)), (6, yX6_dustAgain, cX6_dustAgain, 3, (some .int)), (6, yX6_rentsIn, cX6_rentsIn, 4, (some .int)), (6, yX6_couldLevy, cX6_couldLevy, 3, (some .int)), (6, yX6_levyOf, cX6_levyOf, 3, (some .int)), (6, yX6_bestLevy, cX6_bestLevy, 5, (some .int))]
def mm_pr_13 : List (Nat × MethodName × ByteArray × Nat × Option FieldType) := [(6, yX6_canTake, cX6_canTake, 2, (some .boolean)), (6, yX6_takable, cX6_takable, 3, (some .int)), (6, yX6_turn, cX6_turn, 1, (some .int)), (6, yX6_measured, cX6_measured, 3, (some .int)), (6, yX6_ranked, cX6_ranked, 6, (some .int)), (6, yX6_isTold, cX6_isTold, 1, (some .boolean)), (6, yX6_append, cX6_append, 2, (some .int)), (6, yX6_mark, cX6_mark, 1, (some .int)), (6, yX6_isDigit, cX6_isDigit, 1, (some .boolean)), (6, yX6_blank, cX6_blank, 1, none), (6, yX6_digits, cX6_digits, 4, (some .int)), (6, yX6_inWord, cX6_inWord, 6, (some .int)), (6, yX6_letter, cX6_letter, 2, (some .int)), (6, yX6_kindHere, cX6_kindHere, 4, (some .int)), (6, yX6_order, cX6_order, 5, none), (6, yX6_reads, cX6_reads, 1, none)]
def mm_pr_14 : List (Nat × MethodName × ByteArray × Nat × Option FieldType) := [(6, yX6_cannot, cX6_cannot, 6, (some .boolean)), (6, yX6_run, cX6_run, 2, (some .int)), (6, yX6_faultPosition, cX6_faultPosition, 1, (some .int)), (6, yX6_reason, cX6_reason, 4, (some .int)), (6, yX6_writes, cX6_writes, 2, none), (6, yX6_writesNumber, cX6_writesNumber, 3, none), (6, yX6_tellGiant, cX6_tellGiant, 2, (some .int)), (6, yX6_tellStair, cX6_tellStair, 2, (some .int)), (6, yX6_tellLandings, cX6_tellLandings, 2, (some .int)), (6, yX6_character, cX6_character, 2, (some .char)), (6, yX6_sumOf, cX6_sumOf, 4, (some .int)), (6, yX6_account, cX6_account, 2, (some .int)), (6, yX6_meanSteps, cX6_meanSteps, 2, (some .double)), (6, yX6_leasedShare, cX6_leasedShare, 2, (some .float)), (6, yX6_undo, cX6_undo, 1, (some .int)), (6, yX6_save, cX6_save, 1, (some .int))]
def mm_pr_15 : List (Nat × MethodName × ByteArray × Nat × Option FieldType) := [(6, yX6_restore, cX6_restore, 1, (some .int)), (7, yJ4_init_da8c8, cJ4_init_da8c8, 1, none), (7, yJ4_append_cf468, cJ4_append_cf468, 2, (some (.object "java/lang/StringBuilder"))), (7, yJ4_append_bf812, cJ4_append_bf812, 2, (some (.object "java/lang/StringBuilder"))), (7, yJ4_charAt_5068e, cJ4_charAt_5068e, 2, (some .char)), (7, yJ4_setLength_d00df, cJ4_setLength_d00df, 2, none), (7, yJ4_length_8abf5, cJ4_length_8abf5, 1, (some .int)), (8, yJ5_init_d00df, cJ5_init_d00df, 2, none), (8, yJ5_length_8abf5, cJ5_length_8abf5, 1, (some .int)), (8, yJ5_ensureCapacityInternal_d00df, cJ5_ensureCapacityInternal_d00df, 3, none), (8, yJ5_newCapacity_0f7a4, cJ5_newCapacity_0f7a4, 6, (some .int)), (8, yJ5_setLength_d00df, cJ5_setLength_d00df, 2, none), (8, yJ5_charAt_5068e, cJ5_charAt_5068e, 5, (some .char)), (8, yJ5_append_3fe6f, cJ5_append_3fe6f, 2, (some (.object "java/lang/AbstractStringBuilder"))), (8, yJ5_append_c97b9, cJ5_append_c97b9, 4, (some (.object "java/lang/AbstractStringBuilder"))), (8, yJ5_isLatin1_aae02, cJ5_isLatin1_aae02, 1, (some .boolean))]
def mm_pr_16 : List (Nat × MethodName × ByteArray × Nat × Option FieldType) := [(9, yJ6_getChars_ba4f3, cJ6_getChars_ba4f3, 7, (some .int)), (9, yJ6_stringSize_0f7a4, cJ6_stringSize_0f7a4, 4, (some .int)), (9, yJ6_bitCount_0f7a4, cJ6_bitCount_0f7a4, 1, (some .int)), (10, yJ1_canEncode_fc78d, cJ1_canEncode_fc78d, 1, (some .boolean)), (11, yJ7_copyOf_9075b, cJ7_copyOf_9075b, 3, (some (.array .byte))), (12, yJ8_newLength_cabcc, cJ8_newLength_cabcc, 4, (some .int)), (13, yJ0_length_8abf5, cJ0_length_8abf5, 1, (some .int)), (13, yJ0_charAt_5068e, cJ0_charAt_5068e, 2, (some .char)), (13, yJ0_checkIndex_df160, cJ0_checkIndex_df160, 2, none)]
def mm_pr : List (Nat × MethodName × ByteArray × Nat × Option FieldType) := mm_pr_0 ++ (mm_pr_1 ++ (mm_pr_2 ++ (mm_pr_3 ++ (mm_pr_4 ++ (mm_pr_5 ++ (mm_pr_6 ++ (mm_pr_7 ++ (mm_pr_8 ++ (mm_pr_9 ++ (mm_pr_10 ++ (mm_pr_11 ++ (mm_pr_12 ++ (mm_pr_13 ++ (mm_pr_14 ++ (mm_pr_15 ++ (mm_pr_16))))))))))))))))
def mm_m (a : Nat) : Nat × MethodName × ByteArray × Nat × Option FieldType := mm_pr.getD a (0, yX0_init, cX0_init, 0, none)
/-- what an index of a class's pool names: its kind, then two numbers -/
def mm_lnk_0 : List (Nat × Nat × Nat × Nat) := [(3, 8, 0, 0), (9, 0, 0, 0), (15, 0, 0, 2), (18, 0, 0, 3), (21, 0, 0, 4), (24, 0, 0, 1)]
def mm_lnk_1 : List (Nat × Nat × Nat × Nat) := [(3, 8, 0, 0), (9, 9, 7, 9), (11, 6, 241, 96), (12, 0, 1, 0), (18, 0, 1, 1), (22, 18, 8, 18), (24, 0, 1, 2), (27, 0, 1, 3), (49, 3, 117, 51), (53, 4, 6, 65), (57, 2, 3, 33), (61, 4, 7, 66), (65, 4, 262, 64), (71, 4, 8, 67), (75, 4, 246, 64), (76, 4, 244, 65), (80, 4, 263, 65), (81, 2, 4, 33), (85, 4, 25, 67), (91, 4, 27, 65), (95, 4, 29, 65), (98, 4, 32, 67), (101, 4, 34, 66), (105, 4, 36, 66), (108, 4, 40, 65), (111, 4, 42, 66), (114, 4, 26, 67), (117, 4, 28, 65), (120, 4, 30, 65), (123, 4, 33, 67), (126, 4, 35, 66), (130, 4, 38, 66), (133, 4, 41, 65), (136, 4, 43, 66), (139, 4, 44, 64)]
def mm_lnk_2 : List (Nat × Nat × Nat × Nat) := [(3, 8, 0, 0), (9, 0, 2, 0), (15, 0, 2, 1), (18, 0, 2, 2), (21, 0, 2, 3), (24, 0, 2, 4), (27, 0, 2, 5), (30, 0, 2, 6), (33, 16, 0, 258), (39, 17, 0, 274), (42, 4, 14, 64), (45, 3, 118, 49), (49, 4, 18, 64)]
def mm_lnk_3 : List (Nat × Nat × Nat × Nat) := [(3, 8, 0, 0), (9, 9, 0, 9), (11, 0, 3, 0), (17, 0, 3, 1), (21, 9, 2, 9), (23, 0, 3, 2), (27, 0, 3, 3), (31, 0, 3, 4), (34, 0, 3, 5), (37, 0, 3, 6), (40, 0, 3, 7), (43, 0, 3, 8), (46, 0, 3, 9), (49, 6, 0, 97), (52, 7, 11, 112), (53, 4, 1, 65), (57, 15, 0, 245), (63, 4, 12, 65), (66, 3, 117, 51), (70, 3, 119, 49), (74, 3, 120, 50), (78, 4, 46, 66), (82, 4, 13, 67), (86, 4, 24, 65), (89, 1, 2, 4), (92, 1, 2, 2), (95, 3, 118, 49), (98, 4, 31, 66), (101, 4, 15, 64), (105, 1, 2, 6), (108, 1, 2, 5), (111, 4, 18, 64), (115, 1, 0, 1), (118, 4, 16, 65), (121, 4, 17, 65), (125, 1, 0, 0), (126, 1, 0, 4), (129, 1, 2, 3), (132, 4, 20, 65), (135, 1, 0, 2), (138, 1, 2, 0), (141, 1, 2, 1), (144, 4, 36, 66), (147, 16, 0, 258), (152, 4, 37, 66), (155, 4, 49, 65), (158, 4, 48, 66), (162, 4, 50, 65), (165, 4, 39, 65), (168, 4, 19, 64), (171, 4, 45, 65), (175, 4, 14, 64), (178, 1, 0, 3), (181, 4, 47, 65), (184, 4, 21, 65)]
def mm_lnk_4 : List (Nat × Nat × Nat × Nat) := [(3, 8, 0, 0), (9, 0, 4, 0), (15, 0, 4, 1), (19, 0, 4, 2), (22, 18, 8, 18), (24, 0, 4, 3), (27, 11, 1000000, 0), (28, 4, 55, 66), (34, 4, 60, 64), (38, 4, 61, 67), (42, 1, 3, 3), (46, 1, 3, 2), (50, 4, 16, 65), (56, 4, 62, 69), (60, 4, 17, 65), (64, 4, 20, 65), (67, 16, 0, 258), (73, 1, 2, 0), (76, 1, 2, 1), (79, 1, 2, 2), (82, 4, 64, 65), (86, 1, 3, 0), (90, 1, 0, 1), (95, 4, 59, 67)]
def mm_lnk_5 : List (Nat × Nat × Nat × Nat) := [(3, 8, 0, 0), (9, 9, 3, 9), (11, 6, 22, 96), (12, 0, 5, 0), (16, 0, 5, 1), (19, 0, 5, 2), (22, 0, 5, 3), (26, 0, 5, 4), (30, 0, 5, 5), (34, 0, 5, 6), (37, 9, 4, 9), (39, 7, 58, 112), (40, 0, 5, 7), (44, 9, 1, 9), (46, 7, 2, 112), (47, 0, 5, 8), (51, 0, 5, 9), (54, 0, 5, 10), (58, 0, 5, 11), (61, 9, 7, 9), (63, 6, 241, 96), (64, 0, 5, 12), (68, 4, 25, 67), (72, 4, 113, 65), (83, 4, 112, 64), (86, 4, 26, 67), (90, 4, 27, 65), (96, 4, 28, 65), (100, 4, 29, 65), (105, 4, 30, 65), (108, 4, 32, 67), (113, 4, 33, 67), (116, 4, 34, 66), (122, 4, 35, 66), (126, 4, 36, 66), (131, 4, 38, 66), (134, 4, 40, 65), (139, 4, 41, 65), (142, 4, 42, 66), (147, 4, 43, 66), (150, 4, 44, 64), (154, 2, 118, 33), (163, 1, 3, 0), (167, 1, 0, 0), (172, 1, 0, 1), (175, 4, 50, 65), (178, 1, 0, 2), (181, 4, 51, 65), (184, 1, 0, 3), (187, 1, 0, 4), (195, 2, 119, 33), (200, 1, 3, 1), (204, 4, 47, 65), (207, 2, 258, 33), (212, 4, 49, 65), (217, 4, 24, 65), (222, 1, 3, 2), (226, 1, 2, 0), (231, 1, 2, 1), (234, 1, 2, 2), (237, 1, 2, 3), (240, 1, 2, 4), (243, 1, 2, 5), (246, 1, 2, 6), (249, 4, 18, 64), (254, 4, 46, 66), (264, 4, 20, 65), (267, 4, 59, 67), (271, 1, 4, 0), (274, 11, 1000000, 0), (277, 4, 63, 65), (281, 1, 4, 3), (289, 4, 65, 66), (293, 1, 4, 2), (296, 4, 66, 67), (302, 2, 117, 35), (308, 4, 19, 64), (311, 16, 0, 258), (316, 4, 23, 65), (319, 4, 37, 66), (322, 1, 3, 3), (327, 1, 3, 5), (332, 4, 54, 66), (337, 4, 115, 64), (341, 4, 116, 65), (344, 4, 56, 64), (347, 4, 57, 64), (352, 1, 1, 0), (355, 4, 246, 64), (363, 4, 242, 65), (367, 4, 5, 64), (370, 4, 245, 65), (376, 4, 114, 64), (381, 1, 1, 3), (388, 2, 122, 33), (392, 2, 121, 33), (395, 4, 243, 65), (398, 4, 15, 64), (403, 4, 244, 65), (407, 1, 3, 4), (410, 1, 3, 6), (411, 4, 52, 64), (414, 1, 3, 7), (417, 1, 3, 8), (420, 1, 3, 9), (430, 4, 53, 64), (437, 4, 9, 66), (441, 2, 120, 34), (444, 4, 10, 66), (448, 12, 4294967295, 0)]
def mm_lnk_6 : List (Nat × Nat × Nat × Nat) := [(1, 8, 0, 0), (7, 0, 6, 0), (13, 0, 6, 1), (16, 0, 6, 2), (19, 0, 6, 3), (22, 0, 6, 4), (25, 0, 6, 5), (29, 0, 6, 6), (32, 0, 6, 7), (35, 0, 6, 8), (38, 0, 6, 9), (41, 0, 6, 10), (44, 0, 6, 11), (47, 0, 6, 12), (50, 0, 6, 13), (53, 0, 6, 14), (57, 0, 6, 15), (60, 0, 6, 16), (63, 0, 6, 17), (66, 0, 6, 18), (69, 0, 6, 19), (72, 0, 6, 20), (75, 0, 6, 21), (78, 0, 6, 22), (81, 0, 6, 23), (84, 0, 6, 24), (87, 0, 6, 25), (90, 4, 127, 65), (94, 2, 126, 36), (98, 2, 125, 35), (102, 2, 137, 33), (106, 4, 128, 66), (110, 2, 138, 33), (113, 4, 139, 65), (116, 4, 134, 66), (120, 4, 143, 67), (123, 4, 141, 65), (126, 4, 144, 66), (129, 4, 135, 67), (133, 4, 130, 64), (136, 4, 147, 67), (139, 4, 129, 64), (143, 4, 148, 67), (147, 4, 131, 65), (150, 4, 142, 65), (153, 4, 150, 65), (156, 4, 152, 65), (159, 4, 153, 65), (162, 4, 140, 65), (165, 4, 155, 65), (168, 4, 156, 67), (171, 4, 157, 67), (174, 4, 132, 66), (177, 4, 145, 66), (180, 4, 146, 66), (183, 4, 136, 65), (186, 4, 159, 66), (189, 4, 133, 67), (192, 4, 160, 66), (195, 4, 161, 66), (198, 4, 164, 66), (201, 4, 163, 66), (204, 4, 165, 66), (207, 4, 167, 65), (210, 4, 169, 66), (213, 4, 168, 65), (216, 4, 170, 65), (219, 4, 171, 65), (222, 4, 172, 65), (225, 4, 174, 66), (228, 4, 175, 66), (231, 4, 177, 65), (235, 2, 179, 34), (238, 4, 178, 65), (241, 4, 180, 64), (244, 4, 182, 65), (247, 4, 184, 65), (250, 4, 185, 65), (253, 11, 1000000, 0), (254, 4, 190, 66), (257, 4, 191, 66), (261, 4, 192, 66), (264, 4, 195, 66), (267, 2, 200, 33), (270, 4, 201, 66), (273, 4, 205, 66), (276, 4, 211, 66), (279, 4, 215, 64), (282, 4, 216, 64), (286, 2, 219, 38), (290, 2, 220, 34), (293, 4, 221, 64), (296, 4, 217, 64), (299, 4, 218, 65), (302, 4, 222, 64), (305, 4, 223, 64), (308, 4, 224, 65), (311, 4, 228, 65), (314, 4, 229, 65), (317, 4, 234, 65)]
def mm_lnk_7 : List (Nat × Nat × Nat × Nat) := [(1, 6, 247, 97), (50, 14, 253, 225), (53, 14, 254, 225), (329, 14, 252, 225), (333, 14, 251, 225), (343, 14, 248, 224)]
def mm_lnk_8 : List (Nat × Nat × Nat × Nat) := [(15, 0, 7, 0), (22, 0, 7, 1), (39, 11, 2147483647, 0), (73, 0, 7, 2), (79, 0, 7, 3), (83, 13, 255, 208), (100, 13, 249, 209), (104, 13, 250, 209), (108, 2, 260, 34), (114, 2, 261, 35), (138, 16, 0, 258), (144, 2, 264, 34), (191, 2, 259, 33), (245, 2, 257, 33), (248, 2, 256, 35)]
def mm_lnk_9 : List (Nat × Nat × Nat × Nat) := [(265, 11, 1431655765, 0), (266, 11, 858993459, 0), (267, 11, 252645135, 0)]
def mm_lnk_10 : List (Nat × Nat × Nat × Nat) := []
def mm_lnk_11 : List (Nat × Nat × Nat × Nat) := [(150, 15, 0, 245), (304, 16, 0, 258)]
def mm_lnk_12 : List (Nat × Nat × Nat × Nat) := [(194, 17, 0, 274), (200, 11, 2147483639, 0)]
def mm_lnk_13 : List (Nat × Nat × Nat × Nat) := []
def mm_lnk (o : Nat) : List (Nat × Nat × Nat × Nat) := match o with
  | 0 => mm_lnk_0
  | 1 => mm_lnk_1
  | 2 => mm_lnk_2
  | 3 => mm_lnk_3
  | 4 => mm_lnk_4
  | 5 => mm_lnk_5
  | 6 => mm_lnk_6
  | 7 => mm_lnk_7
  | 8 => mm_lnk_8
  | 9 => mm_lnk_9
  | 10 => mm_lnk_10
  | 11 => mm_lnk_11
  | 12 => mm_lnk_12
  | 13 => mm_lnk_13
  | _ => []
def mm_look (l : List (Nat × Nat × Nat × Nat)) (i : Nat) : Option (Nat × Nat × Nat) := match l with
  | [] => none
  | r :: l => if r.1 = i then some r.2 else mm_look l i
def mm_R (o : Nat) : String := mm_own.getD o ""
def mm_C (a : Nat) : vw_C := mm_cl.getD a ("", fun _ => ("", "", "", false), 0)
/-- the words of a row of a pool; the words of nest mates apart -/
def mm_rw (o : Nat) (r : Nat × Nat × Nat × Nat) : List Cond := match r with
  | (i, t, a, b) => match t with
    | 0 => [.fieldLink (mm_R o) i ((mm_C a).2.1 b).1 ((mm_C a).2.1 b).2.1 ((mm_C a).2.1 b).2.2.1]
    | 2 => [.methodLink (mm_R o) i (mm_m a).2.1, .static (mm_m a).2.1, .initialized (mm_m a).2.1.cls]
    | 3 => [.static (mm_m a).2.1, .initialized (mm_m a).2.1.cls]
    | 4 => [.methodLink (mm_R o) i (mm_m a).2.1, .instanceMethod (mm_m a).2.1, .selects (mm_m a).2.1.cls (mm_m a).2.1 (mm_m a).2.1, .initialized (mm_m a).2.1.cls]
    | 5 => [.instanceMethod (mm_m a).2.1, .selects (mm_m a).2.1.cls (mm_m a).2.1 (mm_m a).2.1, .initialized (mm_m a).2.1.cls]
    | 6 => [.methodLink (mm_R o) i (mm_m a).2.1, .instanceMethod (mm_m a).2.1, .initialized (mm_m a).2.1.cls]
    | 7 => [.instanceMethod (mm_m a).2.1, .initialized (mm_m a).2.1.cls]
    | 8 => [.methodLink (mm_R o) i Lib.objectInit, .instanceMethod Lib.objectInit]
    | 9 => [.classLink (mm_R o) i (mm_C a).1, .instantiable (mm_C a).1 (mm_C a).2.2, .initialized (mm_C a).1]
    | 15 => [.methodLink (mm_R o) i arraycopyName, .native arraycopyName, .static arraycopyName, .initialized "java/lang/System"]
    | 16 => [.methodLink (mm_R o) i Lib.Math.min.name, .static Lib.Math.min.name, .initialized "java/lang/Math", .code Lib.Math.min.name Lib.Math.min.code 2 (some .int)]
    | 17 => [.methodLink (mm_R o) i Lib.Math.max.name, .static Lib.Math.max.name, .initialized "java/lang/Math", .code Lib.Math.max.name Lib.Math.max.code 2 (some .int)]
    | 18 => [.classLink (mm_R o) i "[[I"]
    | 11 => [.constant (mm_R o) i (Int32.ofNat a)]
    | 12 => [.constantLong (mm_R o) i (Int64.ofNat a)]
    | 13 => [.methodLink (mm_R o) i (mm_m a).2.1, .sameMethod (mm_m a).2.1.cls (mm_m a).2.1.cls (mm_m a).2.1.name (mm_m a).2.1.desc, .selects RJ4 (mm_m a).2.1 (mm_m a).2.1, .instanceMethod (mm_m a).2.1, .initialized (mm_m a).2.1.cls]
    | 14 => [.methodLink (mm_R o) i (mm_m a).2.1, .sameMethod (mm_m a).2.1.cls (mm_m a).2.1.cls (mm_m a).2.1.name (mm_m a).2.1.desc, .superclass (mm_R o) (mm_m a).2.1.cls, .instanceMethod (mm_m a).2.1, .initialized (mm_m a).2.1.cls]
    | _ => []
def mm_rn (o : Nat) (r : Nat × Nat × Nat × Nat) : List Cond := match r with
  | (i, t, a, b) => match t with
    | 1 => [.fieldLinkNest (mm_R o) i ((mm_C a).2.1 b).1 ((mm_C a).2.1 b).2.1 ((mm_C a).2.1 b).2.2.1 RX5]
    | 3 => [.methodLinkNest (mm_R o) i (mm_m a).2.1 RX5]
    | 5 => [.methodLinkNest (mm_R o) i (mm_m a).2.1 RX5]
    | 7 => [.methodLinkNest (mm_R o) i (mm_m a).2.1 RX5]
    | _ => []
/-- words that the tables give by way of others: of private methods of a superclass -/
def mm_pw : List Cond := [.selects RJ4 yJ5_ensureCapacityInternal_d00df yJ5_ensureCapacityInternal_d00df, .selects RJ4 yJ5_newCapacity_0f7a4 yJ5_newCapacity_0f7a4]
def mm_big : List Cond := lw_tbl ++ mm_pw
def mm_lw (o : Nat) : List Cond := (mm_lnk o).flatMap (mm_rw o)
def mm_ln (o : Nat) : List Cond := (mm_lnk o).flatMap (mm_rn o)
def mm_cw_0 : List Cond := mm_pr_0.map (fun q => Cond.code q.2.1 q.2.2.1 q.2.2.2.1 q.2.2.2.2)
def mm_cw_1 : List Cond := mm_pr_1.map (fun q => Cond.code q.2.1 q.2.2.1 q.2.2.2.1 q.2.2.2.2)
def mm_cw_2 : List Cond := mm_pr_2.map (fun q => Cond.code q.2.1 q.2.2.1 q.2.2.2.1 q.2.2.2.2)
def mm_cw_3 : List Cond := mm_pr_3.map (fun q => Cond.code q.2.1 q.2.2.1 q.2.2.2.1 q.2.2.2.2)
def mm_cw_4 : List Cond := mm_pr_4.map (fun q => Cond.code q.2.1 q.2.2.1 q.2.2.2.1 q.2.2.2.2)
def mm_cw_5 : List Cond := mm_pr_5.map (fun q => Cond.code q.2.1 q.2.2.1 q.2.2.2.1 q.2.2.2.2)
def mm_cw_6 : List Cond := mm_pr_6.map (fun q => Cond.code q.2.1 q.2.2.1 q.2.2.2.1 q.2.2.2.2)
def mm_cw_7 : List Cond := mm_pr_7.map (fun q => Cond.code q.2.1 q.2.2.1 q.2.2.2.1 q.2.2.2.2)
def mm_cw_8 : List Cond := mm_pr_8.map (fun q => Cond.code q.2.1 q.2.2.1 q.2.2.2.1 q.2.2.2.2)
def mm_cw_9 : List Cond := mm_pr_9.map (fun q => Cond.code q.2.1 q.2.2.1 q.2.2.2.1 q.2.2.2.2)
def mm_cw_10 : List Cond := mm_pr_10.map (fun q => Cond.code q.2.1 q.2.2.1 q.2.2.2.1 q.2.2.2.2)
def mm_cw_11 : List Cond := mm_pr_11.map (fun q => Cond.code q.2.1 q.2.2.1 q.2.2.2.1 q.2.2.2.2)
def mm_cw_12 : List Cond := mm_pr_12.map (fun q => Cond.code q.2.1 q.2.2.1 q.2.2.2.1 q.2.2.2.2)
def mm_cw_13 : List Cond := mm_pr_13.map (fun q => Cond.code q.2.1 q.2.2.1 q.2.2.2.1 q.2.2.2.2)
def mm_cw_14 : List Cond := mm_pr_14.map (fun q => Cond.code q.2.1 q.2.2.1 q.2.2.2.1 q.2.2.2.2)
def mm_cw_15 : List Cond := mm_pr_15.map (fun q => Cond.code q.2.1 q.2.2.1 q.2.2.2.1 q.2.2.2.2)
def mm_cw_16 : List Cond := mm_pr_16.map (fun q => Cond.code q.2.1 q.2.2.1 q.2.2.2.1 q.2.2.2.2)
def mm_cw : List Cond := mm_cw_0 ++ (mm_cw_1 ++ (mm_cw_2 ++ (mm_cw_3 ++ (mm_cw_4 ++ (mm_cw_5 ++ (mm_cw_6 ++ (mm_cw_7 ++ (mm_cw_8 ++ (mm_cw_9 ++ (mm_cw_10 ++ (mm_cw_11 ++ (mm_cw_12 ++ (mm_cw_13 ++ (mm_cw_14 ++ (mm_cw_15 ++ (mm_cw_16))))))))))))))))
def mm_yw : List Cond := mm_cl.flatMap (fun q => u_ws q.1 q.2.1 q.2.2)
def mm_xw : List Cond := [.code Lib.objectInit ⟨#[0xb1]⟩ 1 none, .arrayClass .int, .arrayClass .boolean, .arrayClass .long, .arrayClass .double, .arrayClass .byte]
/-- the words of what is thrown -/
def mm_tw_0 : List Cond := [.classLink RX5 76 "java/lang/UnsupportedOperationException", .initialized "java/lang/UnsupportedOperationException"] ++ (vx_atS RX5 80 "java/lang/UnsupportedOperationException" ["java/lang/RuntimeException", "java/lang/Exception"]).filter goodWord
def mm_tw_1 : List Cond := [.classLink RX5 158 "java/lang/IndexOutOfBoundsException", .initialized "java/lang/IndexOutOfBoundsException"] ++ (vx_atS RX5 162 "java/lang/IndexOutOfBoundsException" ["java/lang/RuntimeException", "java/lang/Exception"]).filter goodWord
def mm_tw_2 : List Cond := [.classLink RX5 190 "java/lang/IllegalArgumentException", .initialized "java/lang/IllegalArgumentException"] ++ (vx_atS RX5 194 "java/lang/IllegalArgumentException" ["java/lang/RuntimeException", "java/lang/Exception"]).filter goodWord
def mm_nsX : String := "java/util/NoSuchElementException"
/-- the words of a throw of it: as of the others, but its constructor calls by another index -/
def mm_nsA : List Cond := Bundle.throwableAtoms ++ Bundle.throwableSAtoms ++ (Bundle.passSAtoms mm_nsX "java/lang/RuntimeException" 13 prog_36_method_4_code ++ Bundle.chainSAtoms "java/lang/RuntimeException" ["java/lang/Exception"]) ++ [.methodLink RX5 261 (Bundle.initS mm_nsX), .instantiable mm_nsX 6, .castable mm_nsX mm_nsX, .selects mm_nsX Bundle.tFill0 Bundle.tFill0, .selects mm_nsX Bundle.tFill Bundle.tFill, .lays mm_nsX Bundle.tN "cause" "Ljava/lang/Throwable;", .lays mm_nsX Bundle.tN "stackTrace" Bundle.steD, .lays mm_nsX Bundle.tN "suppressedExceptions" Bundle.listD, .lays mm_nsX Bundle.tN "detailMessage" "Ljava/lang/String;", .isRef (.static Bundle.tN "UNASSIGNED_STACK" Bundle.steD), .isRef (.static Bundle.tN "SUPPRESSED_SENTINEL" Bundle.listD), .fieldLink Bundle.tN 198 Bundle.tN "backtrace" "Ljava/lang/Object;", .lays Bundle.tN Bundle.tN "backtrace" "Ljava/lang/Object;", .lays mm_nsX Bundle.tN "backtrace" "Ljava/lang/Object;"]
def mm_tw_3 : List Cond := [.classLink RX5 257 "java/util/NoSuchElementException", .initialized "java/util/NoSuchElementException"] ++ (mm_nsA.filter vx_no).filter goodWord
def mm_tw_4 : List Cond := [.classLink RX5 358 "java/lang/IllegalStateException", .initialized "java/lang/IllegalStateException"] ++ (vx_atS RX5 362 "java/lang/IllegalStateException" ["java/lang/RuntimeException", "java/lang/Exception"]).filter goodWord
def mm_tw_5 : List Cond := [.classLink RX5 425 "java/lang/ArithmeticException", .initialized "java/lang/ArithmeticException"] ++ (vx_atS RX5 429 "java/lang/ArithmeticException" ["java/lang/RuntimeException", "java/lang/Exception"]).filter goodWord
def mm_tw : List Cond := mm_tw_0 ++ (mm_tw_1 ++ (mm_tw_2 ++ (mm_tw_3 ++ (mm_tw_4 ++ (mm_tw_5)))))
def mm_W : List Cond := mm_cw ++ (mm_yw ++ (mm_xw ++ (mm_tw ++ (List.range 14).flatMap mm_lw)))
def mm_N : List Cond := (List.range 14).flatMap mm_ln
theorem mm_goodIn {big : List Cond} (ws : List Cond) (ps : List Nat) (hp : ws = ps.filterMap (fun i => big[i]?)) (h : ws.all goodWord = true) : GoodIn big ws := by
  intro w hw
  have h1 := List.all_eq_true.mp h w hw
  rw [hp] at hw
  obtain ⟨i, -, hi⟩ := List.mem_filterMap.mp hw
  exact ⟨List.mem_of_getElem? hi, good_of_word h1⟩
theorem mm_inIn {big : List Cond} (ws : List Cond) (ps : List Nat) (hp : ws = ps.filterMap (fun i => big[i]?)) : ∀ w ∈ ws, w ∈ big := by
  intro w hw
  rw [hp] at hw
  obtain ⟨i, -, hi⟩ := List.mem_filterMap.mp hw
  exact List.mem_of_getElem? hi
theorem mm_g_lw_0 : GoodIn mm_big (mm_lw 0) := mm_goodIn _ [131, 115, 132, 139, 142, 145, 135] (by decide +kernel) (by decide +kernel)
theorem mm_i_ln_0 : ∀ w ∈ mm_ln 0, w ∈ lw_tbl := mm_inIn _ [] (by decide +kernel)
theorem mm_g_lw_1 : GoodIn mm_big (mm_lw 1) := mm_goodIn _ [279, 115, 280, 281, 86, 282, 283, 86, 314, 316, 313, 317, 318, 418, 79, 1333, 1335, 10, 84, 1337, 1338, 84, 1349, 1351, 11, 84, 1353, 632, 633, 87, 1384, 1386, 12, 84, 1354, 721, 2081, 86, 1370, 1371, 1372, 86, 1355, 1356, 1357, 87, 1380, 1381, 84, 1397, 923, 924, 80, 1398, 970, 971, 80, 1399, 990, 991, 80, 1400, 1006, 1007, 80, 1401, 1027, 1028, 80, 1402, 1044, 1045, 80, 1403, 433, 434, 80, 1404, 1077, 1078, 80, 1410, 952, 953, 80, 1411, 979, 980, 80, 1412, 995, 996, 80, 1413, 1016, 1017, 80, 1414, 1032, 1033, 80, 1415, 1049, 1050, 80, 1416, 1066, 1067, 80, 1417, 1082, 1083, 80, 1418, 398, 399, 80] (by decide +kernel) (by decide +kernel)
theorem mm_i_ln_1 : ∀ w ∈ mm_ln 1, w ∈ lw_tbl := mm_inIn _ [1383] (by decide +kernel)
theorem mm_g_lw_2 : GoodIn mm_big (mm_lw 2) := mm_goodIn _ [164, 115, 165, 169, 173, 177, 180, 183, 186, 959, 395, 95, 396, 960, 581, 95, 582, 961, 425, 426, 82, 415, 79, 1295, 421, 422, 82] (by decide +kernel) (by decide +kernel)
theorem mm_i_ln_2 : ∀ w ∈ mm_ln 2, w ∈ lw_tbl := mm_inIn _ [414] (by decide +kernel)
theorem mm_g_lw_3 : GoodIn mm_big (mm_lw 3) := mm_goodIn _ [122, 115, 123, 127, 81, 204, 207, 125, 160, 82, 209, 212, 215, 217, 219, 221, 223, 225, 128, 129, 81, 162, 82, 383, 384, 385, 81, 387, 389, 388, 94, 390, 391, 392, 82, 418, 79, 437, 79, 440, 79, 927, 928, 929, 80, 955, 956, 957, 82, 973, 974, 975, 80, 415, 79, 1009, 1010, 1011, 80, 410, 411, 412, 82, 420, 421, 422, 82, 455, 456, 457, 82, 459, 460, 461, 82, 1035, 516, 517, 82, 1056, 1044, 1045, 80, 405, 395, 95, 396, 1052, 1053, 1054, 80, 443, 444, 445, 80, 447, 448, 449, 80, 463, 464, 465, 80, 467, 468, 469, 80, 401, 402, 403, 82, 406, 408, 1, 80, 424, 425, 426, 82, 451, 452, 453, 80, 1291, 1292, 1293, 82] (by decide +kernel) (by decide +kernel)
theorem mm_i_ln_3 : ∀ w ∈ mm_ln 3, w ∈ lw_tbl := mm_inIn _ [161, 926, 436, 439, 181, 175, 1013, 187, 184, 138, 134, 147, 179, 141, 168, 172, 144] (by decide +kernel)
theorem mm_g_lw_4 : GoodIn mm_big (mm_lw 4) := mm_goodIn _ [254, 115, 257, 259, 260, 255, 262, 487, 497, 498, 499, 80, 501, 503, 4, 83, 505, 507, 5, 83, 509, 456, 457, 82, 510, 512, 6, 83, 514, 460, 461, 82, 515, 516, 517, 82, 492, 395, 95, 396, 488, 490, 3, 83, 1224, 494, 495, 83] (by decide +kernel) (by decide +kernel)
theorem mm_i_ln_4 : ∀ w ∈ mm_ln 4, w ∈ lw_tbl := mm_inIn _ [213, 210, 166, 170, 174, 205, 136] (by decide +kernel)
theorem mm_g_lw_5 : GoodIn mm_big (mm_lw 5) := mm_goodIn _ [114, 115, 117, 118, 80, 119, 120, 80, 331, 332, 333, 334, 335, 336, 337, 249, 250, 83, 252, 83, 338, 274, 275, 84, 277, 84, 339, 340, 341, 342, 329, 281, 86, 330, 283, 86, 343, 922, 923, 924, 80, 931, 933, 9, 79, 375, 377, 0, 79, 951, 952, 953, 80, 969, 970, 971, 80, 978, 979, 980, 80, 989, 990, 991, 80, 994, 995, 996, 80, 1005, 1006, 1007, 80, 1015, 1016, 1017, 80, 1026, 1027, 1028, 80, 1031, 1032, 1033, 80, 1043, 1044, 1045, 80, 1048, 1049, 1050, 80, 432, 433, 434, 80, 1065, 1066, 1067, 80, 1076, 1077, 1078, 80, 1081, 1082, 1083, 80, 397, 398, 399, 80, 1096, 415, 79, 1110, 464, 465, 80, 1111, 1112, 1113, 80, 1125, 437, 79, 1127, 452, 453, 80, 1128, 1129, 100, 1134, 444, 445, 80, 1143, 974, 975, 80, 1145, 421, 422, 82, 1155, 928, 929, 80, 1180, 516, 517, 82, 493, 494, 495, 83, 1188, 483, 484, 485, 83, 523, 524, 525, 83, 1220, 1221, 1222, 83, 417, 418, 79, 1241, 402, 403, 82, 394, 395, 95, 396, 379, 380, 381, 80, 1263, 1053, 1054, 80, 1287, 1288, 1289, 80, 479, 481, 2, 79, 519, 521, 7, 79, 527, 528, 529, 80, 531, 532, 533, 80, 909, 721, 2081, 86, 886, 887, 888, 86, 1329, 1330, 1331, 84, 543, 544, 545, 86, 1389, 1391, 13, 79, 1429, 1430, 79, 1432, 1433, 79, 908, 675, 676, 86, 1449, 411, 412, 82, 1458, 1371, 1372, 86, 1466, 1467, 1468, 80, 1495, 1496, 1497, 80, 1393, 1394, 1395, 84, 1405, 440, 79, 1406, 1407, 1408, 84, 442] (by decide +kernel) (by decide +kernel)
theorem mm_i_ln_5 : ∀ w ∈ mm_ln 5, w ∈ lw_tbl := mm_inIn _ [251, 276, 206, 133, 137, 140, 143, 146, 208, 211, 167, 171, 176, 178, 182, 185, 188, 258, 263, 261, 214, 218, 315, 319, 216, 220, 222, 224, 226] (by decide +kernel)
theorem mm_g_lw_6 : GoodIn mm_big (mm_lw 6) := mm_goodIn _ [1527, 115, 1528, 1529, 1530, 1531, 1532, 1533, 1534, 1535, 1536, 1537, 1538, 1539, 1540, 1541, 1542, 1543, 1544, 1545, 1546, 1547, 1548, 1549, 1550, 1551, 1552, 1553, 1656, 1658, 22, 89, 1619, 1620, 89, 1633, 1634, 89, 1712, 1713, 89, 1636, 1638, 17, 89, 1630, 1631, 89, 1680, 1682, 27, 89, 1648, 1650, 20, 89, 1644, 1646, 19, 89, 1626, 1628, 16, 89, 1640, 1642, 18, 89, 1664, 1666, 24, 89, 1615, 1617, 14, 89, 1622, 1624, 15, 89, 1652, 1654, 21, 89, 1660, 1662, 23, 89, 1668, 1670, 25, 89, 1676, 1678, 26, 89, 1684, 1686, 28, 89, 1692, 1694, 29, 89, 1696, 1698, 30, 89, 1708, 1710, 32, 89, 1719, 1721, 34, 89, 1704, 1706, 31, 89, 1715, 1717, 33, 89, 1731, 1733, 36, 89, 1735, 1737, 37, 89, 1739, 1741, 38, 89, 1743, 1745, 39, 89, 1751, 1753, 41, 89, 1755, 1757, 42, 89, 1727, 1729, 35, 89, 1747, 1749, 40, 89, 1771, 1773, 45, 89, 1763, 1765, 43, 89, 1767, 1769, 44, 89, 1783, 1785, 47, 89, 1787, 1789, 48, 89, 1791, 1793, 49, 89, 1795, 1797, 50, 89, 1779, 1781, 46, 89, 1799, 1801, 51, 89, 1807, 1809, 52, 89, 1811, 1813, 53, 89, 1830, 1832, 56, 89, 1823, 1824, 89, 1826, 1828, 55, 89, 1819, 1821, 54, 89, 1838, 1840, 57, 89, 1846, 1848, 58, 89, 1850, 1852, 59, 89, 1878, 1879, 1881, 62, 89, 1874, 1876, 61, 89, 1870, 1872, 60, 89, 1891, 1893, 63, 89, 1915, 1916, 89, 1911, 1913, 64, 89, 1930, 1932, 65, 89, 1954, 1956, 66, 89, 1992, 1994, 71, 89, 2000, 2002, 73, 89, 1985, 1986, 89, 1982, 1983, 89, 1978, 1980, 69, 89, 1988, 1990, 70, 89, 1996, 1998, 72, 89, 1974, 1976, 68, 89, 1970, 1972, 67, 89, 2004, 2006, 74, 89, 2024, 2026, 76, 89, 2020, 2022, 75, 89, 2044, 2046, 77, 89] (by decide +kernel) (by decide +kernel)
theorem mm_i_ln_6 : ∀ w ∈ mm_ln 6, w ∈ lw_tbl := mm_inIn _ [] (by decide +kernel)
theorem mm_g_lw_7 : GoodIn mm_big (mm_lw 7) := mm_goodIn _ [285, 286, 85, 890, 2080, 311, 891, 85, 678, 2078, 311, 679, 85, 1374, 2082, 311, 1375, 85, 547, 2070, 311, 548, 85, 723, 719, 311, 718, 85] (by decide +kernel) (by decide +kernel)
theorem mm_i_ln_7 : ∀ w ∈ mm_ln 7, w ∈ lw_tbl := mm_inIn _ [] (by decide +kernel)
theorem mm_g_lw_8 : GoodIn mm_big (mm_lw 8) := mm_goodIn _ [298, 299, 587, 300, 302, 600, 602, 603, 601, 85, 569, 2073, 2103, 571, 85, 573, 2074, 2104, 575, 85, 588, 589, 104, 577, 578, 103, 1377, 395, 95, 396, 1378, 903, 87, 893, 894, 105, 681, 682, 100, 684, 685, 100] (by decide +kernel) (by decide +kernel)
theorem mm_i_ln_8 : ∀ w ∈ mm_ln 8, w ∈ lw_tbl := mm_inIn _ [] (by decide +kernel)
theorem mm_g_lw_9 : GoodIn mm_big (mm_lw 9) := mm_goodIn _ [1131, 1132, 1133] (by decide +kernel) (by decide +kernel)
theorem mm_i_ln_9 : ∀ w ∈ mm_ln 9, w ∈ lw_tbl := mm_inIn _ [] (by decide +kernel)
theorem mm_g_lw_10 : GoodIn mm_big (mm_lw 10) := mm_goodIn _ [] (by decide +kernel) (by decide +kernel)
theorem mm_i_ln_10 : ∀ w ∈ mm_ln 10, w ∈ lw_tbl := mm_inIn _ [] (by decide +kernel)
theorem mm_g_lw_11 : GoodIn mm_big (mm_lw 11) := mm_goodIn _ [599, 389, 388, 94, 598, 395, 95, 396] (by decide +kernel) (by decide +kernel)
theorem mm_i_ln_11 : ∀ w ∈ mm_ln 11, w ∈ lw_tbl := mm_inIn _ [] (by decide +kernel)
theorem mm_g_lw_12 : GoodIn mm_big (mm_lw 12) := mm_goodIn _ [580, 581, 95, 582, 583] (by decide +kernel) (by decide +kernel)
theorem mm_i_ln_12 : ∀ w ∈ mm_ln 12, w ∈ lw_tbl := mm_inIn _ [] (by decide +kernel)
theorem mm_g_lw_13 : GoodIn mm_big (mm_lw 13) := mm_goodIn _ [] (by decide +kernel) (by decide +kernel)
theorem mm_i_ln_13 : ∀ w ∈ mm_ln 13, w ∈ lw_tbl := mm_inIn _ [] (by decide +kernel)
theorem mm_g_cw_0 : GoodIn mm_big (mm_cw_0) := mm_goodIn _ [130, 386, 278, 1339, 1382, 1332, 1336, 1352, 1387, 1396, 1409, 163, 393, 958, 427, 413] (by decide +kernel) (by decide +kernel)
theorem mm_g_cw_1 : GoodIn mm_big (mm_cw_1) := mm_goodIn _ [458, 462, 423, 404, 518, 1294, 121, 382, 976, 925, 954, 972, 981, 992, 997, 1012] (by decide +kernel) (by decide +kernel)
theorem mm_g_cw_2 : GoodIn mm_big (mm_cw_2) := mm_goodIn _ [1008, 1018, 1029, 1034, 1046, 1055, 1051, 470, 435, 1068, 1079, 1084, 400, 409, 930, 454] (by decide +kernel) (by decide +kernel)
theorem mm_g_cw_3 : GoodIn mm_big (mm_cw_3) := mm_goodIn _ [450, 446, 466, 1114, 1469, 1498, 1290, 500, 530, 534, 253, 496, 504, 508, 513, 486] (by decide +kernel) (by decide +kernel)
theorem mm_g_cw_4 : GoodIn mm_big (mm_cw_4) := mm_goodIn _ [491, 526, 1223, 113, 921, 968, 988, 1004, 1025, 1042, 1063, 1075, 374, 1095, 1124, 1142] (by decide +kernel) (by decide +kernel)
theorem mm_g_cw_5 : GoodIn mm_big (mm_cw_5) := mm_goodIn _ [1154, 1178, 1187, 1196, 1203, 1212, 1219, 1232, 1239, 1248, 1255, 1262, 1270, 1278, 431, 474] (by decide +kernel) (by decide +kernel)
theorem mm_g_cw_6 : GoodIn mm_big (mm_cw_6) := mm_goodIn _ [1285, 478, 1304, 1328, 538, 1426, 1441, 1448, 542, 1456, 1465, 1491, 1505, 1512, 913, 1520] (by decide +kernel) (by decide +kernel)
theorem mm_g_cw_7 : GoodIn mm_big (mm_cw_7) := mm_goodIn _ [378, 934, 1392, 482, 522, 419, 416, 438, 441, 1434, 1431, 1526, 1610, 1635, 1621, 1659] (by decide +kernel) (by decide +kernel)
theorem mm_g_cw_8 : GoodIn mm_big (mm_cw_8) := mm_goodIn _ [1639, 1655, 1618, 1671, 1734, 1758, 1651, 1667, 1746, 1714, 1632, 1683, 1711, 1629, 1679, 1647] (by decide +kernel) (by decide +kernel)
theorem mm_g_cw_9 : GoodIn mm_big (mm_cw_9) := mm_goodIn _ [1643, 1738, 1742, 1625, 1663, 1614, 1687, 1675, 1695, 1699, 1691, 1722, 1707, 1718, 1703, 1754] (by decide +kernel) (by decide +kernel)
theorem mm_g_cw_10 : GoodIn mm_big (mm_cw_10) := mm_goodIn _ [1730, 1750, 1726, 1766, 1774, 1770, 1762, 1786, 1794, 1790, 1798, 1782, 1802, 1778, 1810, 1814] (by decide +kernel) (by decide +kernel)
theorem mm_g_cw_11 : GoodIn mm_big (mm_cw_11) := mm_goodIn _ [1806, 1833, 1829, 1825, 1822, 1818, 1841, 1837, 1849, 1853, 1845, 1857, 1861, 1865, 1882, 1877] (by decide +kernel) (by decide +kernel)
theorem mm_g_cw_12 : GoodIn mm_big (mm_cw_12) := mm_goodIn _ [1873, 1869, 1886, 1894, 1890, 1898, 1902, 1906, 1917, 1914, 1910, 1921, 1925, 1933, 1929, 1937] (by decide +kernel) (by decide +kernel)
theorem mm_g_cw_13 : GoodIn mm_big (mm_cw_13) := mm_goodIn _ [1941, 1945, 1949, 1957, 1953, 1961, 1965, 1995, 2003, 1991, 1999, 1987, 1984, 1981, 1977, 1973] (by decide +kernel) (by decide +kernel)
theorem mm_g_cw_14 : GoodIn mm_big (mm_cw_14) := mm_goodIn _ [2007, 1969, 2011, 2015, 2027, 2023, 2019, 2031, 2035, 2039, 2047, 2043, 2051, 2055, 2059, 2063] (by decide +kernel) (by decide +kernel)
theorem mm_g_cw_15 : GoodIn mm_big (mm_cw_15) := mm_goodIn _ [2067, 284, 889, 677, 1373, 546, 722, 287, 724, 572, 576, 549, 1376, 892, 680, 604] (by decide +kernel) (by decide +kernel)
theorem mm_g_cw_16 : GoodIn mm_big (mm_cw_16) := mm_goodIn _ [686, 683, 1130, 895, 590, 579, 634, 1358, 904] (by decide +kernel) (by decide +kernel)
theorem mm_goodApp {big a b : List Cond} (ha : GoodIn big a) (hb : GoodIn big b) : GoodIn big (a ++ b) := fun w h => (List.mem_append.mp h).elim (ha w) (hb w)
theorem mm_g_cw : GoodIn mm_big mm_cw := (mm_goodApp mm_g_cw_0 (mm_goodApp mm_g_cw_1 (mm_goodApp mm_g_cw_2 (mm_goodApp mm_g_cw_3 (mm_goodApp mm_g_cw_4 (mm_goodApp mm_g_cw_5 (mm_goodApp mm_g_cw_6 (mm_goodApp mm_g_cw_7 (mm_goodApp mm_g_cw_8 (mm_goodApp mm_g_cw_9 (mm_goodApp mm_g_cw_10 (mm_goodApp mm_g_cw_11 (mm_goodApp mm_g_cw_12 (mm_goodApp mm_g_cw_13 (mm_goodApp mm_g_cw_14 (mm_goodApp mm_g_cw_15 mm_g_cw_16))))))))))))))))
theorem mm_g_yw : GoodIn mm_big (mm_yw) := mm_goodIn _ [148, 150, 152, 154, 156, 320, 322, 324, 326, 189, 191, 193, 195, 197, 199, 201, 227, 229, 231, 233, 235, 237, 239, 241, 243, 245, 264, 266, 268, 270, 344, 346, 348, 350, 352, 354, 356, 358, 360, 362, 364, 366, 368, 1554, 1556, 1558, 1560, 1562, 1564, 1566, 1568, 1570, 1572, 1574, 1576, 1578, 1580, 1582, 1584, 1586, 1588, 1590, 1592, 1594, 1596, 1598, 1600, 1602, 1604, 303, 305, 307, 309] (by decide +kernel) (by decide +kernel)
theorem mm_g_xw : GoodIn mm_big mm_xw := mm_goodIn _ [116, 159, 273, 2068, 2069, 312] (by decide +kernel) (by decide +kernel)
theorem mm_g_tw_0 : GoodIn mm_big mm_tw_0 := fun w hw => ⟨List.mem_append_left _ ((by decide +kernel : ∀ w ∈ mm_tw_0, w ∈ lw_tbl) w hw), good_of_word ((by decide +kernel : ∀ w ∈ mm_tw_0, goodWord w = true) w hw)⟩
theorem mm_g_tw_1 : GoodIn mm_big mm_tw_1 := fun w hw => ⟨List.mem_append_left _ ((by decide +kernel : ∀ w ∈ mm_tw_1, w ∈ lw_tbl) w hw), good_of_word ((by decide +kernel : ∀ w ∈ mm_tw_1, goodWord w = true) w hw)⟩
theorem mm_g_tw_2 : GoodIn mm_big mm_tw_2 := fun w hw => ⟨List.mem_append_left _ ((by decide +kernel : ∀ w ∈ mm_tw_2, w ∈ lw_tbl) w hw), good_of_word ((by decide +kernel : ∀ w ∈ mm_tw_2, goodWord w = true) w hw)⟩
theorem mm_g_tw_3 : GoodIn mm_big mm_tw_3 := fun w hw => ⟨List.mem_append_left _ ((by decide +kernel : ∀ w ∈ mm_tw_3, w ∈ lw_tbl) w hw), good_of_word ((by decide +kernel : ∀ w ∈ mm_tw_3, goodWord w = true) w hw)⟩
theorem mm_g_tw_4 : GoodIn mm_big mm_tw_4 := fun w hw => ⟨List.mem_append_left _ ((by decide +kernel : ∀ w ∈ mm_tw_4, w ∈ lw_tbl) w hw), good_of_word ((by decide +kernel : ∀ w ∈ mm_tw_4, goodWord w = true) w hw)⟩
theorem mm_g_tw_5 : GoodIn mm_big mm_tw_5 := fun w hw => ⟨List.mem_append_left _ ((by decide +kernel : ∀ w ∈ mm_tw_5, w ∈ lw_tbl) w hw), good_of_word ((by decide +kernel : ∀ w ∈ mm_tw_5, goodWord w = true) w hw)⟩
theorem mm_g_tw : GoodIn mm_big mm_tw := (mm_goodApp mm_g_tw_0 (mm_goodApp mm_g_tw_1 (mm_goodApp mm_g_tw_2 (mm_goodApp mm_g_tw_3 (mm_goodApp mm_g_tw_4 mm_g_tw_5)))))
theorem mm_g_all : ∀ o ∈ List.range 14, GoodIn mm_big (mm_lw o) := by
  intro o ho
  have h := List.mem_range.mp ho
  match o, h with
  | 0, _ => exact mm_g_lw_0
  | 1, _ => exact mm_g_lw_1
  | 2, _ => exact mm_g_lw_2
  | 3, _ => exact mm_g_lw_3
  | 4, _ => exact mm_g_lw_4
  | 5, _ => exact mm_g_lw_5
  | 6, _ => exact mm_g_lw_6
  | 7, _ => exact mm_g_lw_7
  | 8, _ => exact mm_g_lw_8
  | 9, _ => exact mm_g_lw_9
  | 10, _ => exact mm_g_lw_10
  | 11, _ => exact mm_g_lw_11
  | 12, _ => exact mm_g_lw_12
  | 13, _ => exact mm_g_lw_13
  | n + 14, h => exact absurd h (by omega)
theorem mm_good : GoodIn mm_big mm_W := by
  intro w hw
  rcases List.mem_append.mp hw with h | h
  · exact mm_g_cw w h
  rcases List.mem_append.mp h with h | h
  · exact mm_g_yw w h
  rcases List.mem_append.mp h with h | h
  · exact mm_g_xw w h
  rcases List.mem_append.mp h with h | h
  · exact mm_g_tw w h
  obtain ⟨o, ho, h⟩ := List.mem_flatMap.mp h
  exact mm_g_all o ho w h
theorem mm_nest : ∀ w ∈ mm_N, w ∈ lw_tbl := by
  intro w hw
  obtain ⟨o, ho, h⟩ := List.mem_flatMap.mp hw
  have h2 := List.mem_range.mp ho
  match o, h2, h with
  | 0, _, h => exact mm_i_ln_0 w h
  | 1, _, h => exact mm_i_ln_1 w h
  | 2, _, h => exact mm_i_ln_2 w h
  | 3, _, h => exact mm_i_ln_3 w h
  | 4, _, h => exact mm_i_ln_4 w h
  | 5, _, h => exact mm_i_ln_5 w h
  | 6, _, h => exact mm_i_ln_6 w h
  | 7, _, h => exact mm_i_ln_7 w h
  | 8, _, h => exact mm_i_ln_8 w h
  | 9, _, h => exact mm_i_ln_9 w h
  | 10, _, h => exact mm_i_ln_10 w h
  | 11, _, h => exact mm_i_ln_11 w h
  | 12, _, h => exact mm_i_ln_12 w h
  | 13, _, h => exact mm_i_ln_13 w h
  | n + 14, h2, _ => exact absurd h2 (by omega)
end
section
abbrev mm_Ce : Type := (Nat × vp_A) ⊕ (Nat × List Value)
/-- the world: which addresses are met, and what lies there -/
abbrev mm_S : Type := List Nat × (Nat → mm_Ce)
/-- how a method ends: with a value or none, or with a throw of a class -/
abbrev mm_Re : Type := (Option Value ⊕ String) × mm_S
abbrev mm_L : Type := List (Nat × Value)
abbrev mm_F : Type := Nat × List Value × mm_L × mm_S
def mm_get : mm_L → Nat → Option Value
  | [], _ => none
  | q :: l, i => if q.1 = i then some q.2 else mm_get l i
def mm_set (l : mm_L) (i : Nat) (v : Value) : mm_L := (i, v) :: l.filter (fun q => !(q.1 == i) && !(q.1 + 1 == i && q.2.category == 2))
def mm_set2 (l : mm_L) (i : Nat) (v : Value) : mm_L := (i, v) :: l.filter (fun q => !(q.1 == i) && (!(q.1 == i + 1) && !(q.1 + 1 == i && q.2.category == 2)))
abbrev mm_O : Type := Option (Option Prop × mm_F)
def mm_cm (c : Jvm.ClassFile.Cond) (x y : Int32) (F G : mm_F) : mm_F := match c with
  | .eq => if x = y then F else G
  | .ne => if x ≠ y then F else G
  | .lt => if x < y then F else G
  | .ge => if y ≤ x then F else G
  | .gt => if y < x then F else G
  | .le => if x ≤ y then F else G
def mm_to (pc : Nat) (off : Int) : Nat := ((pc : Int) + off).toNat
def mm_i1 (st : List Value) (k : Int32 → List Value → mm_O) : mm_O := match st with
  | .int x :: r => k x r
  | _ => none
def mm_i2 (st : List Value) (k : Int32 → Int32 → List Value → mm_O) : mm_O := match st with
  | .int y :: .int x :: r => k x y r
  | _ => none
def mm_l1 (st : List Value) (k : Int64 → List Value → mm_O) : mm_O := match st with
  | .long x :: r => k x r
  | _ => none
def mm_l2 (st : List Value) (k : Int64 → Int64 → List Value → mm_O) : mm_O := match st with
  | .long y :: .long x :: r => k x y r
  | _ => none
def mm_li (st : List Value) (k : Int64 → Int32 → List Value → mm_O) : mm_O := match st with
  | .int y :: .long x :: r => k x y r
  | _ => none
def mm_ild (ls : mm_L) (i : Nat) (k : Int32 → mm_O) : mm_O := match mm_get ls i with
  | some (.int x) => k x
  | _ => none
def mm_lld (ls : mm_L) (i : Nat) (k : Int64 → mm_O) : mm_O := match mm_get ls i with
  | some (.long x) => k x
  | _ => none
def mm_ald (ls : mm_L) (i : Nat) (k : Nat → mm_O) : mm_O := match mm_get ls i with
  | some (.ref x) => k x
  | _ => none
def mm_a1 (st : List Value) (k : Nat → List Value → mm_O) : mm_O := match st with
  | .ref q :: r => k q r
  | _ => none
def mm_ai (st : List Value) (k : Nat → Int32 → List Value → mm_O) : mm_O := match st with
  | .int j :: .ref q :: r => k q j r
  | _ => none
def mm_obj (c : mm_Ce) (k : Nat → List Value → mm_O) : mm_O := match c with
  | .inr (a, fs) => k a fs
  | _ => none
def mm_arI (c : mm_Ce) (k : Nat → Nat → (Nat → Int32) → mm_O) : mm_O := match c with
  | .inl (t, n, .inl g) => k t n g
  | _ => none
def mm_arL (c : mm_Ce) (k : Nat → Nat → (Nat → Int64) → mm_O) : mm_O := match c with
  | .inl (t, n, .inr (.inl g)) => k t n g
  | _ => none
def mm_arD (c : mm_Ce) (k : Nat → Nat → (Nat → UInt64) → mm_O) : mm_O := match c with
  | .inl (t, n, .inr (.inr (.inr (.inl g)))) => k t n g
  | _ => none
def mm_arR (c : mm_Ce) (k : Nat → Nat → (Nat → Option Nat) → mm_O) : mm_O := match c with
  | .inl (t, n, .inr (.inr (.inr (.inr g)))) => k t n g
  | _ => none
/-- a value that fits a field of a type -/
def mm_fit (ty : FieldType) (v : Value) : Prop := narrow ty v = v ∧ fits ty v = true
def mm_put (h : mm_S) (q : Nat) (c : mm_Ce) : mm_S := (h.1, va_up h.2 q c)
/-- one instruction without a call, an end, or a new thing: what must hold, and where it goes -/
def mm_st (ins : Instr) (a b pc : Nat) (st : List Value) (ls : mm_L) (h : mm_S) : mm_O := match ins with
  | .iconst n => some (none, pc + 1, .int (Int32.ofInt n) :: st, ls, h)
  | .bipush n => some (none, pc + 2, .int (Int8.ofInt n).toInt32 :: st, ls, h)
  | .sipush n => some (none, pc + 3, .int (Int16.ofInt n).toInt32 :: st, ls, h)
  | .lconst n => some (none, pc + 1, .long (Int64.ofNat (n : Nat)) :: st, ls, h)
  | .ldc _ => if b = 11 then some (none, pc + 2, .int (Int32.ofNat a) :: st, ls, h) else none
  | .ldc_w _ => if b = 11 then some (none, pc + 3, .int (Int32.ofNat a) :: st, ls, h) else none
  | .ldc2_w _ => if b = 12 then some (none, pc + 3, .long (Int64.ofNat a) :: st, ls, h) else none
  | .iload i => mm_ild ls i fun x => some (none, pc + 2, .int x :: st, ls, h)
  | .iload_n i => mm_ild ls i fun x => some (none, pc + 1, .int x :: st, ls, h)
  | .lload i => mm_lld ls i fun x => some (none, pc + 2, .long x :: st, ls, h)
  | .lload_n i => mm_lld ls i fun x => some (none, pc + 1, .long x :: st, ls, h)
  | .aload i => mm_ald ls i fun x => some (none, pc + 2, .ref x :: st, ls, h)
  | .aload_n i => mm_ald ls i fun x => some (none, pc + 1, .ref x :: st, ls, h)
  | .istore i => mm_i1 st fun x r => some (none, pc + 2, r, mm_set ls i (.int x), h)
  | .istore_n i => mm_i1 st fun x r => some (none, pc + 1, r, mm_set ls i (.int x), h)
  | .lstore i => mm_l1 st fun x r => some (none, pc + 2, r, mm_set2 ls i (.long x), h)
  | .lstore_n i => mm_l1 st fun x r => some (none, pc + 1, r, mm_set2 ls i (.long x), h)
  | .astore i => mm_a1 st fun x r => some (none, pc + 2, r, mm_set ls i (.ref x), h)
  | .astore_n i => mm_a1 st fun x r => some (none, pc + 1, r, mm_set ls i (.ref x), h)
  | .iinc i n => mm_ild ls i fun x => some (none, pc + 3, st, mm_set ls i (.int (x + Int32.ofInt n)), h)
  | .iadd => mm_i2 st fun x y r => some (none, pc + 1, .int (x + y) :: r, ls, h)
  | .isub => mm_i2 st fun x y r => some (none, pc + 1, .int (x - y) :: r, ls, h)
  | .imul => mm_i2 st fun x y r => some (none, pc + 1, .int (x * y) :: r, ls, h)
  | .iand => mm_i2 st fun x y r => some (none, pc + 1, .int (x &&& y) :: r, ls, h)
  | .ior => mm_i2 st fun x y r => some (none, pc + 1, .int (x ||| y) :: r, ls, h)
  | .idiv => mm_i2 st fun x y r => some (some (¬ y = 0), pc + 1, .int (x / y) :: r, ls, h)
  | .irem => mm_i2 st fun x y r => some (some (¬ y = 0), pc + 1, .int (x - x / y * y) :: r, ls, h)
  | .ineg => mm_i1 st fun x r => some (none, pc + 1, .int (-x) :: r, ls, h)
  | .ishl => mm_i2 st fun x y r => some (none, pc + 1, .int (x <<< (y &&& 31)) :: r, ls, h)
  | .ishr => mm_i2 st fun x y r => some (none, pc + 1, .int (x >>> (y &&& 31)) :: r, ls, h)
  | .iushr => mm_i2 st fun x y r => some (none, pc + 1, .int (x.toUInt32 >>> (y.toUInt32 &&& Int32.toUInt32 31)).toInt32 :: r, ls, h)
  | .land => mm_l2 st fun x y r => some (none, pc + 1, .long (x &&& y) :: r, ls, h)
  | .lor => mm_l2 st fun x y r => some (none, pc + 1, .long (x ||| y) :: r, ls, h)
  | .lshl => mm_li st fun x y r => some (none, pc + 1, .long (x <<< (y.toInt64 &&& 63)) :: r, ls, h)
  | .lshr => mm_li st fun x y r => some (none, pc + 1, .long (x >>> (y.toInt64 &&& 63)) :: r, ls, h)
  | .lcmp => mm_l2 st fun x y r => some (none, pc + 1, .int (lg_cmp x y) :: r, ls, h)
  | .i2l => mm_i1 st fun x r => some (none, pc + 1, .long x.toInt64 :: r, ls, h)
  | .l2i => mm_l1 st fun x r => some (none, pc + 1, .int x.toInt32 :: r, ls, h)
  | .i2c => mm_i1 st fun x r => some (none, pc + 1, .int (x.toUInt32 % 65536).toInt32 :: r, ls, h)
  | .i2b => mm_i1 st fun x r => some (none, pc + 1, .int x.toInt8.toInt32 :: r, ls, h)
  | .dup => match st with
    | v :: r => some (some (v.category = 1), pc + 1, v :: v :: r, ls, h)
    | _ => none
  | .dup2 => match st with
    | v :: w :: r => some (some (v.category = 1 ∧ w.category = 1), pc + 1, v :: w :: v :: w :: r, ls, h)
    | _ => none
  | .dup_x1 => match st with
    | v :: w :: r => some (some (v.category = 1 ∧ w.category = 1), pc + 1, v :: w :: v :: r, ls, h)
    | _ => none
  | .pop => match st with
    | v :: r => some (some (v.category = 1), pc + 1, r, ls, h)
    | _ => none
  | .goto off => some (some (0 ≤ (pc : Int) + off), mm_to pc off, st, ls, h)
  | .ifCond c off => mm_i1 st fun x r => some (some (0 ≤ (pc : Int) + off), mm_cm c x 0 (mm_to pc off, r, ls, h) (pc + 3, r, ls, h))
  | .if_icmp c off => mm_i2 st fun x y r => some (some (0 ≤ (pc : Int) + off), mm_cm c x y (mm_to pc off, r, ls, h) (pc + 3, r, ls, h))
  | .getfield _ => mm_a1 st fun q r => mm_obj (h.2 q) fun c fs => if c = a then match fs[b]? with
      | some v => some (some (q ∈ h.1), pc + 3, v :: r, ls, h)
      | none => none
      else none
  | .putfield _ => match st with
    | v :: .ref q :: r => mm_obj (h.2 q) fun c fs => if c = a then some (some (q ∈ h.1 ∧ b < fs.length ∧ mm_fit (mm_fty a b) v), pc + 3, r, ls, mm_put h q (.inr (a, fs.set b v))) else none
    | _ => none
  | .iaload => mm_ai st fun q j r => mm_arI (h.2 q) fun t n g => some (some (q ∈ h.1 ∧ t = 0 ∧ vp_in j n), pc + 1, .int (g j.toNatClampNeg) :: r, ls, h)
  | .baload => mm_ai st fun q j r => mm_arI (h.2 q) fun t n g => some (some (q ∈ h.1 ∧ (t = 1 ∨ t = 4) ∧ vp_in j n), pc + 1, .int (g j.toNatClampNeg) :: r, ls, h)
  | .laload => mm_ai st fun q j r => mm_arL (h.2 q) fun t n g => some (some (q ∈ h.1 ∧ t = 2 ∧ vp_in j n), pc + 1, .long (g j.toNatClampNeg) :: r, ls, h)
  | .daload => mm_ai st fun q j r => mm_arD (h.2 q) fun t n g => some (some (q ∈ h.1 ∧ t = 3 ∧ vp_in j n), pc + 1, .double (g j.toNatClampNeg) :: r, ls, h)
  | .aaload => mm_ai st fun q j r => mm_arR (h.2 q) fun t n g => some (some (q ∈ h.1 ∧ 5 ≤ t ∧ t < 9 ∧ vp_in j n), pc + 1, va_rf (g j.toNatClampNeg) :: r, ls, h)
  | .iastore => match st with
    | .int x :: .int j :: .ref q :: r => mm_arI (h.2 q) fun t n g => some (some (q ∈ h.1 ∧ t = 0 ∧ vp_in j n), pc + 1, r, ls, mm_put h q (.inl (t, n, .inl (upd g j.toNatClampNeg x))))
    | _ => none
  | .bastore => match st with
    | .int x :: .int j :: .ref q :: r => mm_arI (h.2 q) fun t n g => if t = 1 then some (some (q ∈ h.1 ∧ vp_in j n), pc + 1, r, ls, mm_put h q (.inl (t, n, .inl (upd g j.toNatClampNeg (vp_nar .boolean x)))))
      else if t = 4 then some (some (q ∈ h.1 ∧ vp_in j n), pc + 1, r, ls, mm_put h q (.inl (t, n, .inl (upd g j.toNatClampNeg (vp_nar .byte x))))) else none
    | _ => none
  | .lastore => match st with
    | .long x :: .int j :: .ref q :: r => mm_arL (h.2 q) fun t n g => some (some (q ∈ h.1 ∧ t = 2 ∧ vp_in j n), pc + 1, r, ls, mm_put h q (.inl (t, n, .inr (.inl (vp_updL g j.toNatClampNeg x)))))
    | _ => none
  | .aastore => match st with
    | .ref v :: .int j :: .ref q :: r => mm_arR (h.2 q) fun t n g => mm_obj (h.2 v) fun c fs => some (some (q ∈ h.1 ∧ v ∈ h.1 ∧ mm_tyl[t]? = some (.object (mm_C c).1) ∧ c < 8 ∧ vp_in j n), pc + 1, r, ls, mm_put h q (.inl (t, n, .inr (.inr (.inr (.inr (va_up g j.toNatClampNeg (some v))))))))
    | _ => none
  | .arraylength => mm_a1 st fun q r => match h.2 q with
    | .inl (t, x) => some (some (q ∈ h.1 ∧ t < 9), pc + 1, .int (Int32.ofNat x.1) :: r, ls, h)
    | _ => none
  | .tableswitch d lo hi offs => mm_i1 st fun x r => some (some (0 ≤ (pc : Int) + d ∧ (∀ o ∈ offs.toList, 0 ≤ (pc : Int) + o) ∧ (offs.size : Int) = hi - lo + 1), mm_to pc (if x.toInt < lo ∨ hi < x.toInt then d else (offs[(x.toInt - lo).toNat]?).getD d), r, ls, h)
  | .i2d => mm_i1 st fun x r => some (none, pc + 1, .double (FP.i2d x) :: r, ls, h)
  | .i2f => mm_i1 st fun x r => some (none, pc + 1, .float (FP.i2f x) :: r, ls, h)
  | .ddiv => match st with
    | .double y :: .double x :: r => some (some (vf_n64 (FP.ddiv x y)), pc + 1, .double (FP.ddiv x y) :: r, ls, h)
    | _ => none
  | .fdiv => match st with
    | .float y :: .float x :: r => some (some (vf_n32 (FP.fdiv x y)), pc + 1, .float (FP.fdiv x y) :: r, ls, h)
    | _ => none
  | .f2d => match st with
    | .float x :: r => some (some (vf_n64 (FP.f2d x)), pc + 1, .double (FP.f2d x) :: r, ls, h)
    | _ => none
  | .dcmp op => match st with
    | .double y :: .double x :: r => some (none, pc + 1, .int (Op.cmpValue (FP.dcmp x y) op) :: r, ls, h)
    | _ => none
  | .fcmp op => match st with
    | .float y :: .float x :: r => some (none, pc + 1, .int (Op.cmpValue (FP.fcmp x y) op) :: r, ls, h)
    | _ => none
  | .dload i => match mm_get ls i with
    | some (.double x) => some (none, pc + 2, .double x :: st, ls, h)
    | _ => none
  | .fload i => match mm_get ls i with
    | some (.float x) => some (none, pc + 2, .float x :: st, ls, h)
    | _ => none
  | .dstore i => match st with
    | .double x :: r => some (none, pc + 2, r, mm_set2 ls i (.double x), h)
    | _ => none
  | .fstore i => match st with
    | .float x :: r => some (none, pc + 2, r, mm_set ls i (.float x), h)
    | _ => none
  | .dconst d => if d = 0 then some (none, pc + 1, .double FP.dconst0 :: st, ls, h) else none
  | .fconst d => if d = 0 then some (none, pc + 1, .float FP.fconst0 :: st, ls, h) else none
  | .dastore => match st with
    | .double x :: .int j :: .ref q :: r => mm_arD (h.2 q) fun t n g => some (some (q ∈ h.1 ∧ t = 3 ∧ vp_in j n), pc + 1, r, ls, mm_put h q (.inl (t, n, .inr (.inr (.inr (.inl (vf_upd g j.toNatClampNeg x)))))))
    | _ => none
  | _ => none
/-- how long an instruction is -/
def mm_len (ins : Instr) (b : Nat) : Nat := match ins with
  | .bipush _ => 2
  | .sipush _ => 3
  | .ldc _ => 2
  | .ldc_w _ => 3
  | .ldc2_w _ => 3
  | .iload _ => 2
  | .lload _ => 2
  | .fload _ => 2
  | .dload _ => 2
  | .aload _ => 2
  | .istore _ => 2
  | .lstore _ => 2
  | .fstore _ => 2
  | .dstore _ => 2
  | .astore _ => 2
  | .iinc _ _ => 3
  | .goto _ => 3
  | .ifCond _ _ => 3
  | .if_icmp _ _ => 3
  | .ifnonnull _ => 3
  | .ifnull _ => 3
  | .getfield _ => 3
  | .putfield _ => 3
  | .getstatic _ => 3
  | .invokevirtual _ => 3
  | .invokespecial _ => 3
  | .invokestatic _ => 3
  | .new _ => 3
  | .anewarray _ => 3
  | .newarray _ => 2
  | .multianewarray _ _ => 4
  | .checkcast _ => 3
  | .tableswitch _ _ _ _ => b
  | _ => 1
def mm_lk (o nL : Nat) (ini : Bool) (ins : Instr) (a b : Nat) : Bool := match ins with
  | .istore i => decide (i < nL)
  | .istore_n i => decide ((i : Nat) < nL)
  | .astore i => decide (i < nL)
  | .astore_n i => decide ((i : Nat) < nL)
  | .lstore i => decide (i + 1 < nL)
  | .lstore_n i => decide ((i : Nat) + 1 < nL)
  | .fstore i => decide (i < nL)
  | .dstore i => decide (i + 1 < nL)
  | .iinc i _ => decide (i < nL)
  | .ldc i => decide (mm_look (mm_lnk o) i = some (11, a, 0)) || decide (b ≠ 11)
  | .ldc_w i => decide (mm_look (mm_lnk o) i = some (11, a, 0)) || decide (b ≠ 11)
  | .ldc2_w i => decide (mm_look (mm_lnk o) i = some (12, a, 0))
  | .getfield i => (decide (mm_look (mm_lnk o) i = some (0, a, b)) || decide (mm_look (mm_lnk o) i = some (1, a, b))) && (decide (a < 8) && decide (b < (mm_C a).2.2))
  | .putfield i => ((decide (mm_look (mm_lnk o) i = some (0, a, b)) && (!((mm_C a).2.1 b).2.2.2 || (ini && decide (((mm_C a).2.1 b).1 = mm_R o)))) || (decide (mm_look (mm_lnk o) i = some (1, a, b)) && !((mm_C a).2.1 b).2.2.2)) && (decide (a < 8) && decide (b < (mm_C a).2.2))
  | .invokestatic i => b == 999 || ((b / 16 == 2 || b / 16 == 3 || b / 16 == 15 || b / 16 == 16 || b / 16 == 17) && decide (mm_look (mm_lnk o) i = some (b / 16, a, b)))
  | .anewarray i => decide (mm_look (mm_lnk o) i = some (9, a, 9)) && decide (a < 8)
  | .multianewarray i _ => decide (mm_look (mm_lnk o) i = some (18, 8, 18))
  | .invokevirtual i => b == 999 || ((b / 16 == 4 || b / 16 == 5 || b / 16 == 13) && decide (mm_look (mm_lnk o) i = some (b / 16, a, b)))
  | .invokespecial i => b == 999 || (b == 128 && decide (mm_look (mm_lnk o) i = some (8, 0, 0))) || ((b / 16 == 6 || b / 16 == 7 || b / 16 == 14) && decide (mm_look (mm_lnk o) i = some (b / 16, a, b)))
  | .new i => b != 9 || (decide (mm_look (mm_lnk o) i = some (9, a, 9)) && decide (a < 8))
  | _ => true
end
section
def mm_cv (tys : List (ClassId × FieldType)) (c : mm_Ce) : va_E := match c with
  | .inl (t, x) => .inl ((tys.getD t (0, .int)).1, x)
  | .inr o => .inr o
def mm_ws (tys : List (ClassId × FieldType)) (h : mm_S) : va_W := va_pl h.1 (fun q => mm_cv tys (h.2 q))
def mm_A (b0 : Nat) : Nat → Prop := fun q => b0 ≤ q
/-- where the world tells a written text, one of the known ones lies -/
def mm_mk (D : va_G) (h : mm_S) : Prop := ∀ q : Nat, h.2 q = .inr (9, []) → ∃ i : Nat, i < 9 ∧ q = D.1 (100 + i)
theorem mm_mk_up {D : va_G} {h : mm_S} {L : List Nat} {q : Nat} {c : mm_Ce} (hm : mm_mk D h) (hc : c ≠ .inr (9, [])) : mm_mk D (L, va_up h.2 q c) := by
  intro x hx
  simp only [va_up] at hx
  split at hx
  · exact absurd hx hc
  · exact hm x hx
def mm_rep (D : va_G) (tys : List (ClassId × FieldType)) (b0 : Nat) (h : mm_S) (H : Heap) : Prop := va_P D mm_cl (mm_ws tys h) H ∧ va_D (mm_A b0) (mm_ws tys h) ∧ mm_mk D h
theorem mm_ws_get {tys : List (ClassId × FieldType)} {h : mm_S} {q : Nat} (hq : q ∈ h.1) : ∃ k : Nat, (mm_ws tys h)[k]? = some (q, mm_cv tys (h.2 q)) := by
  obtain ⟨k, hk⟩ := va_pl_get (X := []) (f := fun q => mm_cv tys (h.2 q)) hq
  exact ⟨k, by simpa [mm_ws] using hk⟩
theorem mm_ws_set {A : Nat → Prop} {tys : List (ClassId × FieldType)} {h : mm_S} {q k : Nat} {c : mm_Ce} (hD : va_D A (mm_ws tys h)) (hq : q ∈ h.1) (hk : (mm_ws tys h)[k]? = some (q, mm_cv tys (h.2 q))) : (mm_ws tys h).set k (q, mm_cv tys c) = mm_ws tys (mm_put h q c) := by
  have h1 := va_pl_set (A := A) (X := []) (L := h.1) (f := fun q => mm_cv tys (h.2 q)) (a := q) (k := k) (e := mm_cv tys c) (by simpa [mm_ws] using hD) hq (by simpa [mm_ws] using hk)
  simp only [List.nil_append] at h1
  unfold mm_ws mm_put
  rw [h1]
  refine va_pl_congr fun a => ?_
  simp only [va_up]
  split <;> rfl
theorem mm_at {la : Array Slot} {nL : Nat} {ls : mm_L} {i : Nat} {v : Value} (hl : lv_has la nL ls) (h : mm_get ls i = some v) : la[i]? = some (.val v) := by
  have key : ∀ l : mm_L, mm_get l i = some v → (i, v) ∈ l := by
    intro l
    induction l with
    | nil => intro h; cases h
    | cons q l ih =>
      intro h
      unfold mm_get at h
      split at h
      · next e =>
        cases h
        rw [← e]
        exact List.mem_cons_self
      · exact List.mem_cons_of_mem _ (ih h)
  exact hl.2.2 (i, v) (key ls h)
theorem mm_ix {ls : mm_L} {i : Nat} {v : Value} (h : mm_get ls i = some v) : ∃ k : Nat, ls[k]? = some (i, v) := by
  have key : ∀ l : mm_L, mm_get l i = some v → (i, v) ∈ l := by
    intro l
    induction l with
    | nil => intro h; cases h
    | cons q l ih =>
      intro h
      unfold mm_get at h
      split at h
      · next e =>
        cases h
        rw [← e]
        exact List.mem_cons_self
      · exact List.mem_cons_of_mem _ (ih h)
  exact List.getElem?_of_mem (key ls h)
theorem mm_i1_s {st : List Value} {k : Int32 → List Value → mm_O} {r : Option Prop × mm_F} (h : mm_i1 st k = some r) : ∃ x t, st = .int x :: t ∧ k x t = some r := by
  unfold mm_i1 at h
  split at h
  · exact ⟨_, _, rfl, h⟩
  · cases h
theorem mm_i2_s {st : List Value} {k : Int32 → Int32 → List Value → mm_O} {r : Option Prop × mm_F} (h : mm_i2 st k = some r) : ∃ x y t, st = .int y :: .int x :: t ∧ k x y t = some r := by
  unfold mm_i2 at h
  split at h
  · exact ⟨_, _, _, rfl, h⟩
  · cases h
theorem mm_l1_s {st : List Value} {k : Int64 → List Value → mm_O} {r : Option Prop × mm_F} (h : mm_l1 st k = some r) : ∃ x t, st = .long x :: t ∧ k x t = some r := by
  unfold mm_l1 at h
  split at h
  · exact ⟨_, _, rfl, h⟩
  · cases h
theorem mm_l2_s {st : List Value} {k : Int64 → Int64 → List Value → mm_O} {r : Option Prop × mm_F} (h : mm_l2 st k = some r) : ∃ x y t, st = .long y :: .long x :: t ∧ k x y t = some r := by
  unfold mm_l2 at h
  split at h
  · exact ⟨_, _, _, rfl, h⟩
  · cases h
theorem mm_li_s {st : List Value} {k : Int64 → Int32 → List Value → mm_O} {r : Option Prop × mm_F} (h : mm_li st k = some r) : ∃ x y t, st = .int y :: .long x :: t ∧ k x y t = some r := by
  unfold mm_li at h
  split at h
  · exact ⟨_, _, _, rfl, h⟩
  · cases h
theorem mm_ild_s {ls : mm_L} {i : Nat} {k : Int32 → mm_O} {r : Option Prop × mm_F} (h : mm_ild ls i k = some r) : ∃ x, mm_get ls i = some (.int x) ∧ k x = some r := by
  unfold mm_ild at h
  split at h
  · next e => exact ⟨_, e, h⟩
  · cases h
theorem mm_lld_s {ls : mm_L} {i : Nat} {k : Int64 → mm_O} {r : Option Prop × mm_F} (h : mm_lld ls i k = some r) : ∃ x, mm_get ls i = some (.long x) ∧ k x = some r := by
  unfold mm_lld at h
  split at h
  · next e => exact ⟨_, e, h⟩
  · cases h
theorem mm_ald_s {ls : mm_L} {i : Nat} {k : Nat → mm_O} {r : Option Prop × mm_F} (h : mm_ald ls i k = some r) : ∃ x, mm_get ls i = some (.ref x) ∧ k x = some r := by
  unfold mm_ald at h
  split at h
  · next e => exact ⟨_, e, h⟩
  · cases h
theorem mm_a1_s {st : List Value} {k : Nat → List Value → mm_O} {r : Option Prop × mm_F} (h : mm_a1 st k = some r) : ∃ q t, st = .ref q :: t ∧ k q t = some r := by
  unfold mm_a1 at h
  split at h
  · exact ⟨_, _, rfl, h⟩
  · cases h
theorem mm_ai_s {st : List Value} {k : Nat → Int32 → List Value → mm_O} {r : Option Prop × mm_F} (h : mm_ai st k = some r) : ∃ q j t, st = .int j :: .ref q :: t ∧ k q j t = some r := by
  unfold mm_ai at h
  split at h
  · exact ⟨_, _, _, rfl, h⟩
  · cases h
theorem mm_obj_s {c : mm_Ce} {k : Nat → List Value → mm_O} {r : Option Prop × mm_F} (h : mm_obj c k = some r) : ∃ a fs, c = .inr (a, fs) ∧ k a fs = some r := by
  unfold mm_obj at h
  split at h
  · exact ⟨_, _, rfl, h⟩
  · cases h
theorem mm_arI_s {c : mm_Ce} {k : Nat → Nat → (Nat → Int32) → mm_O} {r : Option Prop × mm_F} (h : mm_arI c k = some r) : ∃ t n g, c = .inl (t, n, .inl g) ∧ k t n g = some r := by
  unfold mm_arI at h
  split at h
  · exact ⟨_, _, _, rfl, h⟩
  · cases h
theorem mm_arL_s {c : mm_Ce} {k : Nat → Nat → (Nat → Int64) → mm_O} {r : Option Prop × mm_F} (h : mm_arL c k = some r) : ∃ t n g, c = .inl (t, n, .inr (.inl g)) ∧ k t n g = some r := by
  unfold mm_arL at h
  split at h
  · exact ⟨_, _, _, rfl, h⟩
  · cases h
theorem mm_arD_s {c : mm_Ce} {k : Nat → Nat → (Nat → UInt64) → mm_O} {r : Option Prop × mm_F} (h : mm_arD c k = some r) : ∃ t n g, c = .inl (t, n, .inr (.inr (.inr (.inl g)))) ∧ k t n g = some r := by
  unfold mm_arD at h
  split at h
  · exact ⟨_, _, _, rfl, h⟩
  · cases h
theorem mm_arR_s {c : mm_Ce} {k : Nat → Nat → (Nat → Option Nat) → mm_O} {r : Option Prop × mm_F} (h : mm_arR c k = some r) : ∃ t n g, c = .inl (t, n, .inr (.inr (.inr (.inr g)))) ∧ k t n g = some r := by
  unfold mm_arR at h
  split at h
  · exact ⟨_, _, _, rfl, h⟩
  · cases h
theorem mm_to_ok {pc : Nat} {off : Int} (h : 0 ≤ (pc : Int) + off) : (pc : Int) + off = (mm_to pc off : Int) := (Int.toNat_of_nonneg h).symm
theorem mm_cl_at {a : Nat} (h : a < 8) : mm_cl[a]? = some (mm_C a) := by
  match a, h with
  | 0, _ => rfl
  | 1, _ => rfl
  | 2, _ => rfl
  | 3, _ => rfl
  | 4, _ => rfl
  | 5, _ => rfl
  | 6, _ => rfl
  | 7, _ => rfl
theorem mm_yin {a : Nat} (h : a < 8) : ∀ w ∈ u_ws (mm_C a).1 (mm_C a).2.1 (mm_C a).2.2, w ∈ mm_W := by
  intro w hw
  refine List.mem_append_right _ (List.mem_append_left _ (List.mem_flatMap.mpr ⟨mm_C a, ?_, hw⟩))
  exact List.mem_of_getElem? (mm_cl_at h)
theorem mm_ftyok {a : Nat} (h : a < 8) : ∀ k, k < (mm_C a).2.2 → parseFieldDescriptor ((mm_C a).2.1 k).2.2.1 = some (mm_fty a k) := by
  match a, h with
  | 0, _ => exact tyX0_ok
  | 1, _ => exact tyX1_ok
  | 2, _ => exact tyX2_ok
  | 3, _ => exact tyX3_ok
  | 4, _ => exact tyX4_ok
  | 5, _ => exact tyX5_ok
  | 6, _ => exact tyX6_ok
  | 7, _ => exact tyJ4_ok
theorem mm_nmok {a : Nat} (h : a < 8) : ∀ x, x < (mm_C a).2.2 → ∀ y, y < (mm_C a).2.2 → x ≠ y → ((mm_C a).2.1 x).2.1 ≠ ((mm_C a).2.1 y).2.1 := by
  match a, h with
  | 0, _ => exact nmX0
  | 1, _ => exact nmX1
  | 2, _ => exact nmX2
  | 3, _ => exact nmX3
  | 4, _ => exact nmX4
  | 5, _ => exact nmX5
  | 6, _ => exact nmX6
  | 7, _ => exact nmJ4
theorem mm_look_in {l : List (Nat × Nat × Nat × Nat)} {i : Nat} {r : Nat × Nat × Nat} (h : mm_look l i = some r) : (i, r) ∈ l := by
  induction l with
  | nil => cases h
  | cons q l ih =>
    unfold mm_look at h
    split at h
    · next e =>
      cases h
      rw [← e]
      exact List.mem_cons_self
    · exact List.mem_cons_of_mem _ (ih h)
theorem mm_own_lt {o i : Nat} {r : Nat × Nat × Nat} (h : mm_look (mm_lnk o) i = some r) : o < 14 := by
  rcases Nat.lt_or_ge o 14 with q | q
  · exact q
  · exfalso
    have e : mm_lnk o = [] := by
      match o, q with
      | n + 14, _ => rfl
    rw [e] at h
    cases h
/-- a row's words are among the words; those of nest mates among theirs -/
theorem mm_row {o i : Nat} {r : Nat × Nat × Nat} (h : mm_look (mm_lnk o) i = some r) : ∀ w ∈ mm_rw o (i, r), w ∈ mm_W := fun w hw =>
  List.mem_append_right _ (List.mem_append_right _ (List.mem_append_right _ (List.mem_append_right _ (List.mem_flatMap.mpr ⟨o, List.mem_range.mpr (mm_own_lt h), List.mem_flatMap.mpr ⟨(i, r), mm_look_in h, hw⟩⟩))))
theorem mm_rowN {o i : Nat} {r : Nat × Nat × Nat} (h : mm_look (mm_lnk o) i = some r) : ∀ w ∈ mm_rn o (i, r), w ∈ mm_N := fun w hw =>
  List.mem_flatMap.mpr ⟨o, List.mem_range.mpr (mm_own_lt h), List.mem_flatMap.mpr ⟨(i, r), mm_look_in h, hw⟩⟩
theorem mm_ty_at {tys : List (ClassId × FieldType)} (ht : tys.map (fun q => q.2) = mm_tyl) {t : Nat} (h : t < 9) : tys[t]? = some ((tys.getD t (0, .int)).1, mm_tyl.getD t .int) := by
  have hl : tys.length = 9 := by
    have := congrArg List.length ht
    simpa [mm_tyl] using this
  have h1 : tys[t]? = some tys[t] := List.getElem?_eq_getElem (by omega)
  rw [List.getD_eq_getElem?_getD, h1]
  have h2 : mm_tyl[t]? = some tys[t].2 := by
    rw [← ht, List.getElem?_map, h1]
    rfl
  rw [List.getD_eq_getElem?_getD, h2]
  rfl
end
section
/-- where a walk stands: the machine, the code, the locals' number, the words, the class that owns the code -/
def mm_Cx (p : Program) (s : State) (m : MethodId) (args : Array Value) (meth : Method) (c : Code) (cc : ByteArray) (nL o : Nat) (ini : Bool) (D : va_G) (tys : List (ClassId × FieldType)) : Prop :=
  p.tables.exec = Jvm.exec ∧ c.code = cc ∧ c.maxLocals = nL ∧ (∀ w ∈ mm_W, w.before args s = true) ∧ (∀ w ∈ mm_N, va_Nw w s) ∧ s.vm.findClass (mm_R o) = some m.cls ∧ (ini = true → meth.name = "<init>") ∧ va_K D mm_cl tys s ∧ tys.map (fun q => q.2) = mm_tyl
section MMS
variable {p : Program} {l : Launch} {e : Env} {R : Room} {s : State} {m : MethodId} {args : Array Value} {below : List Frame} {meth : Method} {c : Code} {H : Heap} {locs : List Loc} {cells slots : Nat} {Q : State → Prop}
variable {cc : ByteArray} {nL o : Nat} {ini : Bool} {D : va_G} {tys : List (ClassId × FieldType)} {b0 : Nat} {H0 : Heap}
/-- going on from a frame of the little machine -/
def mm_K (p : Program) (l : Launch) (e : Env) (R : Room) (s : State) (m : MethodId) (args : Array Value) (below : List Frame) (meth : Method) (c : Code) (cells slots : Nat) (Q : State → Prop) (nL : Nat) (D : va_G) (tys : List (ClassId × FieldType)) (b0 : Nat) (H0 : Heap) (F : mm_F) : Prop :=
  ∀ (la : Array Slot) (H : Heap) (locs : List Loc), lv_has la nL F.2.2.1 → mm_rep D tys b0 F.2.2.2 H → va_S (mm_A b0) H0 H locs → W p l e R s m args below meth c H locs cells slots Q (F0 m F.1 la F.2.1)
def mm_G (p : Program) (l : Launch) (e : Env) (R : Room) (s : State) (m : MethodId) (args : Array Value) (below : List Frame) (meth : Method) (c : Code) (cells slots : Nat) (Q : State → Prop) (cc : ByteArray) (nL o : Nat) (ini : Bool) (D : va_G) (tys : List (ClassId × FieldType)) (b0 : Nat) (H0 : Heap) (ins : Instr) : Prop :=
  ∀ (a b pc : Nat) (st : List Value) (ls : mm_L) (h : mm_S) (r : Option Prop × mm_F), mm_st ins a b pc st ls h = some r → (∀ x, r.1 = some x → x) → decode cc pc = .ok (ins, mm_len ins b) → mm_lk o nL ini ins a b = true →
    mm_K p l e R s m args below meth c cells slots Q nL D tys b0 H0 r.2 → mm_K p l e R s m args below meth c cells slots Q nL D tys b0 H0 (pc, st, ls, h)
theorem mm_s_iconst (C : mm_Cx p s m args meth c cc nL o ini D tys) (n : Int) : mm_G p l e R s m args below meth c cells slots Q cc nL o ini D tys b0 H0 (.iconst n) := by
  intro a b pc st ls h r h1 hp hd hk kk la H locs hl hr hS
  obtain ⟨hx, hb, hml, hts, hnw, hown, hini, hK, hty⟩ := C
  simp only [mm_st] at h1
  cases h1
  exact lv_iconst hx hb hd rfl (kk la H locs hl hr hS)
theorem mm_s_bipush (C : mm_Cx p s m args meth c cc nL o ini D tys) (n : Int) : mm_G p l e R s m args below meth c cells slots Q cc nL o ini D tys b0 H0 (.bipush n) := by
  intro a b pc st ls h r h1 hp hd hk kk la H locs hl hr hS
  obtain ⟨hx, hb, hml, hts, hnw, hown, hini, hK, hty⟩ := C
  simp only [mm_st] at h1
  cases h1
  exact lv_bipush hx hb hd rfl (kk la H locs hl hr hS)
theorem mm_s_sipush (C : mm_Cx p s m args meth c cc nL o ini D tys) (n : Int) : mm_G p l e R s m args below meth c cells slots Q cc nL o ini D tys b0 H0 (.sipush n) := by
  intro a b pc st ls h r h1 hp hd hk kk la H locs hl hr hS
  obtain ⟨hx, hb, hml, hts, hnw, hown, hini, hK, hty⟩ := C
  simp only [mm_st] at h1
  cases h1
  exact lv_sipush hx hb hd rfl (kk la H locs hl hr hS)
theorem mm_s_lconst (C : mm_Cx p s m args meth c cc nL o ini D tys) (n : Fin 2) : mm_G p l e R s m args below meth c cells slots Q cc nL o ini D tys b0 H0 (.lconst n) := by
  intro a b pc st ls h r h1 hp hd hk kk la H locs hl hr hS
  obtain ⟨hx, hb, hml, hts, hnw, hown, hini, hK, hty⟩ := C
  simp only [mm_st] at h1
  cases h1
  exact lv_lconst hx hb hd rfl (kk la H locs hl hr hS)
theorem mm_s_ldc (C : mm_Cx p s m args meth c cc nL o ini D tys) (i : Nat) : mm_G p l e R s m args below meth c cells slots Q cc nL o ini D tys b0 H0 (.ldc i) := by
  intro a b pc st ls h r h1 hp hd hk kk la H locs hl hr hS
  obtain ⟨hx, hb, hml, hts, hnw, hown, hini, hK, hty⟩ := C
  simp only [mm_st] at h1
  split at h1
  · next hb11 =>
    cases h1
    subst hb11
    simp only [mm_lk, Bool.or_eq_true, decide_eq_true_eq, ne_eq, not_true_eq_false, decide_false, Bool.false_eq_true, or_false] at hk
    exact lv_ldc hx hb hown (hts _ (mm_row hk _ List.mem_cons_self)) hd (kk la H locs hl hr hS)
  · cases h1
theorem mm_s_ldc_w (C : mm_Cx p s m args meth c cc nL o ini D tys) (i : Nat) : mm_G p l e R s m args below meth c cells slots Q cc nL o ini D tys b0 H0 (.ldc_w i) := by
  intro a b pc st ls h r h1 hp hd hk kk la H locs hl hr hS
  obtain ⟨hx, hb, hml, hts, hnw, hown, hini, hK, hty⟩ := C
  simp only [mm_st] at h1
  split at h1
  · next hb11 =>
    cases h1
    subst hb11
    simp only [mm_lk, Bool.or_eq_true, decide_eq_true_eq, ne_eq, not_true_eq_false, decide_false, Bool.false_eq_true, or_false] at hk
    exact lv_ldcw hx hb hown (hts _ (mm_row hk _ List.mem_cons_self)) hd (kk la H locs hl hr hS)
  · cases h1
theorem mm_s_ldc2_w (C : mm_Cx p s m args meth c cc nL o ini D tys) (i : Nat) : mm_G p l e R s m args below meth c cells slots Q cc nL o ini D tys b0 H0 (.ldc2_w i) := by
  intro a b pc st ls h r h1 hp hd hk kk la H locs hl hr hS
  obtain ⟨hx, hb, hml, hts, hnw, hown, hini, hK, hty⟩ := C
  simp only [mm_st] at h1
  split at h1
  · next hb11 =>
    cases h1
    subst hb11
    simp only [mm_lk, decide_eq_true_eq] at hk
    exact lv_ldc2 hx hb hown (hts _ (mm_row hk _ List.mem_cons_self)) hd (kk la H locs hl hr hS)
  · cases h1
theorem mm_s_iload (C : mm_Cx p s m args meth c cc nL o ini D tys) (i : Nat) : mm_G p l e R s m args below meth c cells slots Q cc nL o ini D tys b0 H0 (.iload i) := by
  intro a b pc st ls h r h1 hp hd hk kk la H locs hl hr hS
  obtain ⟨hx, hb, hml, hts, hnw, hown, hini, hK, hty⟩ := C
  simp only [mm_st] at h1
  obtain ⟨x, hg, h1⟩ := mm_ild_s h1
  cases h1
  exact lv_iload hx hb hd (mm_at hl hg) (kk la H locs hl hr hS)
theorem mm_s_iload_n (C : mm_Cx p s m args meth c cc nL o ini D tys) (i : Fin 4) : mm_G p l e R s m args below meth c cells slots Q cc nL o ini D tys b0 H0 (.iload_n i) := by
  intro a b pc st ls h r h1 hp hd hk kk la H locs hl hr hS
  obtain ⟨hx, hb, hml, hts, hnw, hown, hini, hK, hty⟩ := C
  simp only [mm_st] at h1
  obtain ⟨x, hg, h1⟩ := mm_ild_s h1
  cases h1
  exact lv_iload_n hx hb hd rfl (mm_at hl hg) (kk la H locs hl hr hS)
theorem mm_s_lload (C : mm_Cx p s m args meth c cc nL o ini D tys) (i : Nat) : mm_G p l e R s m args below meth c cells slots Q cc nL o ini D tys b0 H0 (.lload i) := by
  intro a b pc st ls h r h1 hp hd hk kk la H locs hl hr hS
  obtain ⟨hx, hb, hml, hts, hnw, hown, hini, hK, hty⟩ := C
  simp only [mm_st] at h1
  obtain ⟨x, hg, h1⟩ := mm_lld_s h1
  cases h1
  exact lv_lload hx hb hd (mm_at hl hg) (kk la H locs hl hr hS)
theorem mm_s_lload_n (C : mm_Cx p s m args meth c cc nL o ini D tys) (i : Fin 4) : mm_G p l e R s m args below meth c cells slots Q cc nL o ini D tys b0 H0 (.lload_n i) := by
  intro a b pc st ls h r h1 hp hd hk kk la H locs hl hr hS
  obtain ⟨hx, hb, hml, hts, hnw, hown, hini, hK, hty⟩ := C
  simp only [mm_st] at h1
  obtain ⟨x, hg, h1⟩ := mm_lld_s h1
  cases h1
  exact lv_lload_n hx hb hd rfl (mm_at hl hg) (kk la H locs hl hr hS)
theorem mm_s_aload (C : mm_Cx p s m args meth c cc nL o ini D tys) (i : Nat) : mm_G p l e R s m args below meth c cells slots Q cc nL o ini D tys b0 H0 (.aload i) := by
  intro a b pc st ls h r h1 hp hd hk kk la H locs hl hr hS
  obtain ⟨hx, hb, hml, hts, hnw, hown, hini, hK, hty⟩ := C
  simp only [mm_st] at h1
  obtain ⟨x, hg, h1⟩ := mm_ald_s h1
  cases h1
  exact lv_aload hx hb hd (mm_at hl hg) (kk la H locs hl hr hS)
theorem mm_s_aload_n (C : mm_Cx p s m args meth c cc nL o ini D tys) (i : Fin 4) : mm_G p l e R s m args below meth c cells slots Q cc nL o ini D tys b0 H0 (.aload_n i) := by
  intro a b pc st ls h r h1 hp hd hk kk la H locs hl hr hS
  obtain ⟨hx, hb, hml, hts, hnw, hown, hini, hK, hty⟩ := C
  simp only [mm_st] at h1
  obtain ⟨x, hg, h1⟩ := mm_ald_s h1
  cases h1
  exact lv_aload_n hx hb hd rfl (mm_at hl hg) (kk la H locs hl hr hS)
theorem mm_s_istore (C : mm_Cx p s m args meth c cc nL o ini D tys) (i : Nat) : mm_G p l e R s m args below meth c cells slots Q cc nL o ini D tys b0 H0 (.istore i) := by
  intro a b pc st ls h r h1 hp hd hk kk la H locs hl hr hS
  obtain ⟨hx, hb, hml, hts, hnw, hown, hini, hK, hty⟩ := C
  simp only [mm_st] at h1
  obtain ⟨x, t, rfl, h1⟩ := mm_i1_s h1
  cases h1
  simp only [mm_lk, decide_eq_true_eq] at hk
  exact lv_istore hx hb hd hl hk rfl (fun la2 hl2 => kk la2 H locs hl2 hr hS)
theorem mm_s_istore_n (C : mm_Cx p s m args meth c cc nL o ini D tys) (i : Fin 4) : mm_G p l e R s m args below meth c cells slots Q cc nL o ini D tys b0 H0 (.istore_n i) := by
  intro a b pc st ls h r h1 hp hd hk kk la H locs hl hr hS
  obtain ⟨hx, hb, hml, hts, hnw, hown, hini, hK, hty⟩ := C
  simp only [mm_st] at h1
  obtain ⟨x, t, rfl, h1⟩ := mm_i1_s h1
  cases h1
  simp only [mm_lk, decide_eq_true_eq] at hk
  exact lv_istore_n hx hb hd rfl hl hk rfl (fun la2 hl2 => kk la2 H locs hl2 hr hS)
theorem mm_s_astore (C : mm_Cx p s m args meth c cc nL o ini D tys) (i : Nat) : mm_G p l e R s m args below meth c cells slots Q cc nL o ini D tys b0 H0 (.astore i) := by
  intro a b pc st ls h r h1 hp hd hk kk la H locs hl hr hS
  obtain ⟨hx, hb, hml, hts, hnw, hown, hini, hK, hty⟩ := C
  simp only [mm_st] at h1
  obtain ⟨x, t, rfl, h1⟩ := mm_a1_s h1
  cases h1
  simp only [mm_lk, decide_eq_true_eq] at hk
  exact lv_astore hx hb hd hl hk rfl (fun la2 hl2 => kk la2 H locs hl2 hr hS)
theorem mm_s_astore_n (C : mm_Cx p s m args meth c cc nL o ini D tys) (i : Fin 4) : mm_G p l e R s m args below meth c cells slots Q cc nL o ini D tys b0 H0 (.astore_n i) := by
  intro a b pc st ls h r h1 hp hd hk kk la H locs hl hr hS
  obtain ⟨hx, hb, hml, hts, hnw, hown, hini, hK, hty⟩ := C
  simp only [mm_st] at h1
  obtain ⟨x, t, rfl, h1⟩ := mm_a1_s h1
  cases h1
  simp only [mm_lk, decide_eq_true_eq] at hk
  exact lv_astore_n hx hb hd rfl hl hk rfl (fun la2 hl2 => kk la2 H locs hl2 hr hS)
theorem mm_s_lstore (C : mm_Cx p s m args meth c cc nL o ini D tys) (i : Nat) : mm_G p l e R s m args below meth c cells slots Q cc nL o ini D tys b0 H0 (.lstore i) := by
  intro a b pc st ls h r h1 hp hd hk kk la H locs hl hr hS
  obtain ⟨hx, hb, hml, hts, hnw, hown, hini, hK, hty⟩ := C
  simp only [mm_st] at h1
  obtain ⟨x, t, rfl, h1⟩ := mm_l1_s h1
  cases h1
  simp only [mm_lk, decide_eq_true_eq] at hk
  exact lv_lstore hx hb hd hl hk rfl (fun la2 hl2 => kk la2 H locs hl2 hr hS)
theorem mm_s_lstore_n (C : mm_Cx p s m args meth c cc nL o ini D tys) (i : Fin 4) : mm_G p l e R s m args below meth c cells slots Q cc nL o ini D tys b0 H0 (.lstore_n i) := by
  intro a b pc st ls h r h1 hp hd hk kk la H locs hl hr hS
  obtain ⟨hx, hb, hml, hts, hnw, hown, hini, hK, hty⟩ := C
  simp only [mm_st] at h1
  obtain ⟨x, t, rfl, h1⟩ := mm_l1_s h1
  cases h1
  simp only [mm_lk, decide_eq_true_eq] at hk
  exact lv_lstore_n hx hb hd rfl hl hk rfl (fun la2 hl2 => kk la2 H locs hl2 hr hS)
theorem mm_s_iinc (C : mm_Cx p s m args meth c cc nL o ini D tys) (i : Nat) (n : Int) : mm_G p l e R s m args below meth c cells slots Q cc nL o ini D tys b0 H0 (.iinc i n) := by
  intro a b pc st ls h r h1 hp hd hk kk la H locs hl hr hS
  obtain ⟨hx, hb, hml, hts, hnw, hown, hini, hK, hty⟩ := C
  simp only [mm_st] at h1
  obtain ⟨x, hg, h1⟩ := mm_ild_s h1
  cases h1
  simp only [mm_lk, decide_eq_true_eq] at hk
  obtain ⟨k0, hk0⟩ := mm_ix hg
  exact lv_iinc hx hb hd hl hk0 rfl hk rfl (fun la2 hl2 => kk la2 H locs hl2 hr hS)
theorem mm_s_iadd (C : mm_Cx p s m args meth c cc nL o ini D tys) : mm_G p l e R s m args below meth c cells slots Q cc nL o ini D tys b0 H0 (.iadd) := by
  intro a b pc st ls h r h1 hp hd hk kk la H locs hl hr hS
  obtain ⟨hx, hb, hml, hts, hnw, hown, hini, hK, hty⟩ := C
  simp only [mm_st] at h1
  obtain ⟨x, y, t, rfl, h1⟩ := mm_i2_s h1
  cases h1
  exact lv_iadd hx hb hd (kk la H locs hl hr hS)
theorem mm_s_isub (C : mm_Cx p s m args meth c cc nL o ini D tys) : mm_G p l e R s m args below meth c cells slots Q cc nL o ini D tys b0 H0 (.isub) := by
  intro a b pc st ls h r h1 hp hd hk kk la H locs hl hr hS
  obtain ⟨hx, hb, hml, hts, hnw, hown, hini, hK, hty⟩ := C
  simp only [mm_st] at h1
  obtain ⟨x, y, t, rfl, h1⟩ := mm_i2_s h1
  cases h1
  exact lv_isub hx hb hd (kk la H locs hl hr hS)
theorem mm_s_imul (C : mm_Cx p s m args meth c cc nL o ini D tys) : mm_G p l e R s m args below meth c cells slots Q cc nL o ini D tys b0 H0 (.imul) := by
  intro a b pc st ls h r h1 hp hd hk kk la H locs hl hr hS
  obtain ⟨hx, hb, hml, hts, hnw, hown, hini, hK, hty⟩ := C
  simp only [mm_st] at h1
  obtain ⟨x, y, t, rfl, h1⟩ := mm_i2_s h1
  cases h1
  exact lv_imul hx hb hd (kk la H locs hl hr hS)
theorem mm_s_iand (C : mm_Cx p s m args meth c cc nL o ini D tys) : mm_G p l e R s m args below meth c cells slots Q cc nL o ini D tys b0 H0 (.iand) := by
  intro a b pc st ls h r h1 hp hd hk kk la H locs hl hr hS
  obtain ⟨hx, hb, hml, hts, hnw, hown, hini, hK, hty⟩ := C
  simp only [mm_st] at h1
  obtain ⟨x, y, t, rfl, h1⟩ := mm_i2_s h1
  cases h1
  exact lv_iand hx hb hd (kk la H locs hl hr hS)
theorem mm_s_ior (C : mm_Cx p s m args meth c cc nL o ini D tys) : mm_G p l e R s m args below meth c cells slots Q cc nL o ini D tys b0 H0 (.ior) := by
  intro a b pc st ls h r h1 hp hd hk kk la H locs hl hr hS
  obtain ⟨hx, hb, hml, hts, hnw, hown, hini, hK, hty⟩ := C
  simp only [mm_st] at h1
  obtain ⟨x, y, t, rfl, h1⟩ := mm_i2_s h1
  cases h1
  exact lv_ior hx hb hd (kk la H locs hl hr hS)
theorem mm_s_ishl (C : mm_Cx p s m args meth c cc nL o ini D tys) : mm_G p l e R s m args below meth c cells slots Q cc nL o ini D tys b0 H0 (.ishl) := by
  intro a b pc st ls h r h1 hp hd hk kk la H locs hl hr hS
  obtain ⟨hx, hb, hml, hts, hnw, hown, hini, hK, hty⟩ := C
  simp only [mm_st] at h1
  obtain ⟨x, y, t, rfl, h1⟩ := mm_i2_s h1
  cases h1
  exact lv_ishl hx hb hd (kk la H locs hl hr hS)
theorem mm_s_ishr (C : mm_Cx p s m args meth c cc nL o ini D tys) : mm_G p l e R s m args below meth c cells slots Q cc nL o ini D tys b0 H0 (.ishr) := by
  intro a b pc st ls h r h1 hp hd hk kk la H locs hl hr hS
  obtain ⟨hx, hb, hml, hts, hnw, hown, hini, hK, hty⟩ := C
  simp only [mm_st] at h1
  obtain ⟨x, y, t, rfl, h1⟩ := mm_i2_s h1
  cases h1
  exact lv_ishr hx hb hd (kk la H locs hl hr hS)
theorem mm_s_idiv (C : mm_Cx p s m args meth c cc nL o ini D tys) : mm_G p l e R s m args below meth c cells slots Q cc nL o ini D tys b0 H0 (.idiv) := by
  intro a b pc st ls h r h1 hp hd hk kk la H locs hl hr hS
  obtain ⟨hx, hb, hml, hts, hnw, hown, hini, hK, hty⟩ := C
  simp only [mm_st] at h1
  obtain ⟨x, y, t, rfl, h1⟩ := mm_i2_s h1
  cases h1
  exact lv_idiv hx hb hd (hp _ rfl) (kk la H locs hl hr hS)
theorem mm_s_irem (C : mm_Cx p s m args meth c cc nL o ini D tys) : mm_G p l e R s m args below meth c cells slots Q cc nL o ini D tys b0 H0 (.irem) := by
  intro a b pc st ls h r h1 hp hd hk kk la H locs hl hr hS
  obtain ⟨hx, hb, hml, hts, hnw, hown, hini, hK, hty⟩ := C
  simp only [mm_st] at h1
  obtain ⟨x, y, t, rfl, h1⟩ := mm_i2_s h1
  cases h1
  exact lv_irem hx hb hd (hp _ rfl) (kk la H locs hl hr hS)
theorem mm_s_iushr (C : mm_Cx p s m args meth c cc nL o ini D tys) : mm_G p l e R s m args below meth c cells slots Q cc nL o ini D tys b0 H0 (.iushr) := by
  intro a b pc st ls h r h1 hp hd hk kk la H locs hl hr hS
  obtain ⟨hx, hb, hml, hts, hnw, hown, hini, hK, hty⟩ := C
  simp only [mm_st] at h1
  obtain ⟨x, y, t, rfl, h1⟩ := mm_i2_s h1
  cases h1
  exact lv_iushr hx hb hd rfl (kk la H locs hl hr hS)
theorem mm_s_ineg (C : mm_Cx p s m args meth c cc nL o ini D tys) : mm_G p l e R s m args below meth c cells slots Q cc nL o ini D tys b0 H0 (.ineg) := by
  intro a b pc st ls h r h1 hp hd hk kk la H locs hl hr hS
  obtain ⟨hx, hb, hml, hts, hnw, hown, hini, hK, hty⟩ := C
  simp only [mm_st] at h1
  obtain ⟨x, t, rfl, h1⟩ := mm_i1_s h1
  cases h1
  exact lv_ineg hx hb hd (kk la H locs hl hr hS)
theorem mm_s_land (C : mm_Cx p s m args meth c cc nL o ini D tys) : mm_G p l e R s m args below meth c cells slots Q cc nL o ini D tys b0 H0 (.land) := by
  intro a b pc st ls h r h1 hp hd hk kk la H locs hl hr hS
  obtain ⟨hx, hb, hml, hts, hnw, hown, hini, hK, hty⟩ := C
  simp only [mm_st] at h1
  obtain ⟨x, y, t, rfl, h1⟩ := mm_l2_s h1
  cases h1
  exact lv_land hx hb hd (kk la H locs hl hr hS)
theorem mm_s_lor (C : mm_Cx p s m args meth c cc nL o ini D tys) : mm_G p l e R s m args below meth c cells slots Q cc nL o ini D tys b0 H0 (.lor) := by
  intro a b pc st ls h r h1 hp hd hk kk la H locs hl hr hS
  obtain ⟨hx, hb, hml, hts, hnw, hown, hini, hK, hty⟩ := C
  simp only [mm_st] at h1
  obtain ⟨x, y, t, rfl, h1⟩ := mm_l2_s h1
  cases h1
  exact lv_lor hx hb hd (kk la H locs hl hr hS)
theorem mm_s_lcmp (C : mm_Cx p s m args meth c cc nL o ini D tys) : mm_G p l e R s m args below meth c cells slots Q cc nL o ini D tys b0 H0 (.lcmp) := by
  intro a b pc st ls h r h1 hp hd hk kk la H locs hl hr hS
  obtain ⟨hx, hb, hml, hts, hnw, hown, hini, hK, hty⟩ := C
  simp only [mm_st] at h1
  obtain ⟨x, y, t, rfl, h1⟩ := mm_l2_s h1
  cases h1
  exact W.lcmp hx hb hd (kk la H locs hl hr hS)
theorem mm_s_lshl (C : mm_Cx p s m args meth c cc nL o ini D tys) : mm_G p l e R s m args below meth c cells slots Q cc nL o ini D tys b0 H0 (.lshl) := by
  intro a b pc st ls h r h1 hp hd hk kk la H locs hl hr hS
  obtain ⟨hx, hb, hml, hts, hnw, hown, hini, hK, hty⟩ := C
  simp only [mm_st] at h1
  obtain ⟨x, y, t, rfl, h1⟩ := mm_li_s h1
  cases h1
  exact lv_lshl hx hb hd rfl (kk la H locs hl hr hS)
theorem mm_s_lshr (C : mm_Cx p s m args meth c cc nL o ini D tys) : mm_G p l e R s m args below meth c cells slots Q cc nL o ini D tys b0 H0 (.lshr) := by
  intro a b pc st ls h r h1 hp hd hk kk la H locs hl hr hS
  obtain ⟨hx, hb, hml, hts, hnw, hown, hini, hK, hty⟩ := C
  simp only [mm_st] at h1
  obtain ⟨x, y, t, rfl, h1⟩ := mm_li_s h1
  cases h1
  exact lv_lshr hx hb hd rfl (kk la H locs hl hr hS)
theorem mm_s_i2l (C : mm_Cx p s m args meth c cc nL o ini D tys) : mm_G p l e R s m args below meth c cells slots Q cc nL o ini D tys b0 H0 (.i2l) := by
  intro a b pc st ls h r h1 hp hd hk kk la H locs hl hr hS
  obtain ⟨hx, hb, hml, hts, hnw, hown, hini, hK, hty⟩ := C
  simp only [mm_st] at h1
  obtain ⟨x, t, rfl, h1⟩ := mm_i1_s h1
  cases h1
  exact lv_i2l hx hb hd rfl (kk la H locs hl hr hS)
theorem mm_s_i2c (C : mm_Cx p s m args meth c cc nL o ini D tys) : mm_G p l e R s m args below meth c cells slots Q cc nL o ini D tys b0 H0 (.i2c) := by
  intro a b pc st ls h r h1 hp hd hk kk la H locs hl hr hS
  obtain ⟨hx, hb, hml, hts, hnw, hown, hini, hK, hty⟩ := C
  simp only [mm_st] at h1
  obtain ⟨x, t, rfl, h1⟩ := mm_i1_s h1
  cases h1
  exact lv_i2c hx hb hd rfl (kk la H locs hl hr hS)
theorem mm_s_i2b (C : mm_Cx p s m args meth c cc nL o ini D tys) : mm_G p l e R s m args below meth c cells slots Q cc nL o ini D tys b0 H0 (.i2b) := by
  intro a b pc st ls h r h1 hp hd hk kk la H locs hl hr hS
  obtain ⟨hx, hb, hml, hts, hnw, hown, hini, hK, hty⟩ := C
  simp only [mm_st] at h1
  obtain ⟨x, t, rfl, h1⟩ := mm_i1_s h1
  cases h1
  exact lv_i2b hx hb hd rfl (kk la H locs hl hr hS)
theorem mm_s_l2i (C : mm_Cx p s m args meth c cc nL o ini D tys) : mm_G p l e R s m args below meth c cells slots Q cc nL o ini D tys b0 H0 (.l2i) := by
  intro a b pc st ls h r h1 hp hd hk kk la H locs hl hr hS
  obtain ⟨hx, hb, hml, hts, hnw, hown, hini, hK, hty⟩ := C
  simp only [mm_st] at h1
  obtain ⟨x, t, rfl, h1⟩ := mm_l1_s h1
  cases h1
  exact lv_l2i hx hb hd rfl (kk la H locs hl hr hS)
theorem mm_s_dup (C : mm_Cx p s m args meth c cc nL o ini D tys) : mm_G p l e R s m args below meth c cells slots Q cc nL o ini D tys b0 H0 (.dup) := by
  intro a b pc st ls h r h1 hp hd hk kk la H locs hl hr hS
  obtain ⟨hx, hb, hml, hts, hnw, hown, hini, hK, hty⟩ := C
  simp only [mm_st] at h1
  split at h1
  · cases h1
    exact lv_dup hx hb hd (hp _ rfl) (kk la H locs hl hr hS)
  · cases h1
theorem mm_s_pop (C : mm_Cx p s m args meth c cc nL o ini D tys) : mm_G p l e R s m args below meth c cells slots Q cc nL o ini D tys b0 H0 (.pop) := by
  intro a b pc st ls h r h1 hp hd hk kk la H locs hl hr hS
  obtain ⟨hx, hb, hml, hts, hnw, hown, hini, hK, hty⟩ := C
  simp only [mm_st] at h1
  split at h1
  · cases h1
    exact lv_pop hx hb hd (hp _ rfl) (kk la H locs hl hr hS)
  · cases h1
theorem mm_s_dup2 (C : mm_Cx p s m args meth c cc nL o ini D tys) : mm_G p l e R s m args below meth c cells slots Q cc nL o ini D tys b0 H0 (.dup2) := by
  intro a b pc st ls h r h1 hp hd hk kk la H locs hl hr hS
  obtain ⟨hx, hb, hml, hts, hnw, hown, hini, hK, hty⟩ := C
  simp only [mm_st] at h1
  split at h1
  · cases h1
    exact lv_dup2_11 hx hb hd (hp _ rfl).1 (hp _ rfl).2 (kk la H locs hl hr hS)
  · cases h1
theorem mm_s_dup_x1 (C : mm_Cx p s m args meth c cc nL o ini D tys) : mm_G p l e R s m args below meth c cells slots Q cc nL o ini D tys b0 H0 (.dup_x1) := by
  intro a b pc st ls h r h1 hp hd hk kk la H locs hl hr hS
  obtain ⟨hx, hb, hml, hts, hnw, hown, hini, hK, hty⟩ := C
  simp only [mm_st] at h1
  split at h1
  · cases h1
    exact lv_dup_x1 hx hb hd (hp _ rfl).1 (hp _ rfl).2 (kk la H locs hl hr hS)
  · cases h1
theorem mm_s_goto (C : mm_Cx p s m args meth c cc nL o ini D tys) (off : Int) : mm_G p l e R s m args below meth c cells slots Q cc nL o ini D tys b0 H0 (.goto off) := by
  intro a b pc st ls h r h1 hp hd hk kk la H locs hl hr hS
  obtain ⟨hx, hb, hml, hts, hnw, hown, hini, hK, hty⟩ := C
  simp only [mm_st] at h1
  cases h1
  exact lv_goto hx hb hd (mm_to_ok (hp _ rfl)) (kk la H locs hl hr hS)
theorem mm_s_ifCond (C : mm_Cx p s m args meth c cc nL o ini D tys) (cd : Jvm.ClassFile.Cond) (off : Int) : mm_G p l e R s m args below meth c cells slots Q cc nL o ini D tys b0 H0 (.ifCond cd off) := by
  intro a b pc st ls h r h1 hp hd hk kk la H locs hl hr hS
  obtain ⟨hx, hb, hml, hts, hnw, hown, hini, hK, hty⟩ := C
  simp only [mm_st] at h1
  obtain ⟨x, t, rfl, h1⟩ := mm_i1_s h1
  cases h1
  have ht := mm_to_ok (hp _ rfl)
  cases cd with
  | eq => exact lv_if_eq hx hb hd ht (fun z => by simp only [mm_cm] at kk; rw [if_pos z] at kk; exact kk la H locs hl hr hS) (fun z => by simp only [mm_cm] at kk; rw [if_neg z] at kk; exact kk la H locs hl hr hS)
  | ne => exact lv_if_ne hx hb hd ht (fun z => by simp only [mm_cm] at kk; rw [if_pos z] at kk; exact kk la H locs hl hr hS) (fun z => by simp only [mm_cm] at kk; rw [if_neg (fun q => q z)] at kk; exact kk la H locs hl hr hS)
  | lt => exact lv_if_lt hx hb hd ht (fun z => by simp only [mm_cm] at kk; rw [if_pos z] at kk; exact kk la H locs hl hr hS) (fun z => by simp only [mm_cm] at kk; rw [if_neg z] at kk; exact kk la H locs hl hr hS)
  | ge => exact lv_if_ge hx hb hd ht (fun z => by simp only [mm_cm] at kk; rw [if_pos z] at kk; exact kk la H locs hl hr hS) (fun z => by simp only [mm_cm] at kk; rw [if_neg z] at kk; exact kk la H locs hl hr hS)
  | gt => exact lv_if_gt hx hb hd ht (fun z => by simp only [mm_cm] at kk; rw [if_pos z] at kk; exact kk la H locs hl hr hS) (fun z => by simp only [mm_cm] at kk; rw [if_neg z] at kk; exact kk la H locs hl hr hS)
  | le => exact lv_if_le hx hb hd ht (fun z => by simp only [mm_cm] at kk; rw [if_pos z] at kk; exact kk la H locs hl hr hS) (fun z => by simp only [mm_cm] at kk; rw [if_neg z] at kk; exact kk la H locs hl hr hS)
theorem mm_s_if_icmp (C : mm_Cx p s m args meth c cc nL o ini D tys) (cd : Jvm.ClassFile.Cond) (off : Int) : mm_G p l e R s m args below meth c cells slots Q cc nL o ini D tys b0 H0 (.if_icmp cd off) := by
  intro a b pc st ls h r h1 hp hd hk kk la H locs hl hr hS
  obtain ⟨hx, hb, hml, hts, hnw, hown, hini, hK, hty⟩ := C
  simp only [mm_st] at h1
  obtain ⟨x, y, t, rfl, h1⟩ := mm_i2_s h1
  cases h1
  have ht := mm_to_ok (hp _ rfl)
  cases cd with
  | eq => exact lv_icmp_eq hx hb hd ht (fun z => by simp only [mm_cm] at kk; rw [if_pos z] at kk; exact kk la H locs hl hr hS) (fun z => by simp only [mm_cm] at kk; rw [if_neg z] at kk; exact kk la H locs hl hr hS)
  | ne => exact lv_icmp_ne hx hb hd ht (fun z => by simp only [mm_cm] at kk; rw [if_pos z] at kk; exact kk la H locs hl hr hS) (fun z => by simp only [mm_cm] at kk; rw [if_neg (fun q => q z)] at kk; exact kk la H locs hl hr hS)
  | lt => exact lv_icmp_lt hx hb hd ht (fun z => by simp only [mm_cm] at kk; rw [if_pos z] at kk; exact kk la H locs hl hr hS) (fun z => by simp only [mm_cm] at kk; rw [if_neg z] at kk; exact kk la H locs hl hr hS)
  | ge => exact lv_icmp_ge hx hb hd ht (fun z => by simp only [mm_cm] at kk; rw [if_pos z] at kk; exact kk la H locs hl hr hS) (fun z => by simp only [mm_cm] at kk; rw [if_neg z] at kk; exact kk la H locs hl hr hS)
  | gt => exact lv_icmp_gt hx hb hd ht (fun z => by simp only [mm_cm] at kk; rw [if_pos z] at kk; exact kk la H locs hl hr hS) (fun z => by simp only [mm_cm] at kk; rw [if_neg z] at kk; exact kk la H locs hl hr hS)
  | le => exact lv_icmp_le hx hb hd ht (fun z => by simp only [mm_cm] at kk; rw [if_pos z] at kk; exact kk la H locs hl hr hS) (fun z => by simp only [mm_cm] at kk; rw [if_neg z] at kk; exact kk la H locs hl hr hS)
theorem mm_s_getfield (C : mm_Cx p s m args meth c cc nL o ini D tys) (i : Nat) : mm_G p l e R s m args below meth c cells slots Q cc nL o ini D tys b0 H0 (.getfield i) := by
  intro a b pc st ls h r h1 hp hd hk kk la H locs hl hr hS
  obtain ⟨hx, hb, hml, hts, hnw, hown, hini, hK, hty⟩ := C
  simp only [mm_st] at h1
  obtain ⟨q, t, rfl, h2⟩ := mm_a1_s h1
  clear h1
  obtain ⟨ci, fs, hc, h3⟩ := mm_obj_s h2
  clear h2
  split at h3
  · next e =>
    subst e
    split at h3
    · next v hv =>
      cases h3
      have hq := hp _ rfl
      obtain ⟨k0, hk0⟩ := mm_ws_get (tys := tys) hq
      rw [hc] at hk0
      simp only [mm_lk, Bool.and_eq_true, Bool.or_eq_true, decide_eq_true_eq] at hk
      obtain ⟨hk1, ha, hbn⟩ := hk
      rcases hk1 with hk1 | hk1
      · exact va_get (T := (mm_C ci).2.1) (N := (mm_C ci).2.2) (C := (mm_C ci).1) hx hb hts (mm_yin ha) hown hK hr.1 k0 hk0 (mm_cl_at ha) b hbn (hts _ (mm_row hk1 _ List.mem_cons_self)) (fun _ z => z) hv hd (kk la H locs hl hr hS)
      · exact va_getN (T := (mm_C ci).2.1) (N := (mm_C ci).2.2) (C := (mm_C ci).1) hx hb hts (mm_yin ha) hown hK hr.1 k0 hk0 (mm_cl_at ha) b hbn ((hnw _ (mm_rowN hk1 _ List.mem_cons_self)).use rfl) (fun _ z => z) hv hd (kk la H locs hl hr hS)
    · cases h3
  · cases h3
theorem mm_s_putfield (C : mm_Cx p s m args meth c cc nL o ini D tys) (i : Nat) : mm_G p l e R s m args below meth c cells slots Q cc nL o ini D tys b0 H0 (.putfield i) := by
  intro a b pc st ls h r h1 hp hd hk kk la H locs hl hr hS
  obtain ⟨hx, hb, hml, hts, hnw, hown, hini, hK, hty⟩ := C
  simp only [mm_st] at h1
  split at h1
  · next v q t =>
    obtain ⟨ci, fs, hc, h1⟩ := mm_obj_s h1
    split at h1
    · next e =>
      subst e
      cases h1
      obtain ⟨hq, hbl, hn, hf⟩ := hp _ rfl
      obtain ⟨k0, hk0⟩ := mm_ws_get (tys := tys) hq
      have hk1 := hk0
      rw [hc] at hk1
      have ha9 : ci < 8 := by
        simp only [mm_lk, Bool.and_eq_true, decide_eq_true_eq] at hk
        exact hk.2.1
      have fin : ∀ (H2 : Heap) (locs2 : List Loc), va_P D mm_cl ((mm_ws tys h).set k0 (q, .inr (ci, fs.set b v))) H2 → va_D (mm_A b0) ((mm_ws tys h).set k0 (q, .inr (ci, fs.set b v))) → va_S (mm_A b0) H0 H2 locs2 → W p l e R s m args below meth c H2 locs2 cells slots Q (F0 m (pc + 3) la t) := by
        intro H2 locs2 hP2 hD2 hS2
        have es := mm_ws_set (c := .inr (ci, fs.set b v)) hr.2.1 hq hk0
        rw [show (q, (.inr (ci, fs.set b v) : va_E)) = (q, mm_cv tys (.inr (ci, fs.set b v))) from rfl, es] at hP2 hD2
        exact kk la H2 locs2 hl ⟨hP2, hD2, mm_mk_up hr.2.2 (fun z => absurd (congrArg Prod.fst (Sum.inr.inj z)) (by show ¬ ci = 9; omega))⟩ hS2
      simp only [mm_lk, Bool.and_eq_true, Bool.or_eq_true, decide_eq_true_eq, Bool.not_eq_true'] at hk
      obtain ⟨hk2, ha, hbn⟩ := hk
      rcases hk2 with ⟨hk2, hf1 | ⟨hi1, hi2⟩⟩ | ⟨hk2, hf1⟩
      · exact va_put (T := (mm_C ci).2.1) (N := (mm_C ci).2.2) (C := (mm_C ci).1) (ty := mm_fty ci b) hx hb hts (mm_yin ha) (mm_fty ci) (mm_ftyok ha) (mm_nmok ha) hown hK hr.1 hr.2.1 hS k0 hk1 (mm_cl_at ha) b hbn (hts _ (mm_row hk2 _ List.mem_cons_self)) (fun _ z => z) hf1 (mm_ftyok ha b hbn) hn hf hbl hd fin
      · by_cases hf1 : ((mm_C ci).2.1 b).2.2.2 = false
        · exact va_put (T := (mm_C ci).2.1) (N := (mm_C ci).2.2) (C := (mm_C ci).1) (ty := mm_fty ci b) hx hb hts (mm_yin ha) (mm_fty ci) (mm_ftyok ha) (mm_nmok ha) hown hK hr.1 hr.2.1 hS k0 hk1 (mm_cl_at ha) b hbn (hts _ (mm_row hk2 _ List.mem_cons_self)) (fun _ z => z) hf1 (mm_ftyok ha b hbn) hn hf hbl hd fin
        · exact va_putF (T := (mm_C ci).2.1) (N := (mm_C ci).2.2) (C := (mm_C ci).1) (ty := mm_fty ci b) hx hb hts (mm_yin ha) (mm_fty ci) (mm_ftyok ha) (mm_nmok ha) hown hK hr.1 hr.2.1 hS k0 hk1 (mm_cl_at ha) b hbn (hts _ (mm_row hk2 _ List.mem_cons_self)) (fun _ z => z) (by simpa using hf1) (hini hi1) hi2 (mm_ftyok ha b hbn) hn hf hbl hd fin
      · exact va_putN (T := (mm_C ci).2.1) (N := (mm_C ci).2.2) (C := (mm_C ci).1) (ty := mm_fty ci b) hx hb hts (mm_yin ha) (mm_fty ci) (mm_ftyok ha) (mm_nmok ha) hown hK hr.1 hr.2.1 hS k0 hk1 (mm_cl_at ha) b hbn ((hnw _ (mm_rowN hk2 _ List.mem_cons_self)).use rfl) (fun _ z => z) hf1 (mm_ftyok ha b hbn) hn hf hbl hd fin
    · cases h1
  · cases h1
theorem mm_s_iaload (C : mm_Cx p s m args meth c cc nL o ini D tys) : mm_G p l e R s m args below meth c cells slots Q cc nL o ini D tys b0 H0 (.iaload) := by
  intro a b pc st ls h r h1 hp hd hk kk la H locs hl hr hS
  obtain ⟨hx, hb, hml, hts, hnw, hown, hini, hK, hty⟩ := C
  simp only [mm_st] at h1
  obtain ⟨q, j, t, rfl, h1⟩ := mm_ai_s h1
  obtain ⟨ti, n, g, hc, h1⟩ := mm_arI_s h1
  cases h1
  obtain ⟨hq, rfl, hin⟩ := hp _ rfl
  obtain ⟨k0, hk0⟩ := mm_ws_get (tys := tys) hq
  rw [hc] at hk0
  exact va_iald hx hb hK hr.1 k0 0 hk0 (mm_ty_at hty (by decide)) hin hd (kk la H locs hl hr hS)
theorem mm_s_laload (C : mm_Cx p s m args meth c cc nL o ini D tys) : mm_G p l e R s m args below meth c cells slots Q cc nL o ini D tys b0 H0 (.laload) := by
  intro a b pc st ls h r h1 hp hd hk kk la H locs hl hr hS
  obtain ⟨hx, hb, hml, hts, hnw, hown, hini, hK, hty⟩ := C
  simp only [mm_st] at h1
  obtain ⟨q, j, t, rfl, h1⟩ := mm_ai_s h1
  obtain ⟨ti, n, g, hc, h1⟩ := mm_arL_s h1
  cases h1
  obtain ⟨hq, rfl, hin⟩ := hp _ rfl
  obtain ⟨k0, hk0⟩ := mm_ws_get (tys := tys) hq
  rw [hc] at hk0
  exact va_lald hx hb hK hr.1 k0 2 hk0 (mm_ty_at hty (by decide)) hin hd (kk la H locs hl hr hS)
theorem mm_s_daload (C : mm_Cx p s m args meth c cc nL o ini D tys) : mm_G p l e R s m args below meth c cells slots Q cc nL o ini D tys b0 H0 (.daload) := by
  intro a b pc st ls h r h1 hp hd hk kk la H locs hl hr hS
  obtain ⟨hx, hb, hml, hts, hnw, hown, hini, hK, hty⟩ := C
  simp only [mm_st] at h1
  obtain ⟨q, j, t, rfl, h1⟩ := mm_ai_s h1
  obtain ⟨ti, n, g, hc, h1⟩ := mm_arD_s h1
  cases h1
  obtain ⟨hq, rfl, hin⟩ := hp _ rfl
  obtain ⟨k0, hk0⟩ := mm_ws_get (tys := tys) hq
  rw [hc] at hk0
  exact va_dald hx hb hK hr.1 k0 3 hk0 (mm_ty_at hty (by decide)) hin hd (kk la H locs hl hr hS)
theorem mm_s_baload (C : mm_Cx p s m args meth c cc nL o ini D tys) : mm_G p l e R s m args below meth c cells slots Q cc nL o ini D tys b0 H0 (.baload) := by
  intro a b pc st ls h r h1 hp hd hk kk la H locs hl hr hS
  obtain ⟨hx, hb, hml, hts, hnw, hown, hini, hK, hty⟩ := C
  simp only [mm_st] at h1
  obtain ⟨q, j, t, rfl, h1⟩ := mm_ai_s h1
  obtain ⟨ti, n, g, hc, h1⟩ := mm_arI_s h1
  cases h1
  obtain ⟨hq, hti, hin⟩ := hp _ rfl
  obtain ⟨k0, hk0⟩ := mm_ws_get (tys := tys) hq
  rw [hc] at hk0
  rcases hti with rfl | rfl
  · exact va_zald hx hb hK hr.1 k0 1 hk0 (mm_ty_at hty (by decide)) hin hd (kk la H locs hl hr hS)
  · exact va_bald hx hb hK hr.1 k0 4 hk0 (mm_ty_at hty (by decide)) hin hd (kk la H locs hl hr hS)
theorem mm_s_aaload (C : mm_Cx p s m args meth c cc nL o ini D tys) : mm_G p l e R s m args below meth c cells slots Q cc nL o ini D tys b0 H0 (.aaload) := by
  intro a b pc st ls h r h1 hp hd hk kk la H locs hl hr hS
  obtain ⟨hx, hb, hml, hts, hnw, hown, hini, hK, hty⟩ := C
  simp only [mm_st] at h1
  obtain ⟨q, j, t, rfl, h1⟩ := mm_ai_s h1
  obtain ⟨ti, n, g, hc, h1⟩ := mm_arR_s h1
  cases h1
  obtain ⟨hq, h5, h9, hin⟩ := hp _ rfl
  obtain ⟨k0, hk0⟩ := mm_ws_get (tys := tys) hq
  rw [hc] at hk0
  have hlt : j.toNatClampNeg < n := Nat.not_le.mp fun q => hin (Or.inr q)
  have hta := mm_ty_at hty h9
  refine W.aald (v := va_rf (g j.toNatClampNeg)) (ty := mm_tyl.getD ti .int) hx hb (hr.1 k0 _ hk0) ((hK.2 ti _ hta).1 n (fun j => va_rf (g j))) ?_ (fun q => by cases q) (by show ¬ (j < 0 ∨ (arrV _ _ _).slots.size ≤ _); rw [arrV_size]; exact hin) (by show (arrV _ _ _).slots[_]? = _; rw [arrV_read _ _ hlt]) rfl rfl hd (kk la H locs hl hr hS)
  match ti, h5, h9 with
  | 5, _, _ => rfl
  | 6, _, _ => rfl
  | 7, _, _ => rfl
  | 8, _, _ => rfl
theorem mm_s_iastore (C : mm_Cx p s m args meth c cc nL o ini D tys) : mm_G p l e R s m args below meth c cells slots Q cc nL o ini D tys b0 H0 (.iastore) := by
  intro a b pc st ls h r h1 hp hd hk kk la H locs hl hr hS
  obtain ⟨hx, hb, hml, hts, hnw, hown, hini, hK, hty⟩ := C
  simp only [mm_st] at h1
  split at h1
  · next x j q t =>
    obtain ⟨ti, n, g, hc, h1⟩ := mm_arI_s h1
    cases h1
    obtain ⟨hq, rfl, hin⟩ := hp _ rfl
    obtain ⟨k0, hk0⟩ := mm_ws_get (tys := tys) hq
    have hk1 := hk0
    rw [hc] at hk1
    refine va_iast hx hb hK hr.1 hr.2.1 hS k0 0 hk1 (mm_ty_at hty (by decide)) hin hd (fun H2 locs2 hP2 hD2 hS2 => ?_)
    have es := mm_ws_set (c := .inl (0, n, .inl (upd g j.toNatClampNeg x))) hr.2.1 hq hk0
    have kk2 := kk la H2 locs2 hl (by unfold mm_rep; exact ⟨es ▸ hP2, es ▸ hD2, mm_mk_up hr.2.2 (fun z => by cases z)⟩) hS2
    exact kk2
  · cases h1
theorem mm_s_lastore (C : mm_Cx p s m args meth c cc nL o ini D tys) : mm_G p l e R s m args below meth c cells slots Q cc nL o ini D tys b0 H0 (.lastore) := by
  intro a b pc st ls h r h1 hp hd hk kk la H locs hl hr hS
  obtain ⟨hx, hb, hml, hts, hnw, hown, hini, hK, hty⟩ := C
  simp only [mm_st] at h1
  split at h1
  · next x j q t =>
    obtain ⟨ti, n, g, hc, h1⟩ := mm_arL_s h1
    cases h1
    obtain ⟨hq, rfl, hin⟩ := hp _ rfl
    obtain ⟨k0, hk0⟩ := mm_ws_get (tys := tys) hq
    have hk1 := hk0
    rw [hc] at hk1
    refine va_last hx hb hK hr.1 hr.2.1 hS k0 2 hk1 (mm_ty_at hty (by decide)) hin hd (fun H2 locs2 hP2 hD2 hS2 => ?_)
    have es := mm_ws_set (c := .inl (2, n, .inr (.inl (vp_updL g j.toNatClampNeg x)))) hr.2.1 hq hk0
    have kk2 := kk la H2 locs2 hl (by unfold mm_rep; exact ⟨es ▸ hP2, es ▸ hD2, mm_mk_up hr.2.2 (fun z => by cases z)⟩) hS2
    exact kk2
  · cases h1
theorem mm_s_bastore (C : mm_Cx p s m args meth c cc nL o ini D tys) : mm_G p l e R s m args below meth c cells slots Q cc nL o ini D tys b0 H0 (.bastore) := by
  intro a b pc st ls h r h1 hp hd hk kk la H locs hl hr hS
  obtain ⟨hx, hb, hml, hts, hnw, hown, hini, hK, hty⟩ := C
  simp only [mm_st] at h1
  split at h1
  · next x j q t =>
    obtain ⟨ti, n, g, hc, h1⟩ := mm_arI_s h1
    split at h1
    · next e =>
      subst e
      cases h1
      obtain ⟨hq, hin⟩ := hp _ rfl
      obtain ⟨k0, hk0⟩ := mm_ws_get (tys := tys) hq
      have hk1 := hk0
      rw [hc] at hk1
      refine va_zast hx hb hK hr.1 hr.2.1 hS k0 1 hk1 (mm_ty_at hty (by decide)) hin hd (fun H2 locs2 hP2 hD2 hS2 => ?_)
      have es := mm_ws_set (c := .inl (1, n, .inl (upd g j.toNatClampNeg (vp_nar .boolean x)))) hr.2.1 hq hk0
      exact kk la H2 locs2 hl (by unfold mm_rep; exact ⟨es ▸ hP2, es ▸ hD2, mm_mk_up hr.2.2 (fun z => by cases z)⟩) hS2
    split at h1
    · next e =>
      subst e
      cases h1
      obtain ⟨hq, hin⟩ := hp _ rfl
      obtain ⟨k0, hk0⟩ := mm_ws_get (tys := tys) hq
      have hk1 := hk0
      rw [hc] at hk1
      refine va_bast hx hb hK hr.1 hr.2.1 hS k0 4 hk1 (mm_ty_at hty (by decide)) hin hd (fun H2 locs2 hP2 hD2 hS2 => ?_)
      have es := mm_ws_set (c := .inl (4, n, .inl (upd g j.toNatClampNeg (vp_nar .byte x)))) hr.2.1 hq hk0
      exact kk la H2 locs2 hl (by unfold mm_rep; exact ⟨es ▸ hP2, es ▸ hD2, mm_mk_up hr.2.2 (fun z => by cases z)⟩) hS2
    · cases h1
  · cases h1
theorem mm_s_aastore (C : mm_Cx p s m args meth c cc nL o ini D tys) : mm_G p l e R s m args below meth c cells slots Q cc nL o ini D tys b0 H0 (.aastore) := by
  intro a b pc st ls h r h1 hp hd hk kk la H locs hl hr hS
  obtain ⟨hx, hb, hml, hts, hnw, hown, hini, hK, hty⟩ := C
  simp only [mm_st] at h1
  split at h1
  · next v j q t =>
    obtain ⟨ti, n, g, hc, h1⟩ := mm_arR_s h1
    obtain ⟨ci, fs, hv, h1⟩ := mm_obj_s h1
    cases h1
    obtain ⟨hq, hvq, hti, hci, hin⟩ := hp _ rfl
    obtain ⟨k0, hk0⟩ := mm_ws_get (tys := tys) hq
    have hk1 := hk0
    rw [hc] at hk1
    obtain ⟨k2, hk2⟩ := mm_ws_get (tys := tys) hvq
    rw [hv] at hk2
    have h9 : ti < 9 := by
      have := (List.getElem?_eq_some_iff.mp hti).1
      exact this
    have hta := mm_ty_at hty h9
    rw [List.getD_eq_getElem?_getD (l := mm_tyl), hti] at hta
    refine va_astq hx hb hK hr.1 hr.2.1 hS k0 ti k2 ci hk1 hta hk2 (mm_cl_at hci) hin hd (fun H2 locs2 hP2 hD2 hS2 => ?_)
    have es := mm_ws_set (c := .inl (ti, n, .inr (.inr (.inr (.inr (va_up g j.toNatClampNeg (some v))))))) hr.2.1 hq hk0
    exact kk la H2 locs2 hl (by unfold mm_rep; exact ⟨es ▸ hP2, es ▸ hD2, mm_mk_up hr.2.2 (fun z => by cases z)⟩) hS2
  · cases h1
theorem mm_s_arraylength (C : mm_Cx p s m args meth c cc nL o ini D tys) : mm_G p l e R s m args below meth c cells slots Q cc nL o ini D tys b0 H0 (.arraylength) := by
  intro a b pc st ls h r h1 hp hd hk kk la H locs hl hr hS
  obtain ⟨hx, hb, hml, hts, hnw, hown, hini, hK, hty⟩ := C
  simp only [mm_st] at h1
  obtain ⟨q, t, rfl, h2⟩ := mm_a1_s h1
  clear h1
  split at h2
  · next ti x hc =>
    cases h2
    obtain ⟨hq, h9⟩ := hp _ rfl
    obtain ⟨k0, hk0⟩ := mm_ws_get (tys := tys) hq
    rw [hc] at hk0
    exact va_alen hx hb hK hr.1 k0 ti hk0 (mm_ty_at hty h9) rfl hd (kk la H locs hl hr hS)
  · cases h2
theorem mm_s_tableswitch (C : mm_Cx p s m args meth c cc nL o ini D tys) (d lo hi : Int) (offs : Array Int) : mm_G p l e R s m args below meth c cells slots Q cc nL o ini D tys b0 H0 (.tableswitch d lo hi offs) := by
  intro a b pc st ls h r h1 hp hd hk kk la H locs hl hr hS
  obtain ⟨hx, hb, hml, hts, hnw, hown, hini, hK, hty⟩ := C
  simp only [mm_st] at h1
  obtain ⟨x, t, rfl, h1⟩ := mm_i1_s h1
  cases h1
  obtain ⟨h0, ho, hsz⟩ := hp _ rfl
  by_cases hz : x.toInt < lo ∨ hi < x.toInt
  · simp only [hz, if_true] at kk
    exact lv_tableOut hx hb hd hz (mm_to_ok h0) (kk la H locs hl hr hS)
  · simp only [hz, if_false] at kk
    have hlt : (x.toInt - lo).toNat < offs.size := by omega
    have e1 : offs[(x.toInt - lo).toNat]? = some offs[(x.toInt - lo).toNat] := Array.getElem?_eq_getElem hlt
    rw [e1] at kk
    simp only [Option.getD_some] at kk
    exact lv_tableIn hx hb hd (fun q => hz (Or.inl q)) (fun q => hz (Or.inr q)) e1 (mm_to_ok (ho _ (by simp))) (kk la H locs hl hr hS)
theorem mm_s_i2d (C : mm_Cx p s m args meth c cc nL o ini D tys) : mm_G p l e R s m args below meth c cells slots Q cc nL o ini D tys b0 H0 (.i2d) := by
  intro a b pc st ls h r h1 hp hd hk kk la H locs hl hr hS
  obtain ⟨hx, hb, hml, hts, hnw, hown, hini, hK, hty⟩ := C
  simp only [mm_st] at h1
  obtain ⟨x, t, rfl, h1⟩ := mm_i1_s h1
  cases h1
  exact lv_i2d hx hb hd (kk la H locs hl hr hS)
theorem mm_s_i2f (C : mm_Cx p s m args meth c cc nL o ini D tys) : mm_G p l e R s m args below meth c cells slots Q cc nL o ini D tys b0 H0 (.i2f) := by
  intro a b pc st ls h r h1 hp hd hk kk la H locs hl hr hS
  obtain ⟨hx, hb, hml, hts, hnw, hown, hini, hK, hty⟩ := C
  simp only [mm_st] at h1
  obtain ⟨x, t, rfl, h1⟩ := mm_i1_s h1
  cases h1
  exact lv_i2f hx hb hd (kk la H locs hl hr hS)
theorem mm_s_ddiv (C : mm_Cx p s m args meth c cc nL o ini D tys) : mm_G p l e R s m args below meth c cells slots Q cc nL o ini D tys b0 H0 (.ddiv) := by
  intro a b pc st ls h r h1 hp hd hk kk la H locs hl hr hS
  obtain ⟨hx, hb, hml, hts, hnw, hown, hini, hK, hty⟩ := C
  simp only [mm_st] at h1
  split at h1
  · cases h1
    exact lv_ddiv hx hb hd (hp _ rfl) (kk la H locs hl hr hS)
  · cases h1
theorem mm_s_fdiv (C : mm_Cx p s m args meth c cc nL o ini D tys) : mm_G p l e R s m args below meth c cells slots Q cc nL o ini D tys b0 H0 (.fdiv) := by
  intro a b pc st ls h r h1 hp hd hk kk la H locs hl hr hS
  obtain ⟨hx, hb, hml, hts, hnw, hown, hini, hK, hty⟩ := C
  simp only [mm_st] at h1
  split at h1
  · cases h1
    exact lv_fdiv hx hb hd (hp _ rfl) (kk la H locs hl hr hS)
  · cases h1
theorem mm_s_f2d (C : mm_Cx p s m args meth c cc nL o ini D tys) : mm_G p l e R s m args below meth c cells slots Q cc nL o ini D tys b0 H0 (.f2d) := by
  intro a b pc st ls h r h1 hp hd hk kk la H locs hl hr hS
  obtain ⟨hx, hb, hml, hts, hnw, hown, hini, hK, hty⟩ := C
  simp only [mm_st] at h1
  split at h1
  · cases h1
    exact lv_f2d hx hb hd (hp _ rfl) (kk la H locs hl hr hS)
  · cases h1
theorem mm_s_dcmp (C : mm_Cx p s m args meth c cc nL o ini D tys) (op : CmpOp) : mm_G p l e R s m args below meth c cells slots Q cc nL o ini D tys b0 H0 (.dcmp op) := by
  intro a b pc st ls h r h1 hp hd hk kk la H locs hl hr hS
  obtain ⟨hx, hb, hml, hts, hnw, hown, hini, hK, hty⟩ := C
  simp only [mm_st] at h1
  split at h1
  · cases h1
    exact lv_dcmp hx hb hd (kk la H locs hl hr hS)
  · cases h1
theorem mm_s_fcmp (C : mm_Cx p s m args meth c cc nL o ini D tys) (op : CmpOp) : mm_G p l e R s m args below meth c cells slots Q cc nL o ini D tys b0 H0 (.fcmp op) := by
  intro a b pc st ls h r h1 hp hd hk kk la H locs hl hr hS
  obtain ⟨hx, hb, hml, hts, hnw, hown, hini, hK, hty⟩ := C
  simp only [mm_st] at h1
  split at h1
  · cases h1
    exact lv_fcmp hx hb hd (kk la H locs hl hr hS)
  · cases h1
theorem mm_s_dload (C : mm_Cx p s m args meth c cc nL o ini D tys) (i : Nat) : mm_G p l e R s m args below meth c cells slots Q cc nL o ini D tys b0 H0 (.dload i) := by
  intro a b pc st ls h r h1 hp hd hk kk la H locs hl hr hS
  obtain ⟨hx, hb, hml, hts, hnw, hown, hini, hK, hty⟩ := C
  simp only [mm_st] at h1
  split at h1
  · next x hg =>
    cases h1
    exact lv_dload hx hb hd (mm_at hl hg) (kk la H locs hl hr hS)
  · cases h1
theorem mm_s_fload (C : mm_Cx p s m args meth c cc nL o ini D tys) (i : Nat) : mm_G p l e R s m args below meth c cells slots Q cc nL o ini D tys b0 H0 (.fload i) := by
  intro a b pc st ls h r h1 hp hd hk kk la H locs hl hr hS
  obtain ⟨hx, hb, hml, hts, hnw, hown, hini, hK, hty⟩ := C
  simp only [mm_st] at h1
  split at h1
  · next x hg =>
    cases h1
    exact lv_fload hx hb hd (mm_at hl hg) (kk la H locs hl hr hS)
  · cases h1
theorem mm_s_dstore (C : mm_Cx p s m args meth c cc nL o ini D tys) (i : Nat) : mm_G p l e R s m args below meth c cells slots Q cc nL o ini D tys b0 H0 (.dstore i) := by
  intro a b pc st ls h r h1 hp hd hk kk la H locs hl hr hS
  obtain ⟨hx, hb, hml, hts, hnw, hown, hini, hK, hty⟩ := C
  simp only [mm_st] at h1
  split at h1
  · cases h1
    simp only [mm_lk, decide_eq_true_eq] at hk
    exact lv_dstore hx hb hd hl hk rfl (fun la2 hl2 => kk la2 H locs hl2 hr hS)
  · cases h1
theorem mm_s_fstore (C : mm_Cx p s m args meth c cc nL o ini D tys) (i : Nat) : mm_G p l e R s m args below meth c cells slots Q cc nL o ini D tys b0 H0 (.fstore i) := by
  intro a b pc st ls h r h1 hp hd hk kk la H locs hl hr hS
  obtain ⟨hx, hb, hml, hts, hnw, hown, hini, hK, hty⟩ := C
  simp only [mm_st] at h1
  split at h1
  · cases h1
    simp only [mm_lk, decide_eq_true_eq] at hk
    exact lv_fstore hx hb hd hl hk rfl (fun la2 hl2 => kk la2 H locs hl2 hr hS)
  · cases h1
theorem mm_s_dconst (C : mm_Cx p s m args meth c cc nL o ini D tys) (d : Fin 2) : mm_G p l e R s m args below meth c cells slots Q cc nL o ini D tys b0 H0 (.dconst d) := by
  intro a b pc st ls h r h1 hp hd hk kk la H locs hl hr hS
  obtain ⟨hx, hb, hml, hts, hnw, hown, hini, hK, hty⟩ := C
  simp only [mm_st] at h1
  split at h1
  · next e =>
    subst e
    cases h1
    exact lv_dconst0 hx hb hd (kk la H locs hl hr hS)
  · cases h1
theorem mm_s_fconst (C : mm_Cx p s m args meth c cc nL o ini D tys) (d : Fin 3) : mm_G p l e R s m args below meth c cells slots Q cc nL o ini D tys b0 H0 (.fconst d) := by
  intro a b pc st ls h r h1 hp hd hk kk la H locs hl hr hS
  obtain ⟨hx, hb, hml, hts, hnw, hown, hini, hK, hty⟩ := C
  simp only [mm_st] at h1
  split at h1
  · next e =>
    subst e
    cases h1
    exact lv_fconst0 hx hb hd (kk la H locs hl hr hS)
  · cases h1
theorem mm_s_dastore (C : mm_Cx p s m args meth c cc nL o ini D tys) : mm_G p l e R s m args below meth c cells slots Q cc nL o ini D tys b0 H0 (.dastore) := by
  intro a b pc st ls h r h1 hp hd hk kk la H locs hl hr hS
  obtain ⟨hx, hb, hml, hts, hnw, hown, hini, hK, hty⟩ := C
  simp only [mm_st] at h1
  split at h1
  · next x j q t =>
    obtain ⟨ti, n, g, hc, h1⟩ := mm_arD_s h1
    cases h1
    obtain ⟨hq, rfl, hin⟩ := hp _ rfl
    obtain ⟨k0, hk0⟩ := mm_ws_get (tys := tys) hq
    have hk1 := hk0
    rw [hc] at hk1
    refine va_dast hx hb hK hr.1 hr.2.1 hS k0 3 hk1 (mm_ty_at hty (by decide)) hin hd (fun H2 locs2 hP2 hD2 hS2 => ?_)
    have es := mm_ws_set (c := .inl (3, n, .inr (.inr (.inr (.inl (vf_upd g j.toNatClampNeg x)))))) hr.2.1 hq hk0
    have kk2 := kk la H2 locs2 hl (by unfold mm_rep; exact ⟨es ▸ hP2, es ▸ hD2, mm_mk_up hr.2.2 (fun z => by cases z)⟩) hS2
    exact kk2
  · cases h1
theorem mm_step (C : mm_Cx p s m args meth c cc nL o ini D tys) (ins : Instr) : mm_G p l e R s m args below meth c cells slots Q cc nL o ini D tys b0 H0 ins := by
  intro a b pc st ls h r h1
  cases ins with
  | ldc_w x0 => exact mm_s_ldc_w C x0 a b pc st ls h r h1
  | i2d => exact mm_s_i2d C  a b pc st ls h r h1
  | i2f => exact mm_s_i2f C  a b pc st ls h r h1
  | ddiv => exact mm_s_ddiv C  a b pc st ls h r h1
  | fdiv => exact mm_s_fdiv C  a b pc st ls h r h1
  | f2d => exact mm_s_f2d C  a b pc st ls h r h1
  | dcmp x0 => exact mm_s_dcmp C x0 a b pc st ls h r h1
  | fcmp x0 => exact mm_s_fcmp C x0 a b pc st ls h r h1
  | dload x0 => exact mm_s_dload C x0 a b pc st ls h r h1
  | fload x0 => exact mm_s_fload C x0 a b pc st ls h r h1
  | dstore x0 => exact mm_s_dstore C x0 a b pc st ls h r h1
  | fstore x0 => exact mm_s_fstore C x0 a b pc st ls h r h1
  | dconst x0 => exact mm_s_dconst C x0 a b pc st ls h r h1
  | fconst x0 => exact mm_s_fconst C x0 a b pc st ls h r h1
  | dastore => exact mm_s_dastore C  a b pc st ls h r h1
  | iconst x0 => exact mm_s_iconst C x0 a b pc st ls h r h1
  | bipush x0 => exact mm_s_bipush C x0 a b pc st ls h r h1
  | sipush x0 => exact mm_s_sipush C x0 a b pc st ls h r h1
  | lconst x0 => exact mm_s_lconst C x0 a b pc st ls h r h1
  | ldc x0 => exact mm_s_ldc C x0 a b pc st ls h r h1
  | ldc2_w x0 => exact mm_s_ldc2_w C x0 a b pc st ls h r h1
  | iload x0 => exact mm_s_iload C x0 a b pc st ls h r h1
  | iload_n x0 => exact mm_s_iload_n C x0 a b pc st ls h r h1
  | lload x0 => exact mm_s_lload C x0 a b pc st ls h r h1
  | lload_n x0 => exact mm_s_lload_n C x0 a b pc st ls h r h1
  | aload x0 => exact mm_s_aload C x0 a b pc st ls h r h1
  | aload_n x0 => exact mm_s_aload_n C x0 a b pc st ls h r h1
  | istore x0 => exact mm_s_istore C x0 a b pc st ls h r h1
  | istore_n x0 => exact mm_s_istore_n C x0 a b pc st ls h r h1
  | lstore x0 => exact mm_s_lstore C x0 a b pc st ls h r h1
  | lstore_n x0 => exact mm_s_lstore_n C x0 a b pc st ls h r h1
  | astore x0 => exact mm_s_astore C x0 a b pc st ls h r h1
  | astore_n x0 => exact mm_s_astore_n C x0 a b pc st ls h r h1
  | iinc x0 x1 => exact mm_s_iinc C x0 x1 a b pc st ls h r h1
  | iadd => exact mm_s_iadd C  a b pc st ls h r h1
  | isub => exact mm_s_isub C  a b pc st ls h r h1
  | imul => exact mm_s_imul C  a b pc st ls h r h1
  | iand => exact mm_s_iand C  a b pc st ls h r h1
  | ior => exact mm_s_ior C  a b pc st ls h r h1
  | idiv => exact mm_s_idiv C  a b pc st ls h r h1
  | irem => exact mm_s_irem C  a b pc st ls h r h1
  | ineg => exact mm_s_ineg C  a b pc st ls h r h1
  | ishl => exact mm_s_ishl C  a b pc st ls h r h1
  | ishr => exact mm_s_ishr C  a b pc st ls h r h1
  | iushr => exact mm_s_iushr C  a b pc st ls h r h1
  | land => exact mm_s_land C  a b pc st ls h r h1
  | lor => exact mm_s_lor C  a b pc st ls h r h1
  | lshl => exact mm_s_lshl C  a b pc st ls h r h1
  | lshr => exact mm_s_lshr C  a b pc st ls h r h1
  | lcmp => exact mm_s_lcmp C  a b pc st ls h r h1
  | i2l => exact mm_s_i2l C  a b pc st ls h r h1
  | l2i => exact mm_s_l2i C  a b pc st ls h r h1
  | i2c => exact mm_s_i2c C  a b pc st ls h r h1
  | i2b => exact mm_s_i2b C  a b pc st ls h r h1
  | dup => exact mm_s_dup C  a b pc st ls h r h1
  | dup2 => exact mm_s_dup2 C  a b pc st ls h r h1
  | dup_x1 => exact mm_s_dup_x1 C  a b pc st ls h r h1
  | pop => exact mm_s_pop C  a b pc st ls h r h1
  | goto x0 => exact mm_s_goto C x0 a b pc st ls h r h1
  | ifCond x0 x1 => exact mm_s_ifCond C x0 x1 a b pc st ls h r h1
  | if_icmp x0 x1 => exact mm_s_if_icmp C x0 x1 a b pc st ls h r h1
  | getfield x0 => exact mm_s_getfield C x0 a b pc st ls h r h1
  | putfield x0 => exact mm_s_putfield C x0 a b pc st ls h r h1
  | iaload => exact mm_s_iaload C  a b pc st ls h r h1
  | baload => exact mm_s_baload C  a b pc st ls h r h1
  | laload => exact mm_s_laload C  a b pc st ls h r h1
  | daload => exact mm_s_daload C  a b pc st ls h r h1
  | aaload => exact mm_s_aaload C  a b pc st ls h r h1
  | iastore => exact mm_s_iastore C  a b pc st ls h r h1
  | bastore => exact mm_s_bastore C  a b pc st ls h r h1
  | lastore => exact mm_s_lastore C  a b pc st ls h r h1
  | aastore => exact mm_s_aastore C  a b pc st ls h r h1
  | arraylength => exact mm_s_arraylength C  a b pc st ls h r h1
  | tableswitch x0 x1 x2 x3 => exact mm_s_tableswitch C x0 x1 x2 x3 a b pc st ls h r h1
  | _ => simp [mm_st] at h1
end MMS
end
section
/-- the classes that are thrown; a place of throwing: the owner, the indexes of class, text and constructor, the class, whether the text has a wide index -/
def mm_exc : List String := ["java/lang/UnsupportedOperationException", "java/lang/IndexOutOfBoundsException", "java/lang/IllegalArgumentException", "java/util/NoSuchElementException", "java/lang/IllegalStateException", "java/lang/ArithmeticException", "java/lang/OutOfMemoryError"]
def mm_thr : List (Nat × Nat × Nat × Nat × Nat × Nat) := [(5, 76, 78, 80, 0, 0), (5, 76, 94, 80, 0, 0), (5, 76, 103, 80, 0, 0), (5, 76, 111, 80, 0, 0), (5, 76, 120, 80, 0, 0), (5, 76, 129, 80, 0, 0), (5, 76, 137, 80, 0, 0), (5, 76, 145, 80, 0, 0), (5, 158, 160, 162, 1, 0), (5, 190, 192, 194, 2, 0), (5, 158, 198, 162, 1, 0), (5, 190, 215, 194, 2, 0), (5, 158, 220, 162, 1, 0), (5, 190, 252, 194, 2, 0), (5, 257, 259, 261, 3, 1), (5, 158, 262, 162, 1, 1), (5, 257, 275, 261, 3, 1), (5, 158, 285, 162, 1, 1), (5, 257, 287, 261, 3, 1), (5, 257, 300, 261, 3, 1), (5, 190, 306, 194, 2, 1), (5, 257, 325, 261, 3, 1), (5, 190, 330, 194, 2, 1), (5, 257, 335, 261, 3, 1), (5, 190, 350, 194, 2, 1), (5, 358, 360, 362, 4, 1), (5, 190, 374, 194, 2, 1), (5, 76, 379, 80, 0, 1), (5, 190, 384, 194, 2, 1), (5, 257, 386, 261, 3, 1), (5, 158, 401, 162, 1, 1), (5, 190, 423, 194, 2, 1), (5, 425, 427, 429, 5, 1), (5, 358, 433, 362, 4, 1), (5, 358, 435, 362, 4, 1), (8, 120, 122, 124, 6, 0)]
def mm_th (a : Nat) : Nat × Nat × Nat × Nat × Nat × Nat := mm_thr.getD a (0, 0, 0, 0, 0, 0)
def mm_tk (o : Nat) (c : ByteArray) (pc : Nat) (ins : Instr) (a b : Nat) : Bool := match ins with
  | .new i => if b = 16 then decide ((mm_th a).1 = o) && decide ((mm_th a).2.1 = i) && decide ((mm_th a).2.2.2.2.2 = 0) && decide (a < mm_thr.length) && decide (decode c (pc + 3) = .ok (.dup, 1)) && decide (decode c (pc + 4) = .ok (.ldc (mm_th a).2.2.1, 2)) && decide (decode c (pc + 6) = .ok (.invokespecial (mm_th a).2.2.2.1, 3)) && decide (decode c (pc + 9) = .ok (.athrow, 1))
    else if b = 17 then decide ((mm_th a).1 = o) && decide ((mm_th a).2.1 = i) && decide ((mm_th a).2.2.2.2.2 = 1) && decide (a < mm_thr.length) && decide (decode c (pc + 3) = .ok (.dup, 1)) && decide (decode c (pc + 4) = .ok (.ldc_w (mm_th a).2.2.1, 3)) && decide (decode c (pc + 7) = .ok (.invokespecial (mm_th a).2.2.2.1, 3)) && decide (decode c (pc + 10) = .ok (.athrow, 1))
    else true
  | _ => true
def mm_ini (a : Nat) : Bool := (mm_m a).2.1.name == "<init>"
/-- what holds of each row of a code -/
def mm_eok (y : Nat) (e : mm_E) : Bool := decide (decode (mm_m y).2.2.1 e.1 = .ok (e.2.1, mm_len e.2.1 e.2.2.2)) && (mm_lk (mm_m y).1 (mm_m y).2.2.2.1 (mm_ini y) e.2.1 e.2.2.1 e.2.2.2 && mm_tk (mm_m y).1 (mm_m y).2.2.1 e.1 e.2.1 e.2.2.1 e.2.2.2)
def k_X0_init : List mm_E := [(0, .aload_n 0, 0, 0), (1, .invokespecial 3, 0, 128), (4, .aload_n 0, 0, 0), (5, .bipush 30, 0, 0), (7, .putfield 9, 0, 0), (10, .aload_n 0, 0, 0), (11, .iconst 0, 0, 0), (12, .putfield 15, 0, 2), (15, .aload_n 0, 0, 0), (16, .iconst 0, 0, 0), (17, .putfield 18, 0, 3), (20, .aload_n 0, 0, 0), (21, .iconst 0, 0, 0), (22, .putfield 21, 0, 4), (25, .aload_n 0, 0, 0), (26, .iload_n 1, 0, 0), (27, .putfield 24, 0, 1), (30, .return_, 0, 0)]
def k_X0_copyFrom : List mm_E := [(0, .aload_n 0, 0, 0), (1, .aload_n 1, 0, 0), (2, .getfield 9, 0, 0), (5, .putfield 9, 0, 0), (8, .aload_n 0, 0, 0), (9, .aload_n 1, 0, 0), (10, .getfield 24, 0, 1), (13, .putfield 24, 0, 1), (16, .aload_n 0, 0, 0), (17, .aload_n 1, 0, 0), (18, .getfield 15, 0, 2), (21, .putfield 15, 0, 2), (24, .aload_n 0, 0, 0), (25, .aload_n 1, 0, 0), (26, .getfield 18, 0, 3), (29, .putfield 18, 0, 3), (32, .aload_n 0, 0, 0), (33, .aload_n 1, 0, 0), (34, .getfield 21, 0, 4), (37, .putfield 21, 0, 4), (40, .return_, 0, 0)]
def k_X1_init : List mm_E := [(0, .aload_n 0, 0, 0), (1, .invokespecial 3, 0, 128), (4, .aload_n 0, 0, 0), (5, .new 9, 7, 9), (8, .dup, 0, 0), (9, .invokespecial 11, 241, 96), (12, .putfield 12, 1, 0), (15, .aload_n 0, 0, 0), (16, .bipush 15, 0, 0), (18, .newarray .int, 0, 0), (20, .putfield 18, 1, 1), (23, .aload_n 0, 0, 0), (24, .bipush 15, 0, 0), (26, .iconst 3, 0, 0), (27, .multianewarray 22 2, 8, 18), (31, .putfield 24, 1, 2), (34, .aload_n 0, 0, 0), (35, .iconst 0, 0, 0), (36, .putfield 27, 1, 3), (39, .return_, 0, 0)]
def k_X1_formOf : List mm_E := []
def k_X1_isDigit : List mm_E := [(0, .iload_n 0, 0, 0), (1, .bipush 48, 0, 0), (3, .bipush 57, 0, 0), (5, .invokestatic 49, 117, 51), (8, .ireturn, 0, 0)]
def k_X1_read : List mm_E := [(0, .aload_n 0, 0, 0), (1, .iconst 0, 0, 0), (2, .putfield 27, 1, 3), (5, .iconst 0, 0, 0), (6, .istore_n 1, 0, 0), (7, .iconst 0, 0, 0), (8, .istore_n 2, 0, 0), (9, .iload_n 2, 0, 0), (10, .bipush 15, 0, 0), (12, .if_icmp .ge 89, 0, 0), (15, .aload_n 0, 0, 0), (16, .iload_n 1, 0, 0), (17, .invokevirtual 53, 6, 65), (20, .istore_n 3, 0, 0), (21, .aload_n 0, 0, 0), (22, .iload_n 3, 0, 0), (23, .invokestatic 57, 3, 33), (26, .iload_n 1, 0, 0), (27, .invokevirtual 61, 7, 66), (30, .istore 4, 0, 0), (32, .iload 4, 0, 0), (34, .iload_n 3, 0, 0), (35, .invokestatic 57, 3, 33), (38, .invokevirtual 65, 262, 64), (41, .if_icmp .ge 8, 0, 0), (44, .iload_n 1, 0, 0), (45, .iload 4, 0, 0), (47, .iadd, 0, 0), (48, .ireturn, 0, 0), (49, .aload_n 0, 0, 0), (50, .iload_n 2, 0, 0), (51, .iload_n 3, 0, 0), (52, .iload_n 1, 0, 0), (53, .invokevirtual 71, 8, 67), (56, .istore_n 1, 0, 0), (57, .aload_n 0, 0, 0), (58, .iload_n 2, 0, 0), (59, .iconst 1, 0, 0), (60, .iadd, 0, 0), (61, .putfield 27, 1, 3), (64, .iload_n 1, 0, 0), (65, .aload_n 0, 0, 0), (66, .getfield 12, 1, 0), (69, .invokevirtual 75, 246, 64), (72, .if_icmp .lt 5, 0, 0), (75, .iconst (-1), 0, 0), (76, .ireturn, 0, 0), (77, .aload_n 0, 0, 0), (78, .getfield 12, 1, 0), (81, .iload_n 1, 0, 0), (82, .invokevirtual 76, 244, 65), (85, .bipush 59, 0, 0), (87, .if_icmp .eq 5, 0, 0), (90, .iload_n 1, 0, 0), (91, .ireturn, 0, 0), (92, .iinc 1 1, 0, 0), (95, .iinc 2 1, 0, 0), (98, .goto (-89), 0, 0), (101, .iload_n 1, 0, 0), (102, .ireturn, 0, 0)]
def k_X1_kindThatGoesFarthest : List mm_E := [(0, .iconst 0, 0, 0), (1, .istore_n 2, 0, 0), (2, .iconst 0, 0, 0), (3, .istore_n 3, 0, 0), (4, .iconst 0, 0, 0), (5, .istore 4, 0, 0), (7, .iload 4, 0, 0), (9, .bipush 9, 0, 0), (11, .if_icmp .ge 33, 0, 0), (14, .aload_n 0, 0, 0), (15, .iload 4, 0, 0), (17, .invokestatic 57, 3, 33), (20, .iload_n 1, 0, 0), (21, .invokevirtual 61, 7, 66), (24, .istore 5, 0, 0), (26, .iload 5, 0, 0), (28, .iload_n 3, 0, 0), (29, .if_icmp .le 9, 0, 0), (32, .iload 5, 0, 0), (34, .istore_n 3, 0, 0), (35, .iload 4, 0, 0), (37, .istore_n 2, 0, 0), (38, .iinc 4 1, 0, 0), (41, .goto (-34), 0, 0), (44, .iload_n 2, 0, 0), (45, .ireturn, 0, 0)]
def k_X1_charactersThatFit : List mm_E := [(0, .iconst 0, 0, 0), (1, .istore_n 3, 0, 0), (2, .iload_n 3, 0, 0), (3, .aload_n 1, 0, 0), (4, .invokevirtual 65, 262, 64), (7, .if_icmp .ge 70, 0, 0), (10, .iload_n 2, 0, 0), (11, .iload_n 3, 0, 0), (12, .iadd, 0, 0), (13, .aload_n 0, 0, 0), (14, .getfield 12, 1, 0), (17, .invokevirtual 75, 246, 64), (20, .if_icmp .lt 5, 0, 0), (23, .iload_n 3, 0, 0), (24, .ireturn, 0, 0), (25, .aload_n 1, 0, 0), (26, .iload_n 3, 0, 0), (27, .invokevirtual 80, 263, 65), (30, .istore 4, 0, 0), (32, .aload_n 0, 0, 0), (33, .getfield 12, 1, 0), (36, .iload_n 2, 0, 0), (37, .iload_n 3, 0, 0), (38, .iadd, 0, 0), (39, .invokevirtual 76, 244, 65), (42, .istore 5, 0, 0), (44, .iload 4, 0, 0), (46, .bipush 35, 0, 0), (48, .if_icmp .ne 14, 0, 0), (51, .iload 5, 0, 0), (53, .invokestatic 81, 4, 33), (56, .ifCond .ne 15, 0, 0), (59, .goto 10, 0, 0), (62, .iload 5, 0, 0), (64, .iload 4, 0, 0), (66, .if_icmp .eq 5, 0, 0), (69, .iload_n 3, 0, 0), (70, .ireturn, 0, 0), (71, .iinc 3 1, 0, 0), (74, .goto (-72), 0, 0), (77, .aload_n 1, 0, 0), (78, .invokevirtual 65, 262, 64), (81, .ireturn, 0, 0)]
def k_X1_readOrder : List mm_E := [(0, .iload_n 2, 0, 0), (1, .invokestatic 57, 3, 33), (4, .astore 4, 0, 0), (6, .aload_n 0, 0, 0), (7, .getfield 18, 1, 1), (10, .iload_n 1, 0, 0), (11, .iload_n 2, 0, 0), (12, .iastore, 0, 0), (13, .iconst 0, 0, 0), (14, .istore 5, 0, 0), (16, .iconst 0, 0, 0), (17, .istore 6, 0, 0), (19, .iload 6, 0, 0), (21, .aload 4, 0, 0), (23, .invokevirtual 65, 262, 64), (26, .if_icmp .ge 67, 0, 0), (29, .iload_n 3, 0, 0), (30, .iload 6, 0, 0), (32, .iadd, 0, 0), (33, .aload_n 0, 0, 0), (34, .getfield 12, 1, 0), (37, .invokevirtual 75, 246, 64), (40, .if_icmp .ge 53, 0, 0), (43, .aload 4, 0, 0), (45, .iload 6, 0, 0), (47, .invokevirtual 80, 263, 65), (50, .bipush 35, 0, 0), (52, .if_icmp .ne 35, 0, 0), (55, .iload 5, 0, 0), (57, .iconst 3, 0, 0), (58, .if_icmp .ge 29, 0, 0), (61, .aload_n 0, 0, 0), (62, .getfield 24, 1, 2), (65, .iload_n 1, 0, 0), (66, .aaload, 0, 0), (67, .iload 5, 0, 0), (69, .aload_n 0, 0, 0), (70, .getfield 12, 1, 0), (73, .iload_n 3, 0, 0), (74, .iload 6, 0, 0), (76, .iadd, 0, 0), (77, .invokevirtual 76, 244, 65), (80, .bipush 48, 0, 0), (82, .isub, 0, 0), (83, .iastore, 0, 0), (84, .iinc 5 1, 0, 0), (87, .iinc 6 1, 0, 0), (90, .goto (-71), 0, 0), (93, .iload_n 3, 0, 0), (94, .aload 4, 0, 0), (96, .invokevirtual 65, 262, 64), (99, .iadd, 0, 0), (100, .istore 6, 0, 0), (102, .iload_n 2, 0, 0), (103, .ifCond .ne 65, 0, 0), (106, .iload 6, 0, 0), (108, .aload_n 0, 0, 0), (109, .getfield 12, 1, 0), (112, .invokevirtual 75, 246, 64), (115, .if_icmp .ge 53, 0, 0), (118, .aload_n 0, 0, 0), (119, .getfield 12, 1, 0), (122, .iload 6, 0, 0), (124, .invokevirtual 76, 244, 65), (127, .invokestatic 81, 4, 33), (130, .ifCond .eq 38, 0, 0), (133, .aload_n 0, 0, 0), (134, .getfield 24, 1, 2), (137, .iload_n 1, 0, 0), (138, .aaload, 0, 0), (139, .iconst 2, 0, 0), (140, .bipush 10, 0, 0), (142, .aload_n 0, 0, 0), (143, .getfield 24, 1, 2), (146, .iload_n 1, 0, 0), (147, .aaload, 0, 0), (148, .iconst 2, 0, 0), (149, .iaload, 0, 0), (150, .imul, 0, 0), (151, .aload_n 0, 0, 0), (152, .getfield 12, 1, 0), (155, .iload 6, 0, 0), (157, .invokevirtual 76, 244, 65), (160, .iadd, 0, 0), (161, .bipush 48, 0, 0), (163, .isub, 0, 0), (164, .iastore, 0, 0), (165, .iinc 6 1, 0, 0), (168, .iload 6, 0, 0), (170, .ireturn, 0, 0)]
def k_X1_whyNotDo : List mm_E := [(0, .aload_n 0, 0, 0), (1, .getfield 24, 1, 2), (4, .iload_n 1, 0, 0), (5, .aaload, 0, 0), (6, .astore_n 3, 0, 0), (7, .aload_n 0, 0, 0), (8, .getfield 18, 1, 1), (11, .iload_n 1, 0, 0), (12, .iaload, 0, 0), (13, .tableswitch 132 0 7 #[47, 61, 69, 77, 91, 102, 113, 121], 0, 47), (60, .aload_n 2, 0, 0), (61, .aload_n 3, 0, 0), (62, .iconst 0, 0, 0), (63, .iaload, 0, 0), (64, .aload_n 3, 0, 0), (65, .iconst 1, 0, 0), (66, .iaload, 0, 0), (67, .aload_n 3, 0, 0), (68, .iconst 2, 0, 0), (69, .iaload, 0, 0), (70, .invokevirtual 85, 25, 67), (73, .lreturn, 0, 0), (74, .aload_n 2, 0, 0), (75, .aload_n 3, 0, 0), (76, .iconst 0, 0, 0), (77, .iaload, 0, 0), (78, .invokevirtual 91, 27, 65), (81, .lreturn, 0, 0), (82, .aload_n 2, 0, 0), (83, .aload_n 3, 0, 0), (84, .iconst 0, 0, 0), (85, .iaload, 0, 0), (86, .invokevirtual 95, 29, 65), (89, .lreturn, 0, 0), (90, .aload_n 2, 0, 0), (91, .aload_n 3, 0, 0), (92, .iconst 0, 0, 0), (93, .iaload, 0, 0), (94, .aload_n 3, 0, 0), (95, .iconst 1, 0, 0), (96, .iaload, 0, 0), (97, .aload_n 3, 0, 0), (98, .iconst 2, 0, 0), (99, .iaload, 0, 0), (100, .invokevirtual 98, 32, 67), (103, .lreturn, 0, 0), (104, .aload_n 2, 0, 0), (105, .aload_n 3, 0, 0), (106, .iconst 0, 0, 0), (107, .iaload, 0, 0), (108, .aload_n 3, 0, 0), (109, .iconst 1, 0, 0), (110, .iaload, 0, 0), (111, .invokevirtual 101, 34, 66), (114, .lreturn, 0, 0), (115, .aload_n 2, 0, 0), (116, .aload_n 3, 0, 0), (117, .iconst 0, 0, 0), (118, .iaload, 0, 0), (119, .aload_n 3, 0, 0), (120, .iconst 1, 0, 0), (121, .iaload, 0, 0), (122, .invokevirtual 105, 36, 66), (125, .lreturn, 0, 0), (126, .aload_n 2, 0, 0), (127, .aload_n 3, 0, 0), (128, .iconst 0, 0, 0), (129, .iaload, 0, 0), (130, .invokevirtual 108, 40, 65), (133, .lreturn, 0, 0), (134, .aload_n 2, 0, 0), (135, .aload_n 3, 0, 0), (136, .iconst 0, 0, 0), (137, .iaload, 0, 0), (138, .aload_n 3, 0, 0), (139, .iconst 1, 0, 0), (140, .iaload, 0, 0), (141, .invokevirtual 111, 42, 66), (144, .lreturn, 0, 0), (145, .lconst 0, 0, 0), (146, .lreturn, 0, 0)]
def k_X1_doOrder : List mm_E := [(0, .aload_n 0, 0, 0), (1, .getfield 24, 1, 2), (4, .iload_n 1, 0, 0), (5, .aaload, 0, 0), (6, .astore_n 3, 0, 0), (7, .aload_n 0, 0, 0), (8, .getfield 18, 1, 1), (11, .iload_n 1, 0, 0), (12, .iaload, 0, 0), (13, .tableswitch 132 0 7 #[47, 61, 69, 77, 91, 102, 113, 121], 0, 47), (60, .aload_n 2, 0, 0), (61, .aload_n 3, 0, 0), (62, .iconst 0, 0, 0), (63, .iaload, 0, 0), (64, .aload_n 3, 0, 0), (65, .iconst 1, 0, 0), (66, .iaload, 0, 0), (67, .aload_n 3, 0, 0), (68, .iconst 2, 0, 0), (69, .iaload, 0, 0), (70, .invokevirtual 114, 26, 67), (73, .ireturn, 0, 0), (74, .aload_n 2, 0, 0), (75, .aload_n 3, 0, 0), (76, .iconst 0, 0, 0), (77, .iaload, 0, 0), (78, .invokevirtual 117, 28, 65), (81, .ireturn, 0, 0), (82, .aload_n 2, 0, 0), (83, .aload_n 3, 0, 0), (84, .iconst 0, 0, 0), (85, .iaload, 0, 0), (86, .invokevirtual 120, 30, 65), (89, .ireturn, 0, 0), (90, .aload_n 2, 0, 0), (91, .aload_n 3, 0, 0), (92, .iconst 0, 0, 0), (93, .iaload, 0, 0), (94, .aload_n 3, 0, 0), (95, .iconst 1, 0, 0), (96, .iaload, 0, 0), (97, .aload_n 3, 0, 0), (98, .iconst 2, 0, 0), (99, .iaload, 0, 0), (100, .invokevirtual 123, 33, 67), (103, .ireturn, 0, 0), (104, .aload_n 2, 0, 0), (105, .aload_n 3, 0, 0), (106, .iconst 0, 0, 0), (107, .iaload, 0, 0), (108, .aload_n 3, 0, 0), (109, .iconst 1, 0, 0), (110, .iaload, 0, 0), (111, .invokevirtual 126, 35, 66), (114, .ireturn, 0, 0), (115, .aload_n 2, 0, 0), (116, .aload_n 3, 0, 0), (117, .iconst 0, 0, 0), (118, .iaload, 0, 0), (119, .aload_n 3, 0, 0), (120, .iconst 1, 0, 0), (121, .iaload, 0, 0), (122, .invokevirtual 130, 38, 66), (125, .ireturn, 0, 0), (126, .aload_n 2, 0, 0), (127, .aload_n 3, 0, 0), (128, .iconst 0, 0, 0), (129, .iaload, 0, 0), (130, .invokevirtual 133, 41, 65), (133, .ireturn, 0, 0), (134, .aload_n 2, 0, 0), (135, .aload_n 3, 0, 0), (136, .iconst 0, 0, 0), (137, .iaload, 0, 0), (138, .aload_n 3, 0, 0), (139, .iconst 1, 0, 0), (140, .iaload, 0, 0), (141, .invokevirtual 136, 43, 66), (144, .ireturn, 0, 0), (145, .aload_n 2, 0, 0), (146, .invokevirtual 139, 44, 64), (149, .ireturn, 0, 0)]
def k_X2_init : List mm_E := [(0, .aload_n 0, 0, 0), (1, .invokespecial 3, 0, 128), (4, .aload_n 0, 0, 0), (5, .iconst 0, 0, 0), (6, .putfield 9, 2, 0), (9, .aload_n 0, 0, 0), (10, .iconst 0, 0, 0), (11, .putfield 15, 2, 1), (14, .aload_n 0, 0, 0), (15, .iconst 0, 0, 0), (16, .putfield 18, 2, 2), (19, .aload_n 0, 0, 0), (20, .iconst 0, 0, 0), (21, .putfield 21, 2, 3), (24, .aload_n 0, 0, 0), (25, .iconst 0, 0, 0), (26, .putfield 24, 2, 4), (29, .aload_n 0, 0, 0), (30, .iconst (-1), 0, 0), (31, .putfield 27, 2, 5), (34, .aload_n 0, 0, 0), (35, .iconst 0, 0, 0), (36, .putfield 30, 2, 6), (39, .return_, 0, 0)]
def k_X2_copyFrom : List mm_E := [(0, .aload_n 0, 0, 0), (1, .aload_n 1, 0, 0), (2, .getfield 9, 2, 0), (5, .putfield 9, 2, 0), (8, .aload_n 0, 0, 0), (9, .aload_n 1, 0, 0), (10, .getfield 15, 2, 1), (13, .putfield 15, 2, 1), (16, .aload_n 0, 0, 0), (17, .aload_n 1, 0, 0), (18, .getfield 18, 2, 2), (21, .putfield 18, 2, 2), (24, .aload_n 0, 0, 0), (25, .aload_n 1, 0, 0), (26, .getfield 21, 2, 3), (29, .putfield 21, 2, 3), (32, .aload_n 0, 0, 0), (33, .aload_n 1, 0, 0), (34, .getfield 24, 2, 4), (37, .putfield 24, 2, 4), (40, .aload_n 0, 0, 0), (41, .aload_n 1, 0, 0), (42, .getfield 27, 2, 5), (45, .putfield 27, 2, 5), (48, .aload_n 0, 0, 0), (49, .aload_n 1, 0, 0), (50, .getfield 30, 2, 6), (53, .putfield 30, 2, 6), (56, .return_, 0, 0)]
def k_X2_startAnew : List mm_E := [(0, .aload_n 0, 0, 0), (1, .iload_n 1, 0, 0), (2, .iload_n 2, 0, 0), (3, .invokestatic 33, 0, 258), (6, .putfield 9, 2, 0), (9, .aload_n 0, 0, 0), (10, .iload_n 1, 0, 0), (11, .iload_n 2, 0, 0), (12, .invokestatic 39, 0, 274), (15, .putfield 15, 2, 1), (18, .aload_n 0, 0, 0), (19, .iload_n 3, 0, 0), (20, .putfield 18, 2, 2), (23, .aload_n 0, 0, 0), (24, .iconst 0, 0, 0), (25, .putfield 21, 2, 3), (28, .aload_n 0, 0, 0), (29, .iconst 0, 0, 0), (30, .putfield 24, 2, 4), (33, .aload_n 0, 0, 0), (34, .invokevirtual 42, 14, 64), (37, .return_, 0, 0)]
def k_X2_endLease : List mm_E := [(0, .aload_n 0, 0, 0), (1, .iconst (-1), 0, 0), (2, .putfield 27, 2, 5), (5, .aload_n 0, 0, 0), (6, .iconst 0, 0, 0), (7, .putfield 30, 2, 6), (10, .return_, 0, 0)]
def k_X2_isLeased : List mm_E := [(0, .aload_n 0, 0, 0), (1, .getfield 27, 2, 5), (4, .invokestatic 45, 118, 49), (7, .ireturn, 0, 0)]
def k_X2_isEnd : List mm_E := [(0, .aload_n 0, 0, 0), (1, .getfield 9, 2, 0), (4, .iload_n 1, 0, 0), (5, .if_icmp .eq 11, 0, 0), (8, .aload_n 0, 0, 0), (9, .getfield 15, 2, 1), (12, .iload_n 1, 0, 0), (13, .if_icmp .ne 7, 0, 0), (16, .iconst 1, 0, 0), (17, .goto 4, 0, 0), (20, .iconst 0, 0, 0), (21, .ireturn, 0, 0)]
def k_X2_otherEnd : List mm_E := [(0, .aload_n 0, 0, 0), (1, .getfield 9, 2, 0), (4, .iload_n 1, 0, 0), (5, .if_icmp .ne 10, 0, 0), (8, .aload_n 0, 0, 0), (9, .getfield 15, 2, 1), (12, .goto 7, 0, 0), (15, .aload_n 0, 0, 0), (16, .getfield 9, 2, 0), (19, .ireturn, 0, 0)]
def k_X2_rent : List mm_E := [(0, .iconst 1, 0, 0), (1, .aload_n 0, 0, 0), (2, .getfield 18, 2, 2), (5, .bipush 8, 0, 0), (7, .idiv, 0, 0), (8, .iadd, 0, 0), (9, .ireturn, 0, 0)]
def k_X2_dustPerDay : List mm_E := [(0, .iconst 1, 0, 0), (1, .aload_n 0, 0, 0), (2, .getfield 18, 2, 2), (5, .iconst 5, 0, 0), (6, .idiv, 0, 0), (7, .iadd, 0, 0), (8, .ireturn, 0, 0)]
def k_X2_costFor : List mm_E := [(0, .iload_n 1, 0, 0), (1, .iconst (-1), 0, 0), (2, .if_icmp .eq 11, 0, 0), (5, .aload_n 0, 0, 0), (6, .getfield 27, 2, 5), (9, .iload_n 1, 0, 0), (10, .if_icmp .ne 10, 0, 0), (13, .aload_n 0, 0, 0), (14, .getfield 18, 2, 2), (17, .goto 9, 0, 0), (20, .iconst 2, 0, 0), (21, .aload_n 0, 0, 0), (22, .getfield 18, 2, 2), (25, .imul, 0, 0), (26, .ireturn, 0, 0)]
def k_X2_keyOf : List mm_E := [(0, .iload_n 1, 0, 0), (1, .tableswitch 42 0 2 #[27, 32, 37], 0, 27), (28, .aload_n 0, 0, 0), (29, .getfield 18, 2, 2), (32, .ireturn, 0, 0), (33, .aload_n 0, 0, 0), (34, .getfield 21, 2, 3), (37, .ireturn, 0, 0), (38, .aload_n 0, 0, 0), (39, .getfield 30, 2, 6), (42, .ireturn, 0, 0), (43, .aload_n 0, 0, 0), (44, .invokevirtual 49, 18, 64), (47, .ireturn, 0, 0)]
def k_X3_init : List mm_E := [(0, .aload_n 0, 0, 0), (1, .invokespecial 3, 0, 128), (4, .aload_n 0, 0, 0), (5, .iconst 2, 0, 0), (6, .anewarray 9, 0, 10), (9, .putfield 11, 3, 0), (12, .aload_n 0, 0, 0), (13, .bipush 8, 0, 0), (15, .newarray .int, 0, 0), (17, .putfield 17, 3, 1), (20, .aload_n 0, 0, 0), (21, .bipush 10, 0, 0), (23, .anewarray 21, 2, 10), (26, .putfield 23, 3, 2), (29, .aload_n 0, 0, 0), (30, .iconst 0, 0, 0), (31, .putfield 27, 3, 3), (34, .aload_n 0, 0, 0), (35, .iconst 0, 0, 0), (36, .putfield 31, 3, 4), (39, .aload_n 0, 0, 0), (40, .iconst 0, 0, 0), (41, .putfield 34, 3, 5), (44, .aload_n 0, 0, 0), (45, .iconst 0, 0, 0), (46, .putfield 37, 3, 6), (49, .aload_n 0, 0, 0), (50, .iconst 0, 0, 0), (51, .putfield 40, 3, 7), (54, .aload_n 0, 0, 0), (55, .iconst 0, 0, 0), (56, .putfield 43, 3, 8), (59, .aload_n 0, 0, 0), (60, .iconst 0, 0, 0), (61, .putfield 46, 3, 9), (64, .iconst 0, 0, 0), (65, .istore_n 1, 0, 0), (66, .iload_n 1, 0, 0), (67, .bipush 8, 0, 0), (69, .if_icmp .ge 16, 0, 0), (72, .aload_n 0, 0, 0), (73, .getfield 17, 3, 1), (76, .iload_n 1, 0, 0), (77, .iconst 2, 0, 0), (78, .iastore, 0, 0), (79, .iinc 1 1, 0, 0), (82, .goto (-16), 0, 0), (85, .iconst 0, 0, 0), (86, .istore_n 1, 0, 0), (87, .iload_n 1, 0, 0), (88, .iconst 2, 0, 0), (89, .if_icmp .ge 30, 0, 0), (92, .aload_n 0, 0, 0), (93, .getfield 11, 3, 0), (96, .iload_n 1, 0, 0), (97, .new 9, 0, 9), (100, .dup, 0, 0), (101, .iload_n 1, 0, 0), (102, .invokespecial 49, 0, 97), (105, .aastore, 0, 0), (106, .aload_n 0, 0, 0), (107, .getfield 17, 3, 1), (110, .iload_n 1, 0, 0), (111, .iload_n 1, 0, 0), (112, .iastore, 0, 0), (113, .iinc 1 1, 0, 0), (116, .goto (-29), 0, 0), (119, .iconst 0, 0, 0), (120, .istore_n 1, 0, 0), (121, .iload_n 1, 0, 0), (122, .bipush 10, 0, 0), (124, .if_icmp .ge 22, 0, 0), (127, .aload_n 0, 0, 0), (128, .getfield 23, 3, 2), (131, .iload_n 1, 0, 0), (132, .new 21, 2, 9), (135, .dup, 0, 0), (136, .invokespecial 52, 11, 112), (139, .aastore, 0, 0), (140, .iinc 1 1, 0, 0), (143, .goto (-22), 0, 0), (146, .return_, 0, 0)]
def k_X3_copyFrom : List mm_E := [(0, .iconst 0, 0, 0), (1, .istore_n 2, 0, 0), (2, .iload_n 2, 0, 0), (3, .iconst 2, 0, 0), (4, .if_icmp .ge 24, 0, 0), (7, .aload_n 0, 0, 0), (8, .getfield 11, 3, 0), (11, .iload_n 2, 0, 0), (12, .aaload, 0, 0), (13, .aload_n 1, 0, 0), (14, .getfield 11, 3, 0), (17, .iload_n 2, 0, 0), (18, .aaload, 0, 0), (19, .invokevirtual 53, 1, 65), (22, .iinc 2 1, 0, 0), (25, .goto (-23), 0, 0), (28, .aload_n 1, 0, 0), (29, .getfield 17, 3, 1), (32, .iconst 0, 0, 0), (33, .aload_n 0, 0, 0), (34, .getfield 17, 3, 1), (37, .iconst 0, 0, 0), (38, .bipush 8, 0, 0), (40, .invokestatic 57, 0, 245), (43, .iconst 0, 0, 0), (44, .istore_n 2, 0, 0), (45, .iload_n 2, 0, 0), (46, .bipush 10, 0, 0), (48, .if_icmp .ge 24, 0, 0), (51, .aload_n 0, 0, 0), (52, .getfield 23, 3, 2), (55, .iload_n 2, 0, 0), (56, .aaload, 0, 0), (57, .aload_n 1, 0, 0), (58, .getfield 23, 3, 2), (61, .iload_n 2, 0, 0), (62, .aaload, 0, 0), (63, .invokevirtual 63, 12, 65), (66, .iinc 2 1, 0, 0), (69, .goto (-24), 0, 0), (72, .aload_n 0, 0, 0), (73, .aload_n 1, 0, 0), (74, .getfield 27, 3, 3), (77, .putfield 27, 3, 3), (80, .aload_n 0, 0, 0), (81, .aload_n 1, 0, 0), (82, .getfield 31, 3, 4), (85, .putfield 31, 3, 4), (88, .aload_n 0, 0, 0), (89, .aload_n 1, 0, 0), (90, .getfield 34, 3, 5), (93, .putfield 34, 3, 5), (96, .aload_n 0, 0, 0), (97, .aload_n 1, 0, 0), (98, .getfield 37, 3, 6), (101, .putfield 37, 3, 6), (104, .aload_n 0, 0, 0), (105, .aload_n 1, 0, 0), (106, .getfield 40, 3, 7), (109, .putfield 40, 3, 7), (112, .aload_n 0, 0, 0), (113, .aload_n 1, 0, 0), (114, .getfield 43, 3, 8), (117, .putfield 43, 3, 8), (120, .aload_n 0, 0, 0), (121, .aload_n 1, 0, 0), (122, .getfield 46, 3, 9), (125, .putfield 46, 3, 9), (128, .return_, 0, 0)]
def k_X3_isStair : List mm_E := [(0, .iload_n 1, 0, 0), (1, .iconst 0, 0, 0), (2, .aload_n 0, 0, 0), (3, .getfield 27, 3, 3), (6, .iconst 1, 0, 0), (7, .isub, 0, 0), (8, .invokestatic 66, 117, 51), (11, .ireturn, 0, 0)]
def k_X3_whyNotBuild : List mm_E := [(0, .iload_n 1, 0, 0), (1, .invokestatic 70, 119, 49), (4, .ifCond .ne 9, 0, 0), (7, .iconst 2, 0, 0), (8, .iload_n 1, 0, 0), (9, .invokestatic 74, 120, 50), (12, .lreturn, 0, 0), (13, .iload_n 2, 0, 0), (14, .invokestatic 70, 119, 49), (17, .ifCond .ne 9, 0, 0), (20, .iconst 2, 0, 0), (21, .iload_n 2, 0, 0), (22, .invokestatic 74, 120, 50), (25, .lreturn, 0, 0), (26, .iload_n 3, 0, 0), (27, .iconst 1, 0, 0), (28, .bipush 40, 0, 0), (30, .invokestatic 66, 117, 51), (33, .ifCond .ne 9, 0, 0), (36, .iconst 3, 0, 0), (37, .iload_n 3, 0, 0), (38, .invokestatic 74, 120, 50), (41, .lreturn, 0, 0), (42, .iload_n 1, 0, 0), (43, .iload_n 2, 0, 0), (44, .if_icmp .ne 9, 0, 0), (47, .iconst 4, 0, 0), (48, .iload_n 1, 0, 0), (49, .invokestatic 74, 120, 50), (52, .lreturn, 0, 0), (53, .aload_n 0, 0, 0), (54, .iload_n 1, 0, 0), (55, .iload_n 2, 0, 0), (56, .invokevirtual 78, 46, 66), (59, .istore 4, 0, 0), (61, .iload 4, 0, 0), (63, .iconst (-1), 0, 0), (64, .if_icmp .eq 10, 0, 0), (67, .iconst 5, 0, 0), (68, .iload 4, 0, 0), (70, .invokestatic 74, 120, 50), (73, .lreturn, 0, 0), (74, .aload_n 0, 0, 0), (75, .getfield 27, 3, 3), (78, .bipush 10, 0, 0), (80, .if_icmp .lt 12, 0, 0), (83, .iconst 1, 0, 0), (84, .aload_n 0, 0, 0), (85, .getfield 27, 3, 3), (88, .invokestatic 74, 120, 50), (91, .lreturn, 0, 0), (92, .lconst 0, 0, 0), (93, .lreturn, 0, 0)]
def k_X3_addStair : List mm_E := [(0, .aload_n 0, 0, 0), (1, .getfield 27, 3, 3), (4, .istore 4, 0, 0), (6, .aload_n 0, 0, 0), (7, .getfield 23, 3, 2), (10, .iload 4, 0, 0), (12, .aaload, 0, 0), (13, .iload_n 1, 0, 0), (14, .iload_n 2, 0, 0), (15, .iload_n 3, 0, 0), (16, .invokevirtual 82, 13, 67), (19, .aload_n 0, 0, 0), (20, .dup, 0, 0), (21, .getfield 27, 3, 3), (24, .iconst 1, 0, 0), (25, .iadd, 0, 0), (26, .putfield 27, 3, 3), (29, .iload 4, 0, 0), (31, .ireturn, 0, 0)]
def k_X3_whyNotTear : List mm_E := [(0, .aload_n 0, 0, 0), (1, .iload_n 1, 0, 0), (2, .invokevirtual 86, 24, 65), (5, .ifCond .eq 7, 0, 0), (8, .lconst 0, 0, 0), (9, .goto 8, 0, 0), (12, .iconst 2, 0, 0), (13, .iload_n 1, 0, 0), (14, .invokestatic 74, 120, 50), (17, .lreturn, 0, 0)]
def k_X3_removeStair : List mm_E := [(0, .aload_n 0, 0, 0), (1, .getfield 23, 3, 2), (4, .iload_n 1, 0, 0), (5, .aaload, 0, 0), (6, .astore_n 2, 0, 0), (7, .iload_n 1, 0, 0), (8, .iconst 1, 0, 0), (9, .iadd, 0, 0), (10, .istore_n 3, 0, 0), (11, .iload_n 3, 0, 0), (12, .aload_n 0, 0, 0), (13, .getfield 27, 3, 3), (16, .if_icmp .ge 23, 0, 0), (19, .aload_n 0, 0, 0), (20, .getfield 23, 3, 2), (23, .iload_n 3, 0, 0), (24, .iconst 1, 0, 0), (25, .isub, 0, 0), (26, .aload_n 0, 0, 0), (27, .getfield 23, 3, 2), (30, .iload_n 3, 0, 0), (31, .aaload, 0, 0), (32, .aastore, 0, 0), (33, .iinc 3 1, 0, 0), (36, .goto (-25), 0, 0), (39, .aload_n 0, 0, 0), (40, .dup, 0, 0), (41, .getfield 27, 3, 3), (44, .iconst 1, 0, 0), (45, .isub, 0, 0), (46, .putfield 27, 3, 3), (49, .aload_n 0, 0, 0), (50, .getfield 23, 3, 2), (53, .aload_n 0, 0, 0), (54, .getfield 27, 3, 3), (57, .aload_n 2, 0, 0), (58, .aastore, 0, 0), (59, .aload_n 0, 0, 0), (60, .getfield 27, 3, 3), (63, .ireturn, 0, 0)]
def k_X3_whyNotHalve : List mm_E := [(0, .aload_n 0, 0, 0), (1, .iload_n 1, 0, 0), (2, .invokevirtual 86, 24, 65), (5, .ifCond .ne 9, 0, 0), (8, .iconst 2, 0, 0), (9, .iload_n 1, 0, 0), (10, .invokestatic 74, 120, 50), (13, .lreturn, 0, 0), (14, .aload_n 0, 0, 0), (15, .getfield 23, 3, 2), (18, .iload_n 1, 0, 0), (19, .aaload, 0, 0), (20, .astore_n 2, 0, 0), (21, .aload_n 2, 0, 0), (22, .getfield 89, 2, 4), (25, .iconst 3, 0, 0), (26, .if_icmp .ge 11, 0, 0), (29, .aload_n 2, 0, 0), (30, .getfield 92, 2, 2), (33, .iconst 1, 0, 0), (34, .if_icmp .ne 13, 0, 0), (37, .bipush 6, 0, 0), (39, .aload_n 2, 0, 0), (40, .getfield 92, 2, 2), (43, .invokestatic 74, 120, 50), (46, .lreturn, 0, 0), (47, .lconst 0, 0, 0), (48, .lreturn, 0, 0)]
def k_X3_halveSteps : List mm_E := [(0, .aload_n 0, 0, 0), (1, .getfield 23, 3, 2), (4, .iload_n 1, 0, 0), (5, .aaload, 0, 0), (6, .astore_n 2, 0, 0), (7, .aload_n 2, 0, 0), (8, .aload_n 2, 0, 0), (9, .getfield 92, 2, 2), (12, .iconst 1, 0, 0), (13, .iadd, 0, 0), (14, .iconst 2, 0, 0), (15, .idiv, 0, 0), (16, .putfield 92, 2, 2), (19, .aload_n 2, 0, 0), (20, .dup, 0, 0), (21, .getfield 89, 2, 4), (24, .iconst 1, 0, 0), (25, .iadd, 0, 0), (26, .putfield 89, 2, 4), (29, .aload_n 0, 0, 0), (30, .dup, 0, 0), (31, .getfield 46, 3, 9), (34, .iconst 1, 0, 0), (35, .iadd, 0, 0), (36, .putfield 46, 3, 9), (39, .aload_n 2, 0, 0), (40, .getfield 92, 2, 2), (43, .ireturn, 0, 0)]
def k_X3_whyNoGiantOrStair : List mm_E := [(0, .iload_n 1, 0, 0), (1, .invokestatic 95, 118, 49), (4, .ifCond .ne 9, 0, 0), (7, .iconst 2, 0, 0), (8, .iload_n 1, 0, 0), (9, .invokestatic 74, 120, 50), (12, .lreturn, 0, 0), (13, .aload_n 0, 0, 0), (14, .iload_n 2, 0, 0), (15, .invokevirtual 86, 24, 65), (18, .ifCond .eq 7, 0, 0), (21, .lconst 0, 0, 0), (22, .goto 8, 0, 0), (25, .iconst 2, 0, 0), (26, .iload_n 2, 0, 0), (27, .invokestatic 74, 120, 50), (30, .lreturn, 0, 0)]
def k_X3_whyNotLease : List mm_E := [(0, .aload_n 0, 0, 0), (1, .iload_n 1, 0, 0), (2, .iload_n 2, 0, 0), (3, .invokevirtual 98, 31, 66), (6, .lstore 4, 0, 0), (8, .lload 4, 0, 0), (10, .lconst 0, 0, 0), (11, .lcmp, 0, 0), (12, .ifCond .eq 6, 0, 0), (15, .lload 4, 0, 0), (17, .lreturn, 0, 0), (18, .iload_n 3, 0, 0), (19, .iconst 1, 0, 0), (20, .bipush 9, 0, 0), (22, .invokestatic 66, 117, 51), (25, .ifCond .ne 9, 0, 0), (28, .iconst 3, 0, 0), (29, .iload_n 3, 0, 0), (30, .invokestatic 74, 120, 50), (33, .lreturn, 0, 0), (34, .aload_n 0, 0, 0), (35, .getfield 23, 3, 2), (38, .iload_n 2, 0, 0), (39, .aaload, 0, 0), (40, .invokevirtual 101, 15, 64), (43, .ifCond .eq 18, 0, 0), (46, .bipush 7, 0, 0), (48, .aload_n 0, 0, 0), (49, .getfield 23, 3, 2), (52, .iload_n 2, 0, 0), (53, .aaload, 0, 0), (54, .getfield 105, 2, 6), (57, .invokestatic 74, 120, 50), (60, .lreturn, 0, 0), (61, .lconst 0, 0, 0), (62, .lreturn, 0, 0)]
def k_X3_leaseTo : List mm_E := [(0, .aload_n 0, 0, 0), (1, .getfield 23, 3, 2), (4, .iload_n 2, 0, 0), (5, .aaload, 0, 0), (6, .astore 4, 0, 0), (8, .aload 4, 0, 0), (10, .iload_n 1, 0, 0), (11, .putfield 108, 2, 5), (14, .aload 4, 0, 0), (16, .iload_n 3, 0, 0), (17, .putfield 105, 2, 6), (20, .aload 4, 0, 0), (22, .invokevirtual 111, 18, 64), (25, .ireturn, 0, 0)]
def k_X3_whyNotClimb : List mm_E := [(0, .aload_n 0, 0, 0), (1, .iload_n 1, 0, 0), (2, .iload_n 2, 0, 0), (3, .invokevirtual 98, 31, 66), (6, .lstore_n 3, 0, 0), (7, .lload_n 3, 0, 0), (8, .lconst 0, 0, 0), (9, .lcmp, 0, 0), (10, .ifCond .eq 5, 0, 0), (13, .lload_n 3, 0, 0), (14, .lreturn, 0, 0), (15, .aload_n 0, 0, 0), (16, .getfield 11, 3, 0), (19, .iload_n 1, 0, 0), (20, .aaload, 0, 0), (21, .getfield 115, 0, 1), (24, .istore 5, 0, 0), (26, .aload_n 0, 0, 0), (27, .getfield 23, 3, 2), (30, .iload_n 2, 0, 0), (31, .aaload, 0, 0), (32, .iload 5, 0, 0), (34, .invokevirtual 118, 16, 65), (37, .ifCond .ne 11, 0, 0), (40, .bipush 8, 0, 0), (42, .iload 5, 0, 0), (44, .invokestatic 74, 120, 50), (47, .lreturn, 0, 0), (48, .aload_n 0, 0, 0), (49, .getfield 23, 3, 2), (52, .iload_n 2, 0, 0), (53, .aaload, 0, 0), (54, .iload 5, 0, 0), (56, .invokevirtual 121, 17, 65), (59, .istore 6, 0, 0), (61, .aload_n 0, 0, 0), (62, .getfield 17, 3, 1), (65, .iload 6, 0, 0), (67, .iaload, 0, 0), (68, .iconst 2, 0, 0), (69, .if_icmp .ne 11, 0, 0), (72, .bipush 9, 0, 0), (74, .iload 6, 0, 0), (76, .invokestatic 74, 120, 50), (79, .lreturn, 0, 0), (80, .lconst 0, 0, 0), (81, .lreturn, 0, 0)]
def k_X3_goOver : List mm_E := [(0, .aload_n 0, 0, 0), (1, .getfield 11, 3, 0), (4, .iload_n 1, 0, 0), (5, .aaload, 0, 0), (6, .astore_n 3, 0, 0), (7, .aload_n 0, 0, 0), (8, .getfield 23, 3, 2), (11, .iload_n 2, 0, 0), (12, .aaload, 0, 0), (13, .astore 4, 0, 0), (15, .aload_n 3, 0, 0), (16, .aload 4, 0, 0), (18, .aload_n 3, 0, 0), (19, .getfield 115, 0, 1), (22, .invokevirtual 121, 17, 65), (25, .putfield 115, 0, 1), (28, .aload_n 0, 0, 0), (29, .getfield 17, 3, 1), (32, .aload_n 3, 0, 0), (33, .getfield 115, 0, 1), (36, .iaload, 0, 0), (37, .iconst 1, 0, 0), (38, .iload_n 1, 0, 0), (39, .isub, 0, 0), (40, .if_icmp .ne 54, 0, 0), (43, .aload_n 3, 0, 0), (44, .getfield 125, 0, 0), (47, .ifCond .le 47, 0, 0), (50, .aload_n 3, 0, 0), (51, .dup, 0, 0), (52, .getfield 125, 0, 0), (55, .iconst 1, 0, 0), (56, .isub, 0, 0), (57, .putfield 125, 0, 0), (60, .aload_n 0, 0, 0), (61, .getfield 11, 3, 0), (64, .iconst 1, 0, 0), (65, .iload_n 1, 0, 0), (66, .isub, 0, 0), (67, .aaload, 0, 0), (68, .dup, 0, 0), (69, .getfield 125, 0, 0), (72, .iconst 1, 0, 0), (73, .iadd, 0, 0), (74, .putfield 125, 0, 0), (77, .aload_n 0, 0, 0), (78, .getfield 11, 3, 0), (81, .iconst 1, 0, 0), (82, .iload_n 1, 0, 0), (83, .isub, 0, 0), (84, .aaload, 0, 0), (85, .dup, 0, 0), (86, .getfield 126, 0, 4), (89, .iconst 1, 0, 0), (90, .iadd, 0, 0), (91, .putfield 126, 0, 4), (94, .aload 4, 0, 0), (96, .dup, 0, 0), (97, .getfield 129, 2, 3), (100, .aload 4, 0, 0), (102, .getfield 129, 2, 3), (105, .iconst 2, 0, 0), (106, .idiv, 0, 0), (107, .isub, 0, 0), (108, .putfield 129, 2, 3), (111, .aload 4, 0, 0), (113, .iload_n 1, 0, 0), (114, .invokevirtual 132, 20, 65), (117, .istore 5, 0, 0), (119, .aload_n 3, 0, 0), (120, .dup, 0, 0), (121, .getfield 135, 0, 2), (124, .iload 5, 0, 0), (126, .iadd, 0, 0), (127, .putfield 135, 0, 2), (130, .iload 5, 0, 0), (132, .ireturn, 0, 0)]
def k_X3_whyNotLevy : List mm_E := [(0, .aload_n 0, 0, 0), (1, .iload_n 1, 0, 0), (2, .iload_n 2, 0, 0), (3, .invokevirtual 98, 31, 66), (6, .lstore_n 3, 0, 0), (7, .lload_n 3, 0, 0), (8, .lconst 0, 0, 0), (9, .lcmp, 0, 0), (10, .ifCond .eq 5, 0, 0), (13, .lload_n 3, 0, 0), (14, .lreturn, 0, 0), (15, .aload_n 0, 0, 0), (16, .getfield 23, 3, 2), (19, .iload_n 2, 0, 0), (20, .aaload, 0, 0), (21, .astore 5, 0, 0), (23, .aload_n 0, 0, 0), (24, .getfield 17, 3, 1), (27, .aload 5, 0, 0), (29, .getfield 138, 2, 0), (32, .iaload, 0, 0), (33, .iload_n 1, 0, 0), (34, .if_icmp .eq 24, 0, 0), (37, .aload_n 0, 0, 0), (38, .getfield 17, 3, 1), (41, .aload 5, 0, 0), (43, .getfield 141, 2, 1), (46, .iaload, 0, 0), (47, .iload_n 1, 0, 0), (48, .if_icmp .eq 10, 0, 0), (51, .bipush 10, 0, 0), (53, .iload_n 2, 0, 0), (54, .invokestatic 74, 120, 50), (57, .lreturn, 0, 0), (58, .aload 5, 0, 0), (60, .getfield 129, 2, 3), (63, .ifCond .ne 14, 0, 0), (66, .bipush 11, 0, 0), (68, .aload 5, 0, 0), (70, .getfield 92, 2, 2), (73, .invokestatic 74, 120, 50), (76, .lreturn, 0, 0), (77, .lconst 0, 0, 0), (78, .lreturn, 0, 0)]
def k_X3_levyToCome : List mm_E := [(0, .aload_n 0, 0, 0), (1, .iload_n 1, 0, 0), (2, .iload_n 2, 0, 0), (3, .invokevirtual 144, 36, 66), (6, .lconst 0, 0, 0), (7, .lcmp, 0, 0), (8, .ifCond .eq 5, 0, 0), (11, .iconst 0, 0, 0), (12, .ireturn, 0, 0), (13, .aload_n 0, 0, 0), (14, .getfield 23, 3, 2), (17, .iload_n 2, 0, 0), (18, .aaload, 0, 0), (19, .getfield 129, 2, 3), (22, .iconst 4, 0, 0), (23, .idiv, 0, 0), (24, .aload_n 0, 0, 0), (25, .getfield 11, 3, 0), (28, .iconst 1, 0, 0), (29, .iload_n 1, 0, 0), (30, .isub, 0, 0), (31, .aaload, 0, 0), (32, .getfield 125, 0, 0), (35, .invokestatic 147, 0, 258), (38, .ireturn, 0, 0)]
def k_X3_levyDust : List mm_E := [(0, .aload_n 0, 0, 0), (1, .iload_n 1, 0, 0), (2, .iload_n 2, 0, 0), (3, .invokevirtual 152, 37, 66), (6, .istore_n 3, 0, 0), (7, .aload_n 0, 0, 0), (8, .getfield 11, 3, 0), (11, .iconst 1, 0, 0), (12, .iload_n 1, 0, 0), (13, .isub, 0, 0), (14, .aaload, 0, 0), (15, .dup, 0, 0), (16, .getfield 125, 0, 0), (19, .iload_n 3, 0, 0), (20, .isub, 0, 0), (21, .putfield 125, 0, 0), (24, .aload_n 0, 0, 0), (25, .getfield 11, 3, 0), (28, .iload_n 1, 0, 0), (29, .aaload, 0, 0), (30, .dup, 0, 0), (31, .getfield 125, 0, 0), (34, .iload_n 3, 0, 0), (35, .iadd, 0, 0), (36, .putfield 125, 0, 0), (39, .aload_n 0, 0, 0), (40, .dup, 0, 0), (41, .getfield 40, 3, 7), (44, .iload_n 3, 0, 0), (45, .iadd, 0, 0), (46, .putfield 40, 3, 7), (49, .aload_n 0, 0, 0), (50, .getfield 23, 3, 2), (53, .iload_n 2, 0, 0), (54, .aaload, 0, 0), (55, .iconst 0, 0, 0), (56, .putfield 129, 2, 3), (59, .iload_n 3, 0, 0), (60, .ireturn, 0, 0)]
def k_X3_takingCoins : List mm_E := [(0, .aload_n 0, 0, 0), (1, .getfield 17, 3, 1), (4, .iload_n 1, 0, 0), (5, .iaload, 0, 0), (6, .iconst 2, 0, 0), (7, .if_icmp .ne 7, 0, 0), (10, .iconst 5, 0, 0), (11, .goto 5, 0, 0), (14, .bipush 10, 0, 0), (16, .ireturn, 0, 0)]
def k_X3_whyNotTake : List mm_E := [(0, .iload_n 1, 0, 0), (1, .invokestatic 70, 119, 49), (4, .ifCond .ne 9, 0, 0), (7, .iconst 2, 0, 0), (8, .iload_n 1, 0, 0), (9, .invokestatic 74, 120, 50), (12, .lreturn, 0, 0), (13, .aload_n 0, 0, 0), (14, .getfield 17, 3, 1), (17, .iload_n 1, 0, 0), (18, .iaload, 0, 0), (19, .aload_n 0, 0, 0), (20, .getfield 34, 3, 5), (23, .if_icmp .ne 13, 0, 0), (26, .bipush 13, 0, 0), (28, .aload_n 0, 0, 0), (29, .getfield 34, 3, 5), (32, .invokestatic 74, 120, 50), (35, .lreturn, 0, 0), (36, .aload_n 0, 0, 0), (37, .iload_n 1, 0, 0), (38, .invokevirtual 155, 49, 65), (41, .iconst (-1), 0, 0), (42, .if_icmp .eq 14, 0, 0), (45, .bipush 12, 0, 0), (47, .aload_n 0, 0, 0), (48, .iload_n 1, 0, 0), (49, .invokevirtual 155, 49, 65), (52, .invokestatic 74, 120, 50), (55, .lreturn, 0, 0), (56, .aload_n 0, 0, 0), (57, .iload_n 1, 0, 0), (58, .aload_n 0, 0, 0), (59, .getfield 34, 3, 5), (62, .invokevirtual 158, 48, 66), (65, .ifCond .ne 17, 0, 0), (68, .bipush 14, 0, 0), (70, .aload_n 0, 0, 0), (71, .aload_n 0, 0, 0), (72, .getfield 34, 3, 5), (75, .invokevirtual 162, 50, 65), (78, .invokestatic 74, 120, 50), (81, .lreturn, 0, 0), (82, .aload_n 0, 0, 0), (83, .getfield 11, 3, 0), (86, .aload_n 0, 0, 0), (87, .getfield 34, 3, 5), (90, .aaload, 0, 0), (91, .getfield 125, 0, 0), (94, .aload_n 0, 0, 0), (95, .iload_n 1, 0, 0), (96, .invokevirtual 165, 39, 65), (99, .if_icmp .ge 21, 0, 0), (102, .bipush 15, 0, 0), (104, .aload_n 0, 0, 0), (105, .getfield 11, 3, 0), (108, .aload_n 0, 0, 0), (109, .getfield 34, 3, 5), (112, .aaload, 0, 0), (113, .getfield 125, 0, 0), (116, .invokestatic 74, 120, 50), (119, .lreturn, 0, 0), (120, .lconst 0, 0, 0), (121, .lreturn, 0, 0)]
def k_X3_takeLanding : List mm_E := [(0, .aload_n 0, 0, 0), (1, .getfield 11, 3, 0), (4, .aload_n 0, 0, 0), (5, .getfield 34, 3, 5), (8, .aaload, 0, 0), (9, .astore_n 2, 0, 0), (10, .aload_n 2, 0, 0), (11, .dup, 0, 0), (12, .getfield 125, 0, 0), (15, .aload_n 0, 0, 0), (16, .iload_n 1, 0, 0), (17, .invokevirtual 165, 39, 65), (20, .isub, 0, 0), (21, .putfield 125, 0, 0), (24, .aload_n 0, 0, 0), (25, .dup, 0, 0), (26, .getfield 37, 3, 6), (29, .iconst 5, 0, 0), (30, .iadd, 0, 0), (31, .putfield 37, 3, 6), (34, .aload_n 0, 0, 0), (35, .getfield 17, 3, 1), (38, .iload_n 1, 0, 0), (39, .iaload, 0, 0), (40, .iconst 2, 0, 0), (41, .if_icmp .eq 23, 0, 0), (44, .aload_n 0, 0, 0), (45, .getfield 11, 3, 0), (48, .iconst 1, 0, 0), (49, .aload_n 0, 0, 0), (50, .getfield 34, 3, 5), (53, .isub, 0, 0), (54, .aaload, 0, 0), (55, .dup, 0, 0), (56, .getfield 125, 0, 0), (59, .iconst 5, 0, 0), (60, .iadd, 0, 0), (61, .putfield 125, 0, 0), (64, .aload_n 0, 0, 0), (65, .getfield 17, 3, 1), (68, .iload_n 1, 0, 0), (69, .aload_n 0, 0, 0), (70, .getfield 34, 3, 5), (73, .iastore, 0, 0), (74, .aload_n 0, 0, 0), (75, .dup, 0, 0), (76, .getfield 43, 3, 8), (79, .iconst 1, 0, 0), (80, .iadd, 0, 0), (81, .putfield 43, 3, 8), (84, .aload_n 2, 0, 0), (85, .getfield 125, 0, 0), (88, .ireturn, 0, 0)]
def k_X3_whyNotFree : List mm_E := [(0, .iload_n 1, 0, 0), (1, .invokestatic 95, 118, 49), (4, .ifCond .ne 9, 0, 0), (7, .iconst 2, 0, 0), (8, .iload_n 1, 0, 0), (9, .invokestatic 74, 120, 50), (12, .lreturn, 0, 0), (13, .iload_n 2, 0, 0), (14, .invokestatic 70, 119, 49), (17, .ifCond .ne 9, 0, 0), (20, .iconst 2, 0, 0), (21, .iload_n 2, 0, 0), (22, .invokestatic 74, 120, 50), (25, .lreturn, 0, 0), (26, .aload_n 0, 0, 0), (27, .getfield 17, 3, 1), (30, .iload_n 2, 0, 0), (31, .iaload, 0, 0), (32, .iload_n 1, 0, 0), (33, .if_icmp .eq 15, 0, 0), (36, .bipush 13, 0, 0), (38, .aload_n 0, 0, 0), (39, .getfield 17, 3, 1), (42, .iload_n 2, 0, 0), (43, .iaload, 0, 0), (44, .invokestatic 74, 120, 50), (47, .lreturn, 0, 0), (48, .aload_n 0, 0, 0), (49, .iload_n 2, 0, 0), (50, .invokevirtual 155, 49, 65), (53, .iconst (-1), 0, 0), (54, .if_icmp .eq 14, 0, 0), (57, .bipush 12, 0, 0), (59, .aload_n 0, 0, 0), (60, .iload_n 2, 0, 0), (61, .invokevirtual 155, 49, 65), (64, .invokestatic 74, 120, 50), (67, .lreturn, 0, 0), (68, .lconst 0, 0, 0), (69, .lreturn, 0, 0)]
def k_X3_freeLanding : List mm_E := [(0, .aload_n 0, 0, 0), (1, .getfield 17, 3, 1), (4, .iload_n 2, 0, 0), (5, .iconst 2, 0, 0), (6, .iastore, 0, 0), (7, .aload_n 0, 0, 0), (8, .iload_n 1, 0, 0), (9, .invokevirtual 162, 50, 65), (12, .ireturn, 0, 0)]
def k_X3_passDay : List mm_E := [(0, .iconst 0, 0, 0), (1, .istore_n 1, 0, 0), (2, .iconst 0, 0, 0), (3, .istore_n 2, 0, 0), (4, .iload_n 2, 0, 0), (5, .aload_n 0, 0, 0), (6, .getfield 27, 3, 3), (9, .if_icmp .ge 42, 0, 0), (12, .aload_n 0, 0, 0), (13, .getfield 23, 3, 2), (16, .iload_n 2, 0, 0), (17, .aaload, 0, 0), (18, .astore_n 3, 0, 0), (19, .aload_n 3, 0, 0), (20, .bipush 20, 0, 0), (22, .aload_n 3, 0, 0), (23, .getfield 129, 2, 3), (26, .aload_n 3, 0, 0), (27, .invokevirtual 168, 19, 64), (30, .iadd, 0, 0), (31, .invokestatic 147, 0, 258), (34, .putfield 129, 2, 3), (37, .iload_n 1, 0, 0), (38, .aload_n 0, 0, 0), (39, .aload_n 3, 0, 0), (40, .invokevirtual 171, 45, 65), (43, .iadd, 0, 0), (44, .istore_n 1, 0, 0), (45, .iinc 2 1, 0, 0), (48, .goto (-44), 0, 0), (51, .aload_n 0, 0, 0), (52, .dup, 0, 0), (53, .getfield 31, 3, 4), (56, .iconst 1, 0, 0), (57, .iadd, 0, 0), (58, .putfield 31, 3, 4), (61, .aload_n 0, 0, 0), (62, .iconst 1, 0, 0), (63, .aload_n 0, 0, 0), (64, .getfield 34, 3, 5), (67, .isub, 0, 0), (68, .putfield 34, 3, 5), (71, .iload_n 1, 0, 0), (72, .ireturn, 0, 0)]
def k_X3_giveRent : List mm_E := [(0, .aload_n 1, 0, 0), (1, .invokevirtual 101, 15, 64), (4, .ifCond .ne 5, 0, 0), (7, .iconst 0, 0, 0), (8, .ireturn, 0, 0), (9, .aload_n 0, 0, 0), (10, .getfield 11, 3, 0), (13, .aload_n 1, 0, 0), (14, .getfield 108, 2, 5), (17, .aaload, 0, 0), (18, .astore_n 2, 0, 0), (19, .aload_n 1, 0, 0), (20, .invokevirtual 111, 18, 64), (23, .istore_n 3, 0, 0), (24, .aload_n 2, 0, 0), (25, .getfield 125, 0, 0), (28, .iload_n 3, 0, 0), (29, .if_icmp .ge 9, 0, 0), (32, .aload_n 1, 0, 0), (33, .invokevirtual 175, 14, 64), (36, .iconst 0, 0, 0), (37, .ireturn, 0, 0), (38, .aload_n 2, 0, 0), (39, .dup, 0, 0), (40, .getfield 125, 0, 0), (43, .iload_n 3, 0, 0), (44, .isub, 0, 0), (45, .putfield 125, 0, 0), (48, .aload_n 2, 0, 0), (49, .dup, 0, 0), (50, .getfield 178, 0, 3), (53, .iload_n 3, 0, 0), (54, .iadd, 0, 0), (55, .putfield 178, 0, 3), (58, .aload_n 0, 0, 0), (59, .dup, 0, 0), (60, .getfield 37, 3, 6), (63, .iload_n 3, 0, 0), (64, .iadd, 0, 0), (65, .putfield 37, 3, 6), (68, .aload_n 1, 0, 0), (69, .dup, 0, 0), (70, .getfield 105, 2, 6), (73, .iconst 1, 0, 0), (74, .isub, 0, 0), (75, .putfield 105, 2, 6), (78, .aload_n 1, 0, 0), (79, .getfield 105, 2, 6), (82, .ifCond .ne 7, 0, 0), (85, .aload_n 1, 0, 0), (86, .invokevirtual 175, 14, 64), (89, .iload_n 3, 0, 0), (90, .ireturn, 0, 0)]
def k_X3_stairThatJoins : List mm_E := [(0, .iconst 0, 0, 0), (1, .istore_n 3, 0, 0), (2, .iload_n 3, 0, 0), (3, .aload_n 0, 0, 0), (4, .getfield 27, 3, 3), (7, .if_icmp .ge 42, 0, 0), (10, .iload_n 1, 0, 0), (11, .iload_n 2, 0, 0), (12, .if_icmp .eq 31, 0, 0), (15, .aload_n 0, 0, 0), (16, .getfield 23, 3, 2), (19, .iload_n 3, 0, 0), (20, .aaload, 0, 0), (21, .iload_n 1, 0, 0), (22, .invokevirtual 118, 16, 65), (25, .ifCond .eq 18, 0, 0), (28, .aload_n 0, 0, 0), (29, .getfield 23, 3, 2), (32, .iload_n 3, 0, 0), (33, .aaload, 0, 0), (34, .iload_n 2, 0, 0), (35, .invokevirtual 118, 16, 65), (38, .ifCond .eq 5, 0, 0), (41, .iload_n 3, 0, 0), (42, .ireturn, 0, 0), (43, .iinc 3 1, 0, 0), (46, .goto (-44), 0, 0), (49, .iconst (-1), 0, 0), (50, .ireturn, 0, 0)]
def k_X3_joinedWith : List mm_E := [(0, .iconst 0, 0, 0), (1, .istore_n 2, 0, 0), (2, .iconst 0, 0, 0), (3, .istore_n 3, 0, 0), (4, .iload_n 3, 0, 0), (5, .aload_n 0, 0, 0), (6, .getfield 27, 3, 3), (9, .if_icmp .ge 37, 0, 0), (12, .aload_n 0, 0, 0), (13, .getfield 23, 3, 2), (16, .iload_n 3, 0, 0), (17, .aaload, 0, 0), (18, .iload_n 1, 0, 0), (19, .invokevirtual 118, 16, 65), (22, .ifCond .eq 18, 0, 0), (25, .iload_n 2, 0, 0), (26, .iconst 1, 0, 0), (27, .aload_n 0, 0, 0), (28, .getfield 23, 3, 2), (31, .iload_n 3, 0, 0), (32, .aaload, 0, 0), (33, .iload_n 1, 0, 0), (34, .invokevirtual 121, 17, 65), (37, .ishl, 0, 0), (38, .ior, 0, 0), (39, .istore_n 2, 0, 0), (40, .iinc 3 1, 0, 0), (43, .goto (-39), 0, 0), (46, .iload_n 2, 0, 0), (47, .ireturn, 0, 0)]
def k_X3_isNextTo : List mm_E := [(0, .aload_n 0, 0, 0), (1, .iload_n 1, 0, 0), (2, .invokevirtual 181, 47, 65), (5, .istore_n 3, 0, 0), (6, .iconst 0, 0, 0), (7, .istore 4, 0, 0), (9, .iload 4, 0, 0), (11, .bipush 8, 0, 0), (13, .if_icmp .ge 32, 0, 0), (16, .iload_n 3, 0, 0), (17, .iload 4, 0, 0), (19, .ishr, 0, 0), (20, .iconst 1, 0, 0), (21, .iand, 0, 0), (22, .iconst 1, 0, 0), (23, .if_icmp .ne 16, 0, 0), (26, .aload_n 0, 0, 0), (27, .getfield 17, 3, 1), (30, .iload 4, 0, 0), (32, .iaload, 0, 0), (33, .iload_n 2, 0, 0), (34, .if_icmp .ne 5, 0, 0), (37, .iconst 1, 0, 0), (38, .ireturn, 0, 0), (39, .iinc 4 1, 0, 0), (42, .goto (-33), 0, 0), (45, .iconst 0, 0, 0), (46, .ireturn, 0, 0)]
def k_X3_whoStandsOn : List mm_E := [(0, .iconst 0, 0, 0), (1, .istore_n 2, 0, 0), (2, .iload_n 2, 0, 0), (3, .iconst 2, 0, 0), (4, .if_icmp .ge 24, 0, 0), (7, .aload_n 0, 0, 0), (8, .getfield 11, 3, 0), (11, .iload_n 2, 0, 0), (12, .aaload, 0, 0), (13, .getfield 115, 0, 1), (16, .iload_n 1, 0, 0), (17, .if_icmp .ne 5, 0, 0), (20, .iload_n 2, 0, 0), (21, .ireturn, 0, 0), (22, .iinc 2 1, 0, 0), (25, .goto (-23), 0, 0), (28, .iconst (-1), 0, 0), (29, .ireturn, 0, 0)]
def k_X3_landingsOf : List mm_E := [(0, .iconst 0, 0, 0), (1, .istore_n 2, 0, 0), (2, .iconst 0, 0, 0), (3, .istore_n 3, 0, 0), (4, .iload_n 3, 0, 0), (5, .bipush 8, 0, 0), (7, .if_icmp .ge 22, 0, 0), (10, .aload_n 0, 0, 0), (11, .getfield 17, 3, 1), (14, .iload_n 3, 0, 0), (15, .iaload, 0, 0), (16, .iload_n 1, 0, 0), (17, .if_icmp .ne 6, 0, 0), (20, .iinc 2 1, 0, 0), (23, .iinc 3 1, 0, 0), (26, .goto (-22), 0, 0), (29, .iload_n 2, 0, 0), (30, .ireturn, 0, 0)]
def k_X3_leasesOf : List mm_E := [(0, .iconst 0, 0, 0), (1, .istore_n 2, 0, 0), (2, .iconst 0, 0, 0), (3, .istore_n 3, 0, 0), (4, .iload_n 3, 0, 0), (5, .aload_n 0, 0, 0), (6, .getfield 27, 3, 3), (9, .if_icmp .ge 25, 0, 0), (12, .aload_n 0, 0, 0), (13, .getfield 23, 3, 2), (16, .iload_n 3, 0, 0), (17, .aaload, 0, 0), (18, .getfield 108, 2, 5), (21, .iload_n 1, 0, 0), (22, .if_icmp .ne 6, 0, 0), (25, .iinc 2 1, 0, 0), (28, .iinc 3 1, 0, 0), (31, .goto (-27), 0, 0), (34, .iload_n 2, 0, 0), (35, .ireturn, 0, 0)]
def k_X3_dustOnAll : List mm_E := [(0, .iconst 0, 0, 0), (1, .istore_n 1, 0, 0), (2, .iconst 0, 0, 0), (3, .istore_n 2, 0, 0), (4, .iload_n 2, 0, 0), (5, .aload_n 0, 0, 0), (6, .getfield 27, 3, 3), (9, .if_icmp .ge 21, 0, 0), (12, .iload_n 1, 0, 0), (13, .aload_n 0, 0, 0), (14, .getfield 23, 3, 2), (17, .iload_n 2, 0, 0), (18, .aaload, 0, 0), (19, .getfield 129, 2, 3), (22, .iadd, 0, 0), (23, .istore_n 1, 0, 0), (24, .iinc 2 1, 0, 0), (27, .goto (-23), 0, 0), (30, .iload_n 1, 0, 0), (31, .ireturn, 0, 0)]
def k_X3_stepsOfAll : List mm_E := [(0, .iconst 0, 0, 0), (1, .istore_n 1, 0, 0), (2, .iconst 0, 0, 0), (3, .istore_n 2, 0, 0), (4, .iload_n 2, 0, 0), (5, .aload_n 0, 0, 0), (6, .getfield 27, 3, 3), (9, .if_icmp .ge 21, 0, 0), (12, .iload_n 1, 0, 0), (13, .aload_n 0, 0, 0), (14, .getfield 23, 3, 2), (17, .iload_n 2, 0, 0), (18, .aaload, 0, 0), (19, .getfield 92, 2, 2), (22, .iadd, 0, 0), (23, .istore_n 1, 0, 0), (24, .iinc 2 1, 0, 0), (27, .goto (-23), 0, 0), (30, .iload_n 1, 0, 0), (31, .ireturn, 0, 0)]
def k_X3_placeOf : List mm_E := [(0, .aload_n 0, 0, 0), (1, .getfield 23, 3, 2), (4, .iload_n 1, 0, 0), (5, .aaload, 0, 0), (6, .iload_n 2, 0, 0), (7, .invokevirtual 184, 21, 65), (10, .istore_n 3, 0, 0), (11, .iconst 0, 0, 0), (12, .istore 4, 0, 0), (14, .iconst 0, 0, 0), (15, .istore 5, 0, 0), (17, .iload 5, 0, 0), (19, .aload_n 0, 0, 0), (20, .getfield 27, 3, 3), (23, .if_icmp .ge 43, 0, 0), (26, .aload_n 0, 0, 0), (27, .getfield 23, 3, 2), (30, .iload 5, 0, 0), (32, .aaload, 0, 0), (33, .iload_n 2, 0, 0), (34, .invokevirtual 184, 21, 65), (37, .istore 6, 0, 0), (39, .iload 6, 0, 0), (41, .iload_n 3, 0, 0), (42, .if_icmp .gt 15, 0, 0), (45, .iload 6, 0, 0), (47, .iload_n 3, 0, 0), (48, .if_icmp .ne 12, 0, 0), (51, .iload 5, 0, 0), (53, .iload_n 1, 0, 0), (54, .if_icmp .ge 6, 0, 0), (57, .iinc 4 1, 0, 0), (60, .iinc 5 1, 0, 0), (63, .goto (-46), 0, 0), (66, .iload 4, 0, 0), (68, .ireturn, 0, 0)]
def k_X3_isOpenTo : List mm_E := [(0, .iload_n 1, 0, 0), (1, .iconst (-1), 0, 0), (2, .if_icmp .eq 13, 0, 0), (5, .aload_n 0, 0, 0), (6, .getfield 17, 3, 1), (9, .iload_n 2, 0, 0), (10, .iaload, 0, 0), (11, .iconst 2, 0, 0), (12, .if_icmp .eq 7, 0, 0), (15, .iconst 1, 0, 0), (16, .goto 4, 0, 0), (19, .iconst 0, 0, 0), (20, .ireturn, 0, 0)]
def k_X3_isNoGiantOnNeutral : List mm_E := [(0, .aload_n 0, 0, 0), (1, .getfield 17, 3, 1), (4, .aload_n 0, 0, 0), (5, .getfield 11, 3, 0), (8, .iconst 0, 0, 0), (9, .aaload, 0, 0), (10, .getfield 115, 0, 1), (13, .iaload, 0, 0), (14, .iconst 2, 0, 0), (15, .if_icmp .eq 25, 0, 0), (18, .aload_n 0, 0, 0), (19, .getfield 17, 3, 1), (22, .aload_n 0, 0, 0), (23, .getfield 11, 3, 0), (26, .iconst 1, 0, 0), (27, .aaload, 0, 0), (28, .getfield 115, 0, 1), (31, .iaload, 0, 0), (32, .iconst 2, 0, 0), (33, .if_icmp .eq 7, 0, 0), (36, .iconst 1, 0, 0), (37, .goto 4, 0, 0), (40, .iconst 0, 0, 0), (41, .ireturn, 0, 0)]
def k_X3_coinsOfAll : List mm_E := [(0, .aload_n 0, 0, 0), (1, .getfield 11, 3, 0), (4, .iconst 0, 0, 0), (5, .aaload, 0, 0), (6, .getfield 125, 0, 0), (9, .aload_n 0, 0, 0), (10, .getfield 11, 3, 0), (13, .iconst 1, 0, 0), (14, .aaload, 0, 0), (15, .getfield 125, 0, 0), (18, .iadd, 0, 0), (19, .aload_n 0, 0, 0), (20, .getfield 37, 3, 6), (23, .iadd, 0, 0), (24, .ireturn, 0, 0)]
def k_X4_init : List mm_E := [(0, .aload_n 0, 0, 0), (1, .invokespecial 3, 0, 128), (4, .aload_n 0, 0, 0), (5, .bipush 8, 0, 0), (7, .newarray .int, 0, 0), (9, .putfield 9, 4, 0), (12, .aload_n 0, 0, 0), (13, .bipush 8, 0, 0), (15, .newarray .boolean, 0, 0), (17, .putfield 15, 4, 1), (20, .aload_n 0, 0, 0), (21, .bipush 8, 0, 0), (23, .newarray .int, 0, 0), (25, .putfield 19, 4, 2), (28, .aload_n 0, 0, 0), (29, .bipush 8, 0, 0), (31, .bipush 8, 0, 0), (33, .multianewarray 22 2, 8, 18), (37, .putfield 24, 4, 3), (40, .return_, 0, 0)]
def k_X4_goNearestFirst : List mm_E := [(0, .iconst 0, 0, 0), (1, .istore 4, 0, 0), (3, .iload 4, 0, 0), (5, .bipush 8, 0, 0), (7, .if_icmp .ge 26, 0, 0), (10, .aload_n 0, 0, 0), (11, .getfield 9, 4, 0), (14, .iload 4, 0, 0), (16, .ldc 27, 1000000, 11), (18, .iastore, 0, 0), (19, .aload_n 0, 0, 0), (20, .getfield 15, 4, 1), (23, .iload 4, 0, 0), (25, .iconst 0, 0, 0), (26, .bastore, 0, 0), (27, .iinc 4 1, 0, 0), (30, .goto (-27), 0, 0), (33, .aload_n 1, 0, 0), (34, .iload_n 2, 0, 0), (35, .iload_n 3, 0, 0), (36, .invokevirtual 28, 55, 66), (39, .ifCond .eq 10, 0, 0), (42, .aload_n 0, 0, 0), (43, .getfield 9, 4, 0), (46, .iload_n 3, 0, 0), (47, .iconst 0, 0, 0), (48, .iastore, 0, 0), (49, .iconst 0, 0, 0), (50, .istore 4, 0, 0), (52, .iload 4, 0, 0), (54, .bipush 8, 0, 0), (56, .if_icmp .ge 38, 0, 0), (59, .aload_n 0, 0, 0), (60, .invokevirtual 34, 60, 64), (63, .istore 5, 0, 0), (65, .iload 5, 0, 0), (67, .iconst (-1), 0, 0), (68, .if_icmp .ne 4, 0, 0), (71, .return_, 0, 0), (72, .aload_n 0, 0, 0), (73, .getfield 15, 4, 1), (76, .iload 5, 0, 0), (78, .iconst 1, 0, 0), (79, .bastore, 0, 0), (80, .aload_n 0, 0, 0), (81, .aload_n 1, 0, 0), (82, .iload_n 2, 0, 0), (83, .iload 5, 0, 0), (85, .invokevirtual 38, 61, 67), (88, .iinc 4 1, 0, 0), (91, .goto (-39), 0, 0), (94, .return_, 0, 0)]
def k_X4_nearestToDo : List mm_E := [(0, .iconst (-1), 0, 0), (1, .istore_n 1, 0, 0), (2, .ldc 27, 1000000, 11), (4, .istore_n 2, 0, 0), (5, .iconst 0, 0, 0), (6, .istore_n 3, 0, 0), (7, .iload_n 3, 0, 0), (8, .bipush 8, 0, 0), (10, .if_icmp .ge 37, 0, 0), (13, .aload_n 0, 0, 0), (14, .getfield 15, 4, 1), (17, .iload_n 3, 0, 0), (18, .baload, 0, 0), (19, .ifCond .ne 22, 0, 0), (22, .aload_n 0, 0, 0), (23, .getfield 9, 4, 0), (26, .iload_n 3, 0, 0), (27, .iaload, 0, 0), (28, .iload_n 2, 0, 0), (29, .if_icmp .ge 12, 0, 0), (32, .aload_n 0, 0, 0), (33, .getfield 9, 4, 0), (36, .iload_n 3, 0, 0), (37, .iaload, 0, 0), (38, .istore_n 2, 0, 0), (39, .iload_n 3, 0, 0), (40, .istore_n 1, 0, 0), (41, .iinc 3 1, 0, 0), (44, .goto (-37), 0, 0), (47, .iload_n 1, 0, 0), (48, .ireturn, 0, 0)]
def k_X4_goOnFrom : List mm_E := [(0, .iconst 0, 0, 0), (1, .istore 4, 0, 0), (3, .iload 4, 0, 0), (5, .aload_n 1, 0, 0), (6, .getfield 42, 3, 3), (9, .if_icmp .ge 41, 0, 0), (12, .aload_n 1, 0, 0), (13, .getfield 46, 3, 2), (16, .iload 4, 0, 0), (18, .aaload, 0, 0), (19, .iload_n 3, 0, 0), (20, .invokevirtual 50, 16, 65), (23, .ifCond .eq 21, 0, 0), (26, .aload_n 0, 0, 0), (27, .aload_n 1, 0, 0), (28, .iload_n 2, 0, 0), (29, .aload_n 1, 0, 0), (30, .getfield 46, 3, 2), (33, .iload 4, 0, 0), (35, .aaload, 0, 0), (36, .iload_n 3, 0, 0), (37, .aload_n 0, 0, 0), (38, .getfield 9, 4, 0), (41, .invokevirtual 56, 62, 69), (44, .iinc 4 1, 0, 0), (47, .goto (-44), 0, 0), (50, .return_, 0, 0)]
def k_X4_goOver : List mm_E := [(0, .aload_n 3, 0, 0), (1, .iload 4, 0, 0), (3, .invokevirtual 60, 17, 65), (6, .istore 6, 0, 0), (8, .aload_n 1, 0, 0), (9, .iload_n 2, 0, 0), (10, .iload 6, 0, 0), (12, .invokevirtual 28, 55, 66), (15, .ifCond .eq 27, 0, 0), (18, .aload 5, 0, 0), (20, .iload 6, 0, 0), (22, .aload 5, 0, 0), (24, .iload 6, 0, 0), (26, .iaload, 0, 0), (27, .aload 5, 0, 0), (29, .iload 4, 0, 0), (31, .iaload, 0, 0), (32, .aload_n 3, 0, 0), (33, .iload_n 2, 0, 0), (34, .invokevirtual 64, 20, 65), (37, .iadd, 0, 0), (38, .invokestatic 67, 0, 258), (41, .iastore, 0, 0), (42, .return_, 0, 0)]
def k_X4_goOverMoreAndMore : List mm_E := [(0, .iconst 0, 0, 0), (1, .istore_n 2, 0, 0), (2, .iload_n 2, 0, 0), (3, .bipush 8, 0, 0), (5, .if_icmp .ge 42, 0, 0), (8, .iconst 0, 0, 0), (9, .istore_n 3, 0, 0), (10, .iload_n 3, 0, 0), (11, .bipush 8, 0, 0), (13, .if_icmp .ge 28, 0, 0), (16, .aload_n 0, 0, 0), (17, .getfield 24, 4, 3), (20, .iload_n 2, 0, 0), (21, .aaload, 0, 0), (22, .iload_n 3, 0, 0), (23, .iload_n 2, 0, 0), (24, .iload_n 3, 0, 0), (25, .if_icmp .ne 7, 0, 0), (28, .iconst 0, 0, 0), (29, .goto 5, 0, 0), (32, .ldc 27, 1000000, 11), (34, .iastore, 0, 0), (35, .iinc 3 1, 0, 0), (38, .goto (-28), 0, 0), (41, .iinc 2 1, 0, 0), (44, .goto (-42), 0, 0), (47, .iconst 0, 0, 0), (48, .istore_n 2, 0, 0), (49, .iload_n 2, 0, 0), (50, .aload_n 1, 0, 0), (51, .getfield 42, 3, 3), (54, .if_icmp .ge 52, 0, 0), (57, .aload_n 1, 0, 0), (58, .getfield 46, 3, 2), (61, .iload_n 2, 0, 0), (62, .aaload, 0, 0), (63, .astore_n 3, 0, 0), (64, .aload_n 0, 0, 0), (65, .getfield 24, 4, 3), (68, .aload_n 3, 0, 0), (69, .getfield 73, 2, 0), (72, .aaload, 0, 0), (73, .aload_n 3, 0, 0), (74, .getfield 76, 2, 1), (77, .aload_n 3, 0, 0), (78, .getfield 79, 2, 2), (81, .iastore, 0, 0), (82, .aload_n 0, 0, 0), (83, .getfield 24, 4, 3), (86, .aload_n 3, 0, 0), (87, .getfield 76, 2, 1), (90, .aaload, 0, 0), (91, .aload_n 3, 0, 0), (92, .getfield 73, 2, 0), (95, .aload_n 3, 0, 0), (96, .getfield 79, 2, 2), (99, .iastore, 0, 0), (100, .iinc 2 1, 0, 0), (103, .goto (-54), 0, 0), (106, .iconst 0, 0, 0), (107, .istore_n 2, 0, 0), (108, .iload_n 2, 0, 0), (109, .bipush 8, 0, 0), (111, .if_icmp .ge 14, 0, 0), (114, .aload_n 0, 0, 0), (115, .iload_n 2, 0, 0), (116, .invokevirtual 82, 64, 65), (119, .iinc 2 1, 0, 0), (122, .goto (-14), 0, 0), (125, .return_, 0, 0)]
def k_X4_allowOver : List mm_E := [(0, .iconst 0, 0, 0), (1, .istore_n 2, 0, 0), (2, .iload_n 2, 0, 0), (3, .bipush 8, 0, 0), (5, .if_icmp .ge 63, 0, 0), (8, .iconst 0, 0, 0), (9, .istore_n 3, 0, 0), (10, .iload_n 3, 0, 0), (11, .bipush 8, 0, 0), (13, .if_icmp .ge 49, 0, 0), (16, .aload_n 0, 0, 0), (17, .getfield 24, 4, 3), (20, .iload_n 2, 0, 0), (21, .aaload, 0, 0), (22, .iload_n 1, 0, 0), (23, .iaload, 0, 0), (24, .aload_n 0, 0, 0), (25, .getfield 24, 4, 3), (28, .iload_n 1, 0, 0), (29, .aaload, 0, 0), (30, .iload_n 3, 0, 0), (31, .iaload, 0, 0), (32, .iadd, 0, 0), (33, .istore 4, 0, 0), (35, .aload_n 0, 0, 0), (36, .getfield 24, 4, 3), (39, .iload_n 2, 0, 0), (40, .aaload, 0, 0), (41, .iload_n 3, 0, 0), (42, .aload_n 0, 0, 0), (43, .getfield 24, 4, 3), (46, .iload_n 2, 0, 0), (47, .aaload, 0, 0), (48, .iload_n 3, 0, 0), (49, .iaload, 0, 0), (50, .iload 4, 0, 0), (52, .invokestatic 67, 0, 258), (55, .iastore, 0, 0), (56, .iinc 3 1, 0, 0), (59, .goto (-49), 0, 0), (62, .iinc 2 1, 0, 0), (65, .goto (-63), 0, 0), (68, .return_, 0, 0)]
def k_X4_goAgainAndAgain : List mm_E := [(0, .iconst 0, 0, 0), (1, .istore_n 3, 0, 0), (2, .iload_n 3, 0, 0), (3, .bipush 8, 0, 0), (5, .if_icmp .ge 17, 0, 0), (8, .aload_n 0, 0, 0), (9, .getfield 19, 4, 2), (12, .iload_n 3, 0, 0), (13, .ldc 27, 1000000, 11), (15, .iastore, 0, 0), (16, .iinc 3 1, 0, 0), (19, .goto (-17), 0, 0), (22, .aload_n 0, 0, 0), (23, .getfield 19, 4, 2), (26, .aload_n 1, 0, 0), (27, .getfield 86, 3, 0), (30, .iload_n 2, 0, 0), (31, .aaload, 0, 0), (32, .getfield 90, 0, 1), (35, .iconst 0, 0, 0), (36, .iastore, 0, 0), (37, .iconst 1, 0, 0), (38, .istore_n 3, 0, 0), (39, .iload_n 3, 0, 0), (40, .bipush 8, 0, 0), (42, .if_icmp .ge 70, 0, 0), (45, .iconst 0, 0, 0), (46, .istore 4, 0, 0), (48, .iload 4, 0, 0), (50, .aload_n 1, 0, 0), (51, .getfield 42, 3, 3), (54, .if_icmp .ge 52, 0, 0), (57, .aload_n 1, 0, 0), (58, .getfield 46, 3, 2), (61, .iload 4, 0, 0), (63, .aaload, 0, 0), (64, .astore 5, 0, 0), (66, .aload_n 0, 0, 0), (67, .aload_n 1, 0, 0), (68, .iload_n 2, 0, 0), (69, .aload 5, 0, 0), (71, .aload 5, 0, 0), (73, .getfield 73, 2, 0), (76, .aload_n 0, 0, 0), (77, .getfield 19, 4, 2), (80, .invokevirtual 56, 62, 69), (83, .aload_n 0, 0, 0), (84, .aload_n 1, 0, 0), (85, .iload_n 2, 0, 0), (86, .aload 5, 0, 0), (88, .aload 5, 0, 0), (90, .getfield 76, 2, 1), (93, .aload_n 0, 0, 0), (94, .getfield 19, 4, 2), (97, .invokevirtual 56, 62, 69), (100, .iinc 4 1, 0, 0), (103, .goto (-55), 0, 0), (106, .iinc 3 1, 0, 0), (109, .goto (-70), 0, 0), (112, .return_, 0, 0)]
def k_X4_firstStair : List mm_E := [(0, .aload_n 1, 0, 0), (1, .getfield 86, 3, 0), (4, .iload_n 2, 0, 0), (5, .aaload, 0, 0), (6, .getfield 90, 0, 1), (9, .istore 4, 0, 0), (11, .aload_n 0, 0, 0), (12, .aload_n 1, 0, 0), (13, .iload_n 2, 0, 0), (14, .iload_n 3, 0, 0), (15, .invokevirtual 95, 59, 67), (18, .iload 4, 0, 0), (20, .iload_n 3, 0, 0), (21, .if_icmp .eq 15, 0, 0), (24, .aload_n 0, 0, 0), (25, .getfield 9, 4, 0), (28, .iload 4, 0, 0), (30, .iaload, 0, 0), (31, .ldc 27, 1000000, 11), (33, .if_icmp .lt 5, 0, 0), (36, .iconst (-1), 0, 0), (37, .ireturn, 0, 0), (38, .iconst 0, 0, 0), (39, .istore 5, 0, 0), (41, .iload 5, 0, 0), (43, .aload_n 1, 0, 0), (44, .getfield 42, 3, 3), (47, .if_icmp .ge 60, 0, 0), (50, .aload_n 1, 0, 0), (51, .getfield 46, 3, 2), (54, .iload 5, 0, 0), (56, .aaload, 0, 0), (57, .astore 6, 0, 0), (59, .aload 6, 0, 0), (61, .iload 4, 0, 0), (63, .invokevirtual 50, 16, 65), (66, .ifCond .eq 35, 0, 0), (69, .aload 6, 0, 0), (71, .iload_n 2, 0, 0), (72, .invokevirtual 64, 20, 65), (75, .aload_n 0, 0, 0), (76, .getfield 9, 4, 0), (79, .aload 6, 0, 0), (81, .iload 4, 0, 0), (83, .invokevirtual 60, 17, 65), (86, .iaload, 0, 0), (87, .iadd, 0, 0), (88, .aload_n 0, 0, 0), (89, .getfield 9, 4, 0), (92, .iload 4, 0, 0), (94, .iaload, 0, 0), (95, .if_icmp .ne 6, 0, 0), (98, .iload 5, 0, 0), (100, .ireturn, 0, 0), (101, .iinc 5 1, 0, 0), (104, .goto (-63), 0, 0), (107, .iconst (-1), 0, 0), (108, .ireturn, 0, 0)]
def k_X5_init : List mm_E := [(0, .aload_n 0, 0, 0), (1, .invokespecial 3, 0, 128), (4, .aload_n 0, 0, 0), (5, .new 9, 3, 9), (8, .dup, 0, 0), (9, .invokespecial 11, 22, 96), (12, .putfield 12, 5, 0), (15, .aload_n 0, 0, 0), (16, .new 9, 3, 9), (19, .dup, 0, 0), (20, .invokespecial 11, 22, 96), (23, .putfield 16, 5, 1), (26, .aload_n 0, 0, 0), (27, .new 9, 3, 9), (30, .dup, 0, 0), (31, .invokespecial 11, 22, 96), (34, .putfield 19, 5, 2), (37, .aload_n 0, 0, 0), (38, .iconst 0, 0, 0), (39, .putfield 22, 5, 3), (42, .aload_n 0, 0, 0), (43, .bipush 8, 0, 0), (45, .anewarray 9, 3, 10), (48, .putfield 26, 5, 4), (51, .aload_n 0, 0, 0), (52, .iconst 0, 0, 0), (53, .putfield 30, 5, 5), (56, .aload_n 0, 0, 0), (57, .iconst 0, 0, 0), (58, .putfield 34, 5, 6), (61, .aload_n 0, 0, 0), (62, .new 37, 4, 9), (65, .dup, 0, 0), (66, .invokespecial 39, 58, 112), (69, .putfield 40, 5, 7), (72, .aload_n 0, 0, 0), (73, .new 44, 1, 9), (76, .dup, 0, 0), (77, .invokespecial 46, 2, 112), (80, .putfield 47, 5, 8), (83, .aload_n 0, 0, 0), (84, .iconst (-1), 0, 0), (85, .putfield 51, 5, 9), (88, .aload_n 0, 0, 0), (89, .lconst 0, 0, 0), (90, .putfield 54, 5, 10), (93, .aload_n 0, 0, 0), (94, .lconst 0, 0, 0), (95, .putfield 58, 5, 11), (98, .aload_n 0, 0, 0), (99, .new 61, 7, 9), (102, .dup, 0, 0), (103, .invokespecial 63, 241, 96), (106, .putfield 64, 5, 12), (109, .iconst 0, 0, 0), (110, .istore_n 1, 0, 0), (111, .iload_n 1, 0, 0), (112, .bipush 8, 0, 0), (114, .if_icmp .ge 22, 0, 0), (117, .aload_n 0, 0, 0), (118, .getfield 26, 5, 4), (121, .iload_n 1, 0, 0), (122, .new 9, 3, 9), (125, .dup, 0, 0), (126, .invokespecial 11, 22, 96), (129, .aastore, 0, 0), (130, .iinc 1 1, 0, 0), (133, .goto (-22), 0, 0), (136, .return_, 0, 0)]
def k_X5_build : List mm_E := [(0, .aload_n 0, 0, 0), (1, .aload_n 0, 0, 0), (2, .getfield 12, 5, 0), (5, .iload_n 1, 0, 0), (6, .iload_n 2, 0, 0), (7, .iload_n 3, 0, 0), (8, .invokevirtual 68, 25, 67), (11, .invokevirtual 72, 113, 65), (14, .ifCond .eq 13, 0, 0), (17, .new 76, 0, 16), (27, .aload_n 0, 0, 0), (28, .invokevirtual 83, 112, 64), (31, .aload_n 0, 0, 0), (32, .getfield 12, 5, 0), (35, .iload_n 1, 0, 0), (36, .iload_n 2, 0, 0), (37, .iload_n 3, 0, 0), (38, .invokevirtual 86, 26, 67), (41, .ireturn, 0, 0)]
def k_X5_tear : List mm_E := [(0, .aload_n 0, 0, 0), (1, .aload_n 0, 0, 0), (2, .getfield 12, 5, 0), (5, .iload_n 1, 0, 0), (6, .invokevirtual 90, 27, 65), (9, .invokevirtual 72, 113, 65), (12, .ifCond .eq 13, 0, 0), (15, .new 76, 1, 16), (25, .aload_n 0, 0, 0), (26, .invokevirtual 83, 112, 64), (29, .aload_n 0, 0, 0), (30, .getfield 12, 5, 0), (33, .iload_n 1, 0, 0), (34, .invokevirtual 96, 28, 65), (37, .ireturn, 0, 0)]
def k_X5_halve : List mm_E := [(0, .aload_n 0, 0, 0), (1, .aload_n 0, 0, 0), (2, .getfield 12, 5, 0), (5, .iload_n 1, 0, 0), (6, .invokevirtual 100, 29, 65), (9, .invokevirtual 72, 113, 65), (12, .ifCond .eq 13, 0, 0), (15, .new 76, 2, 16), (25, .aload_n 0, 0, 0), (26, .invokevirtual 83, 112, 64), (29, .aload_n 0, 0, 0), (30, .getfield 12, 5, 0), (33, .iload_n 1, 0, 0), (34, .invokevirtual 105, 30, 65), (37, .ireturn, 0, 0)]
def k_X5_lease : List mm_E := [(0, .aload_n 0, 0, 0), (1, .aload_n 0, 0, 0), (2, .getfield 12, 5, 0), (5, .iload_n 1, 0, 0), (6, .iload_n 2, 0, 0), (7, .iload_n 3, 0, 0), (8, .invokevirtual 108, 32, 67), (11, .invokevirtual 72, 113, 65), (14, .ifCond .eq 13, 0, 0), (17, .new 76, 3, 16), (27, .aload_n 0, 0, 0), (28, .invokevirtual 83, 112, 64), (31, .aload_n 0, 0, 0), (32, .getfield 12, 5, 0), (35, .iload_n 1, 0, 0), (36, .iload_n 2, 0, 0), (37, .iload_n 3, 0, 0), (38, .invokevirtual 113, 33, 67), (41, .ireturn, 0, 0)]
def k_X5_climb : List mm_E := [(0, .aload_n 0, 0, 0), (1, .aload_n 0, 0, 0), (2, .getfield 12, 5, 0), (5, .iload_n 1, 0, 0), (6, .iload_n 2, 0, 0), (7, .invokevirtual 116, 34, 66), (10, .invokevirtual 72, 113, 65), (13, .ifCond .eq 13, 0, 0), (16, .new 76, 4, 16), (26, .aload_n 0, 0, 0), (27, .invokevirtual 83, 112, 64), (30, .aload_n 0, 0, 0), (31, .getfield 12, 5, 0), (34, .iload_n 1, 0, 0), (35, .iload_n 2, 0, 0), (36, .invokevirtual 122, 35, 66), (39, .ireturn, 0, 0)]
def k_X5_levy : List mm_E := [(0, .aload_n 0, 0, 0), (1, .aload_n 0, 0, 0), (2, .getfield 12, 5, 0), (5, .iload_n 1, 0, 0), (6, .iload_n 2, 0, 0), (7, .invokevirtual 126, 36, 66), (10, .invokevirtual 72, 113, 65), (13, .ifCond .eq 13, 0, 0), (16, .new 76, 5, 16), (26, .aload_n 0, 0, 0), (27, .invokevirtual 83, 112, 64), (30, .aload_n 0, 0, 0), (31, .getfield 12, 5, 0), (34, .iload_n 1, 0, 0), (35, .iload_n 2, 0, 0), (36, .invokevirtual 131, 38, 66), (39, .ireturn, 0, 0)]
def k_X5_take : List mm_E := [(0, .aload_n 0, 0, 0), (1, .aload_n 0, 0, 0), (2, .getfield 12, 5, 0), (5, .iload_n 1, 0, 0), (6, .invokevirtual 134, 40, 65), (9, .invokevirtual 72, 113, 65), (12, .ifCond .eq 13, 0, 0), (15, .new 76, 6, 16), (25, .aload_n 0, 0, 0), (26, .invokevirtual 83, 112, 64), (29, .aload_n 0, 0, 0), (30, .getfield 12, 5, 0), (33, .iload_n 1, 0, 0), (34, .invokevirtual 139, 41, 65), (37, .ireturn, 0, 0)]
def k_X5_free : List mm_E := [(0, .aload_n 0, 0, 0), (1, .aload_n 0, 0, 0), (2, .getfield 12, 5, 0), (5, .iload_n 1, 0, 0), (6, .iload_n 2, 0, 0), (7, .invokevirtual 142, 42, 66), (10, .invokevirtual 72, 113, 65), (13, .ifCond .eq 13, 0, 0), (16, .new 76, 7, 16), (26, .aload_n 0, 0, 0), (27, .invokevirtual 83, 112, 64), (30, .aload_n 0, 0, 0), (31, .getfield 12, 5, 0), (34, .iload_n 1, 0, 0), (35, .iload_n 2, 0, 0), (36, .invokevirtual 147, 43, 66), (39, .ireturn, 0, 0)]
def k_X5_day : List mm_E := [(0, .aload_n 0, 0, 0), (1, .invokevirtual 83, 112, 64), (4, .aload_n 0, 0, 0), (5, .getfield 12, 5, 0), (8, .invokevirtual 150, 44, 64), (11, .ireturn, 0, 0)]
def k_X5_giantOf : List mm_E := [(0, .iload_n 1, 0, 0), (1, .invokestatic 154, 118, 33), (4, .ifCond .ne 13, 0, 0), (7, .new 158, 8, 16), (17, .iload_n 2, 0, 0), (18, .tableswitch 125 0 6 #[42, 55, 68, 77, 90, 99, 112], 0, 42), (60, .aload_n 0, 0, 0), (61, .getfield 12, 5, 0), (64, .getfield 163, 3, 0), (67, .iload_n 1, 0, 0), (68, .aaload, 0, 0), (69, .getfield 167, 0, 0), (72, .ireturn, 0, 0), (73, .aload_n 0, 0, 0), (74, .getfield 12, 5, 0), (77, .getfield 163, 3, 0), (80, .iload_n 1, 0, 0), (81, .aaload, 0, 0), (82, .getfield 172, 0, 1), (85, .ireturn, 0, 0), (86, .aload_n 0, 0, 0), (87, .getfield 12, 5, 0), (90, .iload_n 1, 0, 0), (91, .invokevirtual 175, 50, 65), (94, .ireturn, 0, 0), (95, .aload_n 0, 0, 0), (96, .getfield 12, 5, 0), (99, .getfield 163, 3, 0), (102, .iload_n 1, 0, 0), (103, .aaload, 0, 0), (104, .getfield 178, 0, 2), (107, .ireturn, 0, 0), (108, .aload_n 0, 0, 0), (109, .getfield 12, 5, 0), (112, .iload_n 1, 0, 0), (113, .invokevirtual 181, 51, 65), (116, .ireturn, 0, 0), (117, .aload_n 0, 0, 0), (118, .getfield 12, 5, 0), (121, .getfield 163, 3, 0), (124, .iload_n 1, 0, 0), (125, .aaload, 0, 0), (126, .getfield 184, 0, 3), (129, .ireturn, 0, 0), (130, .aload_n 0, 0, 0), (131, .getfield 12, 5, 0), (134, .getfield 163, 3, 0), (137, .iload_n 1, 0, 0), (138, .aaload, 0, 0), (139, .getfield 187, 0, 4), (142, .ireturn, 0, 0), (143, .new 190, 9, 16)]
def k_X5_landingOf : List mm_E := [(0, .iload_n 1, 0, 0), (1, .invokestatic 195, 119, 33), (4, .ifCond .ne 13, 0, 0), (7, .new 158, 10, 16), (17, .iload_n 2, 0, 0), (18, .tableswitch 70 0 3 #[30, 40, 52, 61], 0, 30), (48, .aload_n 0, 0, 0), (49, .getfield 12, 5, 0), (52, .getfield 200, 3, 1), (55, .iload_n 1, 0, 0), (56, .iaload, 0, 0), (57, .ireturn, 0, 0), (58, .aload_n 0, 0, 0), (59, .getfield 12, 5, 0), (62, .iload_n 1, 0, 0), (63, .invokevirtual 204, 47, 65), (66, .invokestatic 207, 258, 33), (69, .ireturn, 0, 0), (70, .aload_n 0, 0, 0), (71, .getfield 12, 5, 0), (74, .iload_n 1, 0, 0), (75, .invokevirtual 212, 49, 65), (78, .ireturn, 0, 0), (79, .aload_n 0, 0, 0), (80, .getfield 12, 5, 0), (83, .iload_n 1, 0, 0), (84, .invokevirtual 204, 47, 65), (87, .ireturn, 0, 0), (88, .new 190, 11, 16)]
def k_X5_stairOf : List mm_E := [(0, .aload_n 0, 0, 0), (1, .getfield 12, 5, 0), (4, .iload_n 1, 0, 0), (5, .invokevirtual 217, 24, 65), (8, .ifCond .ne 13, 0, 0), (11, .new 158, 12, 16), (21, .aload_n 0, 0, 0), (22, .getfield 12, 5, 0), (25, .getfield 222, 3, 2), (28, .iload_n 1, 0, 0), (29, .aaload, 0, 0), (30, .astore_n 3, 0, 0), (31, .iload_n 2, 0, 0), (32, .tableswitch 88 0 7 #[48, 53, 58, 63, 68, 73, 78, 83], 0, 48), (80, .aload_n 3, 0, 0), (81, .getfield 226, 2, 0), (84, .ireturn, 0, 0), (85, .aload_n 3, 0, 0), (86, .getfield 231, 2, 1), (89, .ireturn, 0, 0), (90, .aload_n 3, 0, 0), (91, .getfield 234, 2, 2), (94, .ireturn, 0, 0), (95, .aload_n 3, 0, 0), (96, .getfield 237, 2, 3), (99, .ireturn, 0, 0), (100, .aload_n 3, 0, 0), (101, .getfield 240, 2, 4), (104, .ireturn, 0, 0), (105, .aload_n 3, 0, 0), (106, .getfield 243, 2, 5), (109, .ireturn, 0, 0), (110, .aload_n 3, 0, 0), (111, .getfield 246, 2, 6), (114, .ireturn, 0, 0), (115, .aload_n 3, 0, 0), (116, .invokevirtual 249, 18, 64), (119, .ireturn, 0, 0), (120, .new 190, 13, 16)]
def k_X5_between : List mm_E := [(0, .iload_n 1, 0, 0), (1, .invokestatic 195, 119, 33), (4, .ifCond .eq 10, 0, 0), (7, .iload_n 2, 0, 0), (8, .invokestatic 195, 119, 33), (11, .ifCond .ne 13, 0, 0), (14, .new 158, 10, 16), (24, .aload_n 0, 0, 0), (25, .getfield 12, 5, 0), (28, .iload_n 1, 0, 0), (29, .iload_n 2, 0, 0), (30, .invokevirtual 254, 46, 66), (33, .istore_n 3, 0, 0), (34, .iload_n 3, 0, 0), (35, .iconst (-1), 0, 0), (36, .if_icmp .ne 14, 0, 0), (39, .new 257, 14, 17), (50, .iload_n 3, 0, 0), (51, .ireturn, 0, 0)]
def k_X5_breaths : List mm_E := [(0, .iload_n 1, 0, 0), (1, .invokestatic 154, 118, 33), (4, .ifCond .eq 14, 0, 0), (7, .aload_n 0, 0, 0), (8, .getfield 12, 5, 0), (11, .iload_n 2, 0, 0), (12, .invokevirtual 217, 24, 65), (15, .ifCond .ne 14, 0, 0), (18, .new 158, 15, 17), (29, .aload_n 0, 0, 0), (30, .getfield 12, 5, 0), (33, .getfield 222, 3, 2), (36, .iload_n 2, 0, 0), (37, .aaload, 0, 0), (38, .iload_n 1, 0, 0), (39, .invokevirtual 264, 20, 65), (42, .ireturn, 0, 0)]
def k_X5_steps : List mm_E := [(0, .iload_n 1, 0, 0), (1, .invokestatic 195, 119, 33), (4, .ifCond .eq 10, 0, 0), (7, .iload_n 2, 0, 0), (8, .invokestatic 195, 119, 33), (11, .ifCond .ne 13, 0, 0), (14, .new 158, 10, 16), (24, .aload_n 0, 0, 0), (25, .getfield 40, 5, 7), (28, .aload_n 0, 0, 0), (29, .getfield 12, 5, 0), (32, .iconst (-1), 0, 0), (33, .iload_n 1, 0, 0), (34, .invokevirtual 267, 59, 67), (37, .aload_n 0, 0, 0), (38, .getfield 40, 5, 7), (41, .getfield 271, 4, 0), (44, .iload_n 2, 0, 0), (45, .iaload, 0, 0), (46, .ldc_w 274, 1000000, 11), (49, .if_icmp .lt 14, 0, 0), (52, .new 257, 16, 17), (63, .aload_n 0, 0, 0), (64, .getfield 40, 5, 7), (67, .getfield 271, 4, 0), (70, .iload_n 2, 0, 0), (71, .iaload, 0, 0), (72, .ireturn, 0, 0)]
def k_X5_stepsAgain : List mm_E := [(0, .iload_n 1, 0, 0), (1, .invokestatic 195, 119, 33), (4, .ifCond .eq 10, 0, 0), (7, .iload_n 2, 0, 0), (8, .invokestatic 195, 119, 33), (11, .ifCond .ne 13, 0, 0), (14, .new 158, 10, 16), (24, .aload_n 0, 0, 0), (25, .getfield 40, 5, 7), (28, .aload_n 0, 0, 0), (29, .getfield 12, 5, 0), (32, .invokevirtual 277, 63, 65), (35, .aload_n 0, 0, 0), (36, .getfield 40, 5, 7), (39, .getfield 281, 4, 3), (42, .iload_n 1, 0, 0), (43, .aaload, 0, 0), (44, .iload_n 2, 0, 0), (45, .iaload, 0, 0), (46, .ldc_w 274, 1000000, 11), (49, .if_icmp .lt 14, 0, 0), (52, .new 257, 16, 17), (63, .aload_n 0, 0, 0), (64, .getfield 40, 5, 7), (67, .getfield 281, 4, 3), (70, .iload_n 1, 0, 0), (71, .aaload, 0, 0), (72, .iload_n 2, 0, 0), (73, .iaload, 0, 0), (74, .ireturn, 0, 0)]
def k_X5_way : List mm_E := [(0, .iload_n 1, 0, 0), (1, .invokestatic 154, 118, 33), (4, .ifCond .eq 10, 0, 0), (7, .iload_n 2, 0, 0), (8, .invokestatic 195, 119, 33), (11, .ifCond .ne 14, 0, 0), (14, .new 158, 17, 17), (25, .aload_n 0, 0, 0), (26, .getfield 40, 5, 7), (29, .aload_n 0, 0, 0), (30, .getfield 12, 5, 0), (33, .iload_n 1, 0, 0), (34, .aload_n 0, 0, 0), (35, .getfield 12, 5, 0), (38, .getfield 163, 3, 0), (41, .iload_n 1, 0, 0), (42, .aaload, 0, 0), (43, .getfield 172, 0, 1), (46, .invokevirtual 267, 59, 67), (49, .aload_n 0, 0, 0), (50, .getfield 40, 5, 7), (53, .getfield 271, 4, 0), (56, .iload_n 2, 0, 0), (57, .iaload, 0, 0), (58, .ldc_w 274, 1000000, 11), (61, .if_icmp .lt 14, 0, 0), (64, .new 257, 18, 17), (75, .aload_n 0, 0, 0), (76, .getfield 40, 5, 7), (79, .getfield 271, 4, 0), (82, .iload_n 2, 0, 0), (83, .iaload, 0, 0), (84, .ireturn, 0, 0)]
def k_X5_wayAgain : List mm_E := [(0, .iload_n 1, 0, 0), (1, .invokestatic 154, 118, 33), (4, .ifCond .eq 10, 0, 0), (7, .iload_n 2, 0, 0), (8, .invokestatic 195, 119, 33), (11, .ifCond .ne 14, 0, 0), (14, .new 158, 17, 17), (25, .aload_n 0, 0, 0), (26, .getfield 40, 5, 7), (29, .aload_n 0, 0, 0), (30, .getfield 12, 5, 0), (33, .iload_n 1, 0, 0), (34, .invokevirtual 289, 65, 66), (37, .aload_n 0, 0, 0), (38, .getfield 40, 5, 7), (41, .getfield 293, 4, 2), (44, .iload_n 2, 0, 0), (45, .iaload, 0, 0), (46, .ldc_w 274, 1000000, 11), (49, .if_icmp .lt 14, 0, 0), (52, .new 257, 18, 17), (63, .aload_n 0, 0, 0), (64, .getfield 40, 5, 7), (67, .getfield 293, 4, 2), (70, .iload_n 2, 0, 0), (71, .iaload, 0, 0), (72, .ireturn, 0, 0)]
def k_X5_first : List mm_E := [(0, .iload_n 1, 0, 0), (1, .invokestatic 154, 118, 33), (4, .ifCond .eq 10, 0, 0), (7, .iload_n 2, 0, 0), (8, .invokestatic 195, 119, 33), (11, .ifCond .ne 14, 0, 0), (14, .new 158, 17, 17), (25, .aload_n 0, 0, 0), (26, .getfield 40, 5, 7), (29, .aload_n 0, 0, 0), (30, .getfield 12, 5, 0), (33, .iload_n 1, 0, 0), (34, .iload_n 2, 0, 0), (35, .invokevirtual 296, 66, 67), (38, .istore_n 3, 0, 0), (39, .iload_n 3, 0, 0), (40, .iconst (-1), 0, 0), (41, .if_icmp .ne 14, 0, 0), (44, .new 257, 19, 17), (55, .iload_n 3, 0, 0), (56, .ireturn, 0, 0)]
def k_X5_reach : List mm_E := [(0, .iload_n 1, 0, 0), (1, .invokestatic 154, 118, 33), (4, .ifCond .ne 13, 0, 0), (7, .new 158, 8, 16), (17, .aload_n 0, 0, 0), (18, .getfield 40, 5, 7), (21, .aload_n 0, 0, 0), (22, .getfield 12, 5, 0), (25, .iload_n 1, 0, 0), (26, .aload_n 0, 0, 0), (27, .getfield 12, 5, 0), (30, .getfield 163, 3, 0), (33, .iload_n 1, 0, 0), (34, .aaload, 0, 0), (35, .getfield 172, 0, 1), (38, .invokevirtual 267, 59, 67), (41, .iconst 0, 0, 0), (42, .istore_n 2, 0, 0), (43, .iconst 0, 0, 0), (44, .istore_n 3, 0, 0), (45, .iload_n 3, 0, 0), (46, .bipush 8, 0, 0), (48, .if_icmp .ge 30, 0, 0), (51, .aload_n 0, 0, 0), (52, .getfield 40, 5, 7), (55, .getfield 271, 4, 0), (58, .iload_n 3, 0, 0), (59, .iaload, 0, 0), (60, .ldc_w 274, 1000000, 11), (63, .if_icmp .ge 9, 0, 0), (66, .iload_n 2, 0, 0), (67, .iconst 1, 0, 0), (68, .iload_n 3, 0, 0), (69, .ishl, 0, 0), (70, .ior, 0, 0), (71, .istore_n 2, 0, 0), (72, .iinc 3 1, 0, 0), (75, .goto (-30), 0, 0), (78, .iload_n 2, 0, 0), (79, .ireturn, 0, 0)]
def k_X5_dustIn : List mm_E := [(0, .aload_n 0, 0, 0), (1, .getfield 12, 5, 0), (4, .iload_n 1, 0, 0), (5, .invokevirtual 217, 24, 65), (8, .ifCond .ne 13, 0, 0), (11, .new 158, 12, 16), (21, .iload_n 2, 0, 0), (22, .iconst 0, 0, 0), (23, .bipush 40, 0, 0), (25, .invokestatic 302, 117, 35), (28, .ifCond .ne 14, 0, 0), (31, .new 190, 20, 17), (42, .aload_n 0, 0, 0), (43, .getfield 12, 5, 0), (46, .getfield 222, 3, 2), (49, .iload_n 1, 0, 0), (50, .aaload, 0, 0), (51, .astore_n 3, 0, 0), (52, .aload_n 3, 0, 0), (53, .getfield 237, 2, 3), (56, .istore 4, 0, 0), (58, .iconst 0, 0, 0), (59, .istore 5, 0, 0), (61, .iload 5, 0, 0), (63, .iload_n 2, 0, 0), (64, .if_icmp .ge 23, 0, 0), (67, .bipush 20, 0, 0), (69, .iload 4, 0, 0), (71, .aload_n 3, 0, 0), (72, .invokevirtual 308, 19, 64), (75, .iadd, 0, 0), (76, .invokestatic 311, 0, 258), (79, .istore 4, 0, 0), (81, .iinc 5 1, 0, 0), (84, .goto (-23), 0, 0), (87, .iload 4, 0, 0), (89, .ireturn, 0, 0)]
def k_X5_dustAgain : List mm_E := [(0, .aload_n 0, 0, 0), (1, .getfield 12, 5, 0), (4, .iload_n 1, 0, 0), (5, .invokevirtual 217, 24, 65), (8, .ifCond .ne 13, 0, 0), (11, .new 158, 12, 16), (21, .iload_n 2, 0, 0), (22, .iconst 0, 0, 0), (23, .bipush 40, 0, 0), (25, .invokestatic 302, 117, 35), (28, .ifCond .ne 14, 0, 0), (31, .new 190, 20, 17), (42, .aload_n 0, 0, 0), (43, .getfield 12, 5, 0), (46, .getfield 222, 3, 2), (49, .iload_n 1, 0, 0), (50, .aaload, 0, 0), (51, .astore_n 3, 0, 0), (52, .bipush 20, 0, 0), (54, .aload_n 3, 0, 0), (55, .getfield 237, 2, 3), (58, .iload_n 2, 0, 0), (59, .aload_n 3, 0, 0), (60, .invokevirtual 308, 19, 64), (63, .imul, 0, 0), (64, .iadd, 0, 0), (65, .invokestatic 311, 0, 258), (68, .ireturn, 0, 0)]
def k_X5_rentsIn : List mm_E := [(0, .iload_n 1, 0, 0), (1, .iconst 0, 0, 0), (2, .bipush 40, 0, 0), (4, .invokestatic 302, 117, 35), (7, .ifCond .ne 14, 0, 0), (10, .new 190, 20, 17), (21, .aload_n 0, 0, 0), (22, .getfield 16, 5, 1), (25, .aload_n 0, 0, 0), (26, .getfield 12, 5, 0), (29, .invokevirtual 316, 23, 65), (32, .iconst 0, 0, 0), (33, .istore_n 2, 0, 0), (34, .iconst 0, 0, 0), (35, .istore_n 3, 0, 0), (36, .iload_n 3, 0, 0), (37, .iload_n 1, 0, 0), (38, .if_icmp .ge 19, 0, 0), (41, .iload_n 2, 0, 0), (42, .aload_n 0, 0, 0), (43, .getfield 16, 5, 1), (46, .invokevirtual 150, 44, 64), (49, .iadd, 0, 0), (50, .istore_n 2, 0, 0), (51, .iinc 3 1, 0, 0), (54, .goto (-18), 0, 0), (57, .iload_n 2, 0, 0), (58, .ireturn, 0, 0)]
def k_X5_levyOf : List mm_E := [(0, .iload_n 1, 0, 0), (1, .invokestatic 154, 118, 33), (4, .ifCond .eq 14, 0, 0), (7, .aload_n 0, 0, 0), (8, .getfield 12, 5, 0), (11, .iload_n 2, 0, 0), (12, .invokevirtual 217, 24, 65), (15, .ifCond .ne 14, 0, 0), (18, .new 158, 15, 17), (29, .aload_n 0, 0, 0), (30, .getfield 12, 5, 0), (33, .iload_n 1, 0, 0), (34, .iload_n 2, 0, 0), (35, .invokevirtual 319, 37, 66), (38, .ireturn, 0, 0)]
def k_X5_bestLevy : List mm_E := [(0, .iload_n 1, 0, 0), (1, .invokestatic 154, 118, 33), (4, .ifCond .ne 13, 0, 0), (7, .new 158, 8, 16), (17, .iconst (-1), 0, 0), (18, .istore_n 2, 0, 0), (19, .iconst 0, 0, 0), (20, .istore_n 3, 0, 0), (21, .iconst 0, 0, 0), (22, .istore 4, 0, 0), (24, .iload 4, 0, 0), (26, .aload_n 0, 0, 0), (27, .getfield 12, 5, 0), (30, .getfield 322, 3, 3), (33, .if_icmp .ge 33, 0, 0), (36, .aload_n 0, 0, 0), (37, .getfield 12, 5, 0), (40, .iload_n 1, 0, 0), (41, .iload 4, 0, 0), (43, .invokevirtual 319, 37, 66), (46, .istore 5, 0, 0), (48, .iload 5, 0, 0), (50, .iload_n 3, 0, 0), (51, .if_icmp .le 9, 0, 0), (54, .iload 5, 0, 0), (56, .istore_n 3, 0, 0), (57, .iload 4, 0, 0), (59, .istore_n 2, 0, 0), (60, .iinc 4 1, 0, 0), (63, .goto (-39), 0, 0), (66, .iload_n 2, 0, 0), (67, .iconst (-1), 0, 0), (68, .if_icmp .ne 14, 0, 0), (71, .new 257, 21, 17), (82, .iload_n 2, 0, 0), (83, .ireturn, 0, 0)]
def k_X5_canTake : List mm_E := [(0, .iload_n 1, 0, 0), (1, .invokestatic 195, 119, 33), (4, .ifCond .ne 13, 0, 0), (7, .new 158, 10, 16), (17, .aload_n 0, 0, 0), (18, .getfield 12, 5, 0), (21, .iload_n 1, 0, 0), (22, .invokevirtual 134, 40, 65), (25, .lconst 0, 0, 0), (26, .lcmp, 0, 0), (27, .ifCond .ne 7, 0, 0), (30, .iconst 1, 0, 0), (31, .goto 4, 0, 0), (34, .iconst 0, 0, 0), (35, .ireturn, 0, 0)]
def k_X5_takable : List mm_E := [(0, .iconst 0, 0, 0), (1, .istore_n 1, 0, 0), (2, .iconst 0, 0, 0), (3, .istore_n 2, 0, 0), (4, .iload_n 2, 0, 0), (5, .bipush 8, 0, 0), (7, .if_icmp .ge 28, 0, 0), (10, .aload_n 0, 0, 0), (11, .getfield 12, 5, 0), (14, .iload_n 2, 0, 0), (15, .invokevirtual 134, 40, 65), (18, .lconst 0, 0, 0), (19, .lcmp, 0, 0), (20, .ifCond .ne 9, 0, 0), (23, .iload_n 1, 0, 0), (24, .iconst 1, 0, 0), (25, .iload_n 2, 0, 0), (26, .ishl, 0, 0), (27, .ior, 0, 0), (28, .istore_n 1, 0, 0), (29, .iinc 2 1, 0, 0), (32, .goto (-28), 0, 0), (35, .iload_n 1, 0, 0), (36, .ireturn, 0, 0)]
def k_X5_turn : List mm_E := [(0, .aload_n 0, 0, 0), (1, .getfield 12, 5, 0), (4, .getfield 327, 3, 5), (7, .ireturn, 0, 0)]
def k_X5_ranked : List mm_E := [(0, .iload_n 1, 0, 0), (1, .iconst 0, 0, 0), (2, .iconst 3, 0, 0), (3, .invokestatic 302, 117, 35), (6, .ifCond .ne 14, 0, 0), (9, .new 190, 22, 17), (20, .iconst (-1), 0, 0), (21, .istore_n 3, 0, 0), (22, .iconst 0, 0, 0), (23, .istore 4, 0, 0), (25, .iload 4, 0, 0), (27, .aload_n 0, 0, 0), (28, .getfield 12, 5, 0), (31, .getfield 322, 3, 3), (34, .if_icmp .ge 26, 0, 0), (37, .aload_n 0, 0, 0), (38, .getfield 12, 5, 0), (41, .iload 4, 0, 0), (43, .iload_n 1, 0, 0), (44, .invokevirtual 332, 54, 66), (47, .iload_n 2, 0, 0), (48, .if_icmp .ne 6, 0, 0), (51, .iload 4, 0, 0), (53, .istore_n 3, 0, 0), (54, .iinc 4 1, 0, 0), (57, .goto (-32), 0, 0), (60, .iload_n 3, 0, 0), (61, .iconst (-1), 0, 0), (62, .if_icmp .ne 14, 0, 0), (65, .new 257, 23, 17), (76, .iload_n 3, 0, 0), (77, .ireturn, 0, 0)]
def k_X5_isTold : List mm_E := [(0, .aload_n 0, 0, 0), (1, .invokevirtual 337, 115, 64), (4, .ifCond .eq 45, 0, 0), (7, .aload_n 0, 0, 0), (8, .iconst 0, 0, 0), (9, .invokevirtual 341, 116, 65), (12, .ifCond .eq 37, 0, 0), (15, .aload_n 0, 0, 0), (16, .iconst 1, 0, 0), (17, .invokevirtual 341, 116, 65), (20, .ifCond .eq 29, 0, 0), (23, .aload_n 0, 0, 0), (24, .getfield 12, 5, 0), (27, .invokevirtual 344, 56, 64), (30, .ifCond .eq 19, 0, 0), (33, .aload_n 0, 0, 0), (34, .getfield 12, 5, 0), (37, .invokevirtual 347, 57, 64), (40, .bipush 60, 0, 0), (42, .if_icmp .ne 7, 0, 0), (45, .iconst 1, 0, 0), (46, .goto 4, 0, 0), (49, .iconst 0, 0, 0), (50, .ireturn, 0, 0)]
def k_X5_append : List mm_E := [(0, .iload_n 1, 0, 0), (1, .bipush 32, 0, 0), (3, .bipush 126, 0, 0), (5, .invokestatic 302, 117, 35), (8, .ifCond .ne 14, 0, 0), (11, .new 190, 24, 17), (22, .aload_n 0, 0, 0), (23, .getfield 47, 5, 8), (26, .getfield 352, 1, 0), (29, .invokevirtual 355, 246, 64), (32, .bipush 60, 0, 0), (34, .if_icmp .lt 14, 0, 0), (37, .new 358, 25, 17), (48, .aload_n 0, 0, 0), (49, .getfield 47, 5, 8), (52, .getfield 352, 1, 0), (55, .iload_n 1, 0, 0), (56, .invokevirtual 363, 242, 65), (59, .pop, 0, 0), (60, .aload_n 0, 0, 0), (61, .getfield 47, 5, 8), (64, .getfield 352, 1, 0), (67, .invokevirtual 355, 246, 64), (70, .ireturn, 0, 0)]
def k_X5_run : List mm_E := [(0, .aload_n 0, 0, 0), (1, .aload_n 0, 0, 0), (2, .getfield 47, 5, 8), (5, .invokevirtual 367, 5, 64), (8, .putfield 51, 5, 9), (11, .aload_n 0, 0, 0), (12, .getfield 47, 5, 8), (15, .getfield 352, 1, 0), (18, .iconst 0, 0, 0), (19, .invokevirtual 370, 245, 65), (22, .aload_n 0, 0, 0), (23, .getfield 51, 5, 9), (26, .iconst (-1), 0, 0), (27, .if_icmp .eq 14, 0, 0), (30, .new 190, 26, 17), (41, .aload_n 0, 0, 0), (42, .invokevirtual 376, 114, 64), (45, .ifCond .eq 14, 0, 0), (48, .new 76, 27, 17), (59, .aload_n 0, 0, 0), (60, .invokevirtual 83, 112, 64), (63, .aload_n 0, 0, 0), (64, .getfield 12, 5, 0), (67, .aload_n 0, 0, 0), (68, .getfield 16, 5, 1), (71, .invokevirtual 316, 23, 65), (74, .aload_n 0, 0, 0), (75, .getfield 47, 5, 8), (78, .getfield 381, 1, 3), (81, .ireturn, 0, 0)]
def k_X5_faultPosition : List mm_E := [(0, .aload_n 0, 0, 0), (1, .getfield 51, 5, 9), (4, .ireturn, 0, 0)]
def k_X5_reason : List mm_E := [(0, .iload_n 1, 0, 0), (1, .iconst 0, 0, 0), (2, .iconst 1, 0, 0), (3, .invokestatic 302, 117, 35), (6, .ifCond .ne 14, 0, 0), (9, .new 190, 28, 17), (20, .iload_n 1, 0, 0), (21, .ifCond .ne 10, 0, 0), (24, .aload_n 0, 0, 0), (25, .getfield 54, 5, 10), (28, .goto 7, 0, 0), (31, .aload_n 0, 0, 0), (32, .getfield 58, 5, 11), (35, .lstore_n 3, 0, 0), (36, .lload_n 3, 0, 0), (37, .lconst 0, 0, 0), (38, .lcmp, 0, 0), (39, .ifCond .ne 14, 0, 0), (42, .new 257, 29, 17), (53, .iload_n 2, 0, 0), (54, .ifCond .eq 10, 0, 0), (57, .lload_n 3, 0, 0), (58, .invokestatic 388, 122, 33), (61, .goto 7, 0, 0), (64, .lload_n 3, 0, 0), (65, .invokestatic 392, 121, 33), (68, .ireturn, 0, 0)]
def k_X5_tellGiant : List mm_E := [(0, .iload_n 1, 0, 0), (1, .invokestatic 154, 118, 33), (4, .ifCond .ne 13, 0, 0), (7, .new 158, 8, 16), (17, .aload_n 0, 0, 0), (18, .getfield 12, 5, 0), (21, .getfield 163, 3, 0), (24, .iload_n 1, 0, 0), (25, .aaload, 0, 0), (26, .astore_n 2, 0, 0), (27, .aload_n 0, 0, 0), (28, .getfield 64, 5, 12), (31, .iconst 0, 0, 0), (32, .invokevirtual 370, 245, 65), (35, .aload_n 0, 0, 0), (36, .getfield 64, 5, 12), (39, .iload_n 1, 0, 0), (40, .invokevirtual 395, 243, 65), (43, .bipush 64, 0, 0), (45, .invokevirtual 363, 242, 65), (48, .aload_n 2, 0, 0), (49, .getfield 172, 0, 1), (52, .invokevirtual 395, 243, 65), (55, .bipush 36, 0, 0), (57, .invokevirtual 363, 242, 65), (60, .aload_n 2, 0, 0), (61, .getfield 167, 0, 0), (64, .invokevirtual 395, 243, 65), (67, .pop, 0, 0), (68, .aload_n 0, 0, 0), (69, .getfield 12, 5, 0), (72, .getfield 327, 3, 5), (75, .iload_n 1, 0, 0), (76, .if_icmp .ne 13, 0, 0), (79, .aload_n 0, 0, 0), (80, .getfield 64, 5, 12), (83, .bipush 33, 0, 0), (85, .invokevirtual 363, 242, 65), (88, .pop, 0, 0), (89, .aload_n 0, 0, 0), (90, .getfield 64, 5, 12), (93, .invokevirtual 355, 246, 64), (96, .ireturn, 0, 0)]
def k_X5_tellStair : List mm_E := [(0, .aload_n 0, 0, 0), (1, .getfield 12, 5, 0), (4, .iload_n 1, 0, 0), (5, .invokevirtual 217, 24, 65), (8, .ifCond .ne 13, 0, 0), (11, .new 158, 12, 16), (21, .aload_n 0, 0, 0), (22, .getfield 12, 5, 0), (25, .getfield 222, 3, 2), (28, .iload_n 1, 0, 0), (29, .aaload, 0, 0), (30, .astore_n 2, 0, 0), (31, .aload_n 0, 0, 0), (32, .getfield 64, 5, 12), (35, .iconst 0, 0, 0), (36, .invokevirtual 370, 245, 65), (39, .aload_n 0, 0, 0), (40, .getfield 64, 5, 12), (43, .iload_n 1, 0, 0), (44, .invokevirtual 395, 243, 65), (47, .bipush 58, 0, 0), (49, .invokevirtual 363, 242, 65), (52, .aload_n 2, 0, 0), (53, .getfield 226, 2, 0), (56, .invokevirtual 395, 243, 65), (59, .aload_n 2, 0, 0), (60, .getfield 231, 2, 1), (63, .invokevirtual 395, 243, 65), (66, .pop, 0, 0), (67, .aload_n 0, 0, 0), (68, .getfield 64, 5, 12), (71, .bipush 94, 0, 0), (73, .invokevirtual 363, 242, 65), (76, .aload_n 2, 0, 0), (77, .getfield 234, 2, 2), (80, .invokevirtual 395, 243, 65), (83, .bipush 126, 0, 0), (85, .invokevirtual 363, 242, 65), (88, .aload_n 2, 0, 0), (89, .getfield 237, 2, 3), (92, .invokevirtual 395, 243, 65), (95, .pop, 0, 0), (96, .aload_n 2, 0, 0), (97, .invokevirtual 398, 15, 64), (100, .ifCond .eq 32, 0, 0), (103, .aload_n 0, 0, 0), (104, .getfield 64, 5, 12), (107, .bipush 61, 0, 0), (109, .invokevirtual 363, 242, 65), (112, .aload_n 2, 0, 0), (113, .getfield 243, 2, 5), (116, .invokevirtual 395, 243, 65), (119, .bipush 47, 0, 0), (121, .invokevirtual 363, 242, 65), (124, .aload_n 2, 0, 0), (125, .getfield 246, 2, 6), (128, .invokevirtual 395, 243, 65), (131, .pop, 0, 0), (132, .aload_n 0, 0, 0), (133, .getfield 64, 5, 12), (136, .invokevirtual 355, 246, 64), (139, .ireturn, 0, 0)]
def k_X5_tellLandings : List mm_E := [(0, .aload_n 0, 0, 0), (1, .getfield 64, 5, 12), (4, .iconst 0, 0, 0), (5, .invokevirtual 370, 245, 65), (8, .iconst 0, 0, 0), (9, .istore_n 1, 0, 0), (10, .iload_n 1, 0, 0), (11, .bipush 8, 0, 0), (13, .if_icmp .ge 52, 0, 0), (16, .aload_n 0, 0, 0), (17, .getfield 12, 5, 0), (20, .getfield 200, 3, 1), (23, .iload_n 1, 0, 0), (24, .iaload, 0, 0), (25, .iconst 2, 0, 0), (26, .if_icmp .ne 16, 0, 0), (29, .aload_n 0, 0, 0), (30, .getfield 64, 5, 12), (33, .bipush 46, 0, 0), (35, .invokevirtual 363, 242, 65), (38, .pop, 0, 0), (39, .goto 20, 0, 0), (42, .aload_n 0, 0, 0), (43, .getfield 64, 5, 12), (46, .aload_n 0, 0, 0), (47, .getfield 12, 5, 0), (50, .getfield 200, 3, 1), (53, .iload_n 1, 0, 0), (54, .iaload, 0, 0), (55, .invokevirtual 395, 243, 65), (58, .pop, 0, 0), (59, .iinc 1 1, 0, 0), (62, .goto (-52), 0, 0), (65, .aload_n 0, 0, 0), (66, .getfield 64, 5, 12), (69, .invokevirtual 355, 246, 64), (72, .ireturn, 0, 0)]
def k_X5_character : List mm_E := [(0, .iload_n 1, 0, 0), (1, .ifCond .lt 14, 0, 0), (4, .iload_n 1, 0, 0), (5, .aload_n 0, 0, 0), (6, .getfield 64, 5, 12), (9, .invokevirtual 355, 246, 64), (12, .if_icmp .lt 14, 0, 0), (15, .new 158, 30, 17), (26, .aload_n 0, 0, 0), (27, .getfield 64, 5, 12), (30, .iload_n 1, 0, 0), (31, .invokevirtual 403, 244, 65), (34, .ireturn, 0, 0)]
def k_X5_account : List mm_E := [(0, .iload_n 1, 0, 0), (1, .tableswitch 248 0 13 #[71, 79, 88, 96, 104, 122, 130, 156, 164, 190, 216, 224, 232, 243], 0, 71), (72, .aload_n 0, 0, 0), (73, .getfield 12, 5, 0), (76, .getfield 322, 3, 3), (79, .ireturn, 0, 0), (80, .aload_n 0, 0, 0), (81, .getfield 12, 5, 0), (84, .iconst 2, 0, 0), (85, .invokevirtual 175, 50, 65), (88, .ireturn, 0, 0), (89, .aload_n 0, 0, 0), (90, .getfield 12, 5, 0), (93, .getfield 407, 3, 4), (96, .ireturn, 0, 0), (97, .aload_n 0, 0, 0), (98, .getfield 12, 5, 0), (101, .getfield 410, 3, 6), (104, .ireturn, 0, 0), (105, .aload_n 0, 0, 0), (106, .getfield 12, 5, 0), (109, .iconst 0, 0, 0), (110, .invokevirtual 181, 51, 65), (113, .aload_n 0, 0, 0), (114, .getfield 12, 5, 0), (117, .iconst 1, 0, 0), (118, .invokevirtual 181, 51, 65), (121, .iadd, 0, 0), (122, .ireturn, 0, 0), (123, .aload_n 0, 0, 0), (124, .getfield 12, 5, 0), (127, .invokevirtual 411, 52, 64), (130, .ireturn, 0, 0), (131, .aload_n 0, 0, 0), (132, .getfield 12, 5, 0), (135, .getfield 163, 3, 0), (138, .iconst 0, 0, 0), (139, .aaload, 0, 0), (140, .getfield 184, 0, 3), (143, .aload_n 0, 0, 0), (144, .getfield 12, 5, 0), (147, .getfield 163, 3, 0), (150, .iconst 1, 0, 0), (151, .aaload, 0, 0), (152, .getfield 184, 0, 3), (155, .iadd, 0, 0), (156, .ireturn, 0, 0), (157, .aload_n 0, 0, 0), (158, .getfield 12, 5, 0), (161, .getfield 414, 3, 7), (164, .ireturn, 0, 0), (165, .aload_n 0, 0, 0), (166, .getfield 12, 5, 0), (169, .getfield 163, 3, 0), (172, .iconst 0, 0, 0), (173, .aaload, 0, 0), (174, .getfield 187, 0, 4), (177, .aload_n 0, 0, 0), (178, .getfield 12, 5, 0), (181, .getfield 163, 3, 0), (184, .iconst 1, 0, 0), (185, .aaload, 0, 0), (186, .getfield 187, 0, 4), (189, .iadd, 0, 0), (190, .ireturn, 0, 0), (191, .aload_n 0, 0, 0), (192, .getfield 12, 5, 0), (195, .getfield 163, 3, 0), (198, .iconst 0, 0, 0), (199, .aaload, 0, 0), (200, .getfield 178, 0, 2), (203, .aload_n 0, 0, 0), (204, .getfield 12, 5, 0), (207, .getfield 163, 3, 0), (210, .iconst 1, 0, 0), (211, .aaload, 0, 0), (212, .getfield 178, 0, 2), (215, .iadd, 0, 0), (216, .ireturn, 0, 0), (217, .aload_n 0, 0, 0), (218, .getfield 12, 5, 0), (221, .getfield 417, 3, 8), (224, .ireturn, 0, 0), (225, .aload_n 0, 0, 0), (226, .getfield 12, 5, 0), (229, .getfield 420, 3, 9), (232, .ireturn, 0, 0), (233, .aload_n 0, 0, 0), (234, .getfield 47, 5, 8), (237, .getfield 352, 1, 0), (240, .invokevirtual 355, 246, 64), (243, .ireturn, 0, 0), (244, .aload_n 0, 0, 0), (245, .getfield 30, 5, 5), (248, .ireturn, 0, 0), (249, .new 190, 31, 17)]
def k_X5_meanSteps : List mm_E := [(0, .aload_n 0, 0, 0), (1, .getfield 12, 5, 0), (4, .getfield 322, 3, 3), (7, .ifCond .ne 14, 0, 0), (10, .new 425, 32, 17), (21, .aload_n 0, 0, 0), (22, .getfield 12, 5, 0), (25, .invokevirtual 430, 53, 64), (28, .i2d, 0, 0), (29, .aload_n 0, 0, 0), (30, .getfield 12, 5, 0), (33, .getfield 322, 3, 3), (36, .i2d, 0, 0), (37, .ddiv, 0, 0), (38, .dreturn, 0, 0)]
def k_X5_leasedShare : List mm_E := [(0, .aload_n 0, 0, 0), (1, .getfield 12, 5, 0), (4, .getfield 322, 3, 3), (7, .ifCond .ne 14, 0, 0), (10, .new 425, 32, 17), (21, .aload_n 0, 0, 0), (22, .getfield 12, 5, 0), (25, .iconst 0, 0, 0), (26, .invokevirtual 181, 51, 65), (29, .aload_n 0, 0, 0), (30, .getfield 12, 5, 0), (33, .iconst 1, 0, 0), (34, .invokevirtual 181, 51, 65), (37, .iadd, 0, 0), (38, .i2f, 0, 0), (39, .aload_n 0, 0, 0), (40, .getfield 12, 5, 0), (43, .getfield 322, 3, 3), (46, .i2f, 0, 0), (47, .fdiv, 0, 0), (48, .freturn, 0, 0)]
def k_X5_undo : List mm_E := [(0, .aload_n 0, 0, 0), (1, .getfield 30, 5, 5), (4, .ifCond .ne 14, 0, 0), (7, .new 358, 33, 17), (18, .aload_n 0, 0, 0), (19, .aload_n 0, 0, 0), (20, .getfield 34, 5, 6), (23, .bipush 8, 0, 0), (25, .iadd, 0, 0), (26, .iconst 1, 0, 0), (27, .isub, 0, 0), (28, .bipush 8, 0, 0), (30, .irem, 0, 0), (31, .putfield 34, 5, 6), (34, .aload_n 0, 0, 0), (35, .dup, 0, 0), (36, .getfield 30, 5, 5), (39, .iconst 1, 0, 0), (40, .isub, 0, 0), (41, .putfield 30, 5, 5), (44, .aload_n 0, 0, 0), (45, .getfield 12, 5, 0), (48, .aload_n 0, 0, 0), (49, .getfield 26, 5, 4), (52, .aload_n 0, 0, 0), (53, .getfield 34, 5, 6), (56, .aaload, 0, 0), (57, .invokevirtual 316, 23, 65), (60, .aload_n 0, 0, 0), (61, .getfield 30, 5, 5), (64, .ireturn, 0, 0)]
def k_X5_save : List mm_E := [(0, .aload_n 0, 0, 0), (1, .getfield 19, 5, 2), (4, .aload_n 0, 0, 0), (5, .getfield 12, 5, 0), (8, .invokevirtual 316, 23, 65), (11, .aload_n 0, 0, 0), (12, .iconst 1, 0, 0), (13, .putfield 22, 5, 3), (16, .aload_n 0, 0, 0), (17, .getfield 12, 5, 0), (20, .getfield 322, 3, 3), (23, .ireturn, 0, 0)]
def k_X5_restore : List mm_E := [(0, .aload_n 0, 0, 0), (1, .getfield 22, 5, 3), (4, .ifCond .ne 14, 0, 0), (7, .new 358, 34, 17), (18, .aload_n 0, 0, 0), (19, .getfield 12, 5, 0), (22, .aload_n 0, 0, 0), (23, .getfield 19, 5, 2), (26, .invokevirtual 316, 23, 65), (29, .aload_n 0, 0, 0), (30, .iconst 0, 0, 0), (31, .putfield 30, 5, 5), (34, .aload_n 0, 0, 0), (35, .getfield 12, 5, 0), (38, .getfield 322, 3, 3), (41, .ireturn, 0, 0)]
def k_X5_remember : List mm_E := [(0, .aload_n 0, 0, 0), (1, .getfield 26, 5, 4), (4, .aload_n 0, 0, 0), (5, .getfield 34, 5, 6), (8, .aaload, 0, 0), (9, .aload_n 0, 0, 0), (10, .getfield 12, 5, 0), (13, .invokevirtual 316, 23, 65), (16, .aload_n 0, 0, 0), (17, .aload_n 0, 0, 0), (18, .getfield 34, 5, 6), (21, .iconst 1, 0, 0), (22, .iadd, 0, 0), (23, .bipush 8, 0, 0), (25, .irem, 0, 0), (26, .putfield 34, 5, 6), (29, .aload_n 0, 0, 0), (30, .bipush 8, 0, 0), (32, .aload_n 0, 0, 0), (33, .getfield 30, 5, 5), (36, .iconst 1, 0, 0), (37, .iadd, 0, 0), (38, .invokestatic 311, 0, 258), (41, .putfield 30, 5, 5), (44, .return_, 0, 0)]
def k_X5_isRefused : List mm_E := [(0, .lload_n 1, 0, 0), (1, .lconst 0, 0, 0), (2, .lcmp, 0, 0), (3, .ifCond .ne 5, 0, 0), (6, .iconst 0, 0, 0), (7, .ireturn, 0, 0), (8, .aload_n 0, 0, 0), (9, .lload_n 1, 0, 0), (10, .putfield 54, 5, 10), (13, .aload_n 0, 0, 0), (14, .lconst 0, 0, 0), (15, .putfield 58, 5, 11), (18, .iconst 1, 0, 0), (19, .ireturn, 0, 0)]
def k_X5_isAnyOrderRefused : List mm_E := [(0, .aload_n 0, 0, 0), (1, .getfield 16, 5, 1), (4, .aload_n 0, 0, 0), (5, .getfield 12, 5, 0), (8, .invokevirtual 316, 23, 65), (11, .iconst 0, 0, 0), (12, .istore_n 1, 0, 0), (13, .iload_n 1, 0, 0), (14, .aload_n 0, 0, 0), (15, .getfield 47, 5, 8), (18, .getfield 381, 1, 3), (21, .if_icmp .ge 58, 0, 0), (24, .aload_n 0, 0, 0), (25, .getfield 47, 5, 8), (28, .iload_n 1, 0, 0), (29, .aload_n 0, 0, 0), (30, .getfield 16, 5, 1), (33, .invokevirtual 437, 9, 66), (36, .lstore_n 2, 0, 0), (37, .lload_n 2, 0, 0), (38, .lconst 0, 0, 0), (39, .lcmp, 0, 0), (40, .ifCond .eq 20, 0, 0), (43, .aload_n 0, 0, 0), (44, .bipush 16, 0, 0), (46, .iload_n 1, 0, 0), (47, .invokestatic 441, 120, 34), (50, .putfield 54, 5, 10), (53, .aload_n 0, 0, 0), (54, .lload_n 2, 0, 0), (55, .putfield 58, 5, 11), (58, .iconst 1, 0, 0), (59, .ireturn, 0, 0), (60, .aload_n 0, 0, 0), (61, .getfield 47, 5, 8), (64, .iload_n 1, 0, 0), (65, .aload_n 0, 0, 0), (66, .getfield 16, 5, 1), (69, .invokevirtual 444, 10, 66), (72, .pop, 0, 0), (73, .iinc 1 1, 0, 0), (76, .goto (-63), 0, 0), (79, .iconst 0, 0, 0), (80, .ireturn, 0, 0)]
def k_X5_areStepsTold : List mm_E := [(0, .aload_n 0, 0, 0), (1, .getfield 40, 5, 7), (4, .aload_n 0, 0, 0), (5, .getfield 12, 5, 0), (8, .invokevirtual 277, 63, 65), (11, .iconst 0, 0, 0), (12, .istore_n 1, 0, 0), (13, .iload_n 1, 0, 0), (14, .bipush 8, 0, 0), (16, .if_icmp .ge 61, 0, 0), (19, .aload_n 0, 0, 0), (20, .getfield 40, 5, 7), (23, .aload_n 0, 0, 0), (24, .getfield 12, 5, 0), (27, .iconst (-1), 0, 0), (28, .iload_n 1, 0, 0), (29, .invokevirtual 267, 59, 67), (32, .iconst 0, 0, 0), (33, .istore_n 2, 0, 0), (34, .iload_n 2, 0, 0), (35, .bipush 8, 0, 0), (37, .if_icmp .ge 34, 0, 0), (40, .aload_n 0, 0, 0), (41, .getfield 40, 5, 7), (44, .getfield 271, 4, 0), (47, .iload_n 2, 0, 0), (48, .iaload, 0, 0), (49, .aload_n 0, 0, 0), (50, .getfield 40, 5, 7), (53, .getfield 281, 4, 3), (56, .iload_n 1, 0, 0), (57, .aaload, 0, 0), (58, .iload_n 2, 0, 0), (59, .iaload, 0, 0), (60, .if_icmp .eq 5, 0, 0), (63, .iconst 0, 0, 0), (64, .ireturn, 0, 0), (65, .iinc 2 1, 0, 0), (68, .goto (-34), 0, 0), (71, .iinc 1 1, 0, 0), (74, .goto (-61), 0, 0), (77, .iconst 1, 0, 0), (78, .ireturn, 0, 0)]
def k_X5_areBreathsTold : List mm_E := [(0, .aload_n 0, 0, 0), (1, .getfield 40, 5, 7), (4, .aload_n 0, 0, 0), (5, .getfield 12, 5, 0), (8, .iload_n 1, 0, 0), (9, .aload_n 0, 0, 0), (10, .getfield 12, 5, 0), (13, .getfield 163, 3, 0), (16, .iload_n 1, 0, 0), (17, .aaload, 0, 0), (18, .getfield 172, 0, 1), (21, .invokevirtual 267, 59, 67), (24, .aload_n 0, 0, 0), (25, .getfield 40, 5, 7), (28, .aload_n 0, 0, 0), (29, .getfield 12, 5, 0), (32, .iload_n 1, 0, 0), (33, .invokevirtual 289, 65, 66), (36, .iconst 0, 0, 0), (37, .istore_n 2, 0, 0), (38, .iload_n 2, 0, 0), (39, .bipush 8, 0, 0), (41, .if_icmp .ge 32, 0, 0), (44, .aload_n 0, 0, 0), (45, .getfield 40, 5, 7), (48, .getfield 271, 4, 0), (51, .iload_n 2, 0, 0), (52, .iaload, 0, 0), (53, .aload_n 0, 0, 0), (54, .getfield 40, 5, 7), (57, .getfield 293, 4, 2), (60, .iload_n 2, 0, 0), (61, .iaload, 0, 0), (62, .if_icmp .eq 5, 0, 0), (65, .iconst 0, 0, 0), (66, .ireturn, 0, 0), (67, .iinc 2 1, 0, 0), (70, .goto (-32), 0, 0), (73, .iconst 1, 0, 0), (74, .ireturn, 0, 0)]
def k_X5_isInRange : List mm_E := [(0, .iload_n 0, 0, 0), (1, .iload_n 1, 0, 0), (2, .if_icmp .lt 12, 0, 0), (5, .iload_n 0, 0, 0), (6, .iload_n 2, 0, 0), (7, .if_icmp .gt 7, 0, 0), (10, .iconst 1, 0, 0), (11, .goto 4, 0, 0), (14, .iconst 0, 0, 0), (15, .ireturn, 0, 0)]
def k_X5_isGiant : List mm_E := [(0, .iload_n 0, 0, 0), (1, .iconst 0, 0, 0), (2, .iconst 1, 0, 0), (3, .invokestatic 302, 117, 35), (6, .ireturn, 0, 0)]
def k_X5_isLanding : List mm_E := [(0, .iload_n 0, 0, 0), (1, .iconst 0, 0, 0), (2, .bipush 7, 0, 0), (4, .invokestatic 302, 117, 35), (7, .ireturn, 0, 0)]
def k_X5_refusalFor : List mm_E := [(0, .iload_n 0, 0, 0), (1, .i2l, 0, 0), (2, .bipush 32, 0, 0), (4, .lshl, 0, 0), (5, .iload_n 1, 0, 0), (6, .i2l, 0, 0), (7, .ldc2_w 448, 4294967295, 12), (10, .land, 0, 0), (11, .lor, 0, 0), (12, .lreturn, 0, 0)]
def k_X5_numberOf : List mm_E := [(0, .lload_n 0, 0, 0), (1, .bipush 32, 0, 0), (3, .lshr, 0, 0), (4, .l2i, 0, 0), (5, .ireturn, 0, 0)]
def k_X5_detailOf : List mm_E := [(0, .lload_n 0, 0, 0), (1, .l2i, 0, 0), (2, .ireturn, 0, 0)]
def k_X6_init : List mm_E := [(0, .aload_n 0, 0, 0), (1, .invokespecial 1, 0, 128), (4, .aload_n 0, 0, 0), (5, .bipush 110, 0, 0), (7, .newarray .int, 0, 0), (9, .putfield 7, 6, 0), (12, .aload_n 0, 0, 0), (13, .bipush 110, 0, 0), (15, .newarray .int, 0, 0), (17, .putfield 13, 6, 1), (20, .aload_n 0, 0, 0), (21, .bipush 110, 0, 0), (23, .newarray .int, 0, 0), (25, .putfield 16, 6, 2), (28, .aload_n 0, 0, 0), (29, .bipush 110, 0, 0), (31, .newarray .int, 0, 0), (33, .putfield 19, 6, 3), (36, .aload_n 0, 0, 0), (37, .sipush 880, 0, 0), (40, .newarray .int, 0, 0), (42, .putfield 22, 6, 4), (45, .aload_n 0, 0, 0), (46, .iconst 0, 0, 0), (47, .putfield 25, 6, 5), (50, .aload_n 0, 0, 0), (51, .iconst 0, 0, 0), (52, .putfield 29, 6, 6), (55, .aload_n 0, 0, 0), (56, .iconst 0, 0, 0), (57, .putfield 32, 6, 7), (60, .aload_n 0, 0, 0), (61, .iconst 0, 0, 0), (62, .putfield 35, 6, 8), (65, .aload_n 0, 0, 0), (66, .iconst 0, 0, 0), (67, .putfield 38, 6, 9), (70, .aload_n 0, 0, 0), (71, .iconst 0, 0, 0), (72, .putfield 41, 6, 10), (75, .aload_n 0, 0, 0), (76, .iconst 0, 0, 0), (77, .putfield 44, 6, 11), (80, .aload_n 0, 0, 0), (81, .iconst 0, 0, 0), (82, .putfield 47, 6, 12), (85, .aload_n 0, 0, 0), (86, .iconst (-1), 0, 0), (87, .putfield 50, 6, 13), (90, .aload_n 0, 0, 0), (91, .iconst 0, 0, 0), (92, .putfield 53, 6, 14), (95, .aload_n 0, 0, 0), (96, .bipush 8, 0, 0), (98, .newarray .int, 0, 0), (100, .putfield 57, 6, 15), (103, .aload_n 0, 0, 0), (104, .bipush 60, 0, 0), (106, .newarray .int, 0, 0), (108, .putfield 60, 6, 16), (111, .aload_n 0, 0, 0), (112, .bipush 32, 0, 0), (114, .newarray .int, 0, 0), (116, .putfield 63, 6, 17), (119, .aload_n 0, 0, 0), (120, .bipush 96, 0, 0), (122, .newarray .int, 0, 0), (124, .putfield 66, 6, 18), (127, .aload_n 0, 0, 0), (128, .iconst 0, 0, 0), (129, .putfield 69, 6, 19), (132, .aload_n 0, 0, 0), (133, .iconst 0, 0, 0), (134, .putfield 72, 6, 20), (137, .aload_n 0, 0, 0), (138, .iconst 0, 0, 0), (139, .putfield 75, 6, 21), (142, .aload_n 0, 0, 0), (143, .iconst 0, 0, 0), (144, .putfield 78, 6, 22), (147, .aload_n 0, 0, 0), (148, .iconst 0, 0, 0), (149, .putfield 81, 6, 23), (152, .aload_n 0, 0, 0), (153, .bipush 40, 0, 0), (155, .newarray .int, 0, 0), (157, .putfield 84, 6, 24), (160, .aload_n 0, 0, 0), (161, .iconst 0, 0, 0), (162, .putfield 87, 6, 25), (165, .iconst 0, 0, 0), (166, .istore_n 1, 0, 0), (167, .iload_n 1, 0, 0), (168, .iconst 2, 0, 0), (169, .if_icmp .ge 38, 0, 0), (172, .aload_n 0, 0, 0), (173, .getfield 7, 6, 0), (176, .bipush 12, 0, 0), (178, .iconst 5, 0, 0), (179, .iload_n 1, 0, 0), (180, .imul, 0, 0), (181, .iadd, 0, 0), (182, .iconst 0, 0, 0), (183, .iadd, 0, 0), (184, .bipush 30, 0, 0), (186, .iastore, 0, 0), (187, .aload_n 0, 0, 0), (188, .getfield 7, 6, 0), (191, .bipush 12, 0, 0), (193, .iconst 5, 0, 0), (194, .iload_n 1, 0, 0), (195, .imul, 0, 0), (196, .iadd, 0, 0), (197, .iconst 1, 0, 0), (198, .iadd, 0, 0), (199, .iload_n 1, 0, 0), (200, .iastore, 0, 0), (201, .iinc 1 1, 0, 0), (204, .goto (-37), 0, 0), (207, .iconst 0, 0, 0), (208, .istore_n 1, 0, 0), (209, .iload_n 1, 0, 0), (210, .bipush 8, 0, 0), (212, .if_icmp .ge 28, 0, 0), (215, .aload_n 0, 0, 0), (216, .getfield 7, 6, 0), (219, .bipush 24, 0, 0), (221, .iload_n 1, 0, 0), (222, .iadd, 0, 0), (223, .iload_n 1, 0, 0), (224, .iconst 2, 0, 0), (225, .if_icmp .ge 7, 0, 0), (228, .iload_n 1, 0, 0), (229, .goto 4, 0, 0), (232, .iconst 2, 0, 0), (233, .iastore, 0, 0), (234, .iinc 1 1, 0, 0), (237, .goto (-28), 0, 0), (240, .return_, 0, 0)]
def k_X6_thrown : List mm_E := [(0, .aload_n 0, 0, 0), (1, .getfield 25, 6, 5), (4, .ireturn, 0, 0)]
def k_X6_in : List mm_E := [(0, .iload_n 0, 0, 0), (1, .iload_n 1, 0, 0), (2, .if_icmp .lt 12, 0, 0), (5, .iload_n 0, 0, 0), (6, .iload_n 2, 0, 0), (7, .if_icmp .gt 7, 0, 0), (10, .iconst 1, 0, 0), (11, .goto 4, 0, 0), (14, .iconst 0, 0, 0), (15, .ireturn, 0, 0)]
def k_X6_copies : List mm_E := [(0, .iconst 0, 0, 0), (1, .istore 4, 0, 0), (3, .iload 4, 0, 0), (5, .bipush 110, 0, 0), (7, .if_icmp .ge 21, 0, 0), (10, .aload_n 2, 0, 0), (11, .iload_n 3, 0, 0), (12, .iload 4, 0, 0), (14, .iadd, 0, 0), (15, .aload_n 0, 0, 0), (16, .iload_n 1, 0, 0), (17, .iload 4, 0, 0), (19, .iadd, 0, 0), (20, .iaload, 0, 0), (21, .iastore, 0, 0), (22, .iinc 4 1, 0, 0), (25, .goto (-22), 0, 0), (28, .return_, 0, 0)]
def k_X6_no : List mm_E := [(0, .aload_n 0, 0, 0), (1, .iload_n 1, 0, 0), (2, .putfield 25, 6, 5), (5, .iconst 0, 0, 0), (6, .ireturn, 0, 0)]
def k_X6_isBad : List mm_E := [(0, .aload_n 0, 0, 0), (1, .iload_n 1, 0, 0), (2, .putfield 32, 6, 7), (5, .aload_n 0, 0, 0), (6, .iload_n 2, 0, 0), (7, .putfield 35, 6, 8), (10, .iconst 1, 0, 0), (11, .ireturn, 0, 0)]
def k_X6_refused : List mm_E := [(0, .aload_n 0, 0, 0), (1, .aload_n 0, 0, 0), (2, .getfield 32, 6, 7), (5, .putfield 38, 6, 9), (8, .aload_n 0, 0, 0), (9, .aload_n 0, 0, 0), (10, .getfield 35, 6, 8), (13, .putfield 41, 6, 10), (16, .aload_n 0, 0, 0), (17, .iconst 0, 0, 0), (18, .putfield 44, 6, 11), (21, .aload_n 0, 0, 0), (22, .iconst 1, 0, 0), (23, .invokevirtual 90, 127, 65), (26, .ireturn, 0, 0)]
def k_X6_begins : List mm_E := [(0, .aload_n 0, 0, 0), (1, .iconst 0, 0, 0), (2, .putfield 25, 6, 5), (5, .aload_n 0, 0, 0), (6, .getfield 7, 6, 0), (9, .iconst 0, 0, 0), (10, .aload_n 0, 0, 0), (11, .getfield 13, 6, 1), (14, .iconst 0, 0, 0), (15, .invokestatic 94, 126, 36), (18, .return_, 0, 0)]
def k_X6_keeps : List mm_E := [(0, .aload_n 0, 0, 0), (1, .getfield 29, 6, 6), (4, .bipush 8, 0, 0), (6, .if_icmp .ne 48, 0, 0), (9, .iconst 1, 0, 0), (10, .istore_n 2, 0, 0), (11, .iload_n 2, 0, 0), (12, .bipush 8, 0, 0), (14, .if_icmp .ge 30, 0, 0), (17, .aload_n 0, 0, 0), (18, .getfield 22, 6, 4), (21, .bipush 110, 0, 0), (23, .iload_n 2, 0, 0), (24, .imul, 0, 0), (25, .aload_n 0, 0, 0), (26, .getfield 22, 6, 4), (29, .bipush 110, 0, 0), (31, .iload_n 2, 0, 0), (32, .iconst 1, 0, 0), (33, .isub, 0, 0), (34, .imul, 0, 0), (35, .invokestatic 94, 126, 36), (38, .iinc 2 1, 0, 0), (41, .goto (-30), 0, 0), (44, .aload_n 0, 0, 0), (45, .dup, 0, 0), (46, .getfield 29, 6, 6), (49, .iconst 1, 0, 0), (50, .isub, 0, 0), (51, .putfield 29, 6, 6), (54, .aload_n 0, 0, 0), (55, .getfield 13, 6, 1), (58, .iconst 0, 0, 0), (59, .aload_n 0, 0, 0), (60, .getfield 22, 6, 4), (63, .bipush 110, 0, 0), (65, .aload_n 0, 0, 0), (66, .getfield 29, 6, 6), (69, .imul, 0, 0), (70, .invokestatic 94, 126, 36), (73, .aload_n 0, 0, 0), (74, .dup, 0, 0), (75, .getfield 29, 6, 6), (78, .iconst 1, 0, 0), (79, .iadd, 0, 0), (80, .putfield 29, 6, 6), (83, .iload_n 1, 0, 0), (84, .ireturn, 0, 0)]
def k_X6_gv : List mm_E := [(0, .aload_n 0, 0, 0), (1, .getfield 7, 6, 0), (4, .bipush 12, 0, 0), (6, .iconst 5, 0, 0), (7, .iload_n 1, 0, 0), (8, .imul, 0, 0), (9, .iadd, 0, 0), (10, .iload_n 2, 0, 0), (11, .iadd, 0, 0), (12, .iaload, 0, 0), (13, .ireturn, 0, 0)]
def k_X6_more : List mm_E := [(0, .aload_n 0, 0, 0), (1, .getfield 7, 6, 0), (4, .bipush 12, 0, 0), (6, .iconst 5, 0, 0), (7, .iload_n 1, 0, 0), (8, .imul, 0, 0), (9, .iadd, 0, 0), (10, .iload_n 2, 0, 0), (11, .iadd, 0, 0), (12, .dup2, 0, 0), (13, .iaload, 0, 0), (14, .iload_n 3, 0, 0), (15, .iadd, 0, 0), (16, .iastore, 0, 0), (17, .return_, 0, 0)]
def k_X6_sv : List mm_E := [(0, .aload_n 0, 0, 0), (1, .getfield 7, 6, 0), (4, .bipush 34, 0, 0), (6, .bipush 7, 0, 0), (8, .iload_n 1, 0, 0), (9, .imul, 0, 0), (10, .iadd, 0, 0), (11, .iload_n 2, 0, 0), (12, .iadd, 0, 0), (13, .iaload, 0, 0), (14, .ireturn, 0, 0)]
def k_X6_ls : List mm_E := [(0, .aload_n 0, 0, 0), (1, .getfield 7, 6, 0), (4, .bipush 34, 0, 0), (6, .bipush 7, 0, 0), (8, .iload_n 1, 0, 0), (9, .imul, 0, 0), (10, .iadd, 0, 0), (11, .iload_n 2, 0, 0), (12, .iadd, 0, 0), (13, .iload_n 3, 0, 0), (14, .iastore, 0, 0), (15, .return_, 0, 0)]
def k_X6_owner : List mm_E := [(0, .aload_n 0, 0, 0), (1, .getfield 7, 6, 0), (4, .bipush 24, 0, 0), (6, .iload_n 1, 0, 0), (7, .iadd, 0, 0), (8, .iaload, 0, 0), (9, .ireturn, 0, 0)]
def k_X6_isGiant : List mm_E := [(0, .iload_n 0, 0, 0), (1, .iconst 0, 0, 0), (2, .iconst 1, 0, 0), (3, .invokestatic 98, 125, 35), (6, .ireturn, 0, 0)]
def k_X6_isLanding : List mm_E := [(0, .iload_n 0, 0, 0), (1, .iconst 0, 0, 0), (2, .bipush 7, 0, 0), (4, .invokestatic 98, 125, 35), (7, .ireturn, 0, 0)]
def k_X6_isStair : List mm_E := [(0, .iload_n 1, 0, 0), (1, .iconst 0, 0, 0), (2, .aload_n 0, 0, 0), (3, .getfield 7, 6, 0), (6, .iconst 0, 0, 0), (7, .iaload, 0, 0), (8, .iconst 1, 0, 0), (9, .isub, 0, 0), (10, .invokestatic 98, 125, 35), (13, .ireturn, 0, 0)]
def k_X6_isNoGiant : List mm_E := [(0, .iload_n 1, 0, 0), (1, .invokestatic 102, 137, 33), (4, .ifCond .ne 16, 0, 0), (7, .aload_n 0, 0, 0), (8, .iconst 2, 0, 0), (9, .iload_n 1, 0, 0), (10, .invokevirtual 106, 128, 66), (13, .ifCond .eq 7, 0, 0), (16, .iconst 1, 0, 0), (17, .goto 4, 0, 0), (20, .iconst 0, 0, 0), (21, .ireturn, 0, 0)]
def k_X6_isNoLanding : List mm_E := [(0, .iload_n 1, 0, 0), (1, .invokestatic 110, 138, 33), (4, .ifCond .ne 16, 0, 0), (7, .aload_n 0, 0, 0), (8, .iconst 2, 0, 0), (9, .iload_n 1, 0, 0), (10, .invokevirtual 106, 128, 66), (13, .ifCond .eq 7, 0, 0), (16, .iconst 1, 0, 0), (17, .goto 4, 0, 0), (20, .iconst 0, 0, 0), (21, .ireturn, 0, 0)]
def k_X6_isNoStair : List mm_E := [(0, .aload_n 0, 0, 0), (1, .iload_n 1, 0, 0), (2, .invokevirtual 113, 139, 65), (5, .ifCond .ne 16, 0, 0), (8, .aload_n 0, 0, 0), (9, .iconst 2, 0, 0), (10, .iload_n 1, 0, 0), (11, .invokevirtual 106, 128, 66), (14, .ifCond .eq 7, 0, 0), (17, .iconst 1, 0, 0), (18, .goto 4, 0, 0), (21, .iconst 0, 0, 0), (22, .ireturn, 0, 0)]
def k_X6_joins : List mm_E := [(0, .aload_n 0, 0, 0), (1, .iload_n 1, 0, 0), (2, .iconst 0, 0, 0), (3, .invokevirtual 116, 134, 66), (6, .iload_n 2, 0, 0), (7, .if_icmp .ne 13, 0, 0), (10, .aload_n 0, 0, 0), (11, .iload_n 1, 0, 0), (12, .iconst 1, 0, 0), (13, .invokevirtual 116, 134, 66), (16, .iload_n 3, 0, 0), (17, .if_icmp .eq 23, 0, 0), (20, .aload_n 0, 0, 0), (21, .iload_n 1, 0, 0), (22, .iconst 0, 0, 0), (23, .invokevirtual 116, 134, 66), (26, .iload_n 3, 0, 0), (27, .if_icmp .ne 17, 0, 0), (30, .aload_n 0, 0, 0), (31, .iload_n 1, 0, 0), (32, .iconst 1, 0, 0), (33, .invokevirtual 116, 134, 66), (36, .iload_n 2, 0, 0), (37, .if_icmp .ne 7, 0, 0), (40, .iconst 1, 0, 0), (41, .goto 4, 0, 0), (44, .iconst 0, 0, 0), (45, .ireturn, 0, 0)]
def k_X6_stairBetween : List mm_E := [(0, .iconst 0, 0, 0), (1, .istore_n 3, 0, 0), (2, .iload_n 3, 0, 0), (3, .aload_n 0, 0, 0), (4, .getfield 7, 6, 0), (7, .iconst 0, 0, 0), (8, .iaload, 0, 0), (9, .if_icmp .ge 21, 0, 0), (12, .aload_n 0, 0, 0), (13, .iload_n 3, 0, 0), (14, .iload_n 1, 0, 0), (15, .iload_n 2, 0, 0), (16, .invokevirtual 120, 143, 67), (19, .ifCond .eq 5, 0, 0), (22, .iload_n 3, 0, 0), (23, .ireturn, 0, 0), (24, .iinc 3 1, 0, 0), (27, .goto (-25), 0, 0), (30, .iconst (-1), 0, 0), (31, .ireturn, 0, 0)]
def k_X6_touches : List mm_E := [(0, .aload_n 0, 0, 0), (1, .iload_n 1, 0, 0), (2, .iconst 0, 0, 0), (3, .invokevirtual 116, 134, 66), (6, .iload_n 2, 0, 0), (7, .if_icmp .eq 13, 0, 0), (10, .aload_n 0, 0, 0), (11, .iload_n 1, 0, 0), (12, .iconst 1, 0, 0), (13, .invokevirtual 116, 134, 66), (16, .iload_n 2, 0, 0), (17, .if_icmp .ne 7, 0, 0), (20, .iconst 1, 0, 0), (21, .goto 4, 0, 0), (24, .iconst 0, 0, 0), (25, .ireturn, 0, 0)]
def k_X6_across : List mm_E := [(0, .aload_n 0, 0, 0), (1, .iload_n 1, 0, 0), (2, .iconst 0, 0, 0), (3, .invokevirtual 116, 134, 66), (6, .aload_n 0, 0, 0), (7, .iload_n 1, 0, 0), (8, .iconst 1, 0, 0), (9, .invokevirtual 116, 134, 66), (12, .iadd, 0, 0), (13, .iload_n 2, 0, 0), (14, .isub, 0, 0), (15, .ireturn, 0, 0)]
def k_X6_isRefusedBuild : List mm_E := [(0, .aload_n 0, 0, 0), (1, .iload_n 1, 0, 0), (2, .invokevirtual 123, 141, 65), (5, .ifCond .ne 11, 0, 0), (8, .aload_n 0, 0, 0), (9, .iload_n 2, 0, 0), (10, .invokevirtual 123, 141, 65), (13, .ifCond .eq 5, 0, 0), (16, .iconst 1, 0, 0), (17, .ireturn, 0, 0), (18, .iload_n 3, 0, 0), (19, .iconst 1, 0, 0), (20, .bipush 40, 0, 0), (22, .invokestatic 98, 125, 35), (25, .ifCond .ne 10, 0, 0), (28, .aload_n 0, 0, 0), (29, .iconst 3, 0, 0), (30, .iload_n 3, 0, 0), (31, .invokevirtual 106, 128, 66), (34, .ireturn, 0, 0), (35, .iload_n 1, 0, 0), (36, .iload_n 2, 0, 0), (37, .if_icmp .ne 10, 0, 0), (40, .aload_n 0, 0, 0), (41, .iconst 4, 0, 0), (42, .iload_n 1, 0, 0), (43, .invokevirtual 106, 128, 66), (46, .ireturn, 0, 0), (47, .aload_n 0, 0, 0), (48, .iload_n 1, 0, 0), (49, .iload_n 2, 0, 0), (50, .invokevirtual 126, 144, 66), (53, .ifCond .lt 15, 0, 0), (56, .aload_n 0, 0, 0), (57, .iconst 5, 0, 0), (58, .aload_n 0, 0, 0), (59, .iload_n 1, 0, 0), (60, .iload_n 2, 0, 0), (61, .invokevirtual 126, 144, 66), (64, .invokevirtual 106, 128, 66), (67, .ireturn, 0, 0), (68, .aload_n 0, 0, 0), (69, .getfield 7, 6, 0), (72, .iconst 0, 0, 0), (73, .iaload, 0, 0), (74, .bipush 10, 0, 0), (76, .if_icmp .ne 17, 0, 0), (79, .aload_n 0, 0, 0), (80, .iconst 1, 0, 0), (81, .bipush 10, 0, 0), (83, .invokevirtual 106, 128, 66), (86, .ifCond .eq 7, 0, 0), (89, .iconst 1, 0, 0), (90, .goto 4, 0, 0), (93, .iconst 0, 0, 0), (94, .ireturn, 0, 0)]
def k_X6_builds : List mm_E := [(0, .aload_n 0, 0, 0), (1, .getfield 7, 6, 0), (4, .iconst 0, 0, 0), (5, .iaload, 0, 0), (6, .istore 4, 0, 0), (8, .iconst 0, 0, 0), (9, .istore 5, 0, 0), (11, .iload 5, 0, 0), (13, .bipush 7, 0, 0), (15, .if_icmp .ge 18, 0, 0), (18, .aload_n 0, 0, 0), (19, .iload 4, 0, 0), (21, .iload 5, 0, 0), (23, .iconst 0, 0, 0), (24, .invokevirtual 129, 135, 67), (27, .iinc 5 1, 0, 0), (30, .goto (-19), 0, 0), (33, .aload_n 0, 0, 0), (34, .iload 4, 0, 0), (36, .iconst 0, 0, 0), (37, .iload_n 1, 0, 0), (38, .iload_n 2, 0, 0), (39, .if_icmp .ge 7, 0, 0), (42, .iload_n 1, 0, 0), (43, .goto 4, 0, 0), (46, .iload_n 2, 0, 0), (47, .invokevirtual 129, 135, 67), (50, .aload_n 0, 0, 0), (51, .iload 4, 0, 0), (53, .iconst 1, 0, 0), (54, .iload_n 1, 0, 0), (55, .iload_n 2, 0, 0), (56, .if_icmp .ge 7, 0, 0), (59, .iload_n 2, 0, 0), (60, .goto 4, 0, 0), (63, .iload_n 1, 0, 0), (64, .invokevirtual 129, 135, 67), (67, .aload_n 0, 0, 0), (68, .iload 4, 0, 0), (70, .iconst 2, 0, 0), (71, .iload_n 3, 0, 0), (72, .invokevirtual 129, 135, 67), (75, .aload_n 0, 0, 0), (76, .iload 4, 0, 0), (78, .iconst 5, 0, 0), (79, .iconst (-1), 0, 0), (80, .invokevirtual 129, 135, 67), (83, .aload_n 0, 0, 0), (84, .getfield 7, 6, 0), (87, .iconst 0, 0, 0), (88, .dup2, 0, 0), (89, .iaload, 0, 0), (90, .iconst 1, 0, 0), (91, .iadd, 0, 0), (92, .iastore, 0, 0), (93, .iload 4, 0, 0), (95, .ireturn, 0, 0)]
def k_X6_build : List mm_E := [(0, .aload_n 0, 0, 0), (1, .invokevirtual 133, 130, 64), (4, .aload_n 0, 0, 0), (5, .iload_n 1, 0, 0), (6, .iload_n 2, 0, 0), (7, .iload_n 3, 0, 0), (8, .invokevirtual 136, 147, 67), (11, .ifCond .eq 10, 0, 0), (14, .aload_n 0, 0, 0), (15, .invokevirtual 139, 129, 64), (18, .goto 14, 0, 0), (21, .aload_n 0, 0, 0), (22, .aload_n 0, 0, 0), (23, .iload_n 1, 0, 0), (24, .iload_n 2, 0, 0), (25, .iload_n 3, 0, 0), (26, .invokevirtual 143, 148, 67), (29, .invokevirtual 147, 131, 65), (32, .ireturn, 0, 0)]
def k_X6_tears : List mm_E := [(0, .aload_n 0, 0, 0), (1, .getfield 7, 6, 0), (4, .iconst 0, 0, 0), (5, .dup2, 0, 0), (6, .iaload, 0, 0), (7, .iconst 1, 0, 0), (8, .isub, 0, 0), (9, .iastore, 0, 0), (10, .aload_n 0, 0, 0), (11, .getfield 7, 6, 0), (14, .iconst 0, 0, 0), (15, .iaload, 0, 0), (16, .istore_n 2, 0, 0), (17, .bipush 34, 0, 0), (19, .bipush 7, 0, 0), (21, .iload_n 1, 0, 0), (22, .imul, 0, 0), (23, .iadd, 0, 0), (24, .istore_n 3, 0, 0), (25, .iload_n 3, 0, 0), (26, .bipush 34, 0, 0), (28, .bipush 7, 0, 0), (30, .iload_n 2, 0, 0), (31, .imul, 0, 0), (32, .iadd, 0, 0), (33, .if_icmp .ge 24, 0, 0), (36, .aload_n 0, 0, 0), (37, .getfield 7, 6, 0), (40, .iload_n 3, 0, 0), (41, .aload_n 0, 0, 0), (42, .getfield 7, 6, 0), (45, .iload_n 3, 0, 0), (46, .bipush 7, 0, 0), (48, .iadd, 0, 0), (49, .iaload, 0, 0), (50, .iastore, 0, 0), (51, .iinc 3 1, 0, 0), (54, .goto (-29), 0, 0), (57, .iconst 0, 0, 0), (58, .istore_n 3, 0, 0), (59, .iload_n 3, 0, 0), (60, .bipush 7, 0, 0), (62, .if_icmp .ge 16, 0, 0), (65, .aload_n 0, 0, 0), (66, .iload_n 2, 0, 0), (67, .iload_n 3, 0, 0), (68, .iconst 0, 0, 0), (69, .invokevirtual 129, 135, 67), (72, .iinc 3 1, 0, 0), (75, .goto (-16), 0, 0), (78, .iload_n 2, 0, 0), (79, .ireturn, 0, 0)]
def k_X6_tear : List mm_E := [(0, .aload_n 0, 0, 0), (1, .invokevirtual 133, 130, 64), (4, .aload_n 0, 0, 0), (5, .iload_n 1, 0, 0), (6, .invokevirtual 150, 142, 65), (9, .ifCond .eq 10, 0, 0), (12, .aload_n 0, 0, 0), (13, .invokevirtual 139, 129, 64), (16, .goto 12, 0, 0), (19, .aload_n 0, 0, 0), (20, .aload_n 0, 0, 0), (21, .iload_n 1, 0, 0), (22, .invokevirtual 153, 150, 65), (25, .invokevirtual 147, 131, 65), (28, .ireturn, 0, 0)]
def k_X6_isRefusedHalve : List mm_E := [(0, .aload_n 0, 0, 0), (1, .iload_n 1, 0, 0), (2, .invokevirtual 150, 142, 65), (5, .ifCond .ne 38, 0, 0), (8, .aload_n 0, 0, 0), (9, .iload_n 1, 0, 0), (10, .iconst 4, 0, 0), (11, .invokevirtual 116, 134, 66), (14, .iconst 3, 0, 0), (15, .if_icmp .eq 13, 0, 0), (18, .aload_n 0, 0, 0), (19, .iload_n 1, 0, 0), (20, .iconst 2, 0, 0), (21, .invokevirtual 116, 134, 66), (24, .iconst 1, 0, 0), (25, .if_icmp .ne 22, 0, 0), (28, .aload_n 0, 0, 0), (29, .bipush 6, 0, 0), (31, .aload_n 0, 0, 0), (32, .iload_n 1, 0, 0), (33, .iconst 2, 0, 0), (34, .invokevirtual 116, 134, 66), (37, .invokevirtual 106, 128, 66), (40, .ifCond .eq 7, 0, 0), (43, .iconst 1, 0, 0), (44, .goto 4, 0, 0), (47, .iconst 0, 0, 0), (48, .ireturn, 0, 0)]
def k_X6_halves : List mm_E := [(0, .aload_n 0, 0, 0), (1, .iload_n 1, 0, 0), (2, .iconst 2, 0, 0), (3, .aload_n 0, 0, 0), (4, .iload_n 1, 0, 0), (5, .iconst 2, 0, 0), (6, .invokevirtual 116, 134, 66), (9, .iconst 1, 0, 0), (10, .iadd, 0, 0), (11, .iconst 2, 0, 0), (12, .idiv, 0, 0), (13, .invokevirtual 129, 135, 67), (16, .aload_n 0, 0, 0), (17, .iload_n 1, 0, 0), (18, .iconst 4, 0, 0), (19, .aload_n 0, 0, 0), (20, .iload_n 1, 0, 0), (21, .iconst 4, 0, 0), (22, .invokevirtual 116, 134, 66), (25, .iconst 1, 0, 0), (26, .iadd, 0, 0), (27, .invokevirtual 129, 135, 67), (30, .aload_n 0, 0, 0), (31, .getfield 7, 6, 0), (34, .bipush 9, 0, 0), (36, .dup2, 0, 0), (37, .iaload, 0, 0), (38, .iconst 1, 0, 0), (39, .iadd, 0, 0), (40, .iastore, 0, 0), (41, .aload_n 0, 0, 0), (42, .iload_n 1, 0, 0), (43, .iconst 2, 0, 0), (44, .invokevirtual 116, 134, 66), (47, .ireturn, 0, 0)]
def k_X6_halve : List mm_E := [(0, .aload_n 0, 0, 0), (1, .invokevirtual 133, 130, 64), (4, .aload_n 0, 0, 0), (5, .iload_n 1, 0, 0), (6, .invokevirtual 156, 152, 65), (9, .ifCond .eq 10, 0, 0), (12, .aload_n 0, 0, 0), (13, .invokevirtual 139, 129, 64), (16, .goto 12, 0, 0), (19, .aload_n 0, 0, 0), (20, .aload_n 0, 0, 0), (21, .iload_n 1, 0, 0), (22, .invokevirtual 159, 153, 65), (25, .invokevirtual 147, 131, 65), (28, .ireturn, 0, 0)]
def k_X6_rentOf : List mm_E := [(0, .iconst 1, 0, 0), (1, .aload_n 0, 0, 0), (2, .iload_n 1, 0, 0), (3, .iconst 2, 0, 0), (4, .invokevirtual 116, 134, 66), (7, .bipush 8, 0, 0), (9, .idiv, 0, 0), (10, .iadd, 0, 0), (11, .ireturn, 0, 0)]
def k_X6_isRefusedLease : List mm_E := [(0, .aload_n 0, 0, 0), (1, .iload_n 1, 0, 0), (2, .invokevirtual 162, 140, 65), (5, .ifCond .ne 11, 0, 0), (8, .aload_n 0, 0, 0), (9, .iload_n 2, 0, 0), (10, .invokevirtual 150, 142, 65), (13, .ifCond .eq 5, 0, 0), (16, .iconst 1, 0, 0), (17, .ireturn, 0, 0), (18, .iload_n 3, 0, 0), (19, .iconst 1, 0, 0), (20, .bipush 9, 0, 0), (22, .invokestatic 98, 125, 35), (25, .ifCond .ne 10, 0, 0), (28, .aload_n 0, 0, 0), (29, .iconst 3, 0, 0), (30, .iload_n 3, 0, 0), (31, .invokevirtual 106, 128, 66), (34, .ireturn, 0, 0), (35, .aload_n 0, 0, 0), (36, .iload_n 2, 0, 0), (37, .iconst 5, 0, 0), (38, .invokevirtual 116, 134, 66), (41, .ifCond .lt 23, 0, 0), (44, .aload_n 0, 0, 0), (45, .bipush 7, 0, 0), (47, .aload_n 0, 0, 0), (48, .iload_n 2, 0, 0), (49, .bipush 6, 0, 0), (51, .invokevirtual 116, 134, 66), (54, .invokevirtual 106, 128, 66), (57, .ifCond .eq 7, 0, 0), (60, .iconst 1, 0, 0), (61, .goto 4, 0, 0), (64, .iconst 0, 0, 0), (65, .ireturn, 0, 0)]
def k_X6_leases : List mm_E := [(0, .aload_n 0, 0, 0), (1, .iload_n 2, 0, 0), (2, .iconst 5, 0, 0), (3, .iload_n 1, 0, 0), (4, .invokevirtual 129, 135, 67), (7, .aload_n 0, 0, 0), (8, .iload_n 2, 0, 0), (9, .bipush 6, 0, 0), (11, .iload_n 3, 0, 0), (12, .invokevirtual 129, 135, 67), (15, .aload_n 0, 0, 0), (16, .iload_n 2, 0, 0), (17, .invokevirtual 165, 155, 65), (20, .ireturn, 0, 0)]
def k_X6_lease : List mm_E := [(0, .aload_n 0, 0, 0), (1, .invokevirtual 133, 130, 64), (4, .aload_n 0, 0, 0), (5, .iload_n 1, 0, 0), (6, .iload_n 2, 0, 0), (7, .iload_n 3, 0, 0), (8, .invokevirtual 168, 156, 67), (11, .ifCond .eq 10, 0, 0), (14, .aload_n 0, 0, 0), (15, .invokevirtual 139, 129, 64), (18, .goto 14, 0, 0), (21, .aload_n 0, 0, 0), (22, .aload_n 0, 0, 0), (23, .iload_n 1, 0, 0), (24, .iload_n 2, 0, 0), (25, .iload_n 3, 0, 0), (26, .invokevirtual 171, 157, 67), (29, .invokevirtual 147, 131, 65), (32, .ireturn, 0, 0)]
def k_X6_takesBreaths : List mm_E := [(0, .aload_n 0, 0, 0), (1, .iload_n 2, 0, 0), (2, .iconst 5, 0, 0), (3, .invokevirtual 116, 134, 66), (6, .iload_n 1, 0, 0), (7, .if_icmp .ne 12, 0, 0), (10, .aload_n 0, 0, 0), (11, .iload_n 2, 0, 0), (12, .iconst 2, 0, 0), (13, .invokevirtual 116, 134, 66), (16, .goto 11, 0, 0), (19, .iconst 2, 0, 0), (20, .aload_n 0, 0, 0), (21, .iload_n 2, 0, 0), (22, .iconst 2, 0, 0), (23, .invokevirtual 116, 134, 66), (26, .imul, 0, 0), (27, .ireturn, 0, 0)]
def k_X6_isRefusedClimb : List mm_E := [(0, .aload_n 0, 0, 0), (1, .iload_n 1, 0, 0), (2, .invokevirtual 162, 140, 65), (5, .ifCond .ne 11, 0, 0), (8, .aload_n 0, 0, 0), (9, .iload_n 2, 0, 0), (10, .invokevirtual 150, 142, 65), (13, .ifCond .eq 5, 0, 0), (16, .iconst 1, 0, 0), (17, .ireturn, 0, 0), (18, .aload_n 0, 0, 0), (19, .iload_n 2, 0, 0), (20, .aload_n 0, 0, 0), (21, .iload_n 1, 0, 0), (22, .iconst 1, 0, 0), (23, .invokevirtual 174, 132, 66), (26, .invokevirtual 177, 145, 66), (29, .ifCond .ne 16, 0, 0), (32, .aload_n 0, 0, 0), (33, .bipush 8, 0, 0), (35, .aload_n 0, 0, 0), (36, .iload_n 1, 0, 0), (37, .iconst 1, 0, 0), (38, .invokevirtual 174, 132, 66), (41, .invokevirtual 106, 128, 66), (44, .ireturn, 0, 0), (45, .aload_n 0, 0, 0), (46, .iload_n 2, 0, 0), (47, .aload_n 0, 0, 0), (48, .iload_n 1, 0, 0), (49, .iconst 1, 0, 0), (50, .invokevirtual 174, 132, 66), (53, .invokevirtual 180, 146, 66), (56, .istore_n 3, 0, 0), (57, .aload_n 0, 0, 0), (58, .iload_n 3, 0, 0), (59, .invokevirtual 183, 136, 65), (62, .iconst 2, 0, 0), (63, .if_icmp .ne 17, 0, 0), (66, .aload_n 0, 0, 0), (67, .bipush 9, 0, 0), (69, .iload_n 3, 0, 0), (70, .invokevirtual 106, 128, 66), (73, .ifCond .eq 7, 0, 0), (76, .iconst 1, 0, 0), (77, .goto 4, 0, 0), (80, .iconst 0, 0, 0), (81, .ireturn, 0, 0)]
def k_X6_climbs : List mm_E := [(0, .aload_n 0, 0, 0), (1, .iload_n 2, 0, 0), (2, .aload_n 0, 0, 0), (3, .iload_n 1, 0, 0), (4, .iconst 1, 0, 0), (5, .invokevirtual 174, 132, 66), (8, .invokevirtual 180, 146, 66), (11, .istore_n 3, 0, 0), (12, .aload_n 0, 0, 0), (13, .iload_n 1, 0, 0), (14, .iload_n 2, 0, 0), (15, .invokevirtual 186, 159, 66), (18, .istore 4, 0, 0), (20, .aload_n 0, 0, 0), (21, .getfield 7, 6, 0), (24, .bipush 12, 0, 0), (26, .iconst 5, 0, 0), (27, .iload_n 1, 0, 0), (28, .imul, 0, 0), (29, .iadd, 0, 0), (30, .iconst 1, 0, 0), (31, .iadd, 0, 0), (32, .iload_n 3, 0, 0), (33, .iastore, 0, 0), (34, .aload_n 0, 0, 0), (35, .iload_n 3, 0, 0), (36, .invokevirtual 183, 136, 65), (39, .iconst 1, 0, 0), (40, .iload_n 1, 0, 0), (41, .isub, 0, 0), (42, .if_icmp .ne 48, 0, 0), (45, .aload_n 0, 0, 0), (46, .iload_n 1, 0, 0), (47, .iconst 0, 0, 0), (48, .invokevirtual 174, 132, 66), (51, .ifCond .le 39, 0, 0), (54, .aload_n 0, 0, 0), (55, .iload_n 1, 0, 0), (56, .iconst 0, 0, 0), (57, .iconst (-1), 0, 0), (58, .invokevirtual 189, 133, 67), (61, .aload_n 0, 0, 0), (62, .iconst 1, 0, 0), (63, .iload_n 1, 0, 0), (64, .isub, 0, 0), (65, .iconst 0, 0, 0), (66, .iconst 1, 0, 0), (67, .invokevirtual 189, 133, 67), (70, .aload_n 0, 0, 0), (71, .iconst 1, 0, 0), (72, .iload_n 1, 0, 0), (73, .isub, 0, 0), (74, .iconst 4, 0, 0), (75, .iconst 1, 0, 0), (76, .invokevirtual 189, 133, 67), (79, .aload_n 0, 0, 0), (80, .getfield 7, 6, 0), (83, .bipush 6, 0, 0), (85, .dup2, 0, 0), (86, .iaload, 0, 0), (87, .iconst 1, 0, 0), (88, .iadd, 0, 0), (89, .iastore, 0, 0), (90, .aload_n 0, 0, 0), (91, .iload_n 2, 0, 0), (92, .iconst 3, 0, 0), (93, .aload_n 0, 0, 0), (94, .iload_n 2, 0, 0), (95, .iconst 3, 0, 0), (96, .invokevirtual 116, 134, 66), (99, .aload_n 0, 0, 0), (100, .iload_n 2, 0, 0), (101, .iconst 3, 0, 0), (102, .invokevirtual 116, 134, 66), (105, .iconst 2, 0, 0), (106, .idiv, 0, 0), (107, .isub, 0, 0), (108, .invokevirtual 129, 135, 67), (111, .aload_n 0, 0, 0), (112, .iload_n 1, 0, 0), (113, .iconst 2, 0, 0), (114, .iload 4, 0, 0), (116, .invokevirtual 189, 133, 67), (119, .aload_n 0, 0, 0), (120, .getfield 7, 6, 0), (123, .bipush 7, 0, 0), (125, .dup2, 0, 0), (126, .iaload, 0, 0), (127, .iload 4, 0, 0), (129, .iadd, 0, 0), (130, .iastore, 0, 0), (131, .iload 4, 0, 0), (133, .ireturn, 0, 0)]
def k_X6_climb : List mm_E := [(0, .aload_n 0, 0, 0), (1, .invokevirtual 133, 130, 64), (4, .aload_n 0, 0, 0), (5, .iload_n 1, 0, 0), (6, .iload_n 2, 0, 0), (7, .invokevirtual 192, 160, 66), (10, .ifCond .eq 10, 0, 0), (13, .aload_n 0, 0, 0), (14, .invokevirtual 139, 129, 64), (17, .goto 13, 0, 0), (20, .aload_n 0, 0, 0), (21, .aload_n 0, 0, 0), (22, .iload_n 1, 0, 0), (23, .iload_n 2, 0, 0), (24, .invokevirtual 195, 161, 66), (27, .invokevirtual 147, 131, 65), (30, .ireturn, 0, 0)]
def k_X6_isRefusedLevy : List mm_E := [(0, .aload_n 0, 0, 0), (1, .iload_n 1, 0, 0), (2, .invokevirtual 162, 140, 65), (5, .ifCond .ne 11, 0, 0), (8, .aload_n 0, 0, 0), (9, .iload_n 2, 0, 0), (10, .invokevirtual 150, 142, 65), (13, .ifCond .eq 5, 0, 0), (16, .iconst 1, 0, 0), (17, .ireturn, 0, 0), (18, .aload_n 0, 0, 0), (19, .aload_n 0, 0, 0), (20, .iload_n 2, 0, 0), (21, .iconst 0, 0, 0), (22, .invokevirtual 116, 134, 66), (25, .invokevirtual 183, 136, 65), (28, .iload_n 1, 0, 0), (29, .if_icmp .eq 25, 0, 0), (32, .aload_n 0, 0, 0), (33, .aload_n 0, 0, 0), (34, .iload_n 2, 0, 0), (35, .iconst 1, 0, 0), (36, .invokevirtual 116, 134, 66), (39, .invokevirtual 183, 136, 65), (42, .iload_n 1, 0, 0), (43, .if_icmp .eq 11, 0, 0), (46, .aload_n 0, 0, 0), (47, .bipush 10, 0, 0), (49, .iload_n 2, 0, 0), (50, .invokevirtual 106, 128, 66), (53, .ireturn, 0, 0), (54, .aload_n 0, 0, 0), (55, .iload_n 2, 0, 0), (56, .iconst 3, 0, 0), (57, .invokevirtual 116, 134, 66), (60, .ifCond .ne 22, 0, 0), (63, .aload_n 0, 0, 0), (64, .bipush 11, 0, 0), (66, .aload_n 0, 0, 0), (67, .iload_n 2, 0, 0), (68, .iconst 2, 0, 0), (69, .invokevirtual 116, 134, 66), (72, .invokevirtual 106, 128, 66), (75, .ifCond .eq 7, 0, 0), (78, .iconst 1, 0, 0), (79, .goto 4, 0, 0), (82, .iconst 0, 0, 0), (83, .ireturn, 0, 0)]
def k_X6_levyBy : List mm_E := [(0, .aload_n 0, 0, 0), (1, .iload_n 2, 0, 0), (2, .iconst 3, 0, 0), (3, .invokevirtual 116, 134, 66), (6, .iconst 4, 0, 0), (7, .idiv, 0, 0), (8, .istore_n 3, 0, 0), (9, .iload_n 3, 0, 0), (10, .aload_n 0, 0, 0), (11, .iconst 1, 0, 0), (12, .iload_n 1, 0, 0), (13, .isub, 0, 0), (14, .iconst 0, 0, 0), (15, .invokevirtual 174, 132, 66), (18, .if_icmp .le 14, 0, 0), (21, .aload_n 0, 0, 0), (22, .iconst 1, 0, 0), (23, .iload_n 1, 0, 0), (24, .isub, 0, 0), (25, .iconst 0, 0, 0), (26, .invokevirtual 174, 132, 66), (29, .goto 4, 0, 0), (32, .iload_n 3, 0, 0), (33, .ireturn, 0, 0)]
def k_X6_levies : List mm_E := [(0, .aload_n 0, 0, 0), (1, .iload_n 1, 0, 0), (2, .iload_n 2, 0, 0), (3, .invokevirtual 198, 164, 66), (6, .istore_n 3, 0, 0), (7, .aload_n 0, 0, 0), (8, .iload_n 1, 0, 0), (9, .iconst 0, 0, 0), (10, .iload_n 3, 0, 0), (11, .invokevirtual 189, 133, 67), (14, .aload_n 0, 0, 0), (15, .iconst 1, 0, 0), (16, .iload_n 1, 0, 0), (17, .isub, 0, 0), (18, .iconst 0, 0, 0), (19, .iload_n 3, 0, 0), (20, .ineg, 0, 0), (21, .invokevirtual 189, 133, 67), (24, .aload_n 0, 0, 0), (25, .getfield 7, 6, 0), (28, .iconst 5, 0, 0), (29, .dup2, 0, 0), (30, .iaload, 0, 0), (31, .iload_n 3, 0, 0), (32, .iadd, 0, 0), (33, .iastore, 0, 0), (34, .aload_n 0, 0, 0), (35, .iload_n 2, 0, 0), (36, .iconst 3, 0, 0), (37, .iconst 0, 0, 0), (38, .invokevirtual 129, 135, 67), (41, .iload_n 3, 0, 0), (42, .ireturn, 0, 0)]
def k_X6_levy : List mm_E := [(0, .aload_n 0, 0, 0), (1, .invokevirtual 133, 130, 64), (4, .aload_n 0, 0, 0), (5, .iload_n 1, 0, 0), (6, .iload_n 2, 0, 0), (7, .invokevirtual 201, 163, 66), (10, .ifCond .eq 10, 0, 0), (13, .aload_n 0, 0, 0), (14, .invokevirtual 139, 129, 64), (17, .goto 13, 0, 0), (20, .aload_n 0, 0, 0), (21, .aload_n 0, 0, 0), (22, .iload_n 1, 0, 0), (23, .iload_n 2, 0, 0), (24, .invokevirtual 204, 165, 66), (27, .invokevirtual 147, 131, 65), (30, .ireturn, 0, 0)]
def k_X6_standing : List mm_E := [(0, .aload_n 0, 0, 0), (1, .iconst 0, 0, 0), (2, .iconst 1, 0, 0), (3, .invokevirtual 174, 132, 66), (6, .iload_n 1, 0, 0), (7, .if_icmp .ne 7, 0, 0), (10, .iconst 0, 0, 0), (11, .goto 18, 0, 0), (14, .aload_n 0, 0, 0), (15, .iconst 1, 0, 0), (16, .iconst 1, 0, 0), (17, .invokevirtual 174, 132, 66), (20, .iload_n 1, 0, 0), (21, .if_icmp .ne 7, 0, 0), (24, .iconst 1, 0, 0), (25, .goto 4, 0, 0), (28, .iconst (-1), 0, 0), (29, .ireturn, 0, 0)]
def k_X6_landingsOf : List mm_E := [(0, .iconst 0, 0, 0), (1, .istore_n 2, 0, 0), (2, .iconst 0, 0, 0), (3, .istore_n 3, 0, 0), (4, .iload_n 3, 0, 0), (5, .bipush 8, 0, 0), (7, .if_icmp .ge 26, 0, 0), (10, .iload_n 2, 0, 0), (11, .aload_n 0, 0, 0), (12, .iload_n 3, 0, 0), (13, .invokevirtual 183, 136, 65), (16, .iload_n 1, 0, 0), (17, .if_icmp .ne 7, 0, 0), (20, .iconst 1, 0, 0), (21, .goto 4, 0, 0), (24, .iconst 0, 0, 0), (25, .iadd, 0, 0), (26, .istore_n 2, 0, 0), (27, .iinc 3 1, 0, 0), (30, .goto (-26), 0, 0), (33, .iload_n 2, 0, 0), (34, .ireturn, 0, 0)]
def k_X6_isJoined : List mm_E := [(0, .iconst 0, 0, 0), (1, .istore_n 3, 0, 0), (2, .iload_n 3, 0, 0), (3, .aload_n 0, 0, 0), (4, .getfield 7, 6, 0), (7, .iconst 0, 0, 0), (8, .iaload, 0, 0), (9, .if_icmp .ge 34, 0, 0), (12, .aload_n 0, 0, 0), (13, .iload_n 3, 0, 0), (14, .iload_n 1, 0, 0), (15, .invokevirtual 177, 145, 66), (18, .ifCond .eq 19, 0, 0), (21, .aload_n 0, 0, 0), (22, .aload_n 0, 0, 0), (23, .iload_n 3, 0, 0), (24, .iload_n 1, 0, 0), (25, .invokevirtual 180, 146, 66), (28, .invokevirtual 183, 136, 65), (31, .iload_n 2, 0, 0), (32, .if_icmp .ne 5, 0, 0), (35, .iconst 1, 0, 0), (36, .ireturn, 0, 0), (37, .iinc 3 1, 0, 0), (40, .goto (-38), 0, 0), (43, .iconst 0, 0, 0), (44, .ireturn, 0, 0)]
def k_X6_priceOf : List mm_E := [(0, .aload_n 0, 0, 0), (1, .iload_n 1, 0, 0), (2, .invokevirtual 183, 136, 65), (5, .iconst 2, 0, 0), (6, .if_icmp .ne 7, 0, 0), (9, .iconst 5, 0, 0), (10, .goto 5, 0, 0), (13, .bipush 10, 0, 0), (15, .ireturn, 0, 0)]
def k_X6_isRefusedTake : List mm_E := [(0, .aload_n 0, 0, 0), (1, .getfield 7, 6, 0), (4, .iconst 3, 0, 0), (5, .iaload, 0, 0), (6, .istore_n 2, 0, 0), (7, .aload_n 0, 0, 0), (8, .iload_n 1, 0, 0), (9, .invokevirtual 123, 141, 65), (12, .ifCond .eq 5, 0, 0), (15, .iconst 1, 0, 0), (16, .ireturn, 0, 0), (17, .aload_n 0, 0, 0), (18, .iload_n 1, 0, 0), (19, .invokevirtual 183, 136, 65), (22, .iload_n 2, 0, 0), (23, .if_icmp .ne 11, 0, 0), (26, .aload_n 0, 0, 0), (27, .bipush 13, 0, 0), (29, .iload_n 2, 0, 0), (30, .invokevirtual 106, 128, 66), (33, .ireturn, 0, 0), (34, .aload_n 0, 0, 0), (35, .iload_n 1, 0, 0), (36, .invokevirtual 207, 167, 65), (39, .ifCond .lt 15, 0, 0), (42, .aload_n 0, 0, 0), (43, .bipush 12, 0, 0), (45, .aload_n 0, 0, 0), (46, .iload_n 1, 0, 0), (47, .invokevirtual 207, 167, 65), (50, .invokevirtual 106, 128, 66), (53, .ireturn, 0, 0), (54, .aload_n 0, 0, 0), (55, .iload_n 1, 0, 0), (56, .iload_n 2, 0, 0), (57, .invokevirtual 210, 169, 66), (60, .ifCond .ne 15, 0, 0), (63, .aload_n 0, 0, 0), (64, .bipush 14, 0, 0), (66, .aload_n 0, 0, 0), (67, .iload_n 2, 0, 0), (68, .invokevirtual 213, 168, 65), (71, .invokevirtual 106, 128, 66), (74, .ireturn, 0, 0), (75, .aload_n 0, 0, 0), (76, .iload_n 2, 0, 0), (77, .iconst 0, 0, 0), (78, .invokevirtual 174, 132, 66), (81, .aload_n 0, 0, 0), (82, .iload_n 1, 0, 0), (83, .invokevirtual 216, 170, 65), (86, .if_icmp .ge 22, 0, 0), (89, .aload_n 0, 0, 0), (90, .bipush 15, 0, 0), (92, .aload_n 0, 0, 0), (93, .iload_n 2, 0, 0), (94, .iconst 0, 0, 0), (95, .invokevirtual 174, 132, 66), (98, .invokevirtual 106, 128, 66), (101, .ifCond .eq 7, 0, 0), (104, .iconst 1, 0, 0), (105, .goto 4, 0, 0), (108, .iconst 0, 0, 0), (109, .ireturn, 0, 0)]
def k_X6_takes : List mm_E := [(0, .aload_n 0, 0, 0), (1, .getfield 7, 6, 0), (4, .iconst 3, 0, 0), (5, .iaload, 0, 0), (6, .istore_n 2, 0, 0), (7, .aload_n 0, 0, 0), (8, .iload_n 2, 0, 0), (9, .iconst 0, 0, 0), (10, .aload_n 0, 0, 0), (11, .iload_n 1, 0, 0), (12, .invokevirtual 216, 170, 65), (15, .ineg, 0, 0), (16, .invokevirtual 189, 133, 67), (19, .aload_n 0, 0, 0), (20, .getfield 7, 6, 0), (23, .iconst 2, 0, 0), (24, .dup2, 0, 0), (25, .iaload, 0, 0), (26, .iconst 5, 0, 0), (27, .iadd, 0, 0), (28, .iastore, 0, 0), (29, .aload_n 0, 0, 0), (30, .iconst 1, 0, 0), (31, .iload_n 2, 0, 0), (32, .isub, 0, 0), (33, .iconst 0, 0, 0), (34, .aload_n 0, 0, 0), (35, .iload_n 1, 0, 0), (36, .invokevirtual 216, 170, 65), (39, .iconst 5, 0, 0), (40, .isub, 0, 0), (41, .invokevirtual 189, 133, 67), (44, .aload_n 0, 0, 0), (45, .getfield 7, 6, 0), (48, .bipush 24, 0, 0), (50, .iload_n 1, 0, 0), (51, .iadd, 0, 0), (52, .iload_n 2, 0, 0), (53, .iastore, 0, 0), (54, .aload_n 0, 0, 0), (55, .getfield 7, 6, 0), (58, .bipush 8, 0, 0), (60, .dup2, 0, 0), (61, .iaload, 0, 0), (62, .iconst 1, 0, 0), (63, .iadd, 0, 0), (64, .iastore, 0, 0), (65, .aload_n 0, 0, 0), (66, .iload_n 2, 0, 0), (67, .iconst 0, 0, 0), (68, .invokevirtual 174, 132, 66), (71, .ireturn, 0, 0)]
def k_X6_take : List mm_E := [(0, .aload_n 0, 0, 0), (1, .invokevirtual 133, 130, 64), (4, .aload_n 0, 0, 0), (5, .iload_n 1, 0, 0), (6, .invokevirtual 219, 171, 65), (9, .ifCond .eq 10, 0, 0), (12, .aload_n 0, 0, 0), (13, .invokevirtual 139, 129, 64), (16, .goto 12, 0, 0), (19, .aload_n 0, 0, 0), (20, .aload_n 0, 0, 0), (21, .iload_n 1, 0, 0), (22, .invokevirtual 222, 172, 65), (25, .invokevirtual 147, 131, 65), (28, .ireturn, 0, 0)]
def k_X6_isRefusedCede : List mm_E := [(0, .aload_n 0, 0, 0), (1, .iload_n 1, 0, 0), (2, .invokevirtual 162, 140, 65), (5, .ifCond .ne 11, 0, 0), (8, .aload_n 0, 0, 0), (9, .iload_n 2, 0, 0), (10, .invokevirtual 123, 141, 65), (13, .ifCond .eq 5, 0, 0), (16, .iconst 1, 0, 0), (17, .ireturn, 0, 0), (18, .aload_n 0, 0, 0), (19, .iload_n 2, 0, 0), (20, .invokevirtual 183, 136, 65), (23, .iload_n 1, 0, 0), (24, .if_icmp .eq 15, 0, 0), (27, .aload_n 0, 0, 0), (28, .bipush 13, 0, 0), (30, .aload_n 0, 0, 0), (31, .iload_n 2, 0, 0), (32, .invokevirtual 183, 136, 65), (35, .invokevirtual 106, 128, 66), (38, .ireturn, 0, 0), (39, .aload_n 0, 0, 0), (40, .iload_n 2, 0, 0), (41, .invokevirtual 207, 167, 65), (44, .ifCond .lt 21, 0, 0), (47, .aload_n 0, 0, 0), (48, .bipush 12, 0, 0), (50, .aload_n 0, 0, 0), (51, .iload_n 2, 0, 0), (52, .invokevirtual 207, 167, 65), (55, .invokevirtual 106, 128, 66), (58, .ifCond .eq 7, 0, 0), (61, .iconst 1, 0, 0), (62, .goto 4, 0, 0), (65, .iconst 0, 0, 0), (66, .ireturn, 0, 0)]
def k_X6_cedes : List mm_E := [(0, .aload_n 0, 0, 0), (1, .getfield 7, 6, 0), (4, .bipush 24, 0, 0), (6, .iload_n 2, 0, 0), (7, .iadd, 0, 0), (8, .iconst 2, 0, 0), (9, .iastore, 0, 0), (10, .aload_n 0, 0, 0), (11, .iload_n 1, 0, 0), (12, .invokevirtual 213, 168, 65), (15, .ireturn, 0, 0)]
def k_X6_free : List mm_E := [(0, .aload_n 0, 0, 0), (1, .invokevirtual 133, 130, 64), (4, .aload_n 0, 0, 0), (5, .iload_n 1, 0, 0), (6, .iload_n 2, 0, 0), (7, .invokevirtual 225, 174, 66), (10, .ifCond .eq 10, 0, 0), (13, .aload_n 0, 0, 0), (14, .invokevirtual 139, 129, 64), (17, .goto 13, 0, 0), (20, .aload_n 0, 0, 0), (21, .aload_n 0, 0, 0), (22, .iload_n 1, 0, 0), (23, .iload_n 2, 0, 0), (24, .invokevirtual 228, 175, 66), (27, .invokevirtual 147, 131, 65), (30, .ireturn, 0, 0)]
def k_X6_ends : List mm_E := [(0, .aload_n 0, 0, 0), (1, .iload_n 1, 0, 0), (2, .iconst 5, 0, 0), (3, .iconst (-1), 0, 0), (4, .invokevirtual 129, 135, 67), (7, .aload_n 0, 0, 0), (8, .iload_n 1, 0, 0), (9, .bipush 6, 0, 0), (11, .iconst 0, 0, 0), (12, .invokevirtual 129, 135, 67), (15, .return_, 0, 0)]
def k_X6_givesRent : List mm_E := [(0, .aload_n 0, 0, 0), (1, .iload_n 1, 0, 0), (2, .iconst 5, 0, 0), (3, .invokevirtual 116, 134, 66), (6, .istore_n 2, 0, 0), (7, .iload_n 2, 0, 0), (8, .ifCond .ge 5, 0, 0), (11, .iconst 0, 0, 0), (12, .ireturn, 0, 0), (13, .aload_n 0, 0, 0), (14, .iload_n 1, 0, 0), (15, .invokevirtual 165, 155, 65), (18, .istore_n 3, 0, 0), (19, .aload_n 0, 0, 0), (20, .iload_n 2, 0, 0), (21, .iconst 0, 0, 0), (22, .invokevirtual 174, 132, 66), (25, .iload_n 3, 0, 0), (26, .if_icmp .ge 10, 0, 0), (29, .aload_n 0, 0, 0), (30, .iload_n 1, 0, 0), (31, .invokevirtual 231, 177, 65), (34, .iconst 0, 0, 0), (35, .ireturn, 0, 0), (36, .aload_n 0, 0, 0), (37, .iload_n 2, 0, 0), (38, .iconst 0, 0, 0), (39, .iload_n 3, 0, 0), (40, .ineg, 0, 0), (41, .invokevirtual 189, 133, 67), (44, .aload_n 0, 0, 0), (45, .iload_n 2, 0, 0), (46, .iconst 3, 0, 0), (47, .iload_n 3, 0, 0), (48, .invokevirtual 189, 133, 67), (51, .aload_n 0, 0, 0), (52, .getfield 7, 6, 0), (55, .iconst 2, 0, 0), (56, .dup2, 0, 0), (57, .iaload, 0, 0), (58, .iload_n 3, 0, 0), (59, .iadd, 0, 0), (60, .iastore, 0, 0), (61, .aload_n 0, 0, 0), (62, .getfield 7, 6, 0), (65, .iconst 4, 0, 0), (66, .dup2, 0, 0), (67, .iaload, 0, 0), (68, .iload_n 3, 0, 0), (69, .iadd, 0, 0), (70, .iastore, 0, 0), (71, .aload_n 0, 0, 0), (72, .iload_n 1, 0, 0), (73, .bipush 6, 0, 0), (75, .aload_n 0, 0, 0), (76, .iload_n 1, 0, 0), (77, .bipush 6, 0, 0), (79, .invokevirtual 116, 134, 66), (82, .iconst 1, 0, 0), (83, .isub, 0, 0), (84, .invokevirtual 129, 135, 67), (87, .aload_n 0, 0, 0), (88, .iload_n 1, 0, 0), (89, .bipush 6, 0, 0), (91, .invokevirtual 116, 134, 66), (94, .ifCond .ne 8, 0, 0), (97, .aload_n 0, 0, 0), (98, .iload_n 1, 0, 0), (99, .invokevirtual 231, 177, 65), (102, .iload_n 3, 0, 0), (103, .ireturn, 0, 0)]
def k_X6_least : List mm_E := [(0, .iload_n 0, 0, 0), (1, .iload_n 1, 0, 0), (2, .if_icmp .ge 7, 0, 0), (5, .iload_n 0, 0, 0), (6, .goto 4, 0, 0), (9, .iload_n 1, 0, 0), (10, .ireturn, 0, 0)]
def k_X6_goesBy : List mm_E := [(0, .iconst 0, 0, 0), (1, .istore_n 1, 0, 0), (2, .iconst 0, 0, 0), (3, .istore_n 2, 0, 0), (4, .iload_n 2, 0, 0), (5, .aload_n 0, 0, 0), (6, .getfield 7, 6, 0), (9, .iconst 0, 0, 0), (10, .iaload, 0, 0), (11, .if_icmp .ge 45, 0, 0), (14, .aload_n 0, 0, 0), (15, .iload_n 2, 0, 0), (16, .iconst 3, 0, 0), (17, .bipush 20, 0, 0), (19, .aload_n 0, 0, 0), (20, .iload_n 2, 0, 0), (21, .iconst 3, 0, 0), (22, .invokevirtual 116, 134, 66), (25, .aload_n 0, 0, 0), (26, .iload_n 2, 0, 0), (27, .iconst 2, 0, 0), (28, .invokevirtual 116, 134, 66), (31, .iconst 5, 0, 0), (32, .idiv, 0, 0), (33, .iadd, 0, 0), (34, .iconst 1, 0, 0), (35, .iadd, 0, 0), (36, .invokestatic 235, 179, 34), (39, .invokevirtual 129, 135, 67), (42, .iload_n 1, 0, 0), (43, .aload_n 0, 0, 0), (44, .iload_n 2, 0, 0), (45, .invokevirtual 238, 178, 65), (48, .iadd, 0, 0), (49, .istore_n 1, 0, 0), (50, .iinc 2 1, 0, 0), (53, .goto (-49), 0, 0), (56, .aload_n 0, 0, 0), (57, .getfield 7, 6, 0), (60, .iconst 1, 0, 0), (61, .dup2, 0, 0), (62, .iaload, 0, 0), (63, .iconst 1, 0, 0), (64, .iadd, 0, 0), (65, .iastore, 0, 0), (66, .aload_n 0, 0, 0), (67, .getfield 7, 6, 0), (70, .iconst 3, 0, 0), (71, .iconst 1, 0, 0), (72, .aload_n 0, 0, 0), (73, .getfield 7, 6, 0), (76, .iconst 3, 0, 0), (77, .iaload, 0, 0), (78, .isub, 0, 0), (79, .iastore, 0, 0), (80, .iload_n 1, 0, 0), (81, .ireturn, 0, 0)]
def k_X6_day : List mm_E := [(0, .aload_n 0, 0, 0), (1, .invokevirtual 133, 130, 64), (4, .aload_n 0, 0, 0), (5, .aload_n 0, 0, 0), (6, .invokevirtual 241, 180, 64), (9, .invokevirtual 147, 131, 65), (12, .ireturn, 0, 0)]
def k_X6_leasedTo : List mm_E := [(0, .iconst 0, 0, 0), (1, .istore_n 2, 0, 0), (2, .iconst 0, 0, 0), (3, .istore_n 3, 0, 0), (4, .iload_n 3, 0, 0), (5, .aload_n 0, 0, 0), (6, .getfield 7, 6, 0), (9, .iconst 0, 0, 0), (10, .iaload, 0, 0), (11, .if_icmp .ge 27, 0, 0), (14, .iload_n 2, 0, 0), (15, .aload_n 0, 0, 0), (16, .iload_n 3, 0, 0), (17, .iconst 5, 0, 0), (18, .invokevirtual 116, 134, 66), (21, .iload_n 1, 0, 0), (22, .if_icmp .ne 7, 0, 0), (25, .iconst 1, 0, 0), (26, .goto 4, 0, 0), (29, .iconst 0, 0, 0), (30, .iadd, 0, 0), (31, .istore_n 2, 0, 0), (32, .iinc 3 1, 0, 0), (35, .goto (-31), 0, 0), (38, .iload_n 2, 0, 0), (39, .ireturn, 0, 0)]
def k_X6_giantOf : List mm_E := [(0, .aload_n 0, 0, 0), (1, .iconst 0, 0, 0), (2, .putfield 25, 6, 5), (5, .iload_n 1, 0, 0), (6, .invokestatic 102, 137, 33), (9, .ifCond .ne 9, 0, 0), (12, .aload_n 0, 0, 0), (13, .iconst 1, 0, 0), (14, .invokevirtual 90, 127, 65), (17, .ireturn, 0, 0), (18, .iload_n 2, 0, 0), (19, .tableswitch 88 0 6 #[41, 48, 55, 61, 68, 74, 81], 0, 41), (60, .aload_n 0, 0, 0), (61, .iload_n 1, 0, 0), (62, .iconst 0, 0, 0), (63, .invokevirtual 174, 132, 66), (66, .ireturn, 0, 0), (67, .aload_n 0, 0, 0), (68, .iload_n 1, 0, 0), (69, .iconst 1, 0, 0), (70, .invokevirtual 174, 132, 66), (73, .ireturn, 0, 0), (74, .aload_n 0, 0, 0), (75, .iload_n 1, 0, 0), (76, .invokevirtual 213, 168, 65), (79, .ireturn, 0, 0), (80, .aload_n 0, 0, 0), (81, .iload_n 1, 0, 0), (82, .iconst 2, 0, 0), (83, .invokevirtual 174, 132, 66), (86, .ireturn, 0, 0), (87, .aload_n 0, 0, 0), (88, .iload_n 1, 0, 0), (89, .invokevirtual 244, 182, 65), (92, .ireturn, 0, 0), (93, .aload_n 0, 0, 0), (94, .iload_n 1, 0, 0), (95, .iconst 3, 0, 0), (96, .invokevirtual 174, 132, 66), (99, .ireturn, 0, 0), (100, .aload_n 0, 0, 0), (101, .iload_n 1, 0, 0), (102, .iconst 4, 0, 0), (103, .invokevirtual 174, 132, 66), (106, .ireturn, 0, 0), (107, .aload_n 0, 0, 0), (108, .iconst 2, 0, 0), (109, .invokevirtual 90, 127, 65), (112, .ireturn, 0, 0)]
def k_X6_stairsAt : List mm_E := [(0, .iconst 0, 0, 0), (1, .istore_n 2, 0, 0), (2, .iconst 0, 0, 0), (3, .istore_n 3, 0, 0), (4, .iload_n 3, 0, 0), (5, .aload_n 0, 0, 0), (6, .getfield 7, 6, 0), (9, .iconst 0, 0, 0), (10, .iaload, 0, 0), (11, .if_icmp .ge 26, 0, 0), (14, .iload_n 2, 0, 0), (15, .aload_n 0, 0, 0), (16, .iload_n 3, 0, 0), (17, .iload_n 1, 0, 0), (18, .invokevirtual 177, 145, 66), (21, .ifCond .eq 7, 0, 0), (24, .iconst 1, 0, 0), (25, .goto 4, 0, 0), (28, .iconst 0, 0, 0), (29, .iadd, 0, 0), (30, .istore_n 2, 0, 0), (31, .iinc 3 1, 0, 0), (34, .goto (-30), 0, 0), (37, .iload_n 2, 0, 0), (38, .ireturn, 0, 0)]
def k_X6_joinedTo : List mm_E := [(0, .iconst 0, 0, 0), (1, .istore_n 2, 0, 0), (2, .iconst 0, 0, 0), (3, .istore_n 3, 0, 0), (4, .iload_n 3, 0, 0), (5, .aload_n 0, 0, 0), (6, .getfield 7, 6, 0), (9, .iconst 0, 0, 0), (10, .iaload, 0, 0), (11, .if_icmp .ge 33, 0, 0), (14, .iload_n 2, 0, 0), (15, .aload_n 0, 0, 0), (16, .iload_n 3, 0, 0), (17, .iload_n 1, 0, 0), (18, .invokevirtual 177, 145, 66), (21, .ifCond .eq 14, 0, 0), (24, .iconst 1, 0, 0), (25, .aload_n 0, 0, 0), (26, .iload_n 3, 0, 0), (27, .iload_n 1, 0, 0), (28, .invokevirtual 180, 146, 66), (31, .ishl, 0, 0), (32, .goto 4, 0, 0), (35, .iconst 0, 0, 0), (36, .ior, 0, 0), (37, .istore_n 2, 0, 0), (38, .iinc 3 1, 0, 0), (41, .goto (-37), 0, 0), (44, .iload_n 2, 0, 0), (45, .ireturn, 0, 0)]
def k_X6_landingOf : List mm_E := [(0, .aload_n 0, 0, 0), (1, .iconst 0, 0, 0), (2, .putfield 25, 6, 5), (5, .iload_n 1, 0, 0), (6, .invokestatic 110, 138, 33), (9, .ifCond .ne 9, 0, 0), (12, .aload_n 0, 0, 0), (13, .iconst 1, 0, 0), (14, .invokevirtual 90, 127, 65), (17, .ireturn, 0, 0), (18, .iload_n 2, 0, 0), (19, .tableswitch 53 0 3 #[29, 35, 41, 47], 0, 29), (48, .aload_n 0, 0, 0), (49, .iload_n 1, 0, 0), (50, .invokevirtual 183, 136, 65), (53, .ireturn, 0, 0), (54, .aload_n 0, 0, 0), (55, .iload_n 1, 0, 0), (56, .invokevirtual 247, 184, 65), (59, .ireturn, 0, 0), (60, .aload_n 0, 0, 0), (61, .iload_n 1, 0, 0), (62, .invokevirtual 207, 167, 65), (65, .ireturn, 0, 0), (66, .aload_n 0, 0, 0), (67, .iload_n 1, 0, 0), (68, .invokevirtual 250, 185, 65), (71, .ireturn, 0, 0), (72, .aload_n 0, 0, 0), (73, .iconst 2, 0, 0), (74, .invokevirtual 90, 127, 65), (77, .ireturn, 0, 0)]
def k_X6_stairOf : List mm_E := [(0, .aload_n 0, 0, 0), (1, .iconst 0, 0, 0), (2, .putfield 25, 6, 5), (5, .aload_n 0, 0, 0), (6, .iload_n 1, 0, 0), (7, .invokevirtual 113, 139, 65), (10, .ifCond .ne 9, 0, 0), (13, .aload_n 0, 0, 0), (14, .iconst 1, 0, 0), (15, .invokevirtual 90, 127, 65), (18, .ireturn, 0, 0), (19, .iload_n 2, 0, 0), (20, .iconst 0, 0, 0), (21, .bipush 7, 0, 0), (23, .invokestatic 98, 125, 35), (26, .ifCond .ne 9, 0, 0), (29, .aload_n 0, 0, 0), (30, .iconst 2, 0, 0), (31, .invokevirtual 90, 127, 65), (34, .ireturn, 0, 0), (35, .iload_n 2, 0, 0), (36, .bipush 7, 0, 0), (38, .if_icmp .ne 11, 0, 0), (41, .aload_n 0, 0, 0), (42, .iload_n 1, 0, 0), (43, .invokevirtual 165, 155, 65), (46, .goto 9, 0, 0), (49, .aload_n 0, 0, 0), (50, .iload_n 1, 0, 0), (51, .iload_n 2, 0, 0), (52, .invokevirtual 116, 134, 66), (55, .ireturn, 0, 0)]
def k_X6_between : List mm_E := [(0, .aload_n 0, 0, 0), (1, .iconst 0, 0, 0), (2, .putfield 25, 6, 5), (5, .iload_n 1, 0, 0), (6, .invokestatic 110, 138, 33), (9, .ifCond .eq 10, 0, 0), (12, .iload_n 2, 0, 0), (13, .invokestatic 110, 138, 33), (16, .ifCond .ne 9, 0, 0), (19, .aload_n 0, 0, 0), (20, .iconst 1, 0, 0), (21, .invokevirtual 90, 127, 65), (24, .ireturn, 0, 0), (25, .aload_n 0, 0, 0), (26, .iload_n 1, 0, 0), (27, .iload_n 2, 0, 0), (28, .invokevirtual 126, 144, 66), (31, .istore_n 3, 0, 0), (32, .iload_n 3, 0, 0), (33, .ifCond .ge 11, 0, 0), (36, .aload_n 0, 0, 0), (37, .iconst 2, 0, 0), (38, .invokevirtual 90, 127, 65), (41, .goto 4, 0, 0), (44, .iload_n 3, 0, 0), (45, .ireturn, 0, 0)]
def k_X6_breaths : List mm_E := [(0, .aload_n 0, 0, 0), (1, .iload_n 1, 0, 0), (2, .invokestatic 102, 137, 33), (5, .ifCond .eq 15, 0, 0), (8, .aload_n 0, 0, 0), (9, .iload_n 2, 0, 0), (10, .invokevirtual 113, 139, 65), (13, .ifCond .eq 7, 0, 0), (16, .iconst 0, 0, 0), (17, .goto 4, 0, 0), (20, .iconst 1, 0, 0), (21, .putfield 25, 6, 5), (24, .aload_n 0, 0, 0), (25, .getfield 25, 6, 5), (28, .ifCond .le 7, 0, 0), (31, .iconst 0, 0, 0), (32, .goto 9, 0, 0), (35, .aload_n 0, 0, 0), (36, .iload_n 1, 0, 0), (37, .iload_n 2, 0, 0), (38, .invokevirtual 186, 159, 66), (41, .ireturn, 0, 0)]
def k_X6_lengthOf : List mm_E := [(0, .iload_n 2, 0, 0), (1, .ifCond .ge 12, 0, 0), (4, .aload_n 0, 0, 0), (5, .iload_n 1, 0, 0), (6, .iconst 2, 0, 0), (7, .invokevirtual 116, 134, 66), (10, .goto 9, 0, 0), (13, .aload_n 0, 0, 0), (14, .iload_n 2, 0, 0), (15, .iload_n 1, 0, 0), (16, .invokevirtual 186, 159, 66), (19, .ireturn, 0, 0)]
def k_X6_lays : List mm_E := [(0, .iconst 0, 0, 0), (1, .istore_n 3, 0, 0), (2, .iload_n 3, 0, 0), (3, .bipush 8, 0, 0), (5, .if_icmp .ge 26, 0, 0), (8, .aload_n 0, 0, 0), (9, .getfield 57, 6, 15), (12, .iload_n 3, 0, 0), (13, .iload_n 3, 0, 0), (14, .iload_n 1, 0, 0), (15, .if_icmp .ne 7, 0, 0), (18, .iconst 0, 0, 0), (19, .goto 5, 0, 0), (22, .ldc 253, 1000000, 11), (24, .iastore, 0, 0), (25, .iinc 3 1, 0, 0), (28, .goto (-26), 0, 0), (31, .iconst 0, 0, 0), (32, .istore_n 3, 0, 0), (33, .iload_n 3, 0, 0), (34, .bipush 8, 0, 0), (36, .if_icmp .ge 138, 0, 0), (39, .iconst 0, 0, 0), (40, .istore 4, 0, 0), (42, .iload 4, 0, 0), (44, .aload_n 0, 0, 0), (45, .getfield 7, 6, 0), (48, .iconst 0, 0, 0), (49, .iaload, 0, 0), (50, .if_icmp .ge 118, 0, 0), (53, .aload_n 0, 0, 0), (54, .iload 4, 0, 0), (56, .iconst 0, 0, 0), (57, .invokevirtual 116, 134, 66), (60, .istore 5, 0, 0), (62, .aload_n 0, 0, 0), (63, .iload 4, 0, 0), (65, .iconst 1, 0, 0), (66, .invokevirtual 116, 134, 66), (69, .istore 6, 0, 0), (71, .iload_n 2, 0, 0), (72, .ifCond .lt 26, 0, 0), (75, .aload_n 0, 0, 0), (76, .iload 5, 0, 0), (78, .invokevirtual 183, 136, 65), (81, .iconst 2, 0, 0), (82, .if_icmp .eq 80, 0, 0), (85, .aload_n 0, 0, 0), (86, .iload 6, 0, 0), (88, .invokevirtual 183, 136, 65), (91, .iconst 2, 0, 0), (92, .if_icmp .ne 6, 0, 0), (95, .goto 67, 0, 0), (98, .aload_n 0, 0, 0), (99, .getfield 57, 6, 15), (102, .iload 6, 0, 0), (104, .aload_n 0, 0, 0), (105, .getfield 57, 6, 15), (108, .iload 6, 0, 0), (110, .iaload, 0, 0), (111, .aload_n 0, 0, 0), (112, .getfield 57, 6, 15), (115, .iload 5, 0, 0), (117, .iaload, 0, 0), (118, .aload_n 0, 0, 0), (119, .iload 4, 0, 0), (121, .iload_n 2, 0, 0), (122, .invokevirtual 254, 190, 66), (125, .iadd, 0, 0), (126, .invokestatic 235, 179, 34), (129, .iastore, 0, 0), (130, .aload_n 0, 0, 0), (131, .getfield 57, 6, 15), (134, .iload 5, 0, 0), (136, .aload_n 0, 0, 0), (137, .getfield 57, 6, 15), (140, .iload 5, 0, 0), (142, .iaload, 0, 0), (143, .aload_n 0, 0, 0), (144, .getfield 57, 6, 15), (147, .iload 6, 0, 0), (149, .iaload, 0, 0), (150, .aload_n 0, 0, 0), (151, .iload 4, 0, 0), (153, .iload_n 2, 0, 0), (154, .invokevirtual 254, 190, 66), (157, .iadd, 0, 0), (158, .invokestatic 235, 179, 34), (161, .iastore, 0, 0), (162, .iinc 4 1, 0, 0), (165, .goto (-123), 0, 0), (168, .iinc 3 1, 0, 0), (171, .goto (-138), 0, 0), (174, .return_, 0, 0)]
def k_X6_stepsTo : List mm_E := [(0, .aload_n 0, 0, 0), (1, .iload_n 1, 0, 0), (2, .invokestatic 110, 138, 33), (5, .ifCond .eq 14, 0, 0), (8, .iload_n 2, 0, 0), (9, .invokestatic 110, 138, 33), (12, .ifCond .eq 7, 0, 0), (15, .iconst 0, 0, 0), (16, .goto 4, 0, 0), (19, .iconst 1, 0, 0), (20, .putfield 25, 6, 5), (23, .aload_n 0, 0, 0), (24, .getfield 25, 6, 5), (27, .ifCond .le 5, 0, 0), (30, .iconst 0, 0, 0), (31, .ireturn, 0, 0), (32, .aload_n 0, 0, 0), (33, .iload_n 1, 0, 0), (34, .iconst (-1), 0, 0), (35, .invokevirtual 257, 191, 66), (38, .aload_n 0, 0, 0), (39, .getfield 57, 6, 15), (42, .iload_n 2, 0, 0), (43, .iaload, 0, 0), (44, .ldc 253, 1000000, 11), (46, .if_icmp .ge 12, 0, 0), (49, .aload_n 0, 0, 0), (50, .getfield 57, 6, 15), (53, .iload_n 2, 0, 0), (54, .iaload, 0, 0), (55, .goto 8, 0, 0), (58, .aload_n 0, 0, 0), (59, .iconst 2, 0, 0), (60, .invokevirtual 90, 127, 65), (63, .ireturn, 0, 0)]
def k_X6_steps : List mm_E := [(0, .aload_n 0, 0, 0), (1, .iload_n 1, 0, 0), (2, .iload_n 2, 0, 0), (3, .invokevirtual 261, 192, 66), (6, .ireturn, 0, 0)]
def k_X6_stepsAgain : List mm_E := [(0, .aload_n 0, 0, 0), (1, .iload_n 1, 0, 0), (2, .iload_n 2, 0, 0), (3, .invokevirtual 261, 192, 66), (6, .ireturn, 0, 0)]
def k_X6_wayTo : List mm_E := [(0, .aload_n 0, 0, 0), (1, .iload_n 1, 0, 0), (2, .invokestatic 102, 137, 33), (5, .ifCond .eq 14, 0, 0), (8, .iload_n 2, 0, 0), (9, .invokestatic 110, 138, 33), (12, .ifCond .eq 7, 0, 0), (15, .iconst 0, 0, 0), (16, .goto 4, 0, 0), (19, .iconst 1, 0, 0), (20, .putfield 25, 6, 5), (23, .aload_n 0, 0, 0), (24, .getfield 25, 6, 5), (27, .ifCond .le 5, 0, 0), (30, .iconst 0, 0, 0), (31, .ireturn, 0, 0), (32, .aload_n 0, 0, 0), (33, .aload_n 0, 0, 0), (34, .iload_n 1, 0, 0), (35, .iconst 1, 0, 0), (36, .invokevirtual 174, 132, 66), (39, .iload_n 1, 0, 0), (40, .invokevirtual 257, 191, 66), (43, .aload_n 0, 0, 0), (44, .getfield 57, 6, 15), (47, .iload_n 2, 0, 0), (48, .iaload, 0, 0), (49, .ldc 253, 1000000, 11), (51, .if_icmp .ge 12, 0, 0), (54, .aload_n 0, 0, 0), (55, .getfield 57, 6, 15), (58, .iload_n 2, 0, 0), (59, .iaload, 0, 0), (60, .goto 8, 0, 0), (63, .aload_n 0, 0, 0), (64, .iconst 2, 0, 0), (65, .invokevirtual 90, 127, 65), (68, .ireturn, 0, 0)]
def k_X6_way : List mm_E := [(0, .aload_n 0, 0, 0), (1, .iload_n 1, 0, 0), (2, .iload_n 2, 0, 0), (3, .invokevirtual 264, 195, 66), (6, .ireturn, 0, 0)]
def k_X6_wayAgain : List mm_E := [(0, .aload_n 0, 0, 0), (1, .iload_n 1, 0, 0), (2, .iload_n 2, 0, 0), (3, .invokevirtual 264, 195, 66), (6, .ireturn, 0, 0)]
def k_X6_first : List mm_E := [(0, .aload_n 0, 0, 0), (1, .iload_n 1, 0, 0), (2, .iload_n 2, 0, 0), (3, .invokevirtual 264, 195, 66), (6, .istore_n 3, 0, 0), (7, .aload_n 0, 0, 0), (8, .getfield 25, 6, 5), (11, .ifCond .le 5, 0, 0), (14, .iconst 0, 0, 0), (15, .ireturn, 0, 0), (16, .iload_n 3, 0, 0), (17, .ifCond .ne 9, 0, 0), (20, .aload_n 0, 0, 0), (21, .iconst 2, 0, 0), (22, .invokevirtual 90, 127, 65), (25, .ireturn, 0, 0), (26, .aload_n 0, 0, 0), (27, .iload_n 2, 0, 0), (28, .iload_n 1, 0, 0), (29, .invokevirtual 257, 191, 66), (32, .aload_n 0, 0, 0), (33, .iload_n 1, 0, 0), (34, .iconst 1, 0, 0), (35, .invokevirtual 174, 132, 66), (38, .istore 4, 0, 0), (40, .iconst 0, 0, 0), (41, .istore 5, 0, 0), (43, .iload 5, 0, 0), (45, .aload_n 0, 0, 0), (46, .getfield 7, 6, 0), (49, .iconst 0, 0, 0), (50, .iaload, 0, 0), (51, .if_icmp .ge 64, 0, 0), (54, .aload_n 0, 0, 0), (55, .iload 5, 0, 0), (57, .iload 4, 0, 0), (59, .invokevirtual 177, 145, 66), (62, .ifCond .eq 47, 0, 0), (65, .aload_n 0, 0, 0), (66, .aload_n 0, 0, 0), (67, .iload 5, 0, 0), (69, .iload 4, 0, 0), (71, .invokevirtual 180, 146, 66), (74, .invokevirtual 183, 136, 65), (77, .iconst 2, 0, 0), (78, .if_icmp .eq 31, 0, 0), (81, .aload_n 0, 0, 0), (82, .iload_n 1, 0, 0), (83, .iload 5, 0, 0), (85, .invokevirtual 186, 159, 66), (88, .aload_n 0, 0, 0), (89, .getfield 57, 6, 15), (92, .aload_n 0, 0, 0), (93, .iload 5, 0, 0), (95, .iload 4, 0, 0), (97, .invokevirtual 180, 146, 66), (100, .iaload, 0, 0), (101, .iadd, 0, 0), (102, .iload_n 3, 0, 0), (103, .if_icmp .ne 6, 0, 0), (106, .iload 5, 0, 0), (108, .ireturn, 0, 0), (109, .iinc 5 1, 0, 0), (112, .goto (-69), 0, 0), (115, .aload_n 0, 0, 0), (116, .iconst 2, 0, 0), (117, .invokevirtual 90, 127, 65), (120, .ireturn, 0, 0)]
def k_X6_reach : List mm_E := [(0, .aload_n 0, 0, 0), (1, .iload_n 1, 0, 0), (2, .invokestatic 102, 137, 33), (5, .ifCond .eq 7, 0, 0), (8, .iconst 0, 0, 0), (9, .goto 4, 0, 0), (12, .iconst 1, 0, 0), (13, .putfield 25, 6, 5), (16, .aload_n 0, 0, 0), (17, .getfield 25, 6, 5), (20, .ifCond .le 5, 0, 0), (23, .iconst 0, 0, 0), (24, .ireturn, 0, 0), (25, .aload_n 0, 0, 0), (26, .aload_n 0, 0, 0), (27, .iload_n 1, 0, 0), (28, .iconst 1, 0, 0), (29, .invokevirtual 174, 132, 66), (32, .iload_n 1, 0, 0), (33, .invokevirtual 257, 191, 66), (36, .iconst 0, 0, 0), (37, .istore_n 2, 0, 0), (38, .iconst 0, 0, 0), (39, .istore_n 3, 0, 0), (40, .iload_n 3, 0, 0), (41, .bipush 8, 0, 0), (43, .if_icmp .ge 30, 0, 0), (46, .iload_n 2, 0, 0), (47, .aload_n 0, 0, 0), (48, .getfield 57, 6, 15), (51, .iload_n 3, 0, 0), (52, .iaload, 0, 0), (53, .ldc 253, 1000000, 11), (55, .if_icmp .ge 9, 0, 0), (58, .iconst 1, 0, 0), (59, .iload_n 3, 0, 0), (60, .ishl, 0, 0), (61, .goto 4, 0, 0), (64, .iconst 0, 0, 0), (65, .ior, 0, 0), (66, .istore_n 2, 0, 0), (67, .iinc 3 1, 0, 0), (70, .goto (-30), 0, 0), (73, .iload_n 2, 0, 0), (74, .ireturn, 0, 0)]
def k_X6_areDays : List mm_E := [(0, .iload_n 0, 0, 0), (1, .iconst 0, 0, 0), (2, .bipush 40, 0, 0), (4, .invokestatic 98, 125, 35), (7, .ireturn, 0, 0)]
def k_X6_dustBy : List mm_E := [(0, .aload_n 0, 0, 0), (1, .aload_n 0, 0, 0), (2, .iload_n 1, 0, 0), (3, .invokevirtual 113, 139, 65), (6, .ifCond .ne 7, 0, 0), (9, .iconst 1, 0, 0), (10, .goto 15, 0, 0), (13, .iload_n 2, 0, 0), (14, .invokestatic 267, 200, 33), (17, .ifCond .eq 7, 0, 0), (20, .iconst 0, 0, 0), (21, .goto 4, 0, 0), (24, .iconst 2, 0, 0), (25, .putfield 25, 6, 5), (28, .aload_n 0, 0, 0), (29, .getfield 25, 6, 5), (32, .ifCond .le 7, 0, 0), (35, .iconst 0, 0, 0), (36, .goto 27, 0, 0), (39, .bipush 20, 0, 0), (41, .aload_n 0, 0, 0), (42, .iload_n 1, 0, 0), (43, .iconst 3, 0, 0), (44, .invokevirtual 116, 134, 66), (47, .iload_n 2, 0, 0), (48, .aload_n 0, 0, 0), (49, .iload_n 1, 0, 0), (50, .iconst 2, 0, 0), (51, .invokevirtual 116, 134, 66), (54, .iconst 5, 0, 0), (55, .idiv, 0, 0), (56, .iconst 1, 0, 0), (57, .iadd, 0, 0), (58, .imul, 0, 0), (59, .iadd, 0, 0), (60, .invokestatic 235, 179, 34), (63, .ireturn, 0, 0)]
def k_X6_dustIn : List mm_E := [(0, .aload_n 0, 0, 0), (1, .iload_n 1, 0, 0), (2, .iload_n 2, 0, 0), (3, .invokevirtual 270, 201, 66), (6, .ireturn, 0, 0)]
def k_X6_dustAgain : List mm_E := [(0, .aload_n 0, 0, 0), (1, .iload_n 1, 0, 0), (2, .iload_n 2, 0, 0), (3, .invokevirtual 270, 201, 66), (6, .ireturn, 0, 0)]
def k_X6_rentsIn : List mm_E := [(0, .aload_n 0, 0, 0), (1, .iload_n 1, 0, 0), (2, .invokestatic 267, 200, 33), (5, .ifCond .eq 7, 0, 0), (8, .iconst 0, 0, 0), (9, .goto 4, 0, 0), (12, .iconst 1, 0, 0), (13, .putfield 25, 6, 5), (16, .aload_n 0, 0, 0), (17, .getfield 25, 6, 5), (20, .ifCond .le 5, 0, 0), (23, .iconst 0, 0, 0), (24, .ireturn, 0, 0), (25, .aload_n 0, 0, 0), (26, .getfield 7, 6, 0), (29, .iconst 0, 0, 0), (30, .aload_n 0, 0, 0), (31, .getfield 16, 6, 2), (34, .iconst 0, 0, 0), (35, .invokestatic 94, 126, 36), (38, .iconst 0, 0, 0), (39, .istore_n 2, 0, 0), (40, .iconst 0, 0, 0), (41, .istore_n 3, 0, 0), (42, .iload_n 3, 0, 0), (43, .iload_n 1, 0, 0), (44, .if_icmp .ge 16, 0, 0), (47, .iload_n 2, 0, 0), (48, .aload_n 0, 0, 0), (49, .invokevirtual 241, 180, 64), (52, .iadd, 0, 0), (53, .istore_n 2, 0, 0), (54, .iinc 3 1, 0, 0), (57, .goto (-15), 0, 0), (60, .aload_n 0, 0, 0), (61, .getfield 16, 6, 2), (64, .iconst 0, 0, 0), (65, .aload_n 0, 0, 0), (66, .getfield 7, 6, 0), (69, .iconst 0, 0, 0), (70, .invokestatic 94, 126, 36), (73, .iload_n 2, 0, 0), (74, .ireturn, 0, 0)]
def k_X6_couldLevy : List mm_E := [(0, .aload_n 0, 0, 0), (1, .iload_n 1, 0, 0), (2, .iload_n 2, 0, 0), (3, .invokevirtual 201, 163, 66), (6, .ifCond .eq 7, 0, 0), (9, .iconst 0, 0, 0), (10, .goto 9, 0, 0), (13, .aload_n 0, 0, 0), (14, .iload_n 1, 0, 0), (15, .iload_n 2, 0, 0), (16, .invokevirtual 198, 164, 66), (19, .ireturn, 0, 0)]
def k_X6_levyOf : List mm_E := [(0, .aload_n 0, 0, 0), (1, .iload_n 1, 0, 0), (2, .invokestatic 102, 137, 33), (5, .ifCond .eq 15, 0, 0), (8, .aload_n 0, 0, 0), (9, .iload_n 2, 0, 0), (10, .invokevirtual 113, 139, 65), (13, .ifCond .eq 7, 0, 0), (16, .iconst 0, 0, 0), (17, .goto 4, 0, 0), (20, .iconst 1, 0, 0), (21, .putfield 25, 6, 5), (24, .aload_n 0, 0, 0), (25, .getfield 25, 6, 5), (28, .ifCond .le 7, 0, 0), (31, .iconst 0, 0, 0), (32, .goto 9, 0, 0), (35, .aload_n 0, 0, 0), (36, .iload_n 1, 0, 0), (37, .iload_n 2, 0, 0), (38, .invokevirtual 273, 205, 66), (41, .ireturn, 0, 0)]
def k_X6_bestLevy : List mm_E := [(0, .aload_n 0, 0, 0), (1, .iload_n 1, 0, 0), (2, .invokestatic 102, 137, 33), (5, .ifCond .eq 7, 0, 0), (8, .iconst 0, 0, 0), (9, .goto 4, 0, 0), (12, .iconst 1, 0, 0), (13, .putfield 25, 6, 5), (16, .aload_n 0, 0, 0), (17, .getfield 25, 6, 5), (20, .ifCond .le 5, 0, 0), (23, .iconst 0, 0, 0), (24, .ireturn, 0, 0), (25, .iconst (-1), 0, 0), (26, .istore_n 2, 0, 0), (27, .iconst 0, 0, 0), (28, .istore_n 3, 0, 0), (29, .iconst 0, 0, 0), (30, .istore 4, 0, 0), (32, .iload 4, 0, 0), (34, .aload_n 0, 0, 0), (35, .getfield 7, 6, 0), (38, .iconst 0, 0, 0), (39, .iaload, 0, 0), (40, .if_icmp .ge 34, 0, 0), (43, .aload_n 0, 0, 0), (44, .iload_n 1, 0, 0), (45, .iload 4, 0, 0), (47, .invokevirtual 273, 205, 66), (50, .iload_n 3, 0, 0), (51, .if_icmp .gt 6, 0, 0), (54, .goto 14, 0, 0), (57, .iload 4, 0, 0), (59, .istore_n 2, 0, 0), (60, .aload_n 0, 0, 0), (61, .iload_n 1, 0, 0), (62, .iload 4, 0, 0), (64, .invokevirtual 273, 205, 66), (67, .istore_n 3, 0, 0), (68, .iinc 4 1, 0, 0), (71, .goto (-39), 0, 0), (74, .iload_n 2, 0, 0), (75, .ifCond .ge 11, 0, 0), (78, .aload_n 0, 0, 0), (79, .iconst 2, 0, 0), (80, .invokevirtual 90, 127, 65), (83, .goto 4, 0, 0), (86, .iload_n 2, 0, 0), (87, .ireturn, 0, 0)]
def k_X6_canTake : List mm_E := [(0, .aload_n 0, 0, 0), (1, .iload_n 1, 0, 0), (2, .invokestatic 110, 138, 33), (5, .ifCond .eq 7, 0, 0), (8, .iconst 0, 0, 0), (9, .goto 4, 0, 0), (12, .iconst 1, 0, 0), (13, .putfield 25, 6, 5), (16, .aload_n 0, 0, 0), (17, .getfield 25, 6, 5), (20, .ifCond .ne 15, 0, 0), (23, .aload_n 0, 0, 0), (24, .iload_n 1, 0, 0), (25, .invokevirtual 219, 171, 65), (28, .ifCond .ne 7, 0, 0), (31, .iconst 1, 0, 0), (32, .goto 4, 0, 0), (35, .iconst 0, 0, 0), (36, .ireturn, 0, 0)]
def k_X6_takable : List mm_E := [(0, .aload_n 0, 0, 0), (1, .iconst 0, 0, 0), (2, .putfield 25, 6, 5), (5, .iconst 0, 0, 0), (6, .istore_n 1, 0, 0), (7, .iconst 0, 0, 0), (8, .istore_n 2, 0, 0), (9, .iload_n 2, 0, 0), (10, .bipush 8, 0, 0), (12, .if_icmp .ge 27, 0, 0), (15, .iload_n 1, 0, 0), (16, .aload_n 0, 0, 0), (17, .iload_n 2, 0, 0), (18, .invokevirtual 219, 171, 65), (21, .ifCond .eq 7, 0, 0), (24, .iconst 0, 0, 0), (25, .goto 6, 0, 0), (28, .iconst 1, 0, 0), (29, .iload_n 2, 0, 0), (30, .ishl, 0, 0), (31, .ior, 0, 0), (32, .istore_n 1, 0, 0), (33, .iinc 2 1, 0, 0), (36, .goto (-27), 0, 0), (39, .iload_n 1, 0, 0), (40, .ireturn, 0, 0)]
def k_X6_turn : List mm_E := [(0, .aload_n 0, 0, 0), (1, .iconst 0, 0, 0), (2, .putfield 25, 6, 5), (5, .aload_n 0, 0, 0), (6, .getfield 7, 6, 0), (9, .iconst 3, 0, 0), (10, .iaload, 0, 0), (11, .ireturn, 0, 0)]
def k_X6_measured : List mm_E := [(0, .iload_n 2, 0, 0), (1, .ifCond .ne 12, 0, 0), (4, .aload_n 0, 0, 0), (5, .iload_n 1, 0, 0), (6, .iconst 2, 0, 0), (7, .invokevirtual 116, 134, 66), (10, .goto 37, 0, 0), (13, .iload_n 2, 0, 0), (14, .iconst 1, 0, 0), (15, .if_icmp .ne 12, 0, 0), (18, .aload_n 0, 0, 0), (19, .iload_n 1, 0, 0), (20, .iconst 3, 0, 0), (21, .invokevirtual 116, 134, 66), (24, .goto 23, 0, 0), (27, .iload_n 2, 0, 0), (28, .iconst 2, 0, 0), (29, .if_icmp .ne 13, 0, 0), (32, .aload_n 0, 0, 0), (33, .iload_n 1, 0, 0), (34, .bipush 6, 0, 0), (36, .invokevirtual 116, 134, 66), (39, .goto 8, 0, 0), (42, .aload_n 0, 0, 0), (43, .iload_n 1, 0, 0), (44, .invokevirtual 165, 155, 65), (47, .ireturn, 0, 0)]
def k_X6_ranked : List mm_E := [(0, .aload_n 0, 0, 0), (1, .iconst 0, 0, 0), (2, .putfield 25, 6, 5), (5, .iload_n 1, 0, 0), (6, .iconst 0, 0, 0), (7, .iconst 3, 0, 0), (8, .invokestatic 98, 125, 35), (11, .ifCond .ne 9, 0, 0), (14, .aload_n 0, 0, 0), (15, .iconst 1, 0, 0), (16, .invokevirtual 90, 127, 65), (19, .ireturn, 0, 0), (20, .iconst 0, 0, 0), (21, .istore_n 3, 0, 0), (22, .iload_n 3, 0, 0), (23, .aload_n 0, 0, 0), (24, .getfield 7, 6, 0), (27, .iconst 0, 0, 0), (28, .iaload, 0, 0), (29, .if_icmp .ge 88, 0, 0), (32, .iconst 0, 0, 0), (33, .istore 4, 0, 0), (35, .iconst 0, 0, 0), (36, .istore 5, 0, 0), (38, .iload 5, 0, 0), (40, .aload_n 0, 0, 0), (41, .getfield 7, 6, 0), (44, .iconst 0, 0, 0), (45, .iaload, 0, 0), (46, .if_icmp .ge 57, 0, 0), (49, .iload 4, 0, 0), (51, .aload_n 0, 0, 0), (52, .iload 5, 0, 0), (54, .iload_n 1, 0, 0), (55, .invokevirtual 276, 211, 66), (58, .aload_n 0, 0, 0), (59, .iload_n 3, 0, 0), (60, .iload_n 1, 0, 0), (61, .invokevirtual 276, 211, 66), (64, .if_icmp .gt 25, 0, 0), (67, .aload_n 0, 0, 0), (68, .iload 5, 0, 0), (70, .iload_n 1, 0, 0), (71, .invokevirtual 276, 211, 66), (74, .aload_n 0, 0, 0), (75, .iload_n 3, 0, 0), (76, .iload_n 1, 0, 0), (77, .invokevirtual 276, 211, 66), (80, .if_icmp .ne 13, 0, 0), (83, .iload 5, 0, 0), (85, .iload_n 3, 0, 0), (86, .if_icmp .ge 7, 0, 0), (89, .iconst 1, 0, 0), (90, .goto 4, 0, 0), (93, .iconst 0, 0, 0), (94, .iadd, 0, 0), (95, .istore 4, 0, 0), (97, .iinc 5 1, 0, 0), (100, .goto (-62), 0, 0), (103, .iload 4, 0, 0), (105, .iload_n 2, 0, 0), (106, .if_icmp .ne 5, 0, 0), (109, .iload_n 3, 0, 0), (110, .ireturn, 0, 0), (111, .iinc 3 1, 0, 0), (114, .goto (-92), 0, 0), (117, .aload_n 0, 0, 0), (118, .iconst 2, 0, 0), (119, .invokevirtual 90, 127, 65), (122, .ireturn, 0, 0)]
def k_X6_isTold : List mm_E := [(0, .aload_n 0, 0, 0), (1, .iconst 0, 0, 0), (2, .putfield 25, 6, 5), (5, .iconst 1, 0, 0), (6, .ireturn, 0, 0)]
def k_X6_append : List mm_E := [(0, .aload_n 0, 0, 0), (1, .iconst 0, 0, 0), (2, .putfield 25, 6, 5), (5, .iload_n 1, 0, 0), (6, .bipush 32, 0, 0), (8, .bipush 126, 0, 0), (10, .invokestatic 98, 125, 35), (13, .ifCond .ne 9, 0, 0), (16, .aload_n 0, 0, 0), (17, .iconst 1, 0, 0), (18, .invokevirtual 90, 127, 65), (21, .ireturn, 0, 0), (22, .aload_n 0, 0, 0), (23, .getfield 69, 6, 19), (26, .bipush 60, 0, 0), (28, .if_icmp .ne 9, 0, 0), (31, .aload_n 0, 0, 0), (32, .iconst 2, 0, 0), (33, .invokevirtual 90, 127, 65), (36, .ireturn, 0, 0), (37, .aload_n 0, 0, 0), (38, .getfield 60, 6, 16), (41, .aload_n 0, 0, 0), (42, .getfield 69, 6, 19), (45, .iload_n 1, 0, 0), (46, .iastore, 0, 0), (47, .aload_n 0, 0, 0), (48, .dup, 0, 0), (49, .getfield 69, 6, 19), (52, .iconst 1, 0, 0), (53, .iadd, 0, 0), (54, .putfield 69, 6, 19), (57, .aload_n 0, 0, 0), (58, .getfield 69, 6, 19), (61, .ireturn, 0, 0)]
def k_X6_mark : List mm_E := [(0, .aload_n 0, 0, 0), (1, .getfield 81, 6, 23), (4, .ifCond .ne 26, 0, 0), (7, .aload_n 0, 0, 0), (8, .getfield 75, 6, 21), (11, .aload_n 0, 0, 0), (12, .getfield 72, 6, 20), (15, .if_icmp .ge 15, 0, 0), (18, .aload_n 0, 0, 0), (19, .getfield 60, 6, 16), (22, .aload_n 0, 0, 0), (23, .getfield 75, 6, 21), (26, .iaload, 0, 0), (27, .goto 4, 0, 0), (30, .iconst (-1), 0, 0), (31, .ireturn, 0, 0)]
def k_X6_isDigit : List mm_E := [(0, .aload_n 0, 0, 0), (1, .invokevirtual 279, 215, 64), (4, .bipush 48, 0, 0), (6, .bipush 57, 0, 0), (8, .invokestatic 98, 125, 35), (11, .ireturn, 0, 0)]
def k_X6_blank : List mm_E := [(0, .aload_n 0, 0, 0), (1, .dup, 0, 0), (2, .getfield 81, 6, 23), (5, .aload_n 0, 0, 0), (6, .invokevirtual 279, 215, 64), (9, .bipush 32, 0, 0), (11, .if_icmp .eq 7, 0, 0), (14, .iconst 1, 0, 0), (15, .goto 4, 0, 0), (18, .iconst 0, 0, 0), (19, .ior, 0, 0), (20, .putfield 81, 6, 23), (23, .aload_n 0, 0, 0), (24, .dup, 0, 0), (25, .getfield 75, 6, 21), (28, .aload_n 0, 0, 0), (29, .getfield 81, 6, 23), (32, .ifCond .eq 7, 0, 0), (35, .iconst 0, 0, 0), (36, .goto 4, 0, 0), (39, .iconst 1, 0, 0), (40, .iadd, 0, 0), (41, .putfield 75, 6, 21), (44, .return_, 0, 0)]
def k_X6_digits : List mm_E := [(0, .aload_n 0, 0, 0), (1, .dup, 0, 0), (2, .getfield 81, 6, 23), (5, .aload_n 0, 0, 0), (6, .invokevirtual 282, 216, 64), (9, .ifCond .ne 7, 0, 0), (12, .iconst 1, 0, 0), (13, .goto 4, 0, 0), (16, .iconst 0, 0, 0), (17, .ior, 0, 0), (18, .putfield 81, 6, 23), (21, .iconst 0, 0, 0), (22, .istore_n 2, 0, 0), (23, .iconst 0, 0, 0), (24, .istore_n 3, 0, 0), (25, .iload_n 3, 0, 0), (26, .iload_n 1, 0, 0), (27, .if_icmp .ge 44, 0, 0), (30, .aload_n 0, 0, 0), (31, .invokevirtual 282, 216, 64), (34, .ifCond .eq 37, 0, 0), (37, .bipush 10, 0, 0), (39, .iload_n 2, 0, 0), (40, .imul, 0, 0), (41, .aload_n 0, 0, 0), (42, .getfield 60, 6, 16), (45, .aload_n 0, 0, 0), (46, .getfield 75, 6, 21), (49, .iaload, 0, 0), (50, .iadd, 0, 0), (51, .bipush 48, 0, 0), (53, .isub, 0, 0), (54, .istore_n 2, 0, 0), (55, .aload_n 0, 0, 0), (56, .dup, 0, 0), (57, .getfield 75, 6, 21), (60, .iconst 1, 0, 0), (61, .iadd, 0, 0), (62, .putfield 75, 6, 21), (65, .iinc 3 1, 0, 0), (68, .goto (-43), 0, 0), (71, .iload_n 2, 0, 0), (72, .ireturn, 0, 0)]
def k_X6_inWord : List mm_E := [(0, .iload_n 0, 0, 0), (1, .tableswitch 47 0 4 #[35, 37, 39, 41, 44], 0, 35), (36, .iload_n 1, 0, 0), (37, .ireturn, 0, 0), (38, .iload_n 2, 0, 0), (39, .ireturn, 0, 0), (40, .iload_n 3, 0, 0), (41, .ireturn, 0, 0), (42, .iload 4, 0, 0), (44, .ireturn, 0, 0), (45, .iload 5, 0, 0), (47, .ireturn, 0, 0), (48, .iconst 0, 0, 0), (49, .ireturn, 0, 0)]
def k_X6_letter : List mm_E := [(0, .iload_n 0, 0, 0), (1, .tableswitch 163 0 7 #[47, 62, 76, 91, 106, 121, 135, 149], 0, 47), (48, .iload_n 1, 0, 0), (49, .bipush 98, 0, 0), (51, .bipush 117, 0, 0), (53, .bipush 105, 0, 0), (55, .bipush 108, 0, 0), (57, .bipush 100, 0, 0), (59, .invokestatic 286, 219, 38), (62, .ireturn, 0, 0), (63, .iload_n 1, 0, 0), (64, .bipush 116, 0, 0), (66, .bipush 101, 0, 0), (68, .bipush 97, 0, 0), (70, .bipush 114, 0, 0), (72, .iconst 0, 0, 0), (73, .invokestatic 286, 219, 38), (76, .ireturn, 0, 0), (77, .iload_n 1, 0, 0), (78, .bipush 104, 0, 0), (80, .bipush 97, 0, 0), (82, .bipush 108, 0, 0), (84, .bipush 118, 0, 0), (86, .bipush 101, 0, 0), (88, .invokestatic 286, 219, 38), (91, .ireturn, 0, 0), (92, .iload_n 1, 0, 0), (93, .bipush 108, 0, 0), (95, .bipush 101, 0, 0), (97, .bipush 97, 0, 0), (99, .bipush 115, 0, 0), (101, .bipush 101, 0, 0), (103, .invokestatic 286, 219, 38), (106, .ireturn, 0, 0), (107, .iload_n 1, 0, 0), (108, .bipush 99, 0, 0), (110, .bipush 108, 0, 0), (112, .bipush 105, 0, 0), (114, .bipush 109, 0, 0), (116, .bipush 98, 0, 0), (118, .invokestatic 286, 219, 38), (121, .ireturn, 0, 0), (122, .iload_n 1, 0, 0), (123, .bipush 108, 0, 0), (125, .bipush 101, 0, 0), (127, .bipush 118, 0, 0), (129, .bipush 121, 0, 0), (131, .iconst 0, 0, 0), (132, .invokestatic 286, 219, 38), (135, .ireturn, 0, 0), (136, .iload_n 1, 0, 0), (137, .bipush 116, 0, 0), (139, .bipush 97, 0, 0), (141, .bipush 107, 0, 0), (143, .bipush 101, 0, 0), (145, .iconst 0, 0, 0), (146, .invokestatic 286, 219, 38), (149, .ireturn, 0, 0), (150, .iload_n 1, 0, 0), (151, .bipush 102, 0, 0), (153, .bipush 114, 0, 0), (155, .bipush 101, 0, 0), (157, .bipush 101, 0, 0), (159, .iconst 0, 0, 0), (160, .invokestatic 286, 219, 38), (163, .ireturn, 0, 0), (164, .iload_n 1, 0, 0), (165, .bipush 100, 0, 0), (167, .bipush 97, 0, 0), (169, .bipush 121, 0, 0), (171, .iconst 0, 0, 0), (172, .iconst 0, 0, 0), (173, .invokestatic 286, 219, 38), (176, .ireturn, 0, 0)]
def k_X6_kindHere : List mm_E := [(0, .iconst 0, 0, 0), (1, .istore_n 1, 0, 0), (2, .iconst 0, 0, 0), (3, .istore_n 2, 0, 0), (4, .iload_n 2, 0, 0), (5, .bipush 9, 0, 0), (7, .if_icmp .ge 88, 0, 0), (10, .iconst 0, 0, 0), (11, .istore_n 3, 0, 0), (12, .iload_n 2, 0, 0), (13, .iload_n 3, 0, 0), (14, .invokestatic 290, 220, 34), (17, .ifCond .le 41, 0, 0), (20, .aload_n 0, 0, 0), (21, .getfield 75, 6, 21), (24, .iload_n 3, 0, 0), (25, .iadd, 0, 0), (26, .aload_n 0, 0, 0), (27, .getfield 72, 6, 20), (30, .if_icmp .ge 28, 0, 0), (33, .aload_n 0, 0, 0), (34, .getfield 60, 6, 16), (37, .aload_n 0, 0, 0), (38, .getfield 75, 6, 21), (41, .iload_n 3, 0, 0), (42, .iadd, 0, 0), (43, .iaload, 0, 0), (44, .iload_n 2, 0, 0), (45, .iload_n 3, 0, 0), (46, .invokestatic 290, 220, 34), (49, .if_icmp .ne 9, 0, 0), (52, .iinc 3 1, 0, 0), (55, .goto (-43), 0, 0), (58, .iload_n 2, 0, 0), (59, .iload_n 3, 0, 0), (60, .invokestatic 290, 220, 34), (63, .ifCond .ne 15, 0, 0), (66, .aload_n 0, 0, 0), (67, .dup, 0, 0), (68, .getfield 75, 6, 21), (71, .iload_n 3, 0, 0), (72, .iadd, 0, 0), (73, .putfield 75, 6, 21), (76, .iload_n 2, 0, 0), (77, .ireturn, 0, 0), (78, .iload_n 3, 0, 0), (79, .iload_n 1, 0, 0), (80, .if_icmp .le 7, 0, 0), (83, .iload_n 3, 0, 0), (84, .goto 4, 0, 0), (87, .iload_n 1, 0, 0), (88, .istore_n 1, 0, 0), (89, .iinc 2 1, 0, 0), (92, .goto (-88), 0, 0), (95, .aload_n 0, 0, 0), (96, .dup, 0, 0), (97, .getfield 75, 6, 21), (100, .iload_n 1, 0, 0), (101, .iadd, 0, 0), (102, .putfield 75, 6, 21), (105, .aload_n 0, 0, 0), (106, .iconst 1, 0, 0), (107, .putfield 81, 6, 23), (110, .iconst 0, 0, 0), (111, .ireturn, 0, 0)]
def k_X6_order : List mm_E := [(0, .aload_n 0, 0, 0), (1, .invokevirtual 293, 221, 64), (4, .istore_n 1, 0, 0), (5, .iconst 0, 0, 0), (6, .istore_n 2, 0, 0), (7, .iconst 0, 0, 0), (8, .istore_n 3, 0, 0), (9, .iconst 0, 0, 0), (10, .istore 4, 0, 0), (12, .iload_n 1, 0, 0), (13, .bipush 8, 0, 0), (15, .if_icmp .ge 13, 0, 0), (18, .aload_n 0, 0, 0), (19, .invokevirtual 296, 217, 64), (22, .aload_n 0, 0, 0), (23, .iconst 1, 0, 0), (24, .invokevirtual 299, 218, 65), (27, .istore_n 2, 0, 0), (28, .iload_n 1, 0, 0), (29, .ifCond .ne 20, 0, 0), (32, .aload_n 0, 0, 0), (33, .iconst 1, 0, 0), (34, .invokevirtual 299, 218, 65), (37, .istore_n 3, 0, 0), (38, .aload_n 0, 0, 0), (39, .invokevirtual 296, 217, 64), (42, .aload_n 0, 0, 0), (43, .iconst 2, 0, 0), (44, .invokevirtual 299, 218, 65), (47, .istore 4, 0, 0), (49, .iload_n 1, 0, 0), (50, .iconst 3, 0, 0), (51, .if_icmp .eq 19, 0, 0), (54, .iload_n 1, 0, 0), (55, .iconst 4, 0, 0), (56, .if_icmp .eq 14, 0, 0), (59, .iload_n 1, 0, 0), (60, .iconst 5, 0, 0), (61, .if_icmp .eq 9, 0, 0), (64, .iload_n 1, 0, 0), (65, .bipush 7, 0, 0), (67, .if_icmp .ne 13, 0, 0), (70, .aload_n 0, 0, 0), (71, .invokevirtual 296, 217, 64), (74, .aload_n 0, 0, 0), (75, .iconst 1, 0, 0), (76, .invokevirtual 299, 218, 65), (79, .istore_n 3, 0, 0), (80, .iload_n 1, 0, 0), (81, .iconst 3, 0, 0), (82, .if_icmp .ne 14, 0, 0), (85, .aload_n 0, 0, 0), (86, .invokevirtual 296, 217, 64), (89, .aload_n 0, 0, 0), (90, .iconst 1, 0, 0), (91, .invokevirtual 299, 218, 65), (94, .istore 4, 0, 0), (96, .aload_n 0, 0, 0), (97, .getfield 81, 6, 23), (100, .ifCond .eq 4, 0, 0), (103, .return_, 0, 0), (104, .aload_n 0, 0, 0), (105, .getfield 63, 6, 17), (108, .aload_n 0, 0, 0), (109, .getfield 78, 6, 22), (112, .iload_n 1, 0, 0), (113, .iastore, 0, 0), (114, .aload_n 0, 0, 0), (115, .getfield 66, 6, 18), (118, .iconst 3, 0, 0), (119, .aload_n 0, 0, 0), (120, .getfield 78, 6, 22), (123, .imul, 0, 0), (124, .iload_n 2, 0, 0), (125, .iastore, 0, 0), (126, .aload_n 0, 0, 0), (127, .getfield 66, 6, 18), (130, .iconst 3, 0, 0), (131, .aload_n 0, 0, 0), (132, .getfield 78, 6, 22), (135, .imul, 0, 0), (136, .iconst 1, 0, 0), (137, .iadd, 0, 0), (138, .iload_n 3, 0, 0), (139, .iastore, 0, 0), (140, .aload_n 0, 0, 0), (141, .getfield 66, 6, 18), (144, .iconst 3, 0, 0), (145, .aload_n 0, 0, 0), (146, .getfield 78, 6, 22), (149, .imul, 0, 0), (150, .iconst 2, 0, 0), (151, .iadd, 0, 0), (152, .iload 4, 0, 0), (154, .iastore, 0, 0), (155, .aload_n 0, 0, 0), (156, .dup, 0, 0), (157, .getfield 78, 6, 22), (160, .iconst 1, 0, 0), (161, .iadd, 0, 0), (162, .putfield 78, 6, 22), (165, .return_, 0, 0)]
def k_X6_reads : List mm_E := [(0, .aload_n 0, 0, 0), (1, .aload_n 0, 0, 0), (2, .getfield 69, 6, 19), (5, .putfield 72, 6, 20), (8, .aload_n 0, 0, 0), (9, .iconst 0, 0, 0), (10, .putfield 69, 6, 19), (13, .aload_n 0, 0, 0), (14, .iconst 0, 0, 0), (15, .putfield 75, 6, 21), (18, .aload_n 0, 0, 0), (19, .iconst 0, 0, 0), (20, .putfield 78, 6, 22), (23, .aload_n 0, 0, 0), (24, .iconst 0, 0, 0), (25, .putfield 81, 6, 23), (28, .aload_n 0, 0, 0), (29, .invokevirtual 302, 222, 64), (32, .aload_n 0, 0, 0), (33, .invokevirtual 279, 215, 64), (36, .bipush 59, 0, 0), (38, .if_icmp .ne 20, 0, 0), (41, .aload_n 0, 0, 0), (42, .dup, 0, 0), (43, .getfield 75, 6, 21), (46, .iconst 1, 0, 0), (47, .iadd, 0, 0), (48, .putfield 75, 6, 21), (51, .aload_n 0, 0, 0), (52, .invokevirtual 302, 222, 64), (55, .goto (-23), 0, 0), (58, .aload_n 0, 0, 0), (59, .dup, 0, 0), (60, .getfield 81, 6, 23), (63, .aload_n 0, 0, 0), (64, .getfield 75, 6, 21), (67, .aload_n 0, 0, 0), (68, .getfield 72, 6, 20), (71, .if_icmp .ge 7, 0, 0), (74, .iconst 1, 0, 0), (75, .goto 4, 0, 0), (78, .iconst 0, 0, 0), (79, .ior, 0, 0), (80, .putfield 81, 6, 23), (83, .return_, 0, 0)]
def k_X6_cannot : List mm_E := [(0, .iconst 0, 0, 0), (1, .istore_n 2, 0, 0), (2, .aload_n 0, 0, 0), (3, .getfield 66, 6, 18), (6, .iconst 3, 0, 0), (7, .iload_n 1, 0, 0), (8, .imul, 0, 0), (9, .iaload, 0, 0), (10, .istore_n 3, 0, 0), (11, .aload_n 0, 0, 0), (12, .getfield 66, 6, 18), (15, .iconst 3, 0, 0), (16, .iload_n 1, 0, 0), (17, .imul, 0, 0), (18, .iconst 1, 0, 0), (19, .iadd, 0, 0), (20, .iaload, 0, 0), (21, .istore 4, 0, 0), (23, .aload_n 0, 0, 0), (24, .getfield 66, 6, 18), (27, .iconst 3, 0, 0), (28, .iload_n 1, 0, 0), (29, .imul, 0, 0), (30, .iconst 2, 0, 0), (31, .iadd, 0, 0), (32, .iaload, 0, 0), (33, .istore 5, 0, 0), (35, .aload_n 0, 0, 0), (36, .getfield 63, 6, 17), (39, .iload_n 1, 0, 0), (40, .iaload, 0, 0), (41, .tableswitch 219 0 7 #[47, 73, 91, 109, 135, 157, 179, 197], 0, 47), (88, .aload_n 0, 0, 0), (89, .iload_n 3, 0, 0), (90, .iload 4, 0, 0), (92, .iload 5, 0, 0), (94, .invokevirtual 136, 147, 67), (97, .ifCond .eq 5, 0, 0), (100, .iconst 1, 0, 0), (101, .ireturn, 0, 0), (102, .aload_n 0, 0, 0), (103, .iload_n 3, 0, 0), (104, .iload 4, 0, 0), (106, .iload 5, 0, 0), (108, .invokevirtual 143, 148, 67), (111, .istore_n 2, 0, 0), (112, .iconst 0, 0, 0), (113, .ireturn, 0, 0), (114, .aload_n 0, 0, 0), (115, .iload_n 3, 0, 0), (116, .invokevirtual 150, 142, 65), (119, .ifCond .eq 5, 0, 0), (122, .iconst 1, 0, 0), (123, .ireturn, 0, 0), (124, .aload_n 0, 0, 0), (125, .iload_n 3, 0, 0), (126, .invokevirtual 153, 150, 65), (129, .istore_n 2, 0, 0), (130, .iconst 0, 0, 0), (131, .ireturn, 0, 0), (132, .aload_n 0, 0, 0), (133, .iload_n 3, 0, 0), (134, .invokevirtual 156, 152, 65), (137, .ifCond .eq 5, 0, 0), (140, .iconst 1, 0, 0), (141, .ireturn, 0, 0), (142, .aload_n 0, 0, 0), (143, .iload_n 3, 0, 0), (144, .invokevirtual 159, 153, 65), (147, .istore_n 2, 0, 0), (148, .iconst 0, 0, 0), (149, .ireturn, 0, 0), (150, .aload_n 0, 0, 0), (151, .iload_n 3, 0, 0), (152, .iload 4, 0, 0), (154, .iload 5, 0, 0), (156, .invokevirtual 168, 156, 67), (159, .ifCond .eq 5, 0, 0), (162, .iconst 1, 0, 0), (163, .ireturn, 0, 0), (164, .aload_n 0, 0, 0), (165, .iload_n 3, 0, 0), (166, .iload 4, 0, 0), (168, .iload 5, 0, 0), (170, .invokevirtual 171, 157, 67), (173, .istore_n 2, 0, 0), (174, .iconst 0, 0, 0), (175, .ireturn, 0, 0), (176, .aload_n 0, 0, 0), (177, .iload_n 3, 0, 0), (178, .iload 4, 0, 0), (180, .invokevirtual 192, 160, 66), (183, .ifCond .eq 5, 0, 0), (186, .iconst 1, 0, 0), (187, .ireturn, 0, 0), (188, .aload_n 0, 0, 0), (189, .iload_n 3, 0, 0), (190, .iload 4, 0, 0), (192, .invokevirtual 195, 161, 66), (195, .istore_n 2, 0, 0), (196, .iconst 0, 0, 0), (197, .ireturn, 0, 0), (198, .aload_n 0, 0, 0), (199, .iload_n 3, 0, 0), (200, .iload 4, 0, 0), (202, .invokevirtual 201, 163, 66), (205, .ifCond .eq 5, 0, 0), (208, .iconst 1, 0, 0), (209, .ireturn, 0, 0), (210, .aload_n 0, 0, 0), (211, .iload_n 3, 0, 0), (212, .iload 4, 0, 0), (214, .invokevirtual 204, 165, 66), (217, .istore_n 2, 0, 0), (218, .iconst 0, 0, 0), (219, .ireturn, 0, 0), (220, .aload_n 0, 0, 0), (221, .iload_n 3, 0, 0), (222, .invokevirtual 219, 171, 65), (225, .ifCond .eq 5, 0, 0), (228, .iconst 1, 0, 0), (229, .ireturn, 0, 0), (230, .aload_n 0, 0, 0), (231, .iload_n 3, 0, 0), (232, .invokevirtual 222, 172, 65), (235, .istore_n 2, 0, 0), (236, .iconst 0, 0, 0), (237, .ireturn, 0, 0), (238, .aload_n 0, 0, 0), (239, .iload_n 3, 0, 0), (240, .iload 4, 0, 0), (242, .invokevirtual 225, 174, 66), (245, .ifCond .eq 5, 0, 0), (248, .iconst 1, 0, 0), (249, .ireturn, 0, 0), (250, .aload_n 0, 0, 0), (251, .iload_n 3, 0, 0), (252, .iload 4, 0, 0), (254, .invokevirtual 228, 175, 66), (257, .istore_n 2, 0, 0), (258, .iconst 0, 0, 0), (259, .ireturn, 0, 0), (260, .aload_n 0, 0, 0), (261, .invokevirtual 241, 180, 64), (264, .istore_n 2, 0, 0), (265, .iconst 0, 0, 0), (266, .ireturn, 0, 0)]
def k_X6_run : List mm_E := [(0, .aload_n 0, 0, 0), (1, .invokevirtual 133, 130, 64), (4, .aload_n 0, 0, 0), (5, .invokevirtual 305, 223, 64), (8, .aload_n 0, 0, 0), (9, .aload_n 0, 0, 0), (10, .getfield 81, 6, 23), (13, .ifCond .eq 10, 0, 0), (16, .aload_n 0, 0, 0), (17, .getfield 75, 6, 21), (20, .goto 4, 0, 0), (23, .iconst (-1), 0, 0), (24, .putfield 50, 6, 13), (27, .aload_n 0, 0, 0), (28, .getfield 81, 6, 23), (31, .ifCond .eq 9, 0, 0), (34, .aload_n 0, 0, 0), (35, .iconst 1, 0, 0), (36, .invokevirtual 90, 127, 65), (39, .ireturn, 0, 0), (40, .iconst 0, 0, 0), (41, .istore_n 1, 0, 0), (42, .iload_n 1, 0, 0), (43, .aload_n 0, 0, 0), (44, .getfield 78, 6, 22), (47, .if_icmp .ge 66, 0, 0), (50, .aload_n 0, 0, 0), (51, .iload_n 1, 0, 0), (52, .invokevirtual 308, 224, 65), (55, .ifCond .ne 6, 0, 0), (58, .goto 49, 0, 0), (61, .aload_n 0, 0, 0), (62, .getfield 13, 6, 1), (65, .iconst 0, 0, 0), (66, .aload_n 0, 0, 0), (67, .getfield 7, 6, 0), (70, .iconst 0, 0, 0), (71, .invokestatic 94, 126, 36), (74, .aload_n 0, 0, 0), (75, .aload_n 0, 0, 0), (76, .getfield 32, 6, 7), (79, .putfield 44, 6, 11), (82, .aload_n 0, 0, 0), (83, .aload_n 0, 0, 0), (84, .getfield 35, 6, 8), (87, .putfield 47, 6, 12), (90, .aload_n 0, 0, 0), (91, .bipush 16, 0, 0), (93, .putfield 38, 6, 9), (96, .aload_n 0, 0, 0), (97, .iload_n 1, 0, 0), (98, .putfield 41, 6, 10), (101, .aload_n 0, 0, 0), (102, .iconst 2, 0, 0), (103, .invokevirtual 90, 127, 65), (106, .ireturn, 0, 0), (107, .iinc 1 1, 0, 0), (110, .goto (-68), 0, 0), (113, .aload_n 0, 0, 0), (114, .aload_n 0, 0, 0), (115, .getfield 78, 6, 22), (118, .invokevirtual 147, 131, 65), (121, .ireturn, 0, 0)]
def k_X6_faultPosition : List mm_E := [(0, .aload_n 0, 0, 0), (1, .iconst 0, 0, 0), (2, .putfield 25, 6, 5), (5, .aload_n 0, 0, 0), (6, .getfield 50, 6, 13), (9, .ireturn, 0, 0)]
def k_X6_reason : List mm_E := [(0, .aload_n 0, 0, 0), (1, .iconst 0, 0, 0), (2, .putfield 25, 6, 5), (5, .iload_n 1, 0, 0), (6, .iconst 0, 0, 0), (7, .iconst 1, 0, 0), (8, .invokestatic 98, 125, 35), (11, .ifCond .ne 9, 0, 0), (14, .aload_n 0, 0, 0), (15, .iconst 1, 0, 0), (16, .invokevirtual 90, 127, 65), (19, .ireturn, 0, 0), (20, .iload_n 1, 0, 0), (21, .iconst 1, 0, 0), (22, .if_icmp .ne 10, 0, 0), (25, .aload_n 0, 0, 0), (26, .getfield 44, 6, 11), (29, .goto 7, 0, 0), (32, .aload_n 0, 0, 0), (33, .getfield 38, 6, 9), (36, .istore_n 3, 0, 0), (37, .iload_n 3, 0, 0), (38, .ifCond .ne 9, 0, 0), (41, .aload_n 0, 0, 0), (42, .iconst 2, 0, 0), (43, .invokevirtual 90, 127, 65), (46, .ireturn, 0, 0), (47, .iload_n 2, 0, 0), (48, .ifCond .ne 7, 0, 0), (51, .iload_n 3, 0, 0), (52, .goto 19, 0, 0), (55, .iload_n 1, 0, 0), (56, .iconst 1, 0, 0), (57, .if_icmp .ne 10, 0, 0), (60, .aload_n 0, 0, 0), (61, .getfield 47, 6, 12), (64, .goto 7, 0, 0), (67, .aload_n 0, 0, 0), (68, .getfield 41, 6, 10), (71, .ireturn, 0, 0)]
def k_X6_writes : List mm_E := [(0, .aload_n 0, 0, 0), (1, .getfield 84, 6, 24), (4, .aload_n 0, 0, 0), (5, .getfield 87, 6, 25), (8, .iload_n 1, 0, 0), (9, .iastore, 0, 0), (10, .aload_n 0, 0, 0), (11, .dup, 0, 0), (12, .getfield 87, 6, 25), (15, .iconst 1, 0, 0), (16, .iadd, 0, 0), (17, .putfield 87, 6, 25), (20, .return_, 0, 0)]
def k_X6_writesNumber : List mm_E := [(0, .iconst 1, 0, 0), (1, .istore_n 2, 0, 0), (2, .iload_n 1, 0, 0), (3, .iload_n 2, 0, 0), (4, .idiv, 0, 0), (5, .bipush 9, 0, 0), (7, .if_icmp .le 11, 0, 0), (10, .iload_n 2, 0, 0), (11, .bipush 10, 0, 0), (13, .imul, 0, 0), (14, .istore_n 2, 0, 0), (15, .goto (-13), 0, 0), (18, .iload_n 2, 0, 0), (19, .ifCond .le 24, 0, 0), (22, .aload_n 0, 0, 0), (23, .bipush 48, 0, 0), (25, .iload_n 1, 0, 0), (26, .iload_n 2, 0, 0), (27, .idiv, 0, 0), (28, .bipush 10, 0, 0), (30, .irem, 0, 0), (31, .iadd, 0, 0), (32, .invokevirtual 311, 228, 65), (35, .iload_n 2, 0, 0), (36, .bipush 10, 0, 0), (38, .idiv, 0, 0), (39, .istore_n 2, 0, 0), (40, .goto (-22), 0, 0), (43, .return_, 0, 0)]
def k_X6_tellGiant : List mm_E := [(0, .aload_n 0, 0, 0), (1, .iload_n 1, 0, 0), (2, .invokestatic 102, 137, 33), (5, .ifCond .eq 7, 0, 0), (8, .iconst 0, 0, 0), (9, .goto 4, 0, 0), (12, .iconst 1, 0, 0), (13, .putfield 25, 6, 5), (16, .aload_n 0, 0, 0), (17, .getfield 25, 6, 5), (20, .ifCond .le 5, 0, 0), (23, .iconst 0, 0, 0), (24, .ireturn, 0, 0), (25, .aload_n 0, 0, 0), (26, .iconst 0, 0, 0), (27, .putfield 87, 6, 25), (30, .aload_n 0, 0, 0), (31, .iload_n 1, 0, 0), (32, .invokevirtual 314, 229, 65), (35, .aload_n 0, 0, 0), (36, .bipush 64, 0, 0), (38, .invokevirtual 311, 228, 65), (41, .aload_n 0, 0, 0), (42, .aload_n 0, 0, 0), (43, .iload_n 1, 0, 0), (44, .iconst 1, 0, 0), (45, .invokevirtual 174, 132, 66), (48, .invokevirtual 314, 229, 65), (51, .aload_n 0, 0, 0), (52, .bipush 36, 0, 0), (54, .invokevirtual 311, 228, 65), (57, .aload_n 0, 0, 0), (58, .aload_n 0, 0, 0), (59, .iload_n 1, 0, 0), (60, .iconst 0, 0, 0), (61, .invokevirtual 174, 132, 66), (64, .invokevirtual 314, 229, 65), (67, .aload_n 0, 0, 0), (68, .getfield 7, 6, 0), (71, .iconst 3, 0, 0), (72, .iaload, 0, 0), (73, .iload_n 1, 0, 0), (74, .if_icmp .ne 9, 0, 0), (77, .aload_n 0, 0, 0), (78, .bipush 33, 0, 0), (80, .invokevirtual 311, 228, 65), (83, .aload_n 0, 0, 0), (84, .getfield 87, 6, 25), (87, .ireturn, 0, 0)]
def k_X6_tellStair : List mm_E := [(0, .aload_n 0, 0, 0), (1, .aload_n 0, 0, 0), (2, .iload_n 1, 0, 0), (3, .invokevirtual 113, 139, 65), (6, .ifCond .eq 7, 0, 0), (9, .iconst 0, 0, 0), (10, .goto 4, 0, 0), (13, .iconst 1, 0, 0), (14, .putfield 25, 6, 5), (17, .aload_n 0, 0, 0), (18, .getfield 25, 6, 5), (21, .ifCond .le 5, 0, 0), (24, .iconst 0, 0, 0), (25, .ireturn, 0, 0), (26, .aload_n 0, 0, 0), (27, .iconst 0, 0, 0), (28, .putfield 87, 6, 25), (31, .aload_n 0, 0, 0), (32, .iload_n 1, 0, 0), (33, .invokevirtual 314, 229, 65), (36, .aload_n 0, 0, 0), (37, .bipush 58, 0, 0), (39, .invokevirtual 311, 228, 65), (42, .aload_n 0, 0, 0), (43, .aload_n 0, 0, 0), (44, .iload_n 1, 0, 0), (45, .iconst 0, 0, 0), (46, .invokevirtual 116, 134, 66), (49, .invokevirtual 314, 229, 65), (52, .aload_n 0, 0, 0), (53, .aload_n 0, 0, 0), (54, .iload_n 1, 0, 0), (55, .iconst 1, 0, 0), (56, .invokevirtual 116, 134, 66), (59, .invokevirtual 314, 229, 65), (62, .aload_n 0, 0, 0), (63, .bipush 94, 0, 0), (65, .invokevirtual 311, 228, 65), (68, .aload_n 0, 0, 0), (69, .aload_n 0, 0, 0), (70, .iload_n 1, 0, 0), (71, .iconst 2, 0, 0), (72, .invokevirtual 116, 134, 66), (75, .invokevirtual 314, 229, 65), (78, .aload_n 0, 0, 0), (79, .bipush 126, 0, 0), (81, .invokevirtual 311, 228, 65), (84, .aload_n 0, 0, 0), (85, .aload_n 0, 0, 0), (86, .iload_n 1, 0, 0), (87, .iconst 3, 0, 0), (88, .invokevirtual 116, 134, 66), (91, .invokevirtual 314, 229, 65), (94, .aload_n 0, 0, 0), (95, .iload_n 1, 0, 0), (96, .iconst 5, 0, 0), (97, .invokevirtual 116, 134, 66), (100, .ifCond .ge 8, 0, 0), (103, .aload_n 0, 0, 0), (104, .getfield 87, 6, 25), (107, .ireturn, 0, 0), (108, .aload_n 0, 0, 0), (109, .bipush 61, 0, 0), (111, .invokevirtual 311, 228, 65), (114, .aload_n 0, 0, 0), (115, .aload_n 0, 0, 0), (116, .iload_n 1, 0, 0), (117, .iconst 5, 0, 0), (118, .invokevirtual 116, 134, 66), (121, .invokevirtual 314, 229, 65), (124, .aload_n 0, 0, 0), (125, .bipush 47, 0, 0), (127, .invokevirtual 311, 228, 65), (130, .aload_n 0, 0, 0), (131, .aload_n 0, 0, 0), (132, .iload_n 1, 0, 0), (133, .bipush 6, 0, 0), (135, .invokevirtual 116, 134, 66), (138, .invokevirtual 314, 229, 65), (141, .aload_n 0, 0, 0), (142, .getfield 87, 6, 25), (145, .ireturn, 0, 0)]
def k_X6_tellLandings : List mm_E := [(0, .aload_n 0, 0, 0), (1, .iconst 0, 0, 0), (2, .putfield 25, 6, 5), (5, .aload_n 0, 0, 0), (6, .iconst 0, 0, 0), (7, .putfield 87, 6, 25), (10, .iconst 0, 0, 0), (11, .istore_n 1, 0, 0), (12, .iload_n 1, 0, 0), (13, .bipush 8, 0, 0), (15, .if_icmp .ge 35, 0, 0), (18, .aload_n 0, 0, 0), (19, .aload_n 0, 0, 0), (20, .iload_n 1, 0, 0), (21, .invokevirtual 183, 136, 65), (24, .iconst 2, 0, 0), (25, .if_icmp .ne 8, 0, 0), (28, .bipush 46, 0, 0), (30, .goto 11, 0, 0), (33, .bipush 48, 0, 0), (35, .aload_n 0, 0, 0), (36, .iload_n 1, 0, 0), (37, .invokevirtual 183, 136, 65), (40, .iadd, 0, 0), (41, .invokevirtual 311, 228, 65), (44, .iinc 1 1, 0, 0), (47, .goto (-35), 0, 0), (50, .aload_n 0, 0, 0), (51, .getfield 87, 6, 25), (54, .ireturn, 0, 0)]
def k_X6_character : List mm_E := [(0, .aload_n 0, 0, 0), (1, .iload_n 1, 0, 0), (2, .iconst 0, 0, 0), (3, .aload_n 0, 0, 0), (4, .getfield 87, 6, 25), (7, .iconst 1, 0, 0), (8, .isub, 0, 0), (9, .invokestatic 98, 125, 35), (12, .ifCond .eq 7, 0, 0), (15, .iconst 0, 0, 0), (16, .goto 4, 0, 0), (19, .iconst 1, 0, 0), (20, .putfield 25, 6, 5), (23, .aload_n 0, 0, 0), (24, .getfield 25, 6, 5), (27, .ifCond .le 8, 0, 0), (30, .bipush 32, 0, 0), (32, .goto 10, 0, 0), (35, .aload_n 0, 0, 0), (36, .getfield 84, 6, 24), (39, .iload_n 1, 0, 0), (40, .iaload, 0, 0), (41, .i2c, 0, 0), (42, .ireturn, 0, 0)]
def k_X6_sumOf : List mm_E := [(0, .iconst 0, 0, 0), (1, .istore_n 2, 0, 0), (2, .iconst 0, 0, 0), (3, .istore_n 3, 0, 0), (4, .iload_n 3, 0, 0), (5, .aload_n 0, 0, 0), (6, .getfield 7, 6, 0), (9, .iconst 0, 0, 0), (10, .iaload, 0, 0), (11, .if_icmp .ge 18, 0, 0), (14, .iload_n 2, 0, 0), (15, .aload_n 0, 0, 0), (16, .iload_n 3, 0, 0), (17, .iload_n 1, 0, 0), (18, .invokevirtual 116, 134, 66), (21, .iadd, 0, 0), (22, .istore_n 2, 0, 0), (23, .iinc 3 1, 0, 0), (26, .goto (-22), 0, 0), (29, .iload_n 2, 0, 0), (30, .ireturn, 0, 0)]
def k_X6_account : List mm_E := [(0, .aload_n 0, 0, 0), (1, .iconst 0, 0, 0), (2, .putfield 25, 6, 5), (5, .iload_n 1, 0, 0), (6, .tableswitch 171 0 13 #[70, 77, 83, 90, 97, 109, 115, 122, 129, 137, 145, 153, 161, 166], 0, 70), (76, .aload_n 0, 0, 0), (77, .getfield 7, 6, 0), (80, .iconst 0, 0, 0), (81, .iaload, 0, 0), (82, .ireturn, 0, 0), (83, .aload_n 0, 0, 0), (84, .iconst 2, 0, 0), (85, .invokevirtual 213, 168, 65), (88, .ireturn, 0, 0), (89, .aload_n 0, 0, 0), (90, .getfield 7, 6, 0), (93, .iconst 1, 0, 0), (94, .iaload, 0, 0), (95, .ireturn, 0, 0), (96, .aload_n 0, 0, 0), (97, .getfield 7, 6, 0), (100, .iconst 2, 0, 0), (101, .iaload, 0, 0), (102, .ireturn, 0, 0), (103, .aload_n 0, 0, 0), (104, .iconst 0, 0, 0), (105, .invokevirtual 244, 182, 65), (108, .aload_n 0, 0, 0), (109, .iconst 1, 0, 0), (110, .invokevirtual 244, 182, 65), (113, .iadd, 0, 0), (114, .ireturn, 0, 0), (115, .aload_n 0, 0, 0), (116, .iconst 3, 0, 0), (117, .invokevirtual 317, 234, 65), (120, .ireturn, 0, 0), (121, .aload_n 0, 0, 0), (122, .getfield 7, 6, 0), (125, .iconst 4, 0, 0), (126, .iaload, 0, 0), (127, .ireturn, 0, 0), (128, .aload_n 0, 0, 0), (129, .getfield 7, 6, 0), (132, .iconst 5, 0, 0), (133, .iaload, 0, 0), (134, .ireturn, 0, 0), (135, .aload_n 0, 0, 0), (136, .getfield 7, 6, 0), (139, .bipush 6, 0, 0), (141, .iaload, 0, 0), (142, .ireturn, 0, 0), (143, .aload_n 0, 0, 0), (144, .getfield 7, 6, 0), (147, .bipush 7, 0, 0), (149, .iaload, 0, 0), (150, .ireturn, 0, 0), (151, .aload_n 0, 0, 0), (152, .getfield 7, 6, 0), (155, .bipush 8, 0, 0), (157, .iaload, 0, 0), (158, .ireturn, 0, 0), (159, .aload_n 0, 0, 0), (160, .getfield 7, 6, 0), (163, .bipush 9, 0, 0), (165, .iaload, 0, 0), (166, .ireturn, 0, 0), (167, .aload_n 0, 0, 0), (168, .getfield 69, 6, 19), (171, .ireturn, 0, 0), (172, .aload_n 0, 0, 0), (173, .getfield 29, 6, 6), (176, .ireturn, 0, 0), (177, .aload_n 0, 0, 0), (178, .iconst 1, 0, 0), (179, .invokevirtual 90, 127, 65), (182, .ireturn, 0, 0)]
def k_X6_meanSteps : List mm_E := [(0, .aload_n 0, 0, 0), (1, .getfield 7, 6, 0), (4, .iconst 0, 0, 0), (5, .iaload, 0, 0), (6, .istore_n 1, 0, 0), (7, .aload_n 0, 0, 0), (8, .iload_n 1, 0, 0), (9, .ifCond .ne 7, 0, 0), (12, .iconst 1, 0, 0), (13, .goto 4, 0, 0), (16, .iconst 0, 0, 0), (17, .putfield 25, 6, 5), (20, .iload_n 1, 0, 0), (21, .ifCond .ne 7, 0, 0), (24, .dconst 0, 0, 0), (25, .goto 12, 0, 0), (28, .aload_n 0, 0, 0), (29, .iconst 2, 0, 0), (30, .invokevirtual 317, 234, 65), (33, .i2d, 0, 0), (34, .iload_n 1, 0, 0), (35, .i2d, 0, 0), (36, .ddiv, 0, 0), (37, .dreturn, 0, 0)]
def k_X6_leasedShare : List mm_E := [(0, .aload_n 0, 0, 0), (1, .getfield 7, 6, 0), (4, .iconst 0, 0, 0), (5, .iaload, 0, 0), (6, .istore_n 1, 0, 0), (7, .aload_n 0, 0, 0), (8, .iload_n 1, 0, 0), (9, .ifCond .ne 7, 0, 0), (12, .iconst 1, 0, 0), (13, .goto 4, 0, 0), (16, .iconst 0, 0, 0), (17, .putfield 25, 6, 5), (20, .iload_n 1, 0, 0), (21, .ifCond .ne 7, 0, 0), (24, .fconst 0, 0, 0), (25, .goto 18, 0, 0), (28, .aload_n 0, 0, 0), (29, .iconst 0, 0, 0), (30, .invokevirtual 244, 182, 65), (33, .aload_n 0, 0, 0), (34, .iconst 1, 0, 0), (35, .invokevirtual 244, 182, 65), (38, .iadd, 0, 0), (39, .i2f, 0, 0), (40, .iload_n 1, 0, 0), (41, .i2f, 0, 0), (42, .fdiv, 0, 0), (43, .freturn, 0, 0)]
def k_X6_undo : List mm_E := [(0, .aload_n 0, 0, 0), (1, .iconst 0, 0, 0), (2, .putfield 25, 6, 5), (5, .aload_n 0, 0, 0), (6, .getfield 29, 6, 6), (9, .ifCond .ne 9, 0, 0), (12, .aload_n 0, 0, 0), (13, .iconst 1, 0, 0), (14, .invokevirtual 90, 127, 65), (17, .ireturn, 0, 0), (18, .aload_n 0, 0, 0), (19, .dup, 0, 0), (20, .getfield 29, 6, 6), (23, .iconst 1, 0, 0), (24, .isub, 0, 0), (25, .putfield 29, 6, 6), (28, .aload_n 0, 0, 0), (29, .getfield 22, 6, 4), (32, .bipush 110, 0, 0), (34, .aload_n 0, 0, 0), (35, .getfield 29, 6, 6), (38, .imul, 0, 0), (39, .aload_n 0, 0, 0), (40, .getfield 7, 6, 0), (43, .iconst 0, 0, 0), (44, .invokestatic 94, 126, 36), (47, .aload_n 0, 0, 0), (48, .getfield 29, 6, 6), (51, .ireturn, 0, 0)]
def k_X6_save : List mm_E := [(0, .aload_n 0, 0, 0), (1, .iconst 0, 0, 0), (2, .putfield 25, 6, 5), (5, .aload_n 0, 0, 0), (6, .getfield 7, 6, 0), (9, .iconst 0, 0, 0), (10, .aload_n 0, 0, 0), (11, .getfield 19, 6, 3), (14, .iconst 0, 0, 0), (15, .invokestatic 94, 126, 36), (18, .aload_n 0, 0, 0), (19, .iconst 1, 0, 0), (20, .putfield 53, 6, 14), (23, .aload_n 0, 0, 0), (24, .getfield 7, 6, 0), (27, .iconst 0, 0, 0), (28, .iaload, 0, 0), (29, .ireturn, 0, 0)]
def k_X6_restore : List mm_E := [(0, .aload_n 0, 0, 0), (1, .iconst 0, 0, 0), (2, .putfield 25, 6, 5), (5, .aload_n 0, 0, 0), (6, .getfield 53, 6, 14), (9, .ifCond .ne 9, 0, 0), (12, .aload_n 0, 0, 0), (13, .iconst 1, 0, 0), (14, .invokevirtual 90, 127, 65), (17, .ireturn, 0, 0), (18, .aload_n 0, 0, 0), (19, .getfield 19, 6, 3), (22, .iconst 0, 0, 0), (23, .aload_n 0, 0, 0), (24, .getfield 7, 6, 0), (27, .iconst 0, 0, 0), (28, .invokestatic 94, 126, 36), (31, .aload_n 0, 0, 0), (32, .iconst 0, 0, 0), (33, .putfield 29, 6, 6), (36, .aload_n 0, 0, 0), (37, .getfield 7, 6, 0), (40, .iconst 0, 0, 0), (41, .iaload, 0, 0), (42, .ireturn, 0, 0)]
def k_J4_init_da8c8 : List mm_E := [(0, .aload_n 0, 0, 0), (1, .bipush 16, 0, 0), (3, .invokespecial 1, 247, 97), (6, .return_, 0, 0)]
def k_J4_append_cf468 : List mm_E := [(0, .aload_n 0, 0, 0), (1, .iload_n 1, 0, 0), (2, .invokespecial 50, 253, 225), (5, .pop, 0, 0), (6, .aload_n 0, 0, 0), (7, .areturn, 0, 0)]
def k_J4_append_bf812 : List mm_E := [(0, .aload_n 0, 0, 0), (1, .iload_n 1, 0, 0), (2, .invokespecial 53, 254, 225), (5, .pop, 0, 0), (6, .aload_n 0, 0, 0), (7, .areturn, 0, 0)]
def k_J4_charAt_5068e : List mm_E := [(0, .aload_n 0, 0, 0), (1, .iload_n 1, 0, 0), (2, .invokespecial 329, 252, 225), (5, .ireturn, 0, 0)]
def k_J4_setLength_d00df : List mm_E := [(0, .aload_n 0, 0, 0), (1, .iload_n 1, 0, 0), (2, .invokespecial 333, 251, 225), (5, .return_, 0, 0)]
def k_J4_length_8abf5 : List mm_E := [(0, .aload_n 0, 0, 0), (1, .invokespecial 343, 248, 224), (4, .ireturn, 0, 0)]
def k_J5_init_d00df : List mm_E := []
def k_J5_length_8abf5 : List mm_E := [(0, .aload_n 0, 0, 0), (1, .getfield 79, 7, 3), (4, .ireturn, 0, 0)]
def k_J5_ensureCapacityInternal_d00df : List mm_E := [(0, .aload_n 0, 0, 0), (1, .getfield 15, 7, 0), (4, .arraylength, 0, 0), (5, .aload_n 0, 0, 0), (6, .getfield 22, 7, 1), (9, .ishr, 0, 0), (10, .istore_n 2, 0, 0), (11, .iload_n 1, 0, 0), (12, .iload_n 2, 0, 0), (13, .isub, 0, 0), (14, .ifCond .le 24, 0, 0), (17, .aload_n 0, 0, 0), (18, .aload_n 0, 0, 0), (19, .getfield 15, 7, 0), (22, .aload_n 0, 0, 0), (23, .iload_n 1, 0, 0), (24, .invokevirtual 104, 250, 209), (27, .aload_n 0, 0, 0), (28, .getfield 22, 7, 1), (31, .ishl, 0, 0), (32, .invokestatic 108, 260, 34), (35, .putfield 15, 7, 0), (38, .return_, 0, 0)]
def k_J5_newCapacity_0f7a4 : List mm_E := [(0, .aload_n 0, 0, 0), (1, .getfield 15, 7, 0), (4, .arraylength, 0, 0), (5, .istore_n 2, 0, 0), (6, .iload_n 1, 0, 0), (7, .aload_n 0, 0, 0), (8, .getfield 22, 7, 1), (11, .ishl, 0, 0), (12, .istore_n 3, 0, 0), (13, .iload_n 3, 0, 0), (14, .iload_n 2, 0, 0), (15, .isub, 0, 0), (16, .istore 4, 0, 0), (18, .iload_n 2, 0, 0), (19, .iload 4, 0, 0), (21, .iload_n 2, 0, 0), (22, .iconst 2, 0, 0), (23, .aload_n 0, 0, 0), (24, .getfield 22, 7, 1), (27, .ishl, 0, 0), (28, .iadd, 0, 0), (29, .invokestatic 114, 261, 35), (32, .istore 5, 0, 0), (34, .iload 5, 0, 0), (36, .ldc 39, 2147483647, 11), (38, .if_icmp .ne 13, 0, 0), (41, .new 120, 35, 16), (51, .iload 5, 0, 0), (53, .aload_n 0, 0, 0), (54, .getfield 22, 7, 1), (57, .ishr, 0, 0), (58, .ireturn, 0, 0)]
def k_J5_setLength_d00df : List mm_E := [(0, .iload_n 1, 0, 0), (1, .ifCond .ge 12, 0, 0), (4, .new 129, 0, 999), (7, .dup, 0, 0), (8, .iload_n 1, 0, 0), (9, .invokespecial 131, 0, 999), (12, .athrow, 0, 0), (13, .aload_n 0, 0, 0), (14, .iload_n 1, 0, 0), (15, .invokevirtual 100, 249, 209), (18, .aload_n 0, 0, 0), (19, .getfield 79, 7, 3), (22, .iload_n 1, 0, 0), (23, .if_icmp .ge 40, 0, 0), (26, .aload_n 0, 0, 0), (27, .invokevirtual 83, 255, 208), (30, .ifCond .eq 18, 0, 0), (33, .aload_n 0, 0, 0), (34, .getfield 15, 7, 0), (37, .aload_n 0, 0, 0), (38, .getfield 79, 7, 3), (41, .iload_n 1, 0, 0), (42, .invokestatic 133, 0, 999), (45, .goto 31, 0, 0), (48, .aload_n 0, 0, 0), (49, .getfield 15, 7, 0), (52, .aload_n 0, 0, 0), (53, .getfield 79, 7, 3), (56, .iload_n 1, 0, 0), (57, .invokestatic 137, 0, 999), (60, .goto 16, 0, 0), (63, .aload_n 0, 0, 0), (64, .getfield 79, 7, 3), (67, .iload_n 1, 0, 0), (68, .if_icmp .le 8, 0, 0), (71, .aload_n 0, 0, 0), (72, .iconst 1, 0, 0), (73, .putfield 73, 7, 2), (76, .aload_n 0, 0, 0), (77, .iload_n 1, 0, 0), (78, .putfield 79, 7, 3), (81, .return_, 0, 0)]
def k_J5_charAt_5068e : List mm_E := [(0, .aload_n 0, 0, 0), (1, .getfield 22, 7, 1), (4, .istore_n 2, 0, 0), (5, .aload_n 0, 0, 0), (6, .getfield 15, 7, 0), (9, .astore_n 3, 0, 0), (10, .aload_n 0, 0, 0), (11, .getfield 79, 7, 3), (14, .aload_n 3, 0, 0), (15, .arraylength, 0, 0), (16, .iload_n 2, 0, 0), (17, .ishr, 0, 0), (18, .invokestatic 138, 0, 258), (21, .istore 4, 0, 0), (23, .iload_n 1, 0, 0), (24, .iload 4, 0, 0), (26, .invokestatic 144, 264, 34), (29, .iload_n 2, 0, 0), (30, .ifCond .ne 12, 0, 0), (33, .aload_n 3, 0, 0), (34, .iload_n 1, 0, 0), (35, .baload, 0, 0), (36, .sipush 255, 0, 0), (39, .iand, 0, 0), (40, .i2c, 0, 0), (41, .ireturn, 0, 0), (42, .aload_n 3, 0, 0), (43, .iload_n 1, 0, 0), (44, .invokestatic 148, 0, 999), (47, .ireturn, 0, 0)]
def k_J5_append_3fe6f : List mm_E := [(0, .aload_n 0, 0, 0), (1, .aload_n 0, 0, 0), (2, .getfield 79, 7, 3), (5, .iconst 1, 0, 0), (6, .iadd, 0, 0), (7, .invokevirtual 100, 249, 209), (10, .aload_n 0, 0, 0), (11, .invokevirtual 83, 255, 208), (14, .ifCond .eq 31, 0, 0), (17, .iload_n 1, 0, 0), (18, .invokestatic 191, 259, 33), (21, .ifCond .eq 24, 0, 0), (24, .aload_n 0, 0, 0), (25, .getfield 15, 7, 0), (28, .aload_n 0, 0, 0), (29, .dup, 0, 0), (30, .getfield 79, 7, 3), (33, .dup_x1, 0, 0), (34, .iconst 1, 0, 0), (35, .iadd, 0, 0), (36, .putfield 79, 7, 3), (39, .iload_n 1, 0, 0), (40, .i2b, 0, 0), (41, .bastore, 0, 0), (42, .goto 33, 0, 0), (45, .aload_n 0, 0, 0), (46, .invokevirtual 83, 255, 208), (49, .ifCond .eq 7, 0, 0), (52, .aload_n 0, 0, 0), (53, .invokevirtual 195, 0, 999), (56, .aload_n 0, 0, 0), (57, .getfield 15, 7, 0), (60, .aload_n 0, 0, 0), (61, .dup, 0, 0), (62, .getfield 79, 7, 3), (65, .dup_x1, 0, 0), (66, .iconst 1, 0, 0), (67, .iadd, 0, 0), (68, .putfield 79, 7, 3), (71, .iload_n 1, 0, 0), (72, .invokestatic 197, 0, 999), (75, .aload_n 0, 0, 0), (76, .areturn, 0, 0)]
def k_J5_append_c97b9 : List mm_E := [(0, .aload_n 0, 0, 0), (1, .getfield 79, 7, 3), (4, .istore_n 2, 0, 0), (5, .iload_n 2, 0, 0), (6, .iload_n 1, 0, 0), (7, .invokestatic 245, 257, 33), (10, .iadd, 0, 0), (11, .istore_n 3, 0, 0), (12, .aload_n 0, 0, 0), (13, .iload_n 3, 0, 0), (14, .invokevirtual 100, 249, 209), (17, .aload_n 0, 0, 0), (18, .invokevirtual 83, 255, 208), (21, .ifCond .eq 16, 0, 0), (24, .iload_n 1, 0, 0), (25, .iload_n 3, 0, 0), (26, .aload_n 0, 0, 0), (27, .getfield 15, 7, 0), (30, .invokestatic 248, 256, 35), (33, .pop, 0, 0), (34, .goto 14, 0, 0), (37, .iload_n 1, 0, 0), (38, .iload_n 2, 0, 0), (39, .iload_n 3, 0, 0), (40, .aload_n 0, 0, 0), (41, .getfield 15, 7, 0), (44, .invokestatic 251, 0, 999), (47, .pop, 0, 0), (48, .aload_n 0, 0, 0), (49, .iload_n 3, 0, 0), (50, .putfield 79, 7, 3), (53, .aload_n 0, 0, 0), (54, .areturn, 0, 0)]
def k_J5_isLatin1_aae02 : List mm_E := []
def k_J6_getChars_ba4f3 : List mm_E := []
def k_J6_stringSize_0f7a4 : List mm_E := [(0, .iconst 1, 0, 0), (1, .istore_n 1, 0, 0), (2, .iload_n 0, 0, 0), (3, .ifCond .lt 8, 0, 0), (6, .iconst 0, 0, 0), (7, .istore_n 1, 0, 0), (8, .iload_n 0, 0, 0), (9, .ineg, 0, 0), (10, .istore_n 0, 0, 0), (11, .bipush (-10), 0, 0), (13, .istore_n 2, 0, 0), (14, .iconst 1, 0, 0), (15, .istore_n 3, 0, 0), (16, .iload_n 3, 0, 0), (17, .bipush 10, 0, 0), (19, .if_icmp .ge 23, 0, 0), (22, .iload_n 0, 0, 0), (23, .iload_n 2, 0, 0), (24, .if_icmp .le 7, 0, 0), (27, .iload_n 3, 0, 0), (28, .iload_n 1, 0, 0), (29, .iadd, 0, 0), (30, .ireturn, 0, 0), (31, .bipush 10, 0, 0), (33, .iload_n 2, 0, 0), (34, .imul, 0, 0), (35, .istore_n 2, 0, 0), (36, .iinc 3 1, 0, 0), (39, .goto (-23), 0, 0), (42, .bipush 10, 0, 0), (44, .iload_n 1, 0, 0), (45, .iadd, 0, 0), (46, .ireturn, 0, 0)]
def k_J6_bitCount_0f7a4 : List mm_E := [(0, .iload_n 0, 0, 0), (1, .iload_n 0, 0, 0), (2, .iconst 1, 0, 0), (3, .iushr, 0, 0), (4, .ldc_w 265, 1431655765, 11), (7, .iand, 0, 0), (8, .isub, 0, 0), (9, .istore_n 0, 0, 0), (10, .iload_n 0, 0, 0), (11, .ldc_w 266, 858993459, 11), (14, .iand, 0, 0), (15, .iload_n 0, 0, 0), (16, .iconst 2, 0, 0), (17, .iushr, 0, 0), (18, .ldc_w 266, 858993459, 11), (21, .iand, 0, 0), (22, .iadd, 0, 0), (23, .istore_n 0, 0, 0), (24, .iload_n 0, 0, 0), (25, .iload_n 0, 0, 0), (26, .iconst 4, 0, 0), (27, .iushr, 0, 0), (28, .iadd, 0, 0), (29, .ldc_w 267, 252645135, 11), (32, .iand, 0, 0), (33, .istore_n 0, 0, 0), (34, .iload_n 0, 0, 0), (35, .iload_n 0, 0, 0), (36, .bipush 8, 0, 0), (38, .iushr, 0, 0), (39, .iadd, 0, 0), (40, .istore_n 0, 0, 0), (41, .iload_n 0, 0, 0), (42, .iload_n 0, 0, 0), (43, .bipush 16, 0, 0), (45, .iushr, 0, 0), (46, .iadd, 0, 0), (47, .istore_n 0, 0, 0), (48, .iload_n 0, 0, 0), (49, .bipush 63, 0, 0), (51, .iand, 0, 0), (52, .ireturn, 0, 0)]
def k_J1_canEncode_fc78d : List mm_E := [(0, .iload_n 0, 0, 0), (1, .sipush 255, 0, 0), (4, .if_icmp .gt 7, 0, 0), (7, .iconst 1, 0, 0), (8, .goto 4, 0, 0), (11, .iconst 0, 0, 0), (12, .ireturn, 0, 0)]
def k_J7_copyOf_9075b : List mm_E := [(0, .iload_n 1, 0, 0), (1, .aload_n 0, 0, 0), (2, .arraylength, 0, 0), (3, .if_icmp .ne 11, 0, 0), (6, .aload_n 0, 0, 0), (7, .invokevirtual 310, 0, 999), (10, .checkcast 311, 0, 0), (13, .areturn, 0, 0), (14, .iload_n 1, 0, 0), (15, .newarray .byte, 0, 0), (17, .astore_n 2, 0, 0), (18, .aload_n 0, 0, 0), (19, .iconst 0, 0, 0), (20, .aload_n 2, 0, 0), (21, .iconst 0, 0, 0), (22, .aload_n 0, 0, 0), (23, .arraylength, 0, 0), (24, .iload_n 1, 0, 0), (25, .invokestatic 304, 0, 258), (28, .invokestatic 150, 0, 245), (31, .aload_n 2, 0, 0), (32, .areturn, 0, 0)]
def k_J8_newLength_cabcc : List mm_E := [(0, .iload_n 0, 0, 0), (1, .iload_n 1, 0, 0), (2, .iload_n 2, 0, 0), (3, .invokestatic 194, 0, 274), (6, .iadd, 0, 0), (7, .istore_n 3, 0, 0), (8, .iconst 0, 0, 0), (9, .iload_n 3, 0, 0), (10, .if_icmp .ge 11, 0, 0), (13, .iload_n 3, 0, 0), (14, .ldc 200, 2147483639, 11), (16, .if_icmp .gt 5, 0, 0), (19, .iload_n 3, 0, 0), (20, .ireturn, 0, 0), (21, .iload_n 0, 0, 0), (22, .iload_n 1, 0, 0), (23, .invokestatic 201, 0, 999), (26, .ireturn, 0, 0)]
def k_J0_length_8abf5 : List mm_E := []
def k_J0_charAt_5068e : List mm_E := []
def k_J0_checkIndex_df160 : List mm_E := []
def mm_cd_0 : List (List mm_E) := [k_X0_init, k_X0_copyFrom, k_X1_init, k_X1_formOf, k_X1_isDigit, k_X1_read, k_X1_kindThatGoesFarthest, k_X1_charactersThatFit, k_X1_readOrder, k_X1_whyNotDo, k_X1_doOrder, k_X2_init, k_X2_copyFrom, k_X2_startAnew, k_X2_endLease, k_X2_isLeased]
def mm_cd_1 : List (List mm_E) := [k_X2_isEnd, k_X2_otherEnd, k_X2_rent, k_X2_dustPerDay, k_X2_costFor, k_X2_keyOf, k_X3_init, k_X3_copyFrom, k_X3_isStair, k_X3_whyNotBuild, k_X3_addStair, k_X3_whyNotTear, k_X3_removeStair, k_X3_whyNotHalve, k_X3_halveSteps, k_X3_whyNoGiantOrStair]
def mm_cd_2 : List (List mm_E) := [k_X3_whyNotLease, k_X3_leaseTo, k_X3_whyNotClimb, k_X3_goOver, k_X3_whyNotLevy, k_X3_levyToCome, k_X3_levyDust, k_X3_takingCoins, k_X3_whyNotTake, k_X3_takeLanding, k_X3_whyNotFree, k_X3_freeLanding, k_X3_passDay, k_X3_giveRent, k_X3_stairThatJoins, k_X3_joinedWith]
def mm_cd_3 : List (List mm_E) := [k_X3_isNextTo, k_X3_whoStandsOn, k_X3_landingsOf, k_X3_leasesOf, k_X3_dustOnAll, k_X3_stepsOfAll, k_X3_placeOf, k_X3_isOpenTo, k_X3_isNoGiantOnNeutral, k_X3_coinsOfAll, k_X4_init, k_X4_goNearestFirst, k_X4_nearestToDo, k_X4_goOnFrom, k_X4_goOver, k_X4_goOverMoreAndMore]
def mm_cd_4 : List (List mm_E) := [k_X4_allowOver, k_X4_goAgainAndAgain, k_X4_firstStair, k_X5_init, k_X5_build, k_X5_tear, k_X5_halve, k_X5_lease, k_X5_climb, k_X5_levy, k_X5_take, k_X5_free, k_X5_day, k_X5_giantOf, k_X5_landingOf, k_X5_stairOf]
def mm_cd_5 : List (List mm_E) := [k_X5_between, k_X5_breaths, k_X5_steps, k_X5_stepsAgain, k_X5_way, k_X5_wayAgain, k_X5_first, k_X5_reach, k_X5_dustIn, k_X5_dustAgain, k_X5_rentsIn, k_X5_levyOf, k_X5_bestLevy, k_X5_canTake, k_X5_takable, k_X5_turn]
def mm_cd_6 : List (List mm_E) := [k_X5_ranked, k_X5_isTold, k_X5_append, k_X5_run, k_X5_faultPosition, k_X5_reason, k_X5_tellGiant, k_X5_tellStair, k_X5_tellLandings, k_X5_character, k_X5_account, k_X5_meanSteps, k_X5_leasedShare, k_X5_undo, k_X5_save, k_X5_restore]
def mm_cd_7 : List (List mm_E) := [k_X5_remember, k_X5_isRefused, k_X5_isAnyOrderRefused, k_X5_areStepsTold, k_X5_areBreathsTold, k_X5_isInRange, k_X5_isGiant, k_X5_isLanding, k_X5_refusalFor, k_X5_numberOf, k_X5_detailOf, k_X6_init, k_X6_thrown, k_X6_in, k_X6_copies, k_X6_no]
def mm_cd_8 : List (List mm_E) := [k_X6_isBad, k_X6_refused, k_X6_begins, k_X6_keeps, k_X6_gv, k_X6_more, k_X6_sv, k_X6_ls, k_X6_owner, k_X6_isGiant, k_X6_isLanding, k_X6_isStair, k_X6_isNoGiant, k_X6_isNoLanding, k_X6_isNoStair, k_X6_joins]
def mm_cd_9 : List (List mm_E) := [k_X6_stairBetween, k_X6_touches, k_X6_across, k_X6_isRefusedBuild, k_X6_builds, k_X6_build, k_X6_tears, k_X6_tear, k_X6_isRefusedHalve, k_X6_halves, k_X6_halve, k_X6_rentOf, k_X6_isRefusedLease, k_X6_leases, k_X6_lease, k_X6_takesBreaths]
def mm_cd_10 : List (List mm_E) := [k_X6_isRefusedClimb, k_X6_climbs, k_X6_climb, k_X6_isRefusedLevy, k_X6_levyBy, k_X6_levies, k_X6_levy, k_X6_standing, k_X6_landingsOf, k_X6_isJoined, k_X6_priceOf, k_X6_isRefusedTake, k_X6_takes, k_X6_take, k_X6_isRefusedCede, k_X6_cedes]
def mm_cd_11 : List (List mm_E) := [k_X6_free, k_X6_ends, k_X6_givesRent, k_X6_least, k_X6_goesBy, k_X6_day, k_X6_leasedTo, k_X6_giantOf, k_X6_stairsAt, k_X6_joinedTo, k_X6_landingOf, k_X6_stairOf, k_X6_between, k_X6_breaths, k_X6_lengthOf, k_X6_lays]
def mm_cd_12 : List (List mm_E) := [k_X6_stepsTo, k_X6_steps, k_X6_stepsAgain, k_X6_wayTo, k_X6_way, k_X6_wayAgain, k_X6_first, k_X6_reach, k_X6_areDays, k_X6_dustBy, k_X6_dustIn, k_X6_dustAgain, k_X6_rentsIn, k_X6_couldLevy, k_X6_levyOf, k_X6_bestLevy]
def mm_cd_13 : List (List mm_E) := [k_X6_canTake, k_X6_takable, k_X6_turn, k_X6_measured, k_X6_ranked, k_X6_isTold, k_X6_append, k_X6_mark, k_X6_isDigit, k_X6_blank, k_X6_digits, k_X6_inWord, k_X6_letter, k_X6_kindHere, k_X6_order, k_X6_reads]
def mm_cd_14 : List (List mm_E) := [k_X6_cannot, k_X6_run, k_X6_faultPosition, k_X6_reason, k_X6_writes, k_X6_writesNumber, k_X6_tellGiant, k_X6_tellStair, k_X6_tellLandings, k_X6_character, k_X6_sumOf, k_X6_account, k_X6_meanSteps, k_X6_leasedShare, k_X6_undo, k_X6_save]
def mm_cd_15 : List (List mm_E) := [k_X6_restore, k_J4_init_da8c8, k_J4_append_cf468, k_J4_append_bf812, k_J4_charAt_5068e, k_J4_setLength_d00df, k_J4_length_8abf5, k_J5_init_d00df, k_J5_length_8abf5, k_J5_ensureCapacityInternal_d00df, k_J5_newCapacity_0f7a4, k_J5_setLength_d00df, k_J5_charAt_5068e, k_J5_append_3fe6f, k_J5_append_c97b9, k_J5_isLatin1_aae02]
def mm_cd_16 : List (List mm_E) := [k_J6_getChars_ba4f3, k_J6_stringSize_0f7a4, k_J6_bitCount_0f7a4, k_J1_canEncode_fc78d, k_J7_copyOf_9075b, k_J8_newLength_cabcc, k_J0_length_8abf5, k_J0_charAt_5068e, k_J0_checkIndex_df160]
def mm_cds : List (List mm_E) := mm_cd_0 ++ (mm_cd_1 ++ (mm_cd_2 ++ (mm_cd_3 ++ (mm_cd_4 ++ (mm_cd_5 ++ (mm_cd_6 ++ (mm_cd_7 ++ (mm_cd_8 ++ (mm_cd_9 ++ (mm_cd_10 ++ (mm_cd_11 ++ (mm_cd_12 ++ (mm_cd_13 ++ (mm_cd_14 ++ (mm_cd_15 ++ (mm_cd_16))))))))))))))))
def mm_cd (y : Nat) : List mm_E := mm_cds.getD y []
theorem e_0 : k_X0_init.all (mm_eok 0) = true := by decide +kernel
theorem e_1 : k_X0_copyFrom.all (mm_eok 1) = true := by decide +kernel
theorem e_2 : k_X1_init.all (mm_eok 2) = true := by decide +kernel
theorem e_3 : k_X1_formOf.all (mm_eok 3) = true := by decide +kernel
theorem e_4 : k_X1_isDigit.all (mm_eok 4) = true := by decide +kernel
theorem e_5 : k_X1_read.all (mm_eok 5) = true := by decide +kernel
theorem e_6 : k_X1_kindThatGoesFarthest.all (mm_eok 6) = true := by decide +kernel
theorem e_7 : k_X1_charactersThatFit.all (mm_eok 7) = true := by decide +kernel
theorem e_8 : k_X1_readOrder.all (mm_eok 8) = true := by decide +kernel
theorem e_9 : k_X1_whyNotDo.all (mm_eok 9) = true := by decide +kernel
theorem e_10 : k_X1_doOrder.all (mm_eok 10) = true := by decide +kernel
theorem e_11 : k_X2_init.all (mm_eok 11) = true := by decide +kernel
theorem e_12 : k_X2_copyFrom.all (mm_eok 12) = true := by decide +kernel
theorem e_13 : k_X2_startAnew.all (mm_eok 13) = true := by decide +kernel
theorem e_14 : k_X2_endLease.all (mm_eok 14) = true := by decide +kernel
theorem e_15 : k_X2_isLeased.all (mm_eok 15) = true := by decide +kernel
theorem e_16 : k_X2_isEnd.all (mm_eok 16) = true := by decide +kernel
theorem e_17 : k_X2_otherEnd.all (mm_eok 17) = true := by decide +kernel
theorem e_18 : k_X2_rent.all (mm_eok 18) = true := by decide +kernel
theorem e_19 : k_X2_dustPerDay.all (mm_eok 19) = true := by decide +kernel
theorem e_20 : k_X2_costFor.all (mm_eok 20) = true := by decide +kernel
theorem e_21 : k_X2_keyOf.all (mm_eok 21) = true := by decide +kernel
theorem e_22 : k_X3_init.all (mm_eok 22) = true := by decide +kernel
theorem e_23 : k_X3_copyFrom.all (mm_eok 23) = true := by decide +kernel
theorem e_24 : k_X3_isStair.all (mm_eok 24) = true := by decide +kernel
theorem e_25 : k_X3_whyNotBuild.all (mm_eok 25) = true := by decide +kernel
theorem e_26 : k_X3_addStair.all (mm_eok 26) = true := by decide +kernel
theorem e_27 : k_X3_whyNotTear.all (mm_eok 27) = true := by decide +kernel
theorem e_28 : k_X3_removeStair.all (mm_eok 28) = true := by decide +kernel
theorem e_29 : k_X3_whyNotHalve.all (mm_eok 29) = true := by decide +kernel
theorem e_30 : k_X3_halveSteps.all (mm_eok 30) = true := by decide +kernel
theorem e_31 : k_X3_whyNoGiantOrStair.all (mm_eok 31) = true := by decide +kernel
theorem e_32 : k_X3_whyNotLease.all (mm_eok 32) = true := by decide +kernel
theorem e_33 : k_X3_leaseTo.all (mm_eok 33) = true := by decide +kernel
theorem e_34 : k_X3_whyNotClimb.all (mm_eok 34) = true := by decide +kernel
theorem e_35 : k_X3_goOver.all (mm_eok 35) = true := by decide +kernel
theorem e_36 : k_X3_whyNotLevy.all (mm_eok 36) = true := by decide +kernel
theorem e_37 : k_X3_levyToCome.all (mm_eok 37) = true := by decide +kernel
theorem e_38 : k_X3_levyDust.all (mm_eok 38) = true := by decide +kernel
theorem e_39 : k_X3_takingCoins.all (mm_eok 39) = true := by decide +kernel
theorem e_40 : k_X3_whyNotTake.all (mm_eok 40) = true := by decide +kernel
theorem e_41 : k_X3_takeLanding.all (mm_eok 41) = true := by decide +kernel
theorem e_42 : k_X3_whyNotFree.all (mm_eok 42) = true := by decide +kernel
theorem e_43 : k_X3_freeLanding.all (mm_eok 43) = true := by decide +kernel
theorem e_44 : k_X3_passDay.all (mm_eok 44) = true := by decide +kernel
theorem e_45 : k_X3_giveRent.all (mm_eok 45) = true := by decide +kernel
theorem e_46 : k_X3_stairThatJoins.all (mm_eok 46) = true := by decide +kernel
theorem e_47 : k_X3_joinedWith.all (mm_eok 47) = true := by decide +kernel
theorem e_48 : k_X3_isNextTo.all (mm_eok 48) = true := by decide +kernel
theorem e_49 : k_X3_whoStandsOn.all (mm_eok 49) = true := by decide +kernel
theorem e_50 : k_X3_landingsOf.all (mm_eok 50) = true := by decide +kernel
theorem e_51 : k_X3_leasesOf.all (mm_eok 51) = true := by decide +kernel
theorem e_52 : k_X3_dustOnAll.all (mm_eok 52) = true := by decide +kernel
theorem e_53 : k_X3_stepsOfAll.all (mm_eok 53) = true := by decide +kernel
theorem e_54 : k_X3_placeOf.all (mm_eok 54) = true := by decide +kernel
theorem e_55 : k_X3_isOpenTo.all (mm_eok 55) = true := by decide +kernel
theorem e_56 : k_X3_isNoGiantOnNeutral.all (mm_eok 56) = true := by decide +kernel
theorem e_57 : k_X3_coinsOfAll.all (mm_eok 57) = true := by decide +kernel
theorem e_58 : k_X4_init.all (mm_eok 58) = true := by decide +kernel
theorem e_59 : k_X4_goNearestFirst.all (mm_eok 59) = true := by decide +kernel
theorem e_60 : k_X4_nearestToDo.all (mm_eok 60) = true := by decide +kernel
theorem e_61 : k_X4_goOnFrom.all (mm_eok 61) = true := by decide +kernel
theorem e_62 : k_X4_goOver.all (mm_eok 62) = true := by decide +kernel
theorem e_63 : k_X4_goOverMoreAndMore.all (mm_eok 63) = true := by decide +kernel
theorem e_64 : k_X4_allowOver.all (mm_eok 64) = true := by decide +kernel
theorem e_65 : k_X4_goAgainAndAgain.all (mm_eok 65) = true := by decide +kernel
theorem e_66 : k_X4_firstStair.all (mm_eok 66) = true := by decide +kernel
theorem e_67 : k_X5_init.all (mm_eok 67) = true := by decide +kernel
theorem e_68 : k_X5_build.all (mm_eok 68) = true := by decide +kernel
theorem e_69 : k_X5_tear.all (mm_eok 69) = true := by decide +kernel
theorem e_70 : k_X5_halve.all (mm_eok 70) = true := by decide +kernel
theorem e_71 : k_X5_lease.all (mm_eok 71) = true := by decide +kernel
theorem e_72 : k_X5_climb.all (mm_eok 72) = true := by decide +kernel
theorem e_73 : k_X5_levy.all (mm_eok 73) = true := by decide +kernel
theorem e_74 : k_X5_take.all (mm_eok 74) = true := by decide +kernel
theorem e_75 : k_X5_free.all (mm_eok 75) = true := by decide +kernel
theorem e_76 : k_X5_day.all (mm_eok 76) = true := by decide +kernel
theorem e_77 : k_X5_giantOf.all (mm_eok 77) = true := by decide +kernel
theorem e_78 : k_X5_landingOf.all (mm_eok 78) = true := by decide +kernel
theorem e_79 : k_X5_stairOf.all (mm_eok 79) = true := by decide +kernel
theorem e_80 : k_X5_between.all (mm_eok 80) = true := by decide +kernel
theorem e_81 : k_X5_breaths.all (mm_eok 81) = true := by decide +kernel
theorem e_82 : k_X5_steps.all (mm_eok 82) = true := by decide +kernel
theorem e_83 : k_X5_stepsAgain.all (mm_eok 83) = true := by decide +kernel
theorem e_84 : k_X5_way.all (mm_eok 84) = true := by decide +kernel
theorem e_85 : k_X5_wayAgain.all (mm_eok 85) = true := by decide +kernel
theorem e_86 : k_X5_first.all (mm_eok 86) = true := by decide +kernel
theorem e_87 : k_X5_reach.all (mm_eok 87) = true := by decide +kernel
theorem e_88 : k_X5_dustIn.all (mm_eok 88) = true := by decide +kernel
theorem e_89 : k_X5_dustAgain.all (mm_eok 89) = true := by decide +kernel
theorem e_90 : k_X5_rentsIn.all (mm_eok 90) = true := by decide +kernel
theorem e_91 : k_X5_levyOf.all (mm_eok 91) = true := by decide +kernel
theorem e_92 : k_X5_bestLevy.all (mm_eok 92) = true := by decide +kernel
theorem e_93 : k_X5_canTake.all (mm_eok 93) = true := by decide +kernel
theorem e_94 : k_X5_takable.all (mm_eok 94) = true := by decide +kernel
theorem e_95 : k_X5_turn.all (mm_eok 95) = true := by decide +kernel
theorem e_96 : k_X5_ranked.all (mm_eok 96) = true := by decide +kernel
theorem e_97 : k_X5_isTold.all (mm_eok 97) = true := by decide +kernel
theorem e_98 : k_X5_append.all (mm_eok 98) = true := by decide +kernel
theorem e_99 : k_X5_run.all (mm_eok 99) = true := by decide +kernel
theorem e_100 : k_X5_faultPosition.all (mm_eok 100) = true := by decide +kernel
theorem e_101 : k_X5_reason.all (mm_eok 101) = true := by decide +kernel
theorem e_102 : k_X5_tellGiant.all (mm_eok 102) = true := by decide +kernel
theorem e_103 : k_X5_tellStair.all (mm_eok 103) = true := by decide +kernel
theorem e_104 : k_X5_tellLandings.all (mm_eok 104) = true := by decide +kernel
theorem e_105 : k_X5_character.all (mm_eok 105) = true := by decide +kernel
theorem e_106 : k_X5_account.all (mm_eok 106) = true := by decide +kernel
theorem e_107 : k_X5_meanSteps.all (mm_eok 107) = true := by decide +kernel
theorem e_108 : k_X5_leasedShare.all (mm_eok 108) = true := by decide +kernel
theorem e_109 : k_X5_undo.all (mm_eok 109) = true := by decide +kernel
theorem e_110 : k_X5_save.all (mm_eok 110) = true := by decide +kernel
theorem e_111 : k_X5_restore.all (mm_eok 111) = true := by decide +kernel
theorem e_112 : k_X5_remember.all (mm_eok 112) = true := by decide +kernel
theorem e_113 : k_X5_isRefused.all (mm_eok 113) = true := by decide +kernel
theorem e_114 : k_X5_isAnyOrderRefused.all (mm_eok 114) = true := by decide +kernel
theorem e_115 : k_X5_areStepsTold.all (mm_eok 115) = true := by decide +kernel
theorem e_116 : k_X5_areBreathsTold.all (mm_eok 116) = true := by decide +kernel
theorem e_117 : k_X5_isInRange.all (mm_eok 117) = true := by decide +kernel
theorem e_118 : k_X5_isGiant.all (mm_eok 118) = true := by decide +kernel
theorem e_119 : k_X5_isLanding.all (mm_eok 119) = true := by decide +kernel
theorem e_120 : k_X5_refusalFor.all (mm_eok 120) = true := by decide +kernel
theorem e_121 : k_X5_numberOf.all (mm_eok 121) = true := by decide +kernel
theorem e_122 : k_X5_detailOf.all (mm_eok 122) = true := by decide +kernel
theorem e_123 : k_X6_init.all (mm_eok 123) = true := by decide +kernel
theorem e_124 : k_X6_thrown.all (mm_eok 124) = true := by decide +kernel
theorem e_125 : k_X6_in.all (mm_eok 125) = true := by decide +kernel
theorem e_126 : k_X6_copies.all (mm_eok 126) = true := by decide +kernel
theorem e_127 : k_X6_no.all (mm_eok 127) = true := by decide +kernel
theorem e_128 : k_X6_isBad.all (mm_eok 128) = true := by decide +kernel
theorem e_129 : k_X6_refused.all (mm_eok 129) = true := by decide +kernel
theorem e_130 : k_X6_begins.all (mm_eok 130) = true := by decide +kernel
theorem e_131 : k_X6_keeps.all (mm_eok 131) = true := by decide +kernel
theorem e_132 : k_X6_gv.all (mm_eok 132) = true := by decide +kernel
theorem e_133 : k_X6_more.all (mm_eok 133) = true := by decide +kernel
theorem e_134 : k_X6_sv.all (mm_eok 134) = true := by decide +kernel
theorem e_135 : k_X6_ls.all (mm_eok 135) = true := by decide +kernel
theorem e_136 : k_X6_owner.all (mm_eok 136) = true := by decide +kernel
theorem e_137 : k_X6_isGiant.all (mm_eok 137) = true := by decide +kernel
theorem e_138 : k_X6_isLanding.all (mm_eok 138) = true := by decide +kernel
theorem e_139 : k_X6_isStair.all (mm_eok 139) = true := by decide +kernel
theorem e_140 : k_X6_isNoGiant.all (mm_eok 140) = true := by decide +kernel
theorem e_141 : k_X6_isNoLanding.all (mm_eok 141) = true := by decide +kernel
theorem e_142 : k_X6_isNoStair.all (mm_eok 142) = true := by decide +kernel
theorem e_143 : k_X6_joins.all (mm_eok 143) = true := by decide +kernel
theorem e_144 : k_X6_stairBetween.all (mm_eok 144) = true := by decide +kernel
theorem e_145 : k_X6_touches.all (mm_eok 145) = true := by decide +kernel
theorem e_146 : k_X6_across.all (mm_eok 146) = true := by decide +kernel
theorem e_147 : k_X6_isRefusedBuild.all (mm_eok 147) = true := by decide +kernel
theorem e_148 : k_X6_builds.all (mm_eok 148) = true := by decide +kernel
theorem e_149 : k_X6_build.all (mm_eok 149) = true := by decide +kernel
theorem e_150 : k_X6_tears.all (mm_eok 150) = true := by decide +kernel
theorem e_151 : k_X6_tear.all (mm_eok 151) = true := by decide +kernel
theorem e_152 : k_X6_isRefusedHalve.all (mm_eok 152) = true := by decide +kernel
theorem e_153 : k_X6_halves.all (mm_eok 153) = true := by decide +kernel
theorem e_154 : k_X6_halve.all (mm_eok 154) = true := by decide +kernel
theorem e_155 : k_X6_rentOf.all (mm_eok 155) = true := by decide +kernel
theorem e_156 : k_X6_isRefusedLease.all (mm_eok 156) = true := by decide +kernel
theorem e_157 : k_X6_leases.all (mm_eok 157) = true := by decide +kernel
theorem e_158 : k_X6_lease.all (mm_eok 158) = true := by decide +kernel
theorem e_159 : k_X6_takesBreaths.all (mm_eok 159) = true := by decide +kernel
theorem e_160 : k_X6_isRefusedClimb.all (mm_eok 160) = true := by decide +kernel
theorem e_161 : k_X6_climbs.all (mm_eok 161) = true := by decide +kernel
theorem e_162 : k_X6_climb.all (mm_eok 162) = true := by decide +kernel
theorem e_163 : k_X6_isRefusedLevy.all (mm_eok 163) = true := by decide +kernel
theorem e_164 : k_X6_levyBy.all (mm_eok 164) = true := by decide +kernel
theorem e_165 : k_X6_levies.all (mm_eok 165) = true := by decide +kernel
theorem e_166 : k_X6_levy.all (mm_eok 166) = true := by decide +kernel
theorem e_167 : k_X6_standing.all (mm_eok 167) = true := by decide +kernel
theorem e_168 : k_X6_landingsOf.all (mm_eok 168) = true := by decide +kernel
theorem e_169 : k_X6_isJoined.all (mm_eok 169) = true := by decide +kernel
theorem e_170 : k_X6_priceOf.all (mm_eok 170) = true := by decide +kernel
theorem e_171 : k_X6_isRefusedTake.all (mm_eok 171) = true := by decide +kernel
theorem e_172 : k_X6_takes.all (mm_eok 172) = true := by decide +kernel
theorem e_173 : k_X6_take.all (mm_eok 173) = true := by decide +kernel
theorem e_174 : k_X6_isRefusedCede.all (mm_eok 174) = true := by decide +kernel
theorem e_175 : k_X6_cedes.all (mm_eok 175) = true := by decide +kernel
theorem e_176 : k_X6_free.all (mm_eok 176) = true := by decide +kernel
theorem e_177 : k_X6_ends.all (mm_eok 177) = true := by decide +kernel
theorem e_178 : k_X6_givesRent.all (mm_eok 178) = true := by decide +kernel
theorem e_179 : k_X6_least.all (mm_eok 179) = true := by decide +kernel
theorem e_180 : k_X6_goesBy.all (mm_eok 180) = true := by decide +kernel
theorem e_181 : k_X6_day.all (mm_eok 181) = true := by decide +kernel
theorem e_182 : k_X6_leasedTo.all (mm_eok 182) = true := by decide +kernel
theorem e_183 : k_X6_giantOf.all (mm_eok 183) = true := by decide +kernel
theorem e_184 : k_X6_stairsAt.all (mm_eok 184) = true := by decide +kernel
theorem e_185 : k_X6_joinedTo.all (mm_eok 185) = true := by decide +kernel
theorem e_186 : k_X6_landingOf.all (mm_eok 186) = true := by decide +kernel
theorem e_187 : k_X6_stairOf.all (mm_eok 187) = true := by decide +kernel
theorem e_188 : k_X6_between.all (mm_eok 188) = true := by decide +kernel
theorem e_189 : k_X6_breaths.all (mm_eok 189) = true := by decide +kernel
theorem e_190 : k_X6_lengthOf.all (mm_eok 190) = true := by decide +kernel
theorem e_191 : k_X6_lays.all (mm_eok 191) = true := by decide +kernel
theorem e_192 : k_X6_stepsTo.all (mm_eok 192) = true := by decide +kernel
theorem e_193 : k_X6_steps.all (mm_eok 193) = true := by decide +kernel
theorem e_194 : k_X6_stepsAgain.all (mm_eok 194) = true := by decide +kernel
theorem e_195 : k_X6_wayTo.all (mm_eok 195) = true := by decide +kernel
theorem e_196 : k_X6_way.all (mm_eok 196) = true := by decide +kernel
theorem e_197 : k_X6_wayAgain.all (mm_eok 197) = true := by decide +kernel
theorem e_198 : k_X6_first.all (mm_eok 198) = true := by decide +kernel
theorem e_199 : k_X6_reach.all (mm_eok 199) = true := by decide +kernel
theorem e_200 : k_X6_areDays.all (mm_eok 200) = true := by decide +kernel
theorem e_201 : k_X6_dustBy.all (mm_eok 201) = true := by decide +kernel
theorem e_202 : k_X6_dustIn.all (mm_eok 202) = true := by decide +kernel
theorem e_203 : k_X6_dustAgain.all (mm_eok 203) = true := by decide +kernel
theorem e_204 : k_X6_rentsIn.all (mm_eok 204) = true := by decide +kernel
theorem e_205 : k_X6_couldLevy.all (mm_eok 205) = true := by decide +kernel
theorem e_206 : k_X6_levyOf.all (mm_eok 206) = true := by decide +kernel
theorem e_207 : k_X6_bestLevy.all (mm_eok 207) = true := by decide +kernel
theorem e_208 : k_X6_canTake.all (mm_eok 208) = true := by decide +kernel
theorem e_209 : k_X6_takable.all (mm_eok 209) = true := by decide +kernel
theorem e_210 : k_X6_turn.all (mm_eok 210) = true := by decide +kernel
theorem e_211 : k_X6_measured.all (mm_eok 211) = true := by decide +kernel
theorem e_212 : k_X6_ranked.all (mm_eok 212) = true := by decide +kernel
theorem e_213 : k_X6_isTold.all (mm_eok 213) = true := by decide +kernel
theorem e_214 : k_X6_append.all (mm_eok 214) = true := by decide +kernel
theorem e_215 : k_X6_mark.all (mm_eok 215) = true := by decide +kernel
theorem e_216 : k_X6_isDigit.all (mm_eok 216) = true := by decide +kernel
theorem e_217 : k_X6_blank.all (mm_eok 217) = true := by decide +kernel
theorem e_218 : k_X6_digits.all (mm_eok 218) = true := by decide +kernel
theorem e_219 : k_X6_inWord.all (mm_eok 219) = true := by decide +kernel
theorem e_220 : k_X6_letter.all (mm_eok 220) = true := by decide +kernel
theorem e_221 : k_X6_kindHere.all (mm_eok 221) = true := by decide +kernel
theorem e_222 : k_X6_order.all (mm_eok 222) = true := by decide +kernel
theorem e_223 : k_X6_reads.all (mm_eok 223) = true := by decide +kernel
theorem e_224 : k_X6_cannot.all (mm_eok 224) = true := by decide +kernel
theorem e_225 : k_X6_run.all (mm_eok 225) = true := by decide +kernel
theorem e_226 : k_X6_faultPosition.all (mm_eok 226) = true := by decide +kernel
theorem e_227 : k_X6_reason.all (mm_eok 227) = true := by decide +kernel
theorem e_228 : k_X6_writes.all (mm_eok 228) = true := by decide +kernel
theorem e_229 : k_X6_writesNumber.all (mm_eok 229) = true := by decide +kernel
theorem e_230 : k_X6_tellGiant.all (mm_eok 230) = true := by decide +kernel
theorem e_231 : k_X6_tellStair.all (mm_eok 231) = true := by decide +kernel
theorem e_232 : k_X6_tellLandings.all (mm_eok 232) = true := by decide +kernel
theorem e_233 : k_X6_character.all (mm_eok 233) = true := by decide +kernel
theorem e_234 : k_X6_sumOf.all (mm_eok 234) = true := by decide +kernel
theorem e_235 : k_X6_account.all (mm_eok 235) = true := by decide +kernel
theorem e_236 : k_X6_meanSteps.all (mm_eok 236) = true := by decide +kernel
theorem e_237 : k_X6_leasedShare.all (mm_eok 237) = true := by decide +kernel
theorem e_238 : k_X6_undo.all (mm_eok 238) = true := by decide +kernel
theorem e_239 : k_X6_save.all (mm_eok 239) = true := by decide +kernel
theorem e_240 : k_X6_restore.all (mm_eok 240) = true := by decide +kernel
theorem e_241 : k_J4_init_da8c8.all (mm_eok 241) = true := by decide +kernel
theorem e_242 : k_J4_append_cf468.all (mm_eok 242) = true := by decide +kernel
theorem e_243 : k_J4_append_bf812.all (mm_eok 243) = true := by decide +kernel
theorem e_244 : k_J4_charAt_5068e.all (mm_eok 244) = true := by decide +kernel
theorem e_245 : k_J4_setLength_d00df.all (mm_eok 245) = true := by decide +kernel
theorem e_246 : k_J4_length_8abf5.all (mm_eok 246) = true := by decide +kernel
theorem e_247 : k_J5_init_d00df.all (mm_eok 247) = true := by decide +kernel
theorem e_248 : k_J5_length_8abf5.all (mm_eok 248) = true := by decide +kernel
theorem e_249 : k_J5_ensureCapacityInternal_d00df.all (mm_eok 249) = true := by decide +kernel
theorem e_250 : k_J5_newCapacity_0f7a4.all (mm_eok 250) = true := by decide +kernel
theorem e_251 : k_J5_setLength_d00df.all (mm_eok 251) = true := by decide +kernel
theorem e_252 : k_J5_charAt_5068e.all (mm_eok 252) = true := by decide +kernel
theorem e_253 : k_J5_append_3fe6f.all (mm_eok 253) = true := by decide +kernel
theorem e_254 : k_J5_append_c97b9.all (mm_eok 254) = true := by decide +kernel
theorem e_255 : k_J5_isLatin1_aae02.all (mm_eok 255) = true := by decide +kernel
theorem e_256 : k_J6_getChars_ba4f3.all (mm_eok 256) = true := by decide +kernel
theorem e_257 : k_J6_stringSize_0f7a4.all (mm_eok 257) = true := by decide +kernel
theorem e_258 : k_J6_bitCount_0f7a4.all (mm_eok 258) = true := by decide +kernel
theorem e_259 : k_J1_canEncode_fc78d.all (mm_eok 259) = true := by decide +kernel
theorem e_260 : k_J7_copyOf_9075b.all (mm_eok 260) = true := by decide +kernel
theorem e_261 : k_J8_newLength_cabcc.all (mm_eok 261) = true := by decide +kernel
theorem e_262 : k_J0_length_8abf5.all (mm_eok 262) = true := by decide +kernel
theorem e_263 : k_J0_charAt_5068e.all (mm_eok 263) = true := by decide +kernel
theorem e_264 : k_J0_checkIndex_df160.all (mm_eok 264) = true := by decide +kernel
theorem mm_cdok : ∀ y, y < 265 → (mm_cd y).all (mm_eok y) = true := by
  intro y hy
  match y, hy with
  | 0, _ => exact e_0
  | 1, _ => exact e_1
  | 2, _ => exact e_2
  | 3, _ => exact e_3
  | 4, _ => exact e_4
  | 5, _ => exact e_5
  | 6, _ => exact e_6
  | 7, _ => exact e_7
  | 8, _ => exact e_8
  | 9, _ => exact e_9
  | 10, _ => exact e_10
  | 11, _ => exact e_11
  | 12, _ => exact e_12
  | 13, _ => exact e_13
  | 14, _ => exact e_14
  | 15, _ => exact e_15
  | 16, _ => exact e_16
  | 17, _ => exact e_17
  | 18, _ => exact e_18
  | 19, _ => exact e_19
  | 20, _ => exact e_20
  | 21, _ => exact e_21
  | 22, _ => exact e_22
  | 23, _ => exact e_23
  | 24, _ => exact e_24
  | 25, _ => exact e_25
  | 26, _ => exact e_26
  | 27, _ => exact e_27
  | 28, _ => exact e_28
  | 29, _ => exact e_29
  | 30, _ => exact e_30
  | 31, _ => exact e_31
  | 32, _ => exact e_32
  | 33, _ => exact e_33
  | 34, _ => exact e_34
  | 35, _ => exact e_35
  | 36, _ => exact e_36
  | 37, _ => exact e_37
  | 38, _ => exact e_38
  | 39, _ => exact e_39
  | 40, _ => exact e_40
  | 41, _ => exact e_41
  | 42, _ => exact e_42
  | 43, _ => exact e_43
  | 44, _ => exact e_44
  | 45, _ => exact e_45
  | 46, _ => exact e_46
  | 47, _ => exact e_47
  | 48, _ => exact e_48
  | 49, _ => exact e_49
  | 50, _ => exact e_50
  | 51, _ => exact e_51
  | 52, _ => exact e_52
  | 53, _ => exact e_53
  | 54, _ => exact e_54
  | 55, _ => exact e_55
  | 56, _ => exact e_56
  | 57, _ => exact e_57
  | 58, _ => exact e_58
  | 59, _ => exact e_59
  | 60, _ => exact e_60
  | 61, _ => exact e_61
  | 62, _ => exact e_62
  | 63, _ => exact e_63
  | 64, _ => exact e_64
  | 65, _ => exact e_65
  | 66, _ => exact e_66
  | 67, _ => exact e_67
  | 68, _ => exact e_68
  | 69, _ => exact e_69
  | 70, _ => exact e_70
  | 71, _ => exact e_71
  | 72, _ => exact e_72
  | 73, _ => exact e_73
  | 74, _ => exact e_74
  | 75, _ => exact e_75
  | 76, _ => exact e_76
  | 77, _ => exact e_77
  | 78, _ => exact e_78
  | 79, _ => exact e_79
  | 80, _ => exact e_80
  | 81, _ => exact e_81
  | 82, _ => exact e_82
  | 83, _ => exact e_83
  | 84, _ => exact e_84
  | 85, _ => exact e_85
  | 86, _ => exact e_86
  | 87, _ => exact e_87
  | 88, _ => exact e_88
  | 89, _ => exact e_89
  | 90, _ => exact e_90
  | 91, _ => exact e_91
  | 92, _ => exact e_92
  | 93, _ => exact e_93
  | 94, _ => exact e_94
  | 95, _ => exact e_95
  | 96, _ => exact e_96
  | 97, _ => exact e_97
  | 98, _ => exact e_98
  | 99, _ => exact e_99
  | 100, _ => exact e_100
  | 101, _ => exact e_101
  | 102, _ => exact e_102
  | 103, _ => exact e_103
  | 104, _ => exact e_104
  | 105, _ => exact e_105
  | 106, _ => exact e_106
  | 107, _ => exact e_107
  | 108, _ => exact e_108
  | 109, _ => exact e_109
  | 110, _ => exact e_110
  | 111, _ => exact e_111
  | 112, _ => exact e_112
  | 113, _ => exact e_113
  | 114, _ => exact e_114
  | 115, _ => exact e_115
  | 116, _ => exact e_116
  | 117, _ => exact e_117
  | 118, _ => exact e_118
  | 119, _ => exact e_119
  | 120, _ => exact e_120
  | 121, _ => exact e_121
  | 122, _ => exact e_122
  | 123, _ => exact e_123
  | 124, _ => exact e_124
  | 125, _ => exact e_125
  | 126, _ => exact e_126
  | 127, _ => exact e_127
  | 128, _ => exact e_128
  | 129, _ => exact e_129
  | 130, _ => exact e_130
  | 131, _ => exact e_131
  | 132, _ => exact e_132
  | 133, _ => exact e_133
  | 134, _ => exact e_134
  | 135, _ => exact e_135
  | 136, _ => exact e_136
  | 137, _ => exact e_137
  | 138, _ => exact e_138
  | 139, _ => exact e_139
  | 140, _ => exact e_140
  | 141, _ => exact e_141
  | 142, _ => exact e_142
  | 143, _ => exact e_143
  | 144, _ => exact e_144
  | 145, _ => exact e_145
  | 146, _ => exact e_146
  | 147, _ => exact e_147
  | 148, _ => exact e_148
  | 149, _ => exact e_149
  | 150, _ => exact e_150
  | 151, _ => exact e_151
  | 152, _ => exact e_152
  | 153, _ => exact e_153
  | 154, _ => exact e_154
  | 155, _ => exact e_155
  | 156, _ => exact e_156
  | 157, _ => exact e_157
  | 158, _ => exact e_158
  | 159, _ => exact e_159
  | 160, _ => exact e_160
  | 161, _ => exact e_161
  | 162, _ => exact e_162
  | 163, _ => exact e_163
  | 164, _ => exact e_164
  | 165, _ => exact e_165
  | 166, _ => exact e_166
  | 167, _ => exact e_167
  | 168, _ => exact e_168
  | 169, _ => exact e_169
  | 170, _ => exact e_170
  | 171, _ => exact e_171
  | 172, _ => exact e_172
  | 173, _ => exact e_173
  | 174, _ => exact e_174
  | 175, _ => exact e_175
  | 176, _ => exact e_176
  | 177, _ => exact e_177
  | 178, _ => exact e_178
  | 179, _ => exact e_179
  | 180, _ => exact e_180
  | 181, _ => exact e_181
  | 182, _ => exact e_182
  | 183, _ => exact e_183
  | 184, _ => exact e_184
  | 185, _ => exact e_185
  | 186, _ => exact e_186
  | 187, _ => exact e_187
  | 188, _ => exact e_188
  | 189, _ => exact e_189
  | 190, _ => exact e_190
  | 191, _ => exact e_191
  | 192, _ => exact e_192
  | 193, _ => exact e_193
  | 194, _ => exact e_194
  | 195, _ => exact e_195
  | 196, _ => exact e_196
  | 197, _ => exact e_197
  | 198, _ => exact e_198
  | 199, _ => exact e_199
  | 200, _ => exact e_200
  | 201, _ => exact e_201
  | 202, _ => exact e_202
  | 203, _ => exact e_203
  | 204, _ => exact e_204
  | 205, _ => exact e_205
  | 206, _ => exact e_206
  | 207, _ => exact e_207
  | 208, _ => exact e_208
  | 209, _ => exact e_209
  | 210, _ => exact e_210
  | 211, _ => exact e_211
  | 212, _ => exact e_212
  | 213, _ => exact e_213
  | 214, _ => exact e_214
  | 215, _ => exact e_215
  | 216, _ => exact e_216
  | 217, _ => exact e_217
  | 218, _ => exact e_218
  | 219, _ => exact e_219
  | 220, _ => exact e_220
  | 221, _ => exact e_221
  | 222, _ => exact e_222
  | 223, _ => exact e_223
  | 224, _ => exact e_224
  | 225, _ => exact e_225
  | 226, _ => exact e_226
  | 227, _ => exact e_227
  | 228, _ => exact e_228
  | 229, _ => exact e_229
  | 230, _ => exact e_230
  | 231, _ => exact e_231
  | 232, _ => exact e_232
  | 233, _ => exact e_233
  | 234, _ => exact e_234
  | 235, _ => exact e_235
  | 236, _ => exact e_236
  | 237, _ => exact e_237
  | 238, _ => exact e_238
  | 239, _ => exact e_239
  | 240, _ => exact e_240
  | 241, _ => exact e_241
  | 242, _ => exact e_242
  | 243, _ => exact e_243
  | 244, _ => exact e_244
  | 245, _ => exact e_245
  | 246, _ => exact e_246
  | 247, _ => exact e_247
  | 248, _ => exact e_248
  | 249, _ => exact e_249
  | 250, _ => exact e_250
  | 251, _ => exact e_251
  | 252, _ => exact e_252
  | 253, _ => exact e_253
  | 254, _ => exact e_254
  | 255, _ => exact e_255
  | 256, _ => exact e_256
  | 257, _ => exact e_257
  | 258, _ => exact e_258
  | 259, _ => exact e_259
  | 260, _ => exact e_260
  | 261, _ => exact e_261
  | 262, _ => exact e_262
  | 263, _ => exact e_263
  | 264, _ => exact e_264
  | n + 265, h => exact absurd h (by omega)
end
section
/-- what a callee does: method, cells, slots, arguments, world, what holds behind it -/
abbrev mm_Cl : Type := Nat → Nat → Nat → List Value → mm_S → (mm_Re → Prop) → Prop
def mm_find : List mm_E → Nat → Option (Instr × Nat × Nat)
  | [], _ => none
  | q :: l, i => if q.1 = i then some q.2 else mm_find l i
def mm_wd (st : List Value) : Nat := (st.map fun v => v.category).sum
/-- a call of a, with these arguments, over this rest of the stack -/
def mm_call (C : mm_Cl) (Q : mm_Re → Prop) (K : mm_F → Nat → Nat → Prop) (a pc : Nat) (As rest : List Value) (ls : mm_L) (h : mm_S) (c k : Nat) : Prop :=
  ∃ mc ms : Nat, mc ≤ c ∧ ms ≤ k ∧ mm_wd rest ≤ 8 ∧ C a mc ms As h (fun r => match r with
    | (.inl v, h2) => K (pc + 3, v.toList ++ rest, ls, h2) (c - mc) (k - ms)
    | (.inr E, h2) => Q (.inr E, h2))
def mm_arn (t : ArrayType) : Option (Nat × (Nat → vp_A)) := match t with
  | .int => some (0, fun n => (n, .inl (fun _ => 0)))
  | .boolean => some (1, fun n => (n, .inl (fun _ => 0)))
  | .long => some (2, fun n => (n, .inr (.inl (fun _ => 0))))
  | .double => some (3, fun n => (n, .inr (.inr (.inr (.inl (fun _ => 0))))))
  | .byte => some (4, fun n => (n, .inl (fun _ => 0)))
  | _ => none
def mm_ati (a : Nat) : Nat := match a with
  | 0 => 5
  | 2 => 6
  | _ => 7
def mm_do (C : mm_Cl) (y : Nat) (Q : mm_Re → Prop) (K : mm_F → Nat → Nat → Prop) (ins : Instr) (a b pc : Nat) (st : List Value) (ls : mm_L) (h : mm_S) (c k : Nat) : Prop := match ins with
  | .invokestatic _ => if b = 258 then match st with
      | .int y :: .int x :: r => mm_wd r ≤ 8 ∧ K (pc + 3, .int (if y < x then y else x) :: r, ls, h) c k
      | _ => False
    else if b = 274 then match st with
      | .int y :: .int x :: r => mm_wd r ≤ 8 ∧ K (pc + 3, .int (if x < y then y else x) :: r, ls, h) c k
      | _ => False
    else if b = 245 then match st with
      | .int n :: .int dp :: .ref q1 :: .int sp :: .ref q0 :: r => match h.2 q0, h.2 q1 with
        | .inl (t0, n0, .inl f), .inl (t1, n1, .inl g) => q0 ∈ h.1 ∧ q1 ∈ h.1 ∧ t0 = t1 ∧ (t0 = 0 ∨ t0 = 4) ∧ ¬ sp < 0 ∧ ¬ dp < 0 ∧ ¬ n < 0 ∧ sp.toNatClampNeg + n.toNatClampNeg ≤ n0 ∧ dp.toNatClampNeg + n.toNatClampNeg ≤ n1 ∧ (∀ i, i < n.toNatClampNeg → fits (mm_tyl.getD t0 .int) (.int (f (sp.toNatClampNeg + i))) = true) ∧ mm_wd r ≤ 8 ∧ K (pc + 3, r, ls, mm_put h q1 (.inl (t1, n1, .inl (va_cpy f g sp.toNatClampNeg dp.toNatClampNeg n.toNatClampNeg)))) c k
        | _, _ => False
      | _ => False
    else (b / 16 = 2 ∨ b / 16 = 3) ∧ b % 16 ≤ st.length ∧ mm_call C Q K a pc (st.take (b % 16)).reverse (st.drop (b % 16)) ls h c k
  | .invokevirtual _ => b % 16 ≤ st.length ∧ match st.drop (b % 16) with
    | .ref q :: rest => match h.2 q with
      | .inr (ci, fs) => ((q ∈ h.1 ∧ ci < 8 ∧ (((b / 16 = 4 ∨ b / 16 = 5) ∧ (mm_C ci).1 = (mm_m a).2.1.cls) ∨ (b / 16 = 13 ∧ ci = 7))) ∨ ((a = 262 ∨ a = 263) ∧ b / 16 = 4 ∧ ci = 9 ∧ fs = [])) ∧ mm_call C Q K a pc (.ref q :: (st.take (b % 16)).reverse) rest ls h c k
      | _ => False
    | _ => False
  | .invokespecial _ => if b = 128 then match st with
      | .ref _ :: rest => mm_wd rest ≤ 8 ∧ K (pc + 3, rest, ls, h) c k
      | _ => False
    else if b / 16 = 14 then b % 16 ≤ st.length ∧ match st.drop (b % 16) with
      | .ref q :: rest => match h.2 q with
        | .inr (ci, _) => q ∈ h.1 ∧ ci < 8 ∧ mm_call C Q K a pc (.ref q :: (st.take (b % 16)).reverse) rest ls h c k
        | _ => False
      | _ => False
    else (b / 16 = 6 ∨ b / 16 = 7) ∧ b % 16 ≤ st.length ∧ match st.drop (b % 16) with
      | .ref q :: rest => mm_call C Q K a pc (.ref q :: (st.take (b % 16)).reverse) rest ls h c k
      | _ => False
  | .anewarray _ => match st with
    | .int n :: rest => (a = 0 ∨ a = 2 ∨ a = 3) ∧ ¬ n < 0 ∧ n.toNatClampNeg ≤ 65536 ∧ 1 ≤ c ∧ n.toNatClampNeg ≤ k ∧ ∀ q : Nat, q ∉ h.1 → K (pc + 3, .ref q :: rest, ls, (h.1 ++ [q], va_up h.2 q (.inl (mm_ati a, n.toNatClampNeg, .inr (.inr (.inr (.inr (fun _ => none)))))))) (c - 1) (k - n.toNatClampNeg)
    | _ => False
  | .new _ => if b = 9 then 1 ≤ c ∧ (mm_C a).2.2 ≤ k ∧ ∀ q : Nat, q ∉ h.1 → K (pc + 3, .ref q :: st, ls, (h.1 ++ [q], va_up h.2 q (.inr (a, mm_dfl a)))) (c - 1) (k - (mm_C a).2.2)
    else if b = 16 ∨ b = 17 then 1 ≤ c ∧ 6 ≤ k ∧ mm_wd st ≤ 8 ∧ Q (.inr (mm_exc.getD (mm_th a).2.2.2.2.1 ""), h)
    else False
  | .newarray t => match st with
    | .int n :: rest => match mm_arn t with
      | some (ti, f) => ¬ n < 0 ∧ n.toNatClampNeg ≤ 65536 ∧ 1 ≤ c ∧ n.toNatClampNeg ≤ k ∧ ∀ q : Nat, q ∉ h.1 → K (pc + 2, .ref q :: rest, ls, (h.1 ++ [q], va_up h.2 q (.inl (ti, f n.toNatClampNeg)))) (c - 1) (k - n.toNatClampNeg)
      | none => False
    | _ => False
  | .ireturn => match st with
    | [.int v] => ∃ ty, (mm_m y).2.2.2.2 = some ty ∧ narrow ty (.int v) = .int v ∧ Q (.inl (some (.int v)), h)
    | _ => False
  | .lreturn => match st with
    | [.long v] => (mm_m y).2.2.2.2 = some .long ∧ Q (.inl (some (.long v)), h)
    | _ => False
  | .dreturn => match st with
    | [.double v] => (mm_m y).2.2.2.2 = some .double ∧ Q (.inl (some (.double v)), h)
    | _ => False
  | .freturn => match st with
    | [.float v] => (mm_m y).2.2.2.2 = some .float ∧ Q (.inl (some (.float v)), h)
    | _ => False
  | .areturn => match st with
    | [.ref v] => ∃ ty, (mm_m y).2.2.2.2 = some ty ∧ ((∃ n, ty = .object n) ∨ ∃ t, ty = .array t) ∧ Q (.inl (some (.ref v)), h)
    | _ => False
  | .return_ => match st with
    | [] => (mm_m y).2.2.2.2 = none ∧ Q (.inl none, h)
    | _ => False
  | ins => match mm_st ins a b pc st ls h with
    | some (none, F) => K F c k
    | some (some P, F) => P ∧ K F c k
    | none => False
/-- one row of the code -/
def mm_row1 (C : mm_Cl) (y : Nat) (Q : mm_Re → Prop) (K : mm_F → Nat → Nat → Prop) (F : mm_F) (c k : Nat) : Prop := match mm_find (mm_cd y) F.1 with
  | some (ins, a, b) => mm_do C y Q K ins a b F.1 F.2.1 F.2.2.1 F.2.2.2 c k
  | none => False
/-- the method comes from here to an end with Q -/
def mm_Ex (C : mm_Cl) (y : Nat) (Q : mm_Re → Prop) (F : mm_F) (c k : Nat) : Prop := ∀ X : mm_F → Nat → Nat → Prop, (∀ F c k, mm_row1 C y Q X F c k → X F c k) → (∀ pc st ls ls2 h c k, (∀ q ∈ ls2, mm_get ls q.1 = some q.2) → X (pc, st, ls2, h) c k → X (pc, st, ls, h) c k) → X F c k
/-- the methods that are not run by the little machine, but by laws of their own -/
def mm_ext : List Nat := [3, 262, 263, 264, 256, 255, 247]
def mm_Run (X : mm_Cl) : Nat → mm_Cl
  | 0 => fun _ _ _ _ _ _ => False
  | d + 1 => fun y c k args h Q => y < 265 ∧ (lg_sl args).length ≤ (mm_m y).2.2.2.1 ∧ if y ∈ mm_ext then X y c k args h Q else mm_Ex (mm_Run X d) y Q (0, [], lv_args 0 args, h) c k
def mm_mono (C : mm_Cl) : Prop := ∀ a mc ms As h (Q1 Q2 : mm_Re → Prop), (∀ r, Q1 r → Q2 r) → C a mc ms As h Q1 → C a mc ms As h Q2
theorem mm_call_mono {C : mm_Cl} (hC : mm_mono C) {Q1 Q2 : mm_Re → Prop} {K1 K2 : mm_F → Nat → Nat → Prop} (hQ : ∀ r, Q1 r → Q2 r) (hK : ∀ F c k, K1 F c k → K2 F c k) {a pc : Nat} {As rest : List Value} {ls : mm_L} {h : mm_S} {c k : Nat} (g : mm_call C Q1 K1 a pc As rest ls h c k) : mm_call C Q2 K2 a pc As rest ls h c k := by
  obtain ⟨mc, ms, h1, h2, h3, h4⟩ := g
  refine ⟨mc, ms, h1, h2, h3, hC _ _ _ _ _ _ _ (fun r hr => ?_) h4⟩
  obtain ⟨o, h5⟩ := r
  cases o with
  | inl v => exact hK _ _ _ hr
  | inr E => exact hQ _ hr
theorem mm_do_mono {C : mm_Cl} (hC : mm_mono C) {y : Nat} {Q1 Q2 : mm_Re → Prop} {K1 K2 : mm_F → Nat → Nat → Prop} (hQ : ∀ r, Q1 r → Q2 r) (hK : ∀ F c k, K1 F c k → K2 F c k) {ins : Instr} {a b pc : Nat} {st : List Value} {ls : mm_L} {h : mm_S} {c k : Nat} (g : mm_do C y Q1 K1 ins a b pc st ls h c k) : mm_do C y Q2 K2 ins a b pc st ls h c k := by
  unfold mm_do at g ⊢
  split at g
  · split at g
    · next e =>
      rw [if_pos e]
      split at g
      · exact ⟨g.1, hK _ _ _ g.2⟩
      · exact g.elim
    next e =>
    rw [if_neg e]
    split at g
    · next e =>
      rw [if_pos e]
      split at g
      · exact ⟨g.1, hK _ _ _ g.2⟩
      · exact g.elim
    next e =>
    rw [if_neg e]
    split at g
    · next e =>
      rw [if_pos e]
      split at g
      · split at g
        · obtain ⟨h1, h2, h3, h4, h5, h6, h7, h8, h9, h10, h11, h12⟩ := g
          exact ⟨h1, h2, h3, h4, h5, h6, h7, h8, h9, h10, h11, hK _ _ _ h12⟩
        · exact g.elim
      · exact g.elim
    next e =>
    rw [if_neg e]
    exact ⟨g.1, g.2.1, mm_call_mono hC hQ hK g.2.2⟩
  · refine ⟨g.1, ?_⟩
    have g := g.2
    split at g
    · split at g
      · exact ⟨g.1, mm_call_mono hC hQ hK g.2⟩
      · exact g.elim
    · exact g.elim
  · split at g
    · next e =>
      rw [if_pos e]
      split at g
      · exact ⟨g.1, hK _ _ _ g.2⟩
      · exact g.elim
    next e =>
    rw [if_neg e]
    split at g
    · next e =>
      rw [if_pos e]
      refine ⟨g.1, ?_⟩
      have g := g.2
      split at g
      · split at g
        · exact ⟨g.1, g.2.1, mm_call_mono hC hQ hK g.2.2⟩
        · exact g.elim
      · exact g.elim
    next e =>
    rw [if_neg e]
    refine ⟨g.1, g.2.1, ?_⟩
    have g := g.2.2
    split at g
    · exact mm_call_mono hC hQ hK g
    · exact g.elim
  · split at g
    · exact ⟨g.1, g.2.1, g.2.2.1, g.2.2.2.1, g.2.2.2.2.1, fun q hq => hK _ _ _ (g.2.2.2.2.2 q hq)⟩
    · exact g.elim
  · split at g
    · next e =>
      rw [if_pos e]
      exact ⟨g.1, g.2.1, fun q hq => hK _ _ _ (g.2.2 q hq)⟩
    next e =>
    rw [if_neg e]
    split at g
    · next e2 =>
      rw [if_pos e2]
      exact ⟨g.1, g.2.1, g.2.2.1, hQ _ g.2.2.2⟩
    · exact g.elim
  · split at g
    · split at g
      · exact ⟨g.1, g.2.1, g.2.2.1, g.2.2.2.1, fun q hq => hK _ _ _ (g.2.2.2.2 q hq)⟩
      · exact g.elim
    · exact g.elim
  · split at g
    · obtain ⟨ty, h1, h2, h3⟩ := g
      exact ⟨ty, h1, h2, hQ _ h3⟩
    · exact g.elim
  · split at g
    · exact ⟨g.1, hQ _ g.2⟩
    · exact g.elim
  · split at g
    · exact ⟨g.1, hQ _ g.2⟩
    · exact g.elim
  · split at g
    · exact ⟨g.1, hQ _ g.2⟩
    · exact g.elim
  · split at g
    · obtain ⟨ty, h1, h2, h3⟩ := g
      exact ⟨ty, h1, h2, hQ _ h3⟩
    · exact g.elim
  · split at g
    · exact ⟨g.1, hQ _ g.2⟩
    · exact g.elim
  · split at g
    · exact hK _ _ _ g
    · exact ⟨g.1, hK _ _ _ g.2⟩
    · exact g.elim
theorem mm_row1_mono {C : mm_Cl} (hC : mm_mono C) {y : Nat} {Q1 Q2 : mm_Re → Prop} {K1 K2 : mm_F → Nat → Nat → Prop} (hQ : ∀ r, Q1 r → Q2 r) (hK : ∀ F c k, K1 F c k → K2 F c k) {F : mm_F} {c k : Nat} (g : mm_row1 C y Q1 K1 F c k) : mm_row1 C y Q2 K2 F c k := by
  unfold mm_row1 at g ⊢
  split at g
  · next e =>
    exact mm_do_mono hC hQ hK g
  · exact g.elim
theorem mm_Ex_go {C : mm_Cl} (hC : mm_mono C) {y : Nat} {Q : mm_Re → Prop} {F : mm_F} {c k : Nat} (g : mm_row1 C y Q (mm_Ex C y Q) F c k) : mm_Ex C y Q F c k := by
  intro X hX hL
  exact hX _ _ _ (mm_row1_mono hC (fun _ h => h) (fun _ _ _ h => h X hX hL) g)
/-- fewer locals, in any order -/
theorem mm_Ex_ls {C : mm_Cl} {y : Nat} {Q : mm_Re → Prop} {pc : Nat} {st : List Value} {ls : mm_L} (ls2 : mm_L) {h : mm_S} {c k : Nat} (hs : ∀ q ∈ ls2, mm_get ls q.1 = some q.2) (g : mm_Ex C y Q (pc, st, ls2, h) c k) : mm_Ex C y Q (pc, st, ls, h) c k := by
  intro X hX hL
  exact hL _ _ _ _ _ _ _ hs (g X hX hL)
theorem mm_Ex_post {C : mm_Cl} (hC : mm_mono C) {y : Nat} {Q1 Q2 : mm_Re → Prop} (hQ : ∀ r, Q1 r → Q2 r) {F : mm_F} {c k : Nat} (g : mm_Ex C y Q1 F c k) : mm_Ex C y Q2 F c k := by
  intro X hX hL
  exact g X (fun F c k hr => hX F c k (mm_row1_mono hC hQ (fun _ _ _ h => h) hr)) hL
theorem mm_Run_mono {X : mm_Cl} (hX : mm_mono X) : ∀ d, mm_mono (mm_Run X d)
  | 0 => fun _ _ _ _ _ _ _ _ h => h.elim
  | d + 1 => fun y _ _ _ _ _ _ hQ h => ⟨h.1, h.2.1, by
    have h3 := h.2.2
    split at h3
    · next e =>
      rw [if_pos e]
      exact hX _ _ _ _ _ _ _ hQ h3
    · next e =>
      rw [if_neg e]
      exact mm_Ex_post (mm_Run_mono hX d) hQ h3⟩
end
section
def mm_wsY (y : Nat) : List Cond := Cond.code (mm_m y).2.1 (mm_m y).2.2.1 (mm_m y).2.2.2.1 (mm_m y).2.2.2.2 :: mm_W
def mm_rm (d c k : Nat) : Room := { frames := d + 9, cells := c, slots := k, locals := 64 * d + 256 }
theorem mm_cw_eq : mm_cw = mm_pr.map (fun q => Cond.code q.2.1 q.2.2.1 q.2.2.2.1 q.2.2.2.2) := by
  simp only [mm_cw, mm_pr, List.map_append]
  rfl
theorem mm_pr_len : mm_pr.length = 265 := by decide +kernel
theorem mm_code_in {y : Nat} (h : y < 265) : Cond.code (mm_m y).2.1 (mm_m y).2.2.1 (mm_m y).2.2.2.1 (mm_m y).2.2.2.2 ∈ mm_W := by
  refine List.mem_append_left _ ?_
  rw [mm_cw_eq]
  refine List.mem_map.mpr ⟨mm_m y, ?_, rfl⟩
  have h2 : y < mm_pr.length := by rw [mm_pr_len]; exact h
  unfold mm_m
  rw [List.getD_eq_getElem?_getD, List.getElem?_eq_getElem h2]
  exact List.getElem_mem h2
/-- what holds of every method -/
def mm_mv (q : Nat × MethodName × ByteArray × Nat × Option FieldType) : Bool := plainName q.2.1.cls && (decide (mm_R q.1 = q.2.1.cls) && (decide (q.2.1.cls ≠ "java/lang/invoke/MethodHandle") && (decide (q.2.1.cls ≠ "java/lang/invoke/VarHandle") && decide (q.2.2.2.1 ≤ 20))))
theorem mm_mv_all : mm_pr.all mm_mv = true := by decide +kernel
theorem mm_mv_at {y : Nat} (h : y < 265) : mm_mv (mm_m y) = true := by
  have h2 : y < mm_pr.length := by rw [mm_pr_len]; exact h
  refine List.all_eq_true.mp mm_mv_all (mm_m y) ?_
  unfold mm_m
  rw [List.getD_eq_getElem?_getD, List.getElem?_eq_getElem h2]
  exact List.getElem_mem h2
/-- what holds of every row of a pool that names a method -/
def mm_rv (r : Nat × Nat × Nat × Nat) : Bool := match r with
  | (_, t, a, b) => if (2 ≤ t ∧ t ≤ 7) ∨ t = 13 ∨ t = 14 then decide (a < 265) && (decide ((parseMethodDescriptor (mm_m a).2.1.desc).map (fun d => d.parameters.length) = some (b % 16)) && ((decide (t ≠ 6) && decide (t ≠ 7)) || (decide ((mm_m a).2.1.name = "<init>") && decide ((mm_m a).2.2.2.2 = none))) && (decide (t ≠ 14) || decide ((mm_m a).2.1.name ≠ "<init>"))) else true
theorem mm_rv_all : (List.range 14).all (fun o => (mm_lnk o).all mm_rv) = true := by decide +kernel
theorem mm_rv_at {o i t a b : Nat} (h : mm_look (mm_lnk o) i = some (t, a, b)) : mm_rv (i, t, a, b) = true :=
  List.all_eq_true.mp (List.all_eq_true.mp mm_rv_all o (List.mem_range.mpr (mm_own_lt h))) _ (mm_look_in h)
theorem mm_nest_form : ∀ w ∈ mm_N, (∃ a i b n d h, w = .fieldLinkNest a i b n d h) ∨ ∃ a i x h, w = .methodLinkNest a i x h := by
  intro w hw
  obtain ⟨o, -, h⟩ := List.mem_flatMap.mp hw
  obtain ⟨⟨i, t, a, b⟩, -, h⟩ := List.mem_flatMap.mp h
  unfold mm_rn at h
  dsimp only at h
  split at h
  · exact Or.inl ⟨_, _, _, _, _, _, List.mem_singleton.mp h⟩
  · exact Or.inr ⟨_, _, _, _, List.mem_singleton.mp h⟩
  · exact Or.inr ⟨_, _, _, _, List.mem_singleton.mp h⟩
  · exact Or.inr ⟨_, _, _, _, List.mem_singleton.mp h⟩
  · cases h
theorem mm_nest_warm {s U : State} (hW : s.WarmedH U.vm) (h : ∀ w ∈ mm_N, va_Nw w s) : ∀ w ∈ mm_N, va_Nw w U := by
  intro w hw
  rcases mm_nest_form w hw with ⟨a, i, b, n, d, hh, rfl⟩ | ⟨a, i, x, hh, rfl⟩
  · exact va_Nw.warmF hW (h _ hw)
  · exact va_Nw.warmM hW (h _ hw)
theorem mm_nest_same {s U : State} (hv : s.vm = U.vm) (h : ∀ w ∈ mm_N, va_Nw w s) : ∀ w ∈ mm_N, va_Nw w U := by
  intro w hw
  rcases mm_nest_form w hw with ⟨a, i, b, n, d, hh, rfl⟩ | ⟨a, i, x, hh, rfl⟩
  · exact va_Nw.same rfl hv (h _ hw)
  · exact va_Nw.same rfl hv (h _ hw)
theorem mm_goodW {w : Cond} (h : w ∈ mm_W) : (w.onTables && w.keeps) = true ∨ ∃ ty, w = .arrayClass ty := (mm_good _ h).2
theorem mm_wsY_good {y : Nat} (h : y < 265) : GoodIn mm_W (mm_wsY y) := by
  intro w hw
  rcases List.mem_cons.mp hw with e | h2
  · rw [e]
    exact ⟨mm_code_in h, (mm_good _ (mm_code_in h)).2⟩
  · exact ⟨h2, (mm_good _ h2).2⟩
/-- what the start of a method gives, beside its arguments -/
def mm_B (D : va_G) (tys : List (ClassId × FieldType)) (b0 : Nat) (Amb : State → Heap → Prop) (h : mm_S) (U : State) : Prop :=
  mm_rep D tys b0 h U.heap ∧ va_K D mm_cl tys U ∧ (∀ w ∈ mm_N, va_Nw w U) ∧ b0 ≤ U.heap.size ∧ Amb U U.heap
def mm_Qc (D : va_G) (tys : List (ClassId × FieldType)) (b0 : Nat) (Q : mm_Re → Prop) : Array Value → State → Outcome → State → Prop := fun _ st o t =>
  (∃ (v : Option Value) (h2 : mm_S), o = .returned v ∧ Q (.inl v, h2) ∧ mm_rep D tys b0 h2 t.heap) ∧ va_F (mm_A b0) st t
def mm_XC (D : va_G) (tys : List (ClassId × FieldType)) (b0 : Nat) (Q : mm_Re → Prop) : String → State → State → Prop := fun E st t =>
  (∃ h2 : mm_S, Q (.inr E, h2) ∧ mm_rep D tys b0 h2 t.heap) ∧ va_F (mm_A b0) st t
/-- the contract of a method that the little machine runs -/
def mm_Met (l : Launch) (D : va_G) (tys : List (ClassId × FieldType)) (b0 : Nat) (Amb : State → Heap → Prop) (d y c k : Nat) (args : List Value) (h : mm_S) (Q : mm_Re → Prop) : Prop :=
  vx_Met l (mm_m y).2.1 (mm_wsY y) (mm_rm d c k) (va_Pc args (mm_B D tys b0 Amb h)) (mm_Qc D tys b0 Q) (mm_XC D tys b0 Q) c k (mm_A b0)
/-- the laws of what is given beside: it lasts, and an exception can be thrown -/
def mm_AL (l : Launch) (D : va_G) (tys : List (ClassId × FieldType)) (b0 : Nat) (Amb : State → Heap → Prop) : Prop :=
  (∀ (u U : State) (H H1 : Heap), u.WarmedH U.vm → b0 ≤ H.size → (∀ q : Nat, q < b0 → H1[q]? = H[q]?) → Amb u H → Amb U H1) ∧
  (∀ (u U : State) (H : Heap), u.vm = U.vm → Amb u H → Amb U H) ∧
  (∀ (u : State) (H : Heap), Amb u H → va_AO RX0 u ∧ va_AO RX2 u ∧ va_AO RX3 u) ∧
  (∀ (u : State) (H : Heap), Amb u H → ∀ i : Nat, i < 9 → ∃ cell : Cell, H[D.1 (100 + i)]? = some cell ∧ cell.vm.isStatics = false ∧ u.vm.findClass RJ0 = some cell.cls) ∧
  (∀ (p : Program) (e : Env) (R : Room) (s : State) (m : MethodId) (args : Array Value) (below : List Frame) (meth : Method) (c : Code) (H : Heap) (locs : List Loc) (cells slots mc ms : Nat) (cc : ByteArray) (nL o : Nat) (ini : Bool) (Qc : Array Value → State → Outcome → State → Prop) (XC : String → State → State → Prop) (i a b pc : Nat) (la : Array Slot) (rest : List Value),
    mm_Cx p s m args meth c cc nL o ini D tys → Amb s s.heap → b0 ≤ s.heap.size → (b = 16 ∨ b = 17) → mm_tk o cc pc (.new i) a b = true → decode cc pc = .ok (.new i, 3) → va_S (mm_A b0) s.heap H locs → la.size = nL → (∀ x ∈ c.exceptionTable.toList, False) → mm_wd rest ≤ 8 → 9 ≤ R.frames → 256 ≤ R.locals → cells + 1 ≤ R.cells → slots + 6 ≤ R.slots → cells + 1 ≤ mc → slots + 6 ≤ ms → meth.locks = false →
    (∀ t : State, s.vm.Alike t.vm → H.size ≤ t.heap.size → (∀ q : Nat, q < H.size → t.heap[q]? = H[q]?) → XC (mm_exc.getD (mm_th a).2.2.2.2.1 "") s t) →
    W p l e R s m args below meth c H locs cells slots (vx_MQ below Qc XC args s mc ms (mm_A b0)) (F0 m pc la rest))
section MMC
variable {p : Program} {l : Launch} {e : Env} {R : Room} {s : State} {m : MethodId} {args : Array Value} {below : List Frame} {meth : Method} {c : Code} {H : Heap} {locs : List Loc} {cells slots : Nat}
variable {cc : ByteArray} {nL o : Nat} {ini : Bool} {D : va_G} {tys : List (ClassId × FieldType)} {b0 : Nat} {Amb : State → Heap → Prop}
/-- behind a call: the little machine goes on, or the throw leaves this method too -/
theorem mm_called {mc ms tc tk pc : Nat} {a : Array Value} {la : Array Slot} {ls : mm_L} {st0 rest : List Value} {Q Q2 : mm_Re → Prop}
    (hr : vx_Run p l e R s m args below meth c H locs cells slots mc ms (F0 m pc la st0) rest (mm_Qc D tys b0 Q2 a) (mm_XC D tys b0 Q2) (mm_A b0))
    (hl : lv_has la nL ls) (hS : va_S (mm_A b0) s.heap H locs) (hout : ∀ x ∈ c.exceptionTable.toList, False) (hlocks : meth.locks = false) (hc : cells + mc ≤ tc) (hk : slots + ms ≤ tk)
    (kk : ∀ (v : Option Value) (h2 : mm_S), Q2 (.inl v, h2) → mm_K p l e R s m args below meth c (cells + mc) (slots + ms) (vx_MQ below (mm_Qc D tys b0 Q) (mm_XC D tys b0 Q) args s tc tk (mm_A b0)) nL D tys b0 s.heap (pc + 3, v.toList ++ rest, ls, h2))
    (kx : ∀ (E : String) (h2 : mm_S), Q2 (.inr E, h2) → Q (.inr E, h2)) :
    W p l e R s m args below meth c H locs cells slots (vx_MQ below (mm_Qc D tys b0 Q) (mm_XC D tys b0 Q) args s tc tk (mm_A b0)) (F0 m pc la st0) := by
  intro T hT X
  rcases hr T hT X with ⟨v, st₀, t, T', L, h0, X', hL, e1, e2, ⟨⟨v', h2, hv, hq, hrep⟩, hF⟩, st⟩ | ⟨q, st₀, t, T', L, E, ce, h0, X', hL, e1, e2, ⟨⟨h2, hq, hrep⟩, hF⟩, hce, hcv, hcl, st⟩
  · cases hv
    obtain ⟨-, -, k3⟩ := vx_keep h0 e1 hS (fun _ _ h => h) (fun _ h => h) hL hF
    obtain ⟨t2, a1, b1⟩ := kk v h2 hq la T'.heap (locs ++ L) hl (by rw [e1]; exact hrep) k3 T' rfl X'
    exact ⟨t2, st t2 a1, b1⟩
  · obtain ⟨-, -, k3⟩ := vx_keep h0 e1 hS (fun _ _ h => h) (fun _ h => h) hL hF
    obtain ⟨t2, a1, b1⟩ := vx_out (p := p) (l := l) (e := e) (R := R) (s := s) (m := m) (args := args) (below := below) (meth := meth) (c := c) (H := T'.heap) (locs := locs ++ L) (cells := cells + mc) (slots := slots + ms) (Qc := mm_Qc D tys b0 Q) (XC := mm_XC D tys b0 Q) (free := mm_A b0) (mc := tc) (ms := tk) (pc := pc) (ls := la) (rest := rest) (E := E) (ce := ce) (q := q)
      (fun x hx => (hout x hx).elim) hlocks (by rw [e1]; exact hce) hcv hcl (fun t3 h3 h4 => ⟨⟨h2, kx E h2 hq, by rw [h3, e1]; exact hrep⟩, k3.F h3⟩) k3.2.2 hc hk T' rfl X'
    exact ⟨t2, st.trans a1, b1⟩
end MMC
end
section
section MMD
variable {p : Program} {l : Launch} {e : Env} {R : Room} {s : State} {m : MethodId} {args : Array Value} {below : List Frame} {meth : Method} {cd : Code} {H : Heap} {locs : List Loc}
variable {cc : ByteArray} {nL o y d c k : Nat} {ini : Bool} {D : va_G} {tys : List (ClassId × FieldType)} {b0 : Nat} {Amb : State → Heap → Prop} {X : mm_Cl} {Q : mm_Re → Prop}
/-- what holds of the walked method all along -/
def mm_Z (p : Program) (l : Launch) (R : Room) (s : State) (m : MethodId) (args : Array Value) (meth : Method) (cd : Code) (cc : ByteArray) (nL o : Nat) (ini : Bool) (y d c k : Nat) (D : va_G) (tys : List (ClassId × FieldType)) (b0 : Nat) (Amb : State → Heap → Prop) (X : mm_Cl) : Prop :=
  mm_Cx p s m args meth cd cc nL o ini D tys ∧ R = mm_rm (d + 1) c k ∧ meth.sig.returnType = (mm_m y).2.2.2.2 ∧ meth.locks = false ∧ (∀ x ∈ cd.exceptionTable.toList, False) ∧ b0 ≤ s.heap.size ∧ Amb s s.heap ∧ mm_AL l D tys b0 Amb ∧
  (∀ (y c k : Nat) (args : List Value) (h : mm_S) (Q : mm_Re → Prop), mm_Run X d y c k args h Q → mm_Met l D tys b0 Amb d y c k args h Q)
/-- going on, with so many cells and slots left -/
def mm_KK (p : Program) (l : Launch) (e : Env) (R : Room) (s : State) (m : MethodId) (args : Array Value) (below : List Frame) (meth : Method) (cd : Code) (c k : Nat) (Q : mm_Re → Prop) (nL : Nat) (D : va_G) (tys : List (ClassId × FieldType)) (b0 : Nat) : mm_F → Nat → Nat → Prop := fun F c2 k2 =>
  c2 ≤ c → k2 ≤ k → mm_K p l e R s m args below meth cd (c - c2) (k - k2) (vx_MQ below (mm_Qc D tys b0 Q) (mm_XC D tys b0 Q) args s c k (mm_A b0)) nL D tys b0 s.heap F
theorem mm_pre (hA : mm_AL l D tys b0 Amb) (hb0 : b0 ≤ s.heap.size) (hamb : Amb s s.heap) (hK : va_K D mm_cl tys s) (hnw : ∀ w ∈ mm_N, va_Nw w s) {h : mm_S} (hr : mm_rep D tys b0 h H) (hS : va_S (mm_A b0) s.heap H locs) (As : List Value) :
    ∀ U : State, U.heap = H → s.WarmedH U.vm → va_Pc As (mm_B D tys b0 Amb h) As.toArray U := by
  intro U hU hW
  refine ⟨rfl, by rw [hU]; exact hr, va_K.moved hW.alike hK, mm_nest_warm hW hnw, by rw [hU]; exact Nat.le_trans hb0 hS.1, ?_⟩
  refine hA.1 s U s.heap U.heap hW hb0 (fun q hq => ?_) hamb
  rw [hU]
  exact hS.2.1 q (Nat.lt_of_lt_of_le hq hb0) (Nat.not_le.mpr hq)
theorem mm_blind (hA : mm_AL l D tys b0 Amb) (As : List Value) (h : mm_S) : FrameBlind (va_Pc As (mm_B D tys b0 Amb h)) := by
  intro a U g mk q
  obtain ⟨e1, hrep, hK, hnw, hb, hamb⟩ := q
  exact ⟨e1, hrep, va_K.moved (u := U) (U := U.calling g mk a) (Vm.Alike.refl U.vm) hK, mm_nest_same (s := U) (U := U.calling g mk a) rfl hnw, hb, hA.2.1 U (U.calling g mk a) U.heap rfl hamb⟩
/-- a call, its run given by one of the machine's rows -/
theorem mm_callS (Z : mm_Z p l R s m args meth cd cc nL o ini y d c k D tys b0 Amb X) {a pc c2 k2 : Nat} {As rest st : List Value} {ls : mm_L} {h : mm_S}
    (g : mm_call (mm_Run X d) Q (mm_KK p l e R s m args below meth cd c k Q nL D tys b0) a pc As rest ls h c2 k2)
    (hrun : ∀ (mc ms : Nat) (Q2 : mm_Re → Prop) (la : Array Slot) (H : Heap) (locs : List Loc), mc ≤ c2 → ms ≤ k2 → c2 ≤ c → k2 ≤ k → mm_wd rest ≤ 8 → a < 265 → mm_Met l D tys b0 Amb d a mc ms As h Q2 → lv_has la nL ls → mm_rep D tys b0 h H → va_S (mm_A b0) s.heap H locs →
      vx_Run p l e R s m args below meth cd H locs (c - c2) (k - k2) mc ms (F0 m pc la st) rest (mm_Qc D tys b0 Q2 As.toArray) (mm_XC D tys b0 Q2) (mm_A b0)) :
    mm_KK p l e R s m args below meth cd c k Q nL D tys b0 (pc, st, ls, h) c2 k2 := by
  obtain ⟨CX, rfl, hret, hlocks, hout, hb0, hamb, hA, IH⟩ := Z
  intro hc hk la H locs hl hr hS
  obtain ⟨mc, ms, h1, h2, h3, h4⟩ := g
  have ha : a < 265 := by
    cases d with
    | zero => exact h4.elim
    | succ d => exact h4.1
  refine mm_called (nL := nL) (hrun mc ms _ la H locs h1 h2 hc hk h3 ha (IH _ _ _ _ _ _ h4) hl hr hS) hl hS hout hlocks (by omega) (by omega) (fun v h2' hq => ?_) (fun E h2' hq => hq)
  have hk2 := hq (by omega) (by omega)
  intro la' H' locs' hl' hr' hS'
  refine W.cs (show c - c2 + mc = c - (c2 - mc) by omega) (show k - k2 + ms = k - (k2 - ms) by omega) (hk2 la' H' locs' hl' hr' hS')
theorem mm_take {st : List Value} {n : Nat} (h : n ≤ st.length) : (st.take n).reverse.length = n := by
  rw [List.length_reverse, List.length_take]
  omega
theorem mm_stk {st : List Value} {n : Nat} : st = (st.take n).reverse.reverse ++ st.drop n := by
  rw [List.reverse_reverse, List.take_append_drop]
theorem mm_stkV {st rest : List Value} {n q : Nat} (h : st.drop n = .ref q :: rest) : st = (st.take n).reverse.reverse ++ .ref q :: rest := by
  rw [← h, List.reverse_reverse, List.take_append_drop]
theorem mm_room (d c k mc ms maxL : Nat) (h : maxL ≤ 20) : (mm_rm d mc ms).frames + 1 ≤ (mm_rm (d + 1) c k).frames ∧ 8 + (maxL + 11) + (mm_rm d mc ms).locals ≤ (mm_rm (d + 1) c k).locals := by
  simp only [mm_rm]
  omega
theorem mm_mvs {y : Nat} (h : y < 265) : plainName (mm_m y).2.1.cls = true ∧ mm_R (mm_m y).1 = (mm_m y).2.1.cls ∧ (mm_m y).2.1.cls ≠ "java/lang/invoke/MethodHandle" ∧ (mm_m y).2.1.cls ≠ "java/lang/invoke/VarHandle" ∧ (mm_m y).2.2.2.1 ≤ 20 := by
  have h1 := mm_mv_at h
  simp only [mm_mv, Bool.and_eq_true, decide_eq_true_eq] at h1
  exact h1
theorem mm_rvs {o i t a b : Nat} (h : mm_look (mm_lnk o) i = some (t, a, b)) (ht : (2 ≤ t ∧ t ≤ 7) ∨ t = 13 ∨ t = 14) : (parseMethodDescriptor (mm_m a).2.1.desc).map (fun d => d.parameters.length) = some (b % 16) ∧ (t = 6 ∨ t = 7 → (mm_m a).2.1.name = "<init>" ∧ (mm_m a).2.2.2.2 = none) ∧ (t = 14 → (mm_m a).2.1.name ≠ "<init>") := by
  have h1 := mm_rv_at h
  simp only [mm_rv, if_pos ht, Bool.and_eq_true, Bool.or_eq_true, decide_eq_true_eq] at h1
  obtain ⟨-, ⟨h2, h3⟩, h4⟩ := h1
  refine ⟨h2, fun h5 => ?_, fun h5 => ?_⟩
  · rcases h3 with h3 | h3
    · omega
    · exact h3
  · rcases h4 with h4 | h4
    · omega
    · exact h4
theorem mm_rowB {o i : Nat} {r : Nat × Nat × Nat} {s : State} {args : Array Value} (hts : ∀ w ∈ mm_W, w.before args s = true) (h : mm_look (mm_lnk o) i = some r) : ∀ w ∈ mm_rw o (i, r), w.before args s = true := fun w hw => hts w (mm_row h w hw)
theorem mm_rowNB {o i : Nat} {r : Nat × Nat × Nat} {s : State} (hnw : ∀ w ∈ mm_N, va_Nw w s) (h : mm_look (mm_lnk o) i = some r) : ∀ w ∈ mm_rn o (i, r), va_Nw w s := fun w hw => hnw w (mm_rowN h w hw)

theorem mm_cS (Z : mm_Z p l R s m args meth cd cc nL o ini y d c k D tys b0 Amb X) {i a b pc c2 k2 : Nat} {st : List Value} {ls : mm_L} {h : mm_S} (hd : decode cc pc = .ok (.invokestatic i, 3)) (hl0 : mm_look (mm_lnk o) i = some (2, a, b)) (hn : b % 16 ≤ st.length) (g : mm_call (mm_Run X d) Q (mm_KK p l e R s m args below meth cd c k Q nL D tys b0) a pc (st.take (b % 16)).reverse (st.drop (b % 16)) ls h c2 k2) : mm_KK p l e R s m args below meth cd c k Q nL D tys b0 (pc, st, ls, h) c2 k2 := by
  obtain ⟨CX, rfl, hret, hlocks, hout, hb0, hamb, hA, IH⟩ := id Z
  obtain ⟨hx, hb, hml, hts, hnw, hown, hini, hK, hty⟩ := id CX
  have hb := hb
  have w := mm_rowB hts hl0
  have hv := mm_rvs hl0 (by omega)
  refine mm_callS Z g (fun mc ms Q2 la H locs h1 h2 hc hk hw ha hM hl hr hS => ?_)
  obtain ⟨hpl, how, hmh, hvh, hmx⟩ := mm_mvs ha
  have hG : GoodIn mm_W (mm_wsY a) := mm_wsY_good ha
  have hR := mm_room d c k mc ms (mm_m a).2.2.2.1 hmx
  have hf : c - c2 + mc ≤ (mm_rm (d + 1) c k).cells ∧ k - k2 + ms ≤ (mm_rm (d + 1) c k).slots := by simp only [mm_rm]; omega
  have hS0 := mm_pre (l := l) hA hb0 hamb hK hnw hr hS
  exact vx_runS ⟨hx, hb, hml, hown, hts⟩ hM ⟨callB_of (b % 16) hts hG rfl rfl rfl (w _ (List.mem_cons_of_mem _ (List.mem_cons_of_mem _ List.mem_cons_self))) (w _ List.mem_cons_self) ⟨hmh, hvh, hv.1⟩ hR, w _ (List.mem_cons_of_mem _ List.mem_cons_self)⟩ ⟨mm_blind hA _ _, hS0 _⟩ rfl (mm_take hn) hl.1 mm_stk (lv_room hw) hd hf
theorem mm_cSN (Z : mm_Z p l R s m args meth cd cc nL o ini y d c k D tys b0 Amb X) {i a b pc c2 k2 : Nat} {st : List Value} {ls : mm_L} {h : mm_S} (hd : decode cc pc = .ok (.invokestatic i, 3)) (hl0 : mm_look (mm_lnk o) i = some (3, a, b)) (hn : b % 16 ≤ st.length) (g : mm_call (mm_Run X d) Q (mm_KK p l e R s m args below meth cd c k Q nL D tys b0) a pc (st.take (b % 16)).reverse (st.drop (b % 16)) ls h c2 k2) : mm_KK p l e R s m args below meth cd c k Q nL D tys b0 (pc, st, ls, h) c2 k2 := by
  obtain ⟨CX, rfl, hret, hlocks, hout, hb0, hamb, hA, IH⟩ := id Z
  obtain ⟨hx, hb, hml, hts, hnw, hown, hini, hK, hty⟩ := id CX
  have hb := hb
  have w := mm_rowB hts hl0
  have hv := mm_rvs hl0 (by omega)
  have wn := mm_rowNB hnw hl0
  refine mm_callS Z g (fun mc ms Q2 la H locs h1 h2 hc hk hw ha hM hl hr hS => ?_)
  obtain ⟨hpl, how, hmh, hvh, hmx⟩ := mm_mvs ha
  have hG : GoodIn mm_W (mm_wsY a) := mm_wsY_good ha
  have hR := mm_room d c k mc ms (mm_m a).2.2.2.1 hmx
  have hf : c - c2 + mc ≤ (mm_rm (d + 1) c k).cells ∧ k - k2 + ms ≤ (mm_rm (d + 1) c k).slots := by simp only [mm_rm]; omega
  have hS0 := mm_pre (l := l) hA hb0 hamb hK hnw hr hS
  exact vx_runSN ⟨hx, hb, hml, hown, hts⟩ hM ⟨va_cnB (b % 16) hts hG rfl rfl rfl (wn _ List.mem_cons_self) (w _ (List.mem_cons_of_mem _ List.mem_cons_self)) ⟨hmh, hvh, hv.1⟩ hR, w _ List.mem_cons_self, trivial⟩ ⟨mm_blind hA _ _, hS0 _⟩ rfl (mm_take hn) hl.1 mm_stk (lv_room hw) hd hf
theorem mm_cV (Z : mm_Z p l R s m args meth cd cc nL o ini y d c k D tys b0 Amb X) {i a b pc c2 k2 : Nat} {st : List Value} {ls : mm_L} {h : mm_S} (hd : decode cc pc = .ok (.invokevirtual i, 3)) (hl0 : mm_look (mm_lnk o) i = some (4, a, b)) {q : Nat} {rest : List Value} (hn : b % 16 ≤ st.length) (hq0 : st.drop (b % 16) = .ref q :: rest) (g : mm_call (mm_Run X d) Q (mm_KK p l e R s m args below meth cd c k Q nL D tys b0) a pc (.ref q :: (st.take (b % 16)).reverse) rest ls h c2 k2) {ci : Nat} {fs : List Value} (hq : q ∈ h.1) (hci : ci < 8) (hcell : h.2 q = .inr (ci, fs)) (hcls : (mm_C ci).1 = (mm_m a).2.1.cls) : mm_KK p l e R s m args below meth cd c k Q nL D tys b0 (pc, st, ls, h) c2 k2 := by
  obtain ⟨CX, rfl, hret, hlocks, hout, hb0, hamb, hA, IH⟩ := id Z
  obtain ⟨hx, hb, hml, hts, hnw, hown, hini, hK, hty⟩ := id CX
  have hb := hb
  have w := mm_rowB hts hl0
  have hv := mm_rvs hl0 (by omega)
  refine mm_callS Z g (fun mc ms Q2 la H locs h1 h2 hc hk hw ha hM hl hr hS => ?_)
  obtain ⟨hpl, how, hmh, hvh, hmx⟩ := mm_mvs ha
  have hG : GoodIn mm_W (mm_wsY a) := mm_wsY_good ha
  have hR := mm_room d c k mc ms (mm_m a).2.2.2.1 hmx
  have hf : c - c2 + mc ≤ (mm_rm (d + 1) c k).cells ∧ k - k2 + ms ≤ (mm_rm (d + 1) c k).slots := by simp only [mm_rm]; omega
  have hS0 := mm_pre (l := l) hA hb0 hamb hK hnw hr hS
  obtain ⟨k0, hk0⟩ := mm_ws_get (tys := tys) hq
  rw [hcell] at hk0
  have hrc := va_recv hK hr.1 (mm_cl_at hci) hk0
  rw [hcls] at hrc
  exact vx_runV ⟨hx, hb, hml, hown, hts⟩ hM ⟨callB_of (b % 16) hts hG rfl rfl rfl (w _ (List.mem_cons_of_mem _ (List.mem_cons_of_mem _ (List.mem_cons_of_mem _ List.mem_cons_self)))) (w _ List.mem_cons_self) ⟨hmh, hvh, hv.1⟩ hR, w _ (List.mem_cons_of_mem _ List.mem_cons_self), w _ (List.mem_cons_of_mem _ (List.mem_cons_of_mem _ List.mem_cons_self))⟩ ⟨mm_blind hA _ _, hrc, hS0 _⟩ rfl (mm_take hn) hl.1 (mm_stkV hq0) (lv_room hw) hd hf
theorem mm_cVS (Z : mm_Z p l R s m args meth cd cc nL o ini y d c k D tys b0 Amb X) {i a b pc c2 k2 : Nat} {st : List Value} {ls : mm_L} {h : mm_S} (hd : decode cc pc = .ok (.invokevirtual i, 3)) (hl0 : mm_look (mm_lnk o) i = some (4, a, b)) {q : Nat} {rest : List Value} (hn : b % 16 ≤ st.length) (hq0 : st.drop (b % 16) = .ref q :: rest) (g : mm_call (mm_Run X d) Q (mm_KK p l e R s m args below meth cd c k Q nL D tys b0) a pc (.ref q :: (st.take (b % 16)).reverse) rest ls h c2 k2) (hcell : h.2 q = .inr (9, [])) (hcls : (mm_m a).2.1.cls = RJ0) : mm_KK p l e R s m args below meth cd c k Q nL D tys b0 (pc, st, ls, h) c2 k2 := by
  obtain ⟨CX, rfl, hret, hlocks, hout, hb0, hamb, hA, IH⟩ := id Z
  obtain ⟨hx, hb, hml, hts, hnw, hown, hini, hK, hty⟩ := id CX
  have hb := hb
  have w := mm_rowB hts hl0
  have hv := mm_rvs hl0 (by omega)
  refine mm_callS Z g (fun mc ms Q2 la H locs h1 h2 hc hk hw ha hM hl hr hS => ?_)
  obtain ⟨hpl, how, hmh, hvh, hmx⟩ := mm_mvs ha
  have hG : GoodIn mm_W (mm_wsY a) := mm_wsY_good ha
  have hR := mm_room d c k mc ms (mm_m a).2.2.2.1 hmx
  have hf : c - c2 + mc ≤ (mm_rm (d + 1) c k).cells ∧ k - k2 + ms ≤ (mm_rm (d + 1) c k).slots := by simp only [mm_rm]; omega
  have hS0 := mm_pre (l := l) hA hb0 hamb hK hnw hr hS
  obtain ⟨i9, hi9, rfl⟩ := hr.2.2 q hcell
  have hamb2 : Amb s H := hA.1 s s s.heap H (State.WarmedH.refl s) hb0 (fun q9 hq9 => hS.2.1 q9 (Nat.lt_of_lt_of_le hq9 hb0) (Nat.not_le.mpr hq9)) hamb
  have hrc := hA.2.2.2.1 s H hamb2 i9 hi9
  rw [← hcls] at hrc
  exact vx_runV ⟨hx, hb, hml, hown, hts⟩ hM ⟨callB_of (b % 16) hts hG rfl rfl rfl (w _ (List.mem_cons_of_mem _ (List.mem_cons_of_mem _ (List.mem_cons_of_mem _ List.mem_cons_self)))) (w _ List.mem_cons_self) ⟨hmh, hvh, hv.1⟩ hR, w _ (List.mem_cons_of_mem _ List.mem_cons_self), w _ (List.mem_cons_of_mem _ (List.mem_cons_of_mem _ List.mem_cons_self))⟩ ⟨mm_blind hA _ _, hrc, hS0 _⟩ rfl (mm_take hn) hl.1 (mm_stkV hq0) (lv_room hw) hd hf
theorem mm_cVN (Z : mm_Z p l R s m args meth cd cc nL o ini y d c k D tys b0 Amb X) {i a b pc c2 k2 : Nat} {st : List Value} {ls : mm_L} {h : mm_S} (hd : decode cc pc = .ok (.invokevirtual i, 3)) (hl0 : mm_look (mm_lnk o) i = some (5, a, b)) {q : Nat} {rest : List Value} (hn : b % 16 ≤ st.length) (hq0 : st.drop (b % 16) = .ref q :: rest) (g : mm_call (mm_Run X d) Q (mm_KK p l e R s m args below meth cd c k Q nL D tys b0) a pc (.ref q :: (st.take (b % 16)).reverse) rest ls h c2 k2) {ci : Nat} {fs : List Value} (hq : q ∈ h.1) (hci : ci < 8) (hcell : h.2 q = .inr (ci, fs)) (hcls : (mm_C ci).1 = (mm_m a).2.1.cls) : mm_KK p l e R s m args below meth cd c k Q nL D tys b0 (pc, st, ls, h) c2 k2 := by
  obtain ⟨CX, rfl, hret, hlocks, hout, hb0, hamb, hA, IH⟩ := id Z
  obtain ⟨hx, hb, hml, hts, hnw, hown, hini, hK, hty⟩ := id CX
  have hb := hb
  have w := mm_rowB hts hl0
  have hv := mm_rvs hl0 (by omega)
  have wn := mm_rowNB hnw hl0
  refine mm_callS Z g (fun mc ms Q2 la H locs h1 h2 hc hk hw ha hM hl hr hS => ?_)
  obtain ⟨hpl, how, hmh, hvh, hmx⟩ := mm_mvs ha
  have hG : GoodIn mm_W (mm_wsY a) := mm_wsY_good ha
  have hR := mm_room d c k mc ms (mm_m a).2.2.2.1 hmx
  have hf : c - c2 + mc ≤ (mm_rm (d + 1) c k).cells ∧ k - k2 + ms ≤ (mm_rm (d + 1) c k).slots := by simp only [mm_rm]; omega
  have hS0 := mm_pre (l := l) hA hb0 hamb hK hnw hr hS
  obtain ⟨k0, hk0⟩ := mm_ws_get (tys := tys) hq
  rw [hcell] at hk0
  have hrc := va_recv hK hr.1 (mm_cl_at hci) hk0
  rw [hcls] at hrc
  exact vx_runVN ⟨hx, hb, hml, hown, hts⟩ hM ⟨va_cnB (b % 16) hts hG rfl rfl rfl (wn _ List.mem_cons_self) (w _ (List.mem_cons_of_mem _ (List.mem_cons_of_mem _ List.mem_cons_self))) ⟨hmh, hvh, hv.1⟩ hR, w _ List.mem_cons_self, w _ (List.mem_cons_of_mem _ List.mem_cons_self)⟩ ⟨mm_blind hA _ _, hrc, hS0 _⟩ rfl (mm_take hn) hl.1 (mm_stkV hq0) (lv_room hw) hd hf
theorem mm_cI (Z : mm_Z p l R s m args meth cd cc nL o ini y d c k D tys b0 Amb X) {i a b pc c2 k2 : Nat} {st : List Value} {ls : mm_L} {h : mm_S} (hd : decode cc pc = .ok (.invokespecial i, 3)) (hl0 : mm_look (mm_lnk o) i = some (6, a, b)) {q : Nat} {rest : List Value} (hn : b % 16 ≤ st.length) (hq0 : st.drop (b % 16) = .ref q :: rest) (g : mm_call (mm_Run X d) Q (mm_KK p l e R s m args below meth cd c k Q nL D tys b0) a pc (.ref q :: (st.take (b % 16)).reverse) rest ls h c2 k2) : mm_KK p l e R s m args below meth cd c k Q nL D tys b0 (pc, st, ls, h) c2 k2 := by
  obtain ⟨CX, rfl, hret, hlocks, hout, hb0, hamb, hA, IH⟩ := id Z
  obtain ⟨hx, hb, hml, hts, hnw, hown, hini, hK, hty⟩ := id CX
  have hb := hb
  have w := mm_rowB hts hl0
  have hv := mm_rvs hl0 (by omega)
  refine mm_callS Z g (fun mc ms Q2 la H locs h1 h2 hc hk hw ha hM hl hr hS => ?_)
  obtain ⟨hpl, how, hmh, hvh, hmx⟩ := mm_mvs ha
  have hG : GoodIn mm_W (mm_wsY a) := mm_wsY_good ha
  have hR := mm_room d c k mc ms (mm_m a).2.2.2.1 hmx
  have hf : c - c2 + mc ≤ (mm_rm (d + 1) c k).cells ∧ k - k2 + ms ≤ (mm_rm (d + 1) c k).slots := by simp only [mm_rm]; omega
  have hS0 := mm_pre (l := l) hA hb0 hamb hK hnw hr hS
  obtain ⟨hn1, hn2⟩ := hv.2.1 (by omega)
  have hM2 := hM
  unfold mm_Met mm_wsY at hM2
  rw [hn2] at hM2
  have hG2 : GoodIn mm_W (Cond.code (mm_m a).2.1 (mm_m a).2.2.1 (mm_m a).2.2.2.1 none :: mm_W) := by
    have h9 := hG
    unfold mm_wsY at h9
    rw [hn2] at h9
    exact h9
  exact vx_runI ⟨hx, hb, hml, hown, hts⟩ hM2 ⟨callB_of (b % 16) hts hG2 rfl rfl rfl (w _ (List.mem_cons_of_mem _ (List.mem_cons_of_mem _ List.mem_cons_self))) (w _ List.mem_cons_self) ⟨hmh, hvh, hv.1⟩ hR, hn1, w _ (List.mem_cons_of_mem _ List.mem_cons_self)⟩ ⟨mm_blind hA _ _, hS0 _⟩ rfl (mm_take hn) hl.1 (mm_stkV hq0) (lv_room hw) hd hf
theorem mm_cIN (Z : mm_Z p l R s m args meth cd cc nL o ini y d c k D tys b0 Amb X) {i a b pc c2 k2 : Nat} {st : List Value} {ls : mm_L} {h : mm_S} (hd : decode cc pc = .ok (.invokespecial i, 3)) (hl0 : mm_look (mm_lnk o) i = some (7, a, b)) {q : Nat} {rest : List Value} (hn : b % 16 ≤ st.length) (hq0 : st.drop (b % 16) = .ref q :: rest) (g : mm_call (mm_Run X d) Q (mm_KK p l e R s m args below meth cd c k Q nL D tys b0) a pc (.ref q :: (st.take (b % 16)).reverse) rest ls h c2 k2) : mm_KK p l e R s m args below meth cd c k Q nL D tys b0 (pc, st, ls, h) c2 k2 := by
  obtain ⟨CX, rfl, hret, hlocks, hout, hb0, hamb, hA, IH⟩ := id Z
  obtain ⟨hx, hb, hml, hts, hnw, hown, hini, hK, hty⟩ := id CX
  have hb := hb
  have w := mm_rowB hts hl0
  have hv := mm_rvs hl0 (by omega)
  have wn := mm_rowNB hnw hl0
  refine mm_callS Z g (fun mc ms Q2 la H locs h1 h2 hc hk hw ha hM hl hr hS => ?_)
  obtain ⟨hpl, how, hmh, hvh, hmx⟩ := mm_mvs ha
  have hG : GoodIn mm_W (mm_wsY a) := mm_wsY_good ha
  have hR := mm_room d c k mc ms (mm_m a).2.2.2.1 hmx
  have hf : c - c2 + mc ≤ (mm_rm (d + 1) c k).cells ∧ k - k2 + ms ≤ (mm_rm (d + 1) c k).slots := by simp only [mm_rm]; omega
  have hS0 := mm_pre (l := l) hA hb0 hamb hK hnw hr hS
  obtain ⟨hn1, hn2⟩ := hv.2.1 (by omega)
  have hM2 := hM
  unfold mm_Met mm_wsY at hM2
  rw [hn2] at hM2
  have hG2 : GoodIn mm_W (Cond.code (mm_m a).2.1 (mm_m a).2.2.1 (mm_m a).2.2.2.1 none :: mm_W) := by
    have h9 := hG
    unfold mm_wsY at h9
    rw [hn2] at h9
    exact h9
  exact vx_runIN ⟨hx, hb, hml, hown, hts⟩ hM2 ⟨va_cnB (b % 16) hts hG2 rfl rfl rfl (wn _ List.mem_cons_self) (w _ (List.mem_cons_of_mem _ List.mem_cons_self)) ⟨hmh, hvh, hv.1⟩ hR, hn1, w _ List.mem_cons_self⟩ ⟨mm_blind hA _ _, hS0 _⟩ rfl (mm_take hn) hl.1 (mm_stkV hq0) (lv_room hw) hd hf
theorem mm_cU (Z : mm_Z p l R s m args meth cd cc nL o ini y d c k D tys b0 Amb X) {i a b pc c2 k2 : Nat} {st : List Value} {ls : mm_L} {h : mm_S} (hd : decode cc pc = .ok (.invokevirtual i, 3)) (hl0 : mm_look (mm_lnk o) i = some (13, a, b)) {q : Nat} {rest : List Value} (hn : b % 16 ≤ st.length) (hq0 : st.drop (b % 16) = .ref q :: rest) (g : mm_call (mm_Run X d) Q (mm_KK p l e R s m args below meth cd c k Q nL D tys b0) a pc (.ref q :: (st.take (b % 16)).reverse) rest ls h c2 k2) {fs : List Value} (hq : q ∈ h.1) (hcell : h.2 q = .inr (7, fs)) : mm_KK p l e R s m args below meth cd c k Q nL D tys b0 (pc, st, ls, h) c2 k2 := by
  obtain ⟨CX, rfl, hret, hlocks, hout, hb0, hamb, hA, IH⟩ := id Z
  obtain ⟨hx, hb, hml, hts, hnw, hown, hini, hK, hty⟩ := id CX
  have hb := hb
  have w := mm_rowB hts hl0
  have hv := mm_rvs hl0 (by omega)
  refine mm_callS Z g (fun mc ms Q2 la H locs h1 h2 hc hk hw ha hM hl hr hS => ?_)
  obtain ⟨hpl, how, hmh, hvh, hmx⟩ := mm_mvs ha
  have hG : GoodIn mm_W (mm_wsY a) := mm_wsY_good ha
  have hR := mm_room d c k mc ms (mm_m a).2.2.2.1 hmx
  have hf : c - c2 + mc ≤ (mm_rm (d + 1) c k).cells ∧ k - k2 + ms ≤ (mm_rm (d + 1) c k).slots := by simp only [mm_rm]; omega
  have hS0 := mm_pre (l := l) hA hb0 hamb hK hnw hr hS
  obtain ⟨k0, hk0⟩ := mm_ws_get (tys := tys) hq
  rw [hcell] at hk0
  have hrc := va_recv hK hr.1 (mm_cl_at (a := 7) (by decide)) hk0
  have hT : ∀ w ∈ mm_rw o (i, (13, a, b)), w ∈ mm_W ∧ ((w.onTables && w.keeps) = true ∨ ∃ ty, w = .arrayClass ty) := fun w hw => ⟨mm_row hl0 w hw, mm_goodW (mm_row hl0 w hw)⟩
  have hT2 : GoodIn mm_W (va_wsU (mm_R o) i RJ4 (mm_m a).2.1.cls (mm_m a).2.1 (mm_m a).2.1 (mm_wsY a)) := fun w hw => (List.mem_append.mp hw).elim (fun h9 => hT w h9) (fun h9 => hG w h9)
  exact vx_runU (C := RJ4) ⟨hx, hb, hml, hown, hts⟩ hM (va_cwU (b % 16) hts hT2 rfl rfl rfl rfl ⟨hmh, hvh, hv.1⟩ hR) ⟨mm_blind hA _ _, hrc, hS0 _⟩ rfl (mm_take hn) hl.1 (mm_stkV hq0) (lv_room hw) hd hf
theorem mm_cSU (Z : mm_Z p l R s m args meth cd cc nL o ini y d c k D tys b0 Amb X) {i a b pc c2 k2 : Nat} {st : List Value} {ls : mm_L} {h : mm_S} (hd : decode cc pc = .ok (.invokespecial i, 3)) (hl0 : mm_look (mm_lnk o) i = some (14, a, b)) {q : Nat} {rest : List Value} (hn : b % 16 ≤ st.length) (hq0 : st.drop (b % 16) = .ref q :: rest) (g : mm_call (mm_Run X d) Q (mm_KK p l e R s m args below meth cd c k Q nL D tys b0) a pc (.ref q :: (st.take (b % 16)).reverse) rest ls h c2 k2) {ci : Nat} {fs : List Value} (hq : q ∈ h.1) (hci : ci < 8) (hcell : h.2 q = .inr (ci, fs)) : mm_KK p l e R s m args below meth cd c k Q nL D tys b0 (pc, st, ls, h) c2 k2 := by
  obtain ⟨CX, rfl, hret, hlocks, hout, hb0, hamb, hA, IH⟩ := id Z
  obtain ⟨hx, hb, hml, hts, hnw, hown, hini, hK, hty⟩ := id CX
  have hb := hb
  have w := mm_rowB hts hl0
  have hv := mm_rvs hl0 (by omega)
  refine mm_callS Z g (fun mc ms Q2 la H locs h1 h2 hc hk hw ha hM hl hr hS => ?_)
  obtain ⟨hpl, how, hmh, hvh, hmx⟩ := mm_mvs ha
  have hG : GoodIn mm_W (mm_wsY a) := mm_wsY_good ha
  have hR := mm_room d c k mc ms (mm_m a).2.2.2.1 hmx
  have hf : c - c2 + mc ≤ (mm_rm (d + 1) c k).cells ∧ k - k2 + ms ≤ (mm_rm (d + 1) c k).slots := by simp only [mm_rm]; omega
  have hS0 := mm_pre (l := l) hA hb0 hamb hK hnw hr hS
  obtain ⟨k0, hk0⟩ := mm_ws_get (tys := tys) hq
  rw [hcell] at hk0
  have hrc := va_recv hK hr.1 (mm_cl_at hci) hk0
  have hT : ∀ w ∈ mm_rw o (i, (14, a, b)), w ∈ mm_W ∧ ((w.onTables && w.keeps) = true ∨ ∃ ty, w = .arrayClass ty) := fun w hw => ⟨mm_row hl0 w hw, mm_goodW (mm_row hl0 w hw)⟩
  have hT2 : GoodIn mm_W (va_wsSU (mm_R o) i (mm_m a).2.1 (mm_wsY a)) := fun w hw => (List.mem_append.mp hw).elim (fun h9 => hT w h9) (fun h9 => hG w h9)
  exact vx_runSU (C := (mm_C ci).1) (hK.1 ci _ (mm_cl_at hci)).2 ⟨hx, hb, hml, hown, hts⟩ hM (va_cwSU (b % 16) hts hT2 rfl rfl rfl ⟨hv.2.2 rfl, hv.1⟩ hR) ⟨mm_blind hA _ _, hrc, hS0 _⟩ rfl (mm_take hn) hl.1 (mm_stkV hq0) (lv_room hw) hd hf
end MMD
end
section
theorem mm_dflok {a : Nat} (h : a < 8) : ∀ j, j < (mm_C a).2.2 → defaultValue (mm_fty a j) = vp_V (mm_dfl a) j := by
  match a, h with
  | 0, _ => decide +kernel
  | 1, _ => decide +kernel
  | 2, _ => decide +kernel
  | 3, _ => decide +kernel
  | 4, _ => decide +kernel
  | 5, _ => decide +kernel
  | 6, _ => decide +kernel
  | 7, _ => decide +kernel
theorem mm_ws_new {A : Nat → Prop} {tys : List (ClassId × FieldType)} {h : mm_S} {q : Nat} {c : mm_Ce} (hD : va_D A (mm_ws tys h ++ [(q, mm_cv tys c)])) : q ∉ h.1 ∧ mm_ws tys h ++ [(q, mm_cv tys c)] = mm_ws tys (h.1 ++ [q], va_up h.2 q c) := by
  have hq : q ∉ h.1 := va_pl_fresh2 (X := []) (by simpa [mm_ws] using hD)
  refine ⟨hq, ?_⟩
  unfold mm_ws
  rw [va_pl_push hq]
  refine va_pl_congr fun a => ?_
  simp only [va_up]
  split <;> rfl
theorem mm_xin {w : Cond} (h : w ∈ mm_xw) : w ∈ mm_W := List.mem_append_right _ (List.mem_append_right _ (List.mem_append_left _ h))
section MMT
variable {p : Program} {l : Launch} {e : Env} {R : Room} {s : State} {m : MethodId} {args : Array Value} {below : List Frame} {meth : Method} {cd : Code} {H : Heap} {locs : List Loc}
variable {cc : ByteArray} {nL o y d c k : Nat} {ini : Bool} {D : va_G} {tys : List (ClassId × FieldType)} {b0 : Nat} {Amb : State → Heap → Prop} {X : mm_Cl} {Q : mm_Re → Prop}
theorem mm_lkS {i a b : Nat} (hk : mm_lk o nL ini (.invokestatic i) a b = true) (h : b ≠ 999) : mm_look (mm_lnk o) i = some (b / 16, a, b) := by
  simp only [mm_lk, Bool.or_eq_true, Bool.and_eq_true, decide_eq_true_eq, beq_iff_eq] at hk
  rcases hk with e | e
  · exact absurd e h
  · exact e.2
theorem mm_lkV {i a b : Nat} (hk : mm_lk o nL ini (.invokevirtual i) a b = true) (h : b ≠ 999) : mm_look (mm_lnk o) i = some (b / 16, a, b) := by
  simp only [mm_lk, Bool.or_eq_true, Bool.and_eq_true, decide_eq_true_eq, beq_iff_eq] at hk
  rcases hk with e | e
  · exact absurd e h
  · exact e.2
theorem mm_lkI {i a b : Nat} (hk : mm_lk o nL ini (.invokespecial i) a b = true) (h : b ≠ 999) (h8 : b ≠ 128) : mm_look (mm_lnk o) i = some (b / 16, a, b) := by
  simp only [mm_lk, Bool.or_eq_true, Bool.and_eq_true, decide_eq_true_eq, beq_iff_eq] at hk
  rcases hk with (e | e) | e
  · exact absurd e h
  · exact absurd e.1 h8
  · exact e.2
theorem mm_doS (Z : mm_Z p l R s m args meth cd cc nL o ini y d c k D tys b0 Amb X) {ins : Instr} {a b pc c2 k2 : Nat} {st : List Value} {ls : mm_L} {h : mm_S} (hd : decode cc pc = .ok (ins, mm_len ins b)) (hk : mm_lk o nL ini ins a b = true) (ht : mm_tk o cc pc ins a b = true)
    (g : mm_do (mm_Run X d) y Q (mm_KK p l e R s m args below meth cd c k Q nL D tys b0) ins a b pc st ls h c2 k2) : mm_KK p l e R s m args below meth cd c k Q nL D tys b0 (pc, st, ls, h) c2 k2 := by
  obtain ⟨CX, hRe, hret, hlocks, hout, hb0, hamb, hA, IH⟩ := id Z
  obtain ⟨hx, hb, hml, hts, hnw, hown, hini, hK, hty⟩ := id CX
  have hRf : 9 ≤ R.frames ∧ 256 ≤ R.locals ∧ R.cells = c ∧ R.slots = k := by
    rw [hRe]
    exact ⟨by show 9 ≤ d + 1 + 9; omega, by show 256 ≤ 64 * (d + 1) + 256; omega, rfl, rfl⟩
  obtain ⟨hR1, hR2, hR3, hR4⟩ := hRf
  unfold mm_do at g
  split at g
  · next i =>
    split at g
    · next eb =>
      subst eb
      split at g
      · intro hc hk2 la H locs hl hr hS
        have w := mm_rowB hts (mm_lkS hk (by decide))
        refine va_mmin hx hb (hml.trans hl.1.symm) hown (w _ List.mem_cons_self) (w _ (List.mem_cons_of_mem _ List.mem_cons_self)) (w _ (List.mem_cons_of_mem _ (List.mem_cons_of_mem _ List.mem_cons_self))) (w _ (List.mem_cons_of_mem _ (List.mem_cons_of_mem _ (List.mem_cons_of_mem _ List.mem_cons_self)))) (by omega) ?_ (by omega) (by omega) hd (g.2 hc hk2 la H locs hl hr hS)
        have := g.1
        unfold mm_wd at this
        omega
      · exact g.elim
    split at g
    · next eb =>
      subst eb
      split at g
      · intro hc hk2 la H locs hl hr hS
        have w := mm_rowB hts (mm_lkS hk (by decide))
        refine va_mmax hx hb (hml.trans hl.1.symm) hown (w _ List.mem_cons_self) (w _ (List.mem_cons_of_mem _ List.mem_cons_self)) (w _ (List.mem_cons_of_mem _ (List.mem_cons_of_mem _ List.mem_cons_self))) (w _ (List.mem_cons_of_mem _ (List.mem_cons_of_mem _ (List.mem_cons_of_mem _ List.mem_cons_self)))) (by omega) ?_ (by omega) (by omega) hd (g.2 hc hk2 la H locs hl hr hS)
        have := g.1
        unfold mm_wd at this
        omega
      · exact g.elim
    split at g
    · next eb =>
      subst eb
      split at g
      · next n dp q1 sp q0 r =>
        split at g
        · next t0 n0 f t1 n1 g1 e0 e1 =>
          obtain ⟨hq0, hq1, rfl, h04, h5, h6, h7, h8, h9, h10, h11, h12⟩ := g
          intro hc hk2 la H locs hl hr hS
          have w := mm_rowB hts (mm_lkS hk (by decide))
          obtain ⟨k0, hk0⟩ := mm_ws_get (tys := tys) hq0
          obtain ⟨k1, hk1⟩ := mm_ws_get (tys := tys) hq1
          have hk1b := hk1
          rw [e0] at hk0
          rw [e1] at hk1b
          have hta := mm_ty_at hty (t := t0) (by omega)
          refine va_copyi hx hb (hml.trans hl.1.symm) hown (w _ List.mem_cons_self) (w _ (List.mem_cons_of_mem _ List.mem_cons_self)) (w _ (List.mem_cons_of_mem _ (List.mem_cons_of_mem _ List.mem_cons_self))) (w _ (List.mem_cons_of_mem _ (List.mem_cons_of_mem _ (List.mem_cons_of_mem _ List.mem_cons_self)))) hK hr.1 hr.2.1 hS k0 k1 t0 t0 hk0 hk1b hta hta (by rcases h04 with rfl | rfl <;> rfl) h5 h6 h7 h8 h9 h10 (by omega) ?_ hd (fun H2 locs2 hP2 hD2 hS2 => ?_)
          · have : nativeFrameWords "java/lang/System" "arraycopy" 5 = 7 := by decide
            unfold mm_wd at h11
            omega
          · have es := mm_ws_set (c := .inl (t0, n1, .inl (va_cpy f g1 sp.toNatClampNeg dp.toNatClampNeg n.toNatClampNeg))) hr.2.1 hq1 hk1
            exact h12 hc hk2 la H2 locs2 hl (by unfold mm_rep; exact ⟨es ▸ hP2, es ▸ hD2, mm_mk_up hr.2.2 (fun z => by cases z)⟩) hS2
        · exact g.elim
      · exact g.elim
    obtain ⟨hb16, hn, g⟩ := g
    have hlk := mm_lkS hk (by omega)
    rcases hb16 with e9 | e9 <;> rw [e9] at hlk
    · exact mm_cS Z hd hlk hn g
    · exact mm_cSN Z hd hlk hn g
  · next i =>
    obtain ⟨hn, g⟩ := g
    split at g
    · next q rest hdr =>
      split at g
      · next ci fs hcell =>
        obtain ⟨hkind, g⟩ := g
        rcases hkind with ⟨hq, hci, hkind⟩ | ⟨ha9, e9, rfl, rfl⟩
        · rcases hkind with ⟨e9 | e9, hcls⟩ | ⟨e9, rfl⟩ <;> have hlk := mm_lkV hk (by omega) <;> rw [e9] at hlk
          · exact mm_cV Z hd hlk hn hdr g hq hci hcell hcls
          · exact mm_cVN Z hd hlk hn hdr g hq hci hcell hcls
          · exact mm_cU Z hd hlk hn hdr g hq hcell
        · have hlk := mm_lkV hk (by omega)
          rw [e9] at hlk
          exact mm_cVS Z hd hlk hn hdr g hcell (by rcases ha9 with rfl | rfl <;> rfl)
      · exact g.elim
    · exact g.elim
  · next i =>
    split at g
    · next eb =>
      subst eb
      split at g
      · intro hc hk2 la H locs hl hr hS
        have hlk : mm_look (mm_lnk o) i = some (8, 0, 0) := by
          simp only [mm_lk, Bool.or_eq_true, Bool.and_eq_true, decide_eq_true_eq, beq_iff_eq] at hk
          rcases hk with (e | e) | e
          · exact absurd e (by decide)
          · exact e.2
          · exact absurd e.1 (by decide)
        have w := mm_rowB hts hlk
        refine W.objInit hx hb hown (w _ List.mem_cons_self) (w _ (List.mem_cons_of_mem _ List.mem_cons_self)) (hts _ (mm_xin List.mem_cons_self)) rfl (hl.1.trans hml.symm) rfl hd (by omega) ?_ (g.2 hc hk2 la H locs hl hr hS)
        have := g.1
        unfold mm_wd at this
        show 2 * 0 + _ + 12 ≤ _
        omega
      · exact g.elim
    next e8 =>
    split at g
    · next e14 =>
      obtain ⟨hn, g⟩ := g
      have hlk := mm_lkI hk (by omega) e8
      rw [e14] at hlk
      split at g
      · next q rest hdr =>
        split at g
        · next ci fs hcell => exact mm_cSU Z hd hlk hn hdr g.2.2 g.1 g.2.1 hcell
        · exact g.elim
      · exact g.elim
    obtain ⟨hb16, hn, g⟩ := g
    have hlk := mm_lkI hk (by omega) e8
    split at g
    · next q rest hdr =>
      rcases hb16 with e9 | e9 <;> rw [e9] at hlk
      · exact mm_cI Z hd hlk hn hdr g
      · exact mm_cIN Z hd hlk hn hdr g
    · exact g.elim
  · next i =>
    split at g
    · next n rest =>
      obtain ⟨h1, h2, h3, h4, h5, g⟩ := g
      intro hc hk2 la H locs hl hr hS
      simp only [mm_lk, Bool.and_eq_true, decide_eq_true_eq] at hk
      have w := mm_rowB hts hk.1
      obtain ⟨ao0, ao2, ao3⟩ := hA.2.2.1 s s.heap hamb
      have hao : va_AO (mm_C a).1 s := by rcases h1 with rfl | rfl | rfl <;> assumption
      have hati : mm_ati a < 9 ∧ mm_tyl.getD (mm_ati a) .int = .object (mm_C a).1 := by rcases h1 with rfl | rfl | rfl <;> exact ⟨by decide, rfl⟩
      have hta := mm_ty_at hty hati.1
      rw [hati.2] at hta
      refine va_newq (C := (mm_C a).1) hx hb hown (w _ List.mem_cons_self) hao hK hr.1 hr.2.1 hS (fun q hq => Nat.le_trans hb0 hq) h2 rfl (by omega) (by omega) (by omega) hd (fun q cA H1 hK1 hP1 hD1 hS1 => ?_)
      have e1 := (hK1.2 tys.length (cA, .object (mm_C a).1) (by simp)).2
      have e2 := (hK.2 (mm_ati a) _ hta).2
      have e3 : cA = (tys.getD (mm_ati a) (0, .int)).1 := by
        obtain ⟨_, _, _, _, _, z1⟩ := e1
        obtain ⟨_, _, _, _, _, z2⟩ := e2
        exact Option.some.inj (z1.symm.trans z2)
      subst e3
      obtain ⟨hqn, es⟩ := mm_ws_new (c := .inl (mm_ati a, n.toNatClampNeg, .inr (.inr (.inr (.inr (fun _ => none)))))) hD1
      have g2 := g q hqn (by omega) (by omega) la H1 locs hl (by unfold mm_rep; exact ⟨es ▸ hP1, es ▸ hD1, mm_mk_up hr.2.2 (fun z => by cases z)⟩) hS1
      exact W.cs (by omega) (by omega) g2
    · exact g.elim
  · next i =>
    split at g
    · next eb =>
      subst eb
      obtain ⟨h1, h2, g⟩ := g
      intro hc hk2 la H locs hl hr hS
      simp only [mm_lk, Bool.or_eq_true, Bool.and_eq_true, decide_eq_true_eq, bne_self_eq_false, Bool.false_eq_true, false_or] at hk
      have w := mm_rowB hts hk.1
      refine va_new (C := (mm_C a).1) (T := (mm_C a).2.1) (N := (mm_C a).2.2) hx hb hts (mm_yin hk.2) (mm_fty a) (mm_ftyok hk.2) hown (w _ List.mem_cons_self) (w _ (List.mem_cons_of_mem _ List.mem_cons_self)) (w _ (List.mem_cons_of_mem _ (List.mem_cons_of_mem _ List.mem_cons_self))) hK hr.1 hr.2.1 hS (fun q hq => Nat.le_trans hb0 hq) (mm_cl_at hk.2) (mm_dflok hk.2) (by omega) (by omega) hd (fun q H1 hP1 hD1 hS1 => ?_)
      obtain ⟨hqn, es⟩ := mm_ws_new (c := .inr (a, mm_dfl a)) hD1
      have g2 := g q hqn (by omega) (by omega) la H1 locs hl (by unfold mm_rep; exact ⟨es ▸ hP1, es ▸ hD1, mm_mk_up hr.2.2 (fun z => absurd (congrArg Prod.fst (Sum.inr.inj z)) (by have := hk.2; show ¬ a = 9; omega))⟩) hS1
      exact W.cs (by omega) (by omega) g2
    split at g
    · next eb =>
      obtain ⟨h1, h2, h3, g⟩ := g
      intro hc hk2 la H locs hl hr hS
      refine hA.2.2.2.2 p e R s m args below meth cd H locs (c - c2) (k - k2) c k cc nL o ini _ _ i a b pc la st CX hamb hb0 eb ht hd hS hl.1 hout h3 hR1 hR2 (by omega) (by omega) (by omega) (by omega) hlocks (fun t hal hsz hold => ?_)
      refine ⟨⟨h, g, hr.1.kept (fun k9 x hx9 => hold x.1 ((hr.1 k9 x hx9).lt)), hr.2.1, hr.2.2⟩, Nat.le_trans hS.1 hsz, fun q hq hq2 => ?_⟩
      rw [hold q (Nat.lt_of_lt_of_le hq hS.1)]
      exact hS.2.1 q hq hq2
    · exact g.elim
  · next t =>
    split at g
    · next n rest =>
      split at g
      · next ti f ef =>
        obtain ⟨h1, h2, h3, h4, g⟩ := g
        intro hc hk2 la H locs hl hr hS
        have key : ∀ (ty : FieldType), newarray.typeOf t = ty → ti < 9 → mm_tyl.getD ti .int = ty → Cond.arrayClass ty ∈ mm_xw → (∀ cA : ClassId, vp_cell cA (f n.toNatClampNeg) = arrV cA n.toNatClampNeg (fun _ => defaultValue ty)) → componentBytes ty ≤ 8 → (∀ (cA : ClassId) , va_RA s cA ty → s.vm.findClass ("[" ++ ty.toString) = some cA) → W p l e R s m args below meth cd H locs (c - c2) (k - k2) (vx_MQ below (mm_Qc D tys b0 Q) (mm_XC D tys b0 Q) args s c k (mm_A b0)) (F0 m pc la (.int n :: rest)) := by
          intro ty e1 e2 e3 e4 e5 e6 e7
          have hta := mm_ty_at hty e2
          rw [e3] at hta
          refine va_newa hx hb (by rw [e1]; exact hts _ (mm_xin e4)) e1 hK hr.1 hr.2.1 hS (fun q hq => Nat.le_trans hb0 hq) e5 h1 rfl (Nat.le_trans (Nat.mul_le_mul h2 e6) (by decide)) (by omega) (by omega) hd (fun q cA H1 hK1 hP1 hD1 hS1 => ?_)
          have z1 := e7 _ (hK1.2 tys.length (cA, ty) (by simp)).2
          have z2 := e7 _ (hK.2 ti _ hta).2
          have e8 : cA = (tys.getD ti (0, .int)).1 := Option.some.inj (z1.symm.trans z2)
          subst e8
          obtain ⟨hqn, es⟩ := mm_ws_new (c := .inl (ti, f n.toNatClampNeg)) hD1
          have g2 := g q hqn (by omega) (by omega) la H1 locs hl (by unfold mm_rep; exact ⟨es ▸ hP1, es ▸ hD1, mm_mk_up hr.2.2 (fun z => by cases z)⟩) hS1
          exact W.cs (by omega) (by omega) g2
        cases t <;> simp only [mm_arn] at ef <;> cases ef
        · exact key .boolean rfl (by decide) rfl (by decide) (fun _ => rfl) (by decide) (fun _ z => z)
        · exact key .double rfl (by decide) rfl (by decide) (fun _ => rfl) (by decide) (fun _ z => z)
        · exact key .byte rfl (by decide) rfl (by decide) (fun _ => rfl) (by decide) (fun _ z => z)
        · exact key .int rfl (by decide) rfl (by decide) (fun _ => rfl) (by decide) (fun _ z => z)
        · exact key .long rfl (by decide) rfl (by decide) (fun _ => rfl) (by decide) (fun _ z => z)
      · exact g.elim
    · exact g.elim
  · split at g
    · next v =>
      obtain ⟨ty, e1, e2, hq⟩ := g
      intro hc hk2 la H locs hl hr hS
      refine W.widen (k := c) (n := k) (by omega) (by omega) (vx_ret ?_)
      exact W.zret hx hb (hret.trans e1) e2 (fun t ht hW => ⟨⟨some (.int v), h, rfl, hq, by rw [ht]; exact hr⟩, hS.F ht⟩) hS.2.2 hd (hlocks := hlocks)
    · exact g.elim
  · split at g
    · next v =>
      obtain ⟨e1, hq⟩ := g
      intro hc hk2 la H locs hl hr hS
      refine W.widen (k := c) (n := k) (by omega) (by omega) (vx_ret ?_)
      exact W.lret hx hb (hret.trans e1) (fun t ht hW => ⟨⟨some (.long v), h, rfl, hq, by rw [ht]; exact hr⟩, hS.F ht⟩) hS.2.2 hd (hlocks := hlocks)
    · exact g.elim
  · split at g
    · next v =>
      obtain ⟨e1, hq⟩ := g
      intro hc hk2 la H locs hl hr hS
      refine W.widen (k := c) (n := k) (by omega) (by omega) (vx_ret ?_)
      exact W.dret hx hb (hret.trans e1) (fun t ht hW => ⟨⟨some (.double v), h, rfl, hq, by rw [ht]; exact hr⟩, hS.F ht⟩) hS.2.2 hd (hlocks := hlocks)
    · exact g.elim
  · split at g
    · next v =>
      obtain ⟨e1, hq⟩ := g
      intro hc hk2 la H locs hl hr hS
      refine W.widen (k := c) (n := k) (by omega) (by omega) (vx_ret ?_)
      exact W.fret hx hb (hret.trans e1) (fun t ht hW => ⟨⟨some (.float v), h, rfl, hq, by rw [ht]; exact hr⟩, hS.F ht⟩) hS.2.2 hd (hlocks := hlocks)
    · exact g.elim
  · split at g
    · next v =>
      obtain ⟨ty, e1, e2, hq⟩ := g
      intro hc hk2 la H locs hl hr hS
      refine W.widen (k := c) (n := k) (by omega) (by omega) (vx_ret ?_)
      exact W.aret hx hb (hret.trans e1) e2 (Or.inr ⟨v, rfl⟩) (fun t ht hW => ⟨⟨some (.ref v), h, rfl, hq, by rw [ht]; exact hr⟩, hS.F ht⟩) hS.2.2 hd (hlocks := hlocks)
    · exact g.elim
  · split at g
    · obtain ⟨e1, hq⟩ := g
      intro hc hk2 la H locs hl hr hS
      refine W.widen (k := c) (n := k) (by omega) (by omega) (vx_ret ?_)
      exact W.vret hx hb (hret.trans e1) (fun t ht hW => ⟨⟨none, h, rfl, hq, by rw [ht]; exact hr⟩, hS.F ht⟩) hS.2.2 hd (hlocks := hlocks)
    · exact g.elim
  · split at g
    · next F ef =>
      intro hc hk2
      exact mm_step CX ins a b pc st ls h _ ef (fun x z => by cases z) hd hk (g hc hk2)
    · next P F ef =>
      intro hc hk2
      exact mm_step CX ins a b pc st ls h _ ef (fun x z => by cases z; exact g.1) hd hk (g.2 hc hk2)
    · exact g.elim
end MMT
theorem mm_find_in {l : List mm_E} {pc : Nat} {r : Instr × Nat × Nat} (h : mm_find l pc = some r) : (pc, r) ∈ l := by
  induction l with
  | nil => cases h
  | cons q l ih =>
    unfold mm_find at h
    split at h
    · next e =>
      cases h
      rw [← e]
      exact List.mem_cons_self
    · exact List.mem_cons_of_mem _ (ih h)
/-- THE LITTLE MACHINE IS THE MACHINE: what it runs, the machine does -/
theorem mm_sound (l : Launch) (D : va_G) (tys : List (ClassId × FieldType)) (b0 : Nat) (Amb : State → Heap → Prop) (hty : tys.map (fun q => q.2) = mm_tyl) (hA : mm_AL l D tys b0 Amb) (X : mm_Cl) (hX : mm_mono X)
    (hXs : ∀ (d y c k : Nat) (args : List Value) (h : mm_S) (Q : mm_Re → Prop), y ∈ mm_ext → X y c k args h Q → mm_Met l D tys b0 Amb d y c k args h Q) :
    ∀ (d y c k : Nat) (args : List Value) (h : mm_S) (Q : mm_Re → Prop), mm_Run X d y c k args h Q → mm_Met l D tys b0 Amb d y c k args h Q := by
  intro d
  induction d with
  | zero => intro y c k args h Q hrun; exact hrun.elim
  | succ d IH =>
    intro y c k args h Q hrun
    obtain ⟨hy, hle, hrun⟩ := hrun
    split at hrun
    · next e => exact hXs _ _ _ _ _ _ _ e hrun
    obtain ⟨hpl, how, hmh, hvh, hmx⟩ := mm_mvs hy
    have hcd := List.all_eq_true.mp (mm_cdok y hy)
    refine vx_ofW (cc := (mm_m y).2.2.1) (maxL := (mm_m y).2.2.2.1) (ret := (mm_m y).2.2.2.2) hpl rfl ?_
    intro p e s m args' below meth cd s₁ B hml hout hv
    obtain ⟨rfl, hrep, hK, hnw, hb0, hamb⟩ := hv
    have hts0 := atoms_spec (ws := mm_wsY y) B.pre
    have hts : ∀ w ∈ mm_W, w.before args.toArray s = true := fun w hw => hts0 w (List.mem_cons_of_mem _ hw)
    have hown : s.vm.findClass (mm_R (mm_m y).1) = some m.cls := by
      rw [how]
      exact findClass_of_methodNamed B.named
    have hname : meth.name = (mm_m y).2.1.name := (name_of_methodNamed B.named B.method).1
    have CX : mm_Cx p s m args.toArray meth cd (mm_m y).2.2.1 (mm_m y).2.2.2.1 (mm_m y).1 (mm_ini y) D tys := ⟨B.exec, B.bytes, hml, hts, hnw, hown, fun z => by rw [hname]; simpa [mm_ini] using z, hK, hty⟩
    rw [lg_entry_eq]
    have hl := lv_entry args hle
    have main := hrun (mm_KK p l e (mm_rm (d + 1) c k) s m args.toArray below meth cd c k Q (mm_m y).2.2.2.1 D tys b0) ?_ ?_ (Nat.le_refl _) (Nat.le_refl _) _ s.heap [] hl hrep va_S.rf
    · have main2 := main
      simp only [Nat.sub_self] at main2
      exact main2
    · intro F c2 k2 hrow
      obtain ⟨pc, st, ls, h2⟩ := F
      unfold mm_row1 at hrow
      split at hrow
      · next ins a b ef =>
        have h9 := hcd _ (mm_find_in ef)
        simp only [mm_eok, Bool.and_eq_true, decide_eq_true_eq] at h9
        exact mm_doS (cc := (mm_m y).2.2.1) (o := (mm_m y).1) (ini := mm_ini y) (d := d) (X := X) ⟨CX, rfl, B.returns, B.notSynchronized, hout, hb0, hamb, hA, IH⟩ h9.1 h9.2.1 h9.2.2 hrow
      · exact hrow.elim
    · intro pc st ls ls2 h2 c2 k2 hs g hc hk la H locs hl2 hr hS
      exact g hc hk la H locs ⟨hl2.1, hl2.2.1, fun q hq => mm_at hl2 (hs q hq)⟩ hr hS
end
section
theorem mm_bind {α β : Type} {o : Option α} {f : α → Option β} {r : β} (h : o.bind f = some r) : ∃ x, o = some x ∧ f x = some r := by
  cases o with
  | none => cases h
  | some x => exact ⟨x, rfl, h⟩
theorem mm_ite {α : Type} {c : Prop} [Decidable c] {a b : Option α} {r : α} (h : (if c then a else b) = some r) : (c ∧ a = some r) ∨ (¬ c ∧ b = some r) := by
  by_cases hc : c
  · rw [if_pos hc] at h
    exact Or.inl ⟨hc, h⟩
  · rw [if_neg hc] at h
    exact Or.inr ⟨hc, h⟩
abbrev ki (n : Int) : Int32 := Int32.ofInt n
abbrev kb (n : Int) : Int32 := (Int8.ofInt n).toInt32
abbrev ks (n : Int) : Int32 := (Int16.ofInt n).toInt32
abbrev kl (n : Nat) : Int64 := Int64.ofNat n
/-! reading and writing the world, as functions -/
def fx_obj (h : mm_S) (q ci : Nat) : Option (List Value) := if q ∈ h.1 then match h.2 q with
    | .inr (c, fs) => if c = ci then some fs else none
    | _ => none
  else none
def fx_gI (h : mm_S) (q ci k : Nat) : Option Int32 := (fx_obj h q ci).bind fun fs => match fs[k]? with
  | some (.int x) => some x
  | _ => none
def fx_gL (h : mm_S) (q ci k : Nat) : Option Int64 := (fx_obj h q ci).bind fun fs => match fs[k]? with
  | some (.long x) => some x
  | _ => none
def fx_gR (h : mm_S) (q ci k : Nat) : Option Nat := (fx_obj h q ci).bind fun fs => match fs[k]? with
  | some (.ref x) => some x
  | _ => none
def fx_pV (h : mm_S) (q ci k : Nat) (v : Value) : Option mm_S := (fx_obj h q ci).bind fun fs => if k < fs.length ∧ narrow (mm_fty ci k) v = v ∧ fits (mm_fty ci k) v = true then some (mm_put h q (.inr (ci, fs.set k v))) else none
def fx_is (h : mm_S) (q ci : Nat) : Option Unit := (fx_obj h q ci).bind fun _ => some ()
def fx_arI (h : mm_S) (q : Nat) (ts : List Nat) : Option (Nat × Nat × (Nat → Int32)) := if q ∈ h.1 then match h.2 q with
    | .inl (t, n, .inl g) => if t ∈ ts then some (t, n, g) else none
    | _ => none
  else none
def fx_in (j : Int32) (n : Nat) : Bool := !(decide (j < 0) || decide (n ≤ j.toNatClampNeg))
theorem fx_in_of {j : Int32} {n : Nat} (h : fx_in j n = true) : vp_in j n := by
  unfold vp_in
  simp only [fx_in, Bool.not_eq_true', Bool.or_eq_false_iff, decide_eq_false_iff_not] at h
  exact fun q => q.elim h.1 h.2
def fx_aI (h : mm_S) (q : Nat) (j : Int32) : Option Int32 := (fx_arI h q [0]).bind fun z => if fx_in j z.2.1 = true then some (z.2.2 j.toNatClampNeg) else none
def fx_aB (h : mm_S) (q : Nat) (j : Int32) : Option Int32 := (fx_arI h q [1, 4]).bind fun z => if fx_in j z.2.1 = true then some (z.2.2 j.toNatClampNeg) else none
def fx_sI (h : mm_S) (q : Nat) (j x : Int32) : Option mm_S := (fx_arI h q [0]).bind fun z => if fx_in j z.2.1 = true then some (mm_put h q (.inl (0, z.2.1, .inl (upd z.2.2 j.toNatClampNeg x)))) else none
def fx_sB (h : mm_S) (q : Nat) (j x : Int32) : Option mm_S := (fx_arI h q [1, 4]).bind fun z => if fx_in j z.2.1 = true then (if z.1 = 1 then some (mm_put h q (.inl (1, z.2.1, .inl (upd z.2.2 j.toNatClampNeg (vp_nar .boolean x))))) else some (mm_put h q (.inl (4, z.2.1, .inl (upd z.2.2 j.toNatClampNeg (vp_nar .byte x)))))) else none
def fx_arR (h : mm_S) (q : Nat) : Option (Nat × Nat × (Nat → Option Nat)) := if q ∈ h.1 then match h.2 q with
    | .inl (t, n, .inr (.inr (.inr (.inr g)))) => if 5 ≤ t ∧ t < 9 then some (t, n, g) else none
    | _ => none
  else none
def fx_aR (h : mm_S) (q : Nat) (j : Int32) : Option Nat := (fx_arR h q).bind fun z => if fx_in j z.2.1 = true then z.2.2 j.toNatClampNeg else none
def fx_sR (h : mm_S) (q : Nat) (j : Int32) (v : Nat) : Option mm_S := (fx_arR h q).bind fun z => if fx_in j z.2.1 = true ∧ v ∈ h.1 then match h.2 v with
    | .inr (c, _) => if mm_tyl[z.1]? = some (.object (mm_C c).1) ∧ c < 8 then some (mm_put h q (.inl (z.1, z.2.1, .inr (.inr (.inr (.inr (va_up z.2.2 j.toNatClampNeg (some v)))))))) else none
    | _ => none
  else none
def fx_len (h : mm_S) (q : Nat) : Option Int32 := if q ∈ h.1 then match h.2 q with
    | .inl (t, x) => if t < 9 then some (Int32.ofNat x.1) else none
    | _ => none
  else none
def fx_cp (h : mm_S) (q0 : Nat) (sp : Int32) (q1 : Nat) (dp n : Int32) : Option mm_S := (fx_arI h q0 [0, 4]).bind fun z => (fx_arI h q1 [0, 4]).bind fun w => if z.1 = w.1 ∧ (¬ sp < 0 ∧ ¬ dp < 0 ∧ ¬ n < 0) ∧ sp.toNatClampNeg + n.toNatClampNeg ≤ z.2.1 ∧ dp.toNatClampNeg + n.toNatClampNeg ≤ w.2.1 ∧ (∀ i, i < n.toNatClampNeg → fits (mm_tyl.getD z.1 .int) (.int (z.2.2 (sp.toNatClampNeg + i))) = true) then some (mm_put h q1 (.inl (w.1, w.2.1, .inl (va_cpy z.2.2 w.2.2 sp.toNatClampNeg dp.toNatClampNeg n.toNatClampNeg)))) else none
def fx_nar (ty : FieldType) (x : Int32) : Option Int32 := if narrow ty (.int x) = .int x then some x else none
def fx_div (x y : Int32) : Option Int32 := if y = 0 then none else some (x / y)
def fx_rem (x y : Int32) : Option Int32 := if y = 0 then none else some (x - x / y * y)
theorem fx_obj_s {h : mm_S} {q ci : Nat} {fs : List Value} (e : fx_obj h q ci = some fs) : q ∈ h.1 ∧ h.2 q = .inr (ci, fs) := by
  unfold fx_obj at e
  split at e
  · next hq =>
    split at e
    · next hc =>
      split at e
      · next e2 =>
        cases e
        rw [← e2]
        exact ⟨hq, hc⟩
      · cases e
    · cases e
  · cases e
theorem fx_arI_s {h : mm_S} {q : Nat} {ts : List Nat} {z : Nat × Nat × (Nat → Int32)} (e : fx_arI h q ts = some z) : q ∈ h.1 ∧ h.2 q = .inl (z.1, z.2.1, .inl z.2.2) ∧ z.1 ∈ ts := by
  unfold fx_arI at e
  split at e
  · next hq =>
    split at e
    · next hc =>
      split at e
      · next e2 =>
        cases e
        exact ⟨hq, hc, e2⟩
      · cases e
    · cases e
  · cases e
theorem fx_arR_s {h : mm_S} {q : Nat} {z : Nat × Nat × (Nat → Option Nat)} (e : fx_arR h q = some z) : q ∈ h.1 ∧ h.2 q = .inl (z.1, z.2.1, .inr (.inr (.inr (.inr z.2.2)))) ∧ 5 ≤ z.1 ∧ z.1 < 9 := by
  unfold fx_arR at e
  split at e
  · next hq =>
    split at e
    · next hc =>
      split at e
      · next e2 =>
        cases e
        exact ⟨hq, hc, e2⟩
      · cases e
    · cases e
  · cases e
/-- some steps that ask nothing -/
def mm_adv (K : List mm_E) : Nat → mm_F → Option mm_F
  | 0, F => some F
  | n + 1, F => match mm_find K F.1 with
    | some (ins, a, b) => match mm_st ins a b F.1 F.2.1 F.2.2.1 F.2.2.2 with
      | some (none, F2) => mm_adv K n F2
      | _ => none
    | none => none
section GO
variable {X : mm_Cl} {d y c k pc a b : Nat} {Q : mm_Re → Prop} {K : List mm_E} {ls : mm_L} {h : mm_S} {st rest : List Value} {q i : Nat}
theorem mm_Run_in {args : List Value} (hy : y < 265) (hn : y ∉ mm_ext) (hl : (lg_sl args).length ≤ (mm_m y).2.2.2.1) (g : mm_Ex (mm_Run X d) y Q (0, [], lv_args 0 args, h) c k) : mm_Run X (d + 1) y c k args h Q := ⟨hy, hl, by rw [if_neg hn]; exact g⟩
/-- an instruction that neither calls nor ends nor makes -/
theorem go_st (hX : mm_mono X) {ins : Instr} {P : Option Prop} {F2 : mm_F} (cd : mm_cd y = K) (hf : mm_find K pc = some (ins, a, b)) (hs : mm_st ins a b pc st ls h = some (P, F2)) (hp : ∀ x, P = some x → x) (hd : ∀ C Q K2 c k, mm_do C y Q K2 ins a b pc st ls h c k = (match mm_st ins a b pc st ls h with
    | some (none, F) => K2 F c k
    | some (some P, F) => P ∧ K2 F c k
    | none => False)) (g : mm_Ex (mm_Run X d) y Q F2 c k) : mm_Ex (mm_Run X d) y Q (pc, st, ls, h) c k := by
  refine mm_Ex_go (mm_Run_mono hX d) ?_
  unfold mm_row1
  dsimp only
  rw [cd, hf]
  dsimp only
  rw [hd, hs]
  cases P with
  | none => exact g
  | some P => exact ⟨hp P rfl, g⟩
theorem mm_do_st {C : mm_Cl} {Q : mm_Re → Prop} {K2 : mm_F → Nat → Nat → Prop} {ins : Instr} {P : Option Prop} {F2 : mm_F} (hs : mm_st ins a b pc st ls h = some (P, F2)) : mm_do C y Q K2 ins a b pc st ls h c k = (match mm_st ins a b pc st ls h with
    | some (none, F) => K2 F c k
    | some (some P, F) => P ∧ K2 F c k
    | none => False) := by
  cases ins <;> first | rfl | (simp [mm_st] at hs)
theorem go_s (hX : mm_mono X) {ins : Instr} {P : Option Prop} {F2 : mm_F} (cd : mm_cd y = K) (hf : mm_find K pc = some (ins, a, b)) (hs : mm_st ins a b pc st ls h = some (P, F2)) (hp : ∀ x, P = some x → x) (g : mm_Ex (mm_Run X d) y Q F2 c k) : mm_Ex (mm_Run X d) y Q (pc, st, ls, h) c k :=
  go_st hX cd hf hs hp (fun _ _ _ _ _ => mm_do_st hs) g
theorem go_n (hX : mm_mono X) {ins : Instr} {F2 : mm_F} (cd : mm_cd y = K) (hf : mm_find K pc = some (ins, a, b)) (hs : mm_st ins a b pc st ls h = some (none, F2)) (g : mm_Ex (mm_Run X d) y Q F2 c k) : mm_Ex (mm_Run X d) y Q (pc, st, ls, h) c k :=
  go_s hX cd hf hs (fun _ z => by cases z) g
theorem go_p (hX : mm_mono X) {ins : Instr} {P : Prop} {F2 : mm_F} (cd : mm_cd y = K) (hf : mm_find K pc = some (ins, a, b)) (hs : mm_st ins a b pc st ls h = some (some P, F2)) (hp : P) (g : mm_Ex (mm_Run X d) y Q F2 c k) : mm_Ex (mm_Run X d) y Q (pc, st, ls, h) c k :=
  go_s hX cd hf hs (fun _ z => by cases z; exact hp) g
theorem go_adv (hX : mm_mono X) (cd : mm_cd y = K) : ∀ (n : Nat) {F F2 : mm_F}, mm_adv K n F = some F2 → mm_Ex (mm_Run X d) y Q F2 c k → mm_Ex (mm_Run X d) y Q F c k
  | 0, F, F2, h, g => by
    cases h
    exact g
  | n + 1, (pc, st, ls, h), F2, e, g => by
    unfold mm_adv at e
    dsimp only at e
    split at e
    · next ins a b hf =>
      split at e
      · next F3 hs => exact go_n hX cd hf hs (go_adv hX cd n e g)
      · cases e
    · cases e
theorem go_gI (hX : mm_mono X) {ix ci f : Nat} {v : Int32} (cd : mm_cd y = K) (hf : mm_find K pc = some (.getfield ix, ci, f)) (e : fx_gI h q ci f = some v) (g : mm_Ex (mm_Run X d) y Q (pc + 3, .int v :: rest, ls, h) c k) : mm_Ex (mm_Run X d) y Q (pc, .ref q :: rest, ls, h) c k := by
  obtain ⟨fs, e1, e2⟩ := mm_bind e
  obtain ⟨hq, hc⟩ := fx_obj_s e1
  split at e2
  · next x hx =>
    cases e2
    refine go_p hX cd hf (P := q ∈ h.1) ?_ hq g
    simp only [mm_st, mm_a1, mm_obj, hc, if_true, hx]
  · cases e2
theorem go_gL (hX : mm_mono X) {ix ci f : Nat} {v : Int64} (cd : mm_cd y = K) (hf : mm_find K pc = some (.getfield ix, ci, f)) (e : fx_gL h q ci f = some v) (g : mm_Ex (mm_Run X d) y Q (pc + 3, .long v :: rest, ls, h) c k) : mm_Ex (mm_Run X d) y Q (pc, .ref q :: rest, ls, h) c k := by
  obtain ⟨fs, e1, e2⟩ := mm_bind e
  obtain ⟨hq, hc⟩ := fx_obj_s e1
  split at e2
  · next x hx =>
    cases e2
    refine go_p hX cd hf (P := q ∈ h.1) ?_ hq g
    simp only [mm_st, mm_a1, mm_obj, hc, if_true, hx]
  · cases e2
theorem go_gR (hX : mm_mono X) {ix ci f v : Nat} (cd : mm_cd y = K) (hf : mm_find K pc = some (.getfield ix, ci, f)) (e : fx_gR h q ci f = some v) (g : mm_Ex (mm_Run X d) y Q (pc + 3, .ref v :: rest, ls, h) c k) : mm_Ex (mm_Run X d) y Q (pc, .ref q :: rest, ls, h) c k := by
  obtain ⟨fs, e1, e2⟩ := mm_bind e
  obtain ⟨hq, hc⟩ := fx_obj_s e1
  split at e2
  · next x hx =>
    cases e2
    refine go_p hX cd hf (P := q ∈ h.1) ?_ hq g
    simp only [mm_st, mm_a1, mm_obj, hc, if_true, hx]
  · cases e2
theorem go_pV (hX : mm_mono X) {ix ci f : Nat} {v : Value} {h2 : mm_S} (cd : mm_cd y = K) (hf : mm_find K pc = some (.putfield ix, ci, f)) (e : fx_pV h q ci f v = some h2) (g : mm_Ex (mm_Run X d) y Q (pc + 3, rest, ls, h2) c k) : mm_Ex (mm_Run X d) y Q (pc, v :: .ref q :: rest, ls, h) c k := by
  obtain ⟨fs, e1, e2⟩ := mm_bind e
  obtain ⟨hq, hc⟩ := fx_obj_s e1
  rcases mm_ite e2 with ⟨⟨h1, h3, h4⟩, e2⟩ | ⟨-, e2⟩
  · cases e2
    refine go_p hX cd hf (P := q ∈ h.1 ∧ f < fs.length ∧ mm_fit (mm_fty ci f) v) ?_ ⟨hq, h1, h3, h4⟩ g
    simp only [mm_st, mm_obj, hc, if_true]
  · cases e2
theorem go_aI (hX : mm_mono X) {j v : Int32} (cd : mm_cd y = K) (hf : mm_find K pc = some (.iaload, a, b)) (e : fx_aI h q j = some v) (g : mm_Ex (mm_Run X d) y Q (pc + 1, .int v :: rest, ls, h) c k) : mm_Ex (mm_Run X d) y Q (pc, .int j :: .ref q :: rest, ls, h) c k := by
  obtain ⟨z, e1, e2⟩ := mm_bind e
  obtain ⟨hq, hc, ht⟩ := fx_arI_s e1
  rcases mm_ite e2 with ⟨hi, e2⟩ | ⟨-, e2⟩
  · cases e2
    refine go_p hX cd hf (P := q ∈ h.1 ∧ z.1 = 0 ∧ vp_in j z.2.1) ?_ ⟨hq, List.mem_singleton.mp ht, fx_in_of hi⟩ g
    simp only [mm_st, mm_ai, mm_arI, hc]
  · cases e2
theorem go_aB (hX : mm_mono X) {j v : Int32} (cd : mm_cd y = K) (hf : mm_find K pc = some (.baload, a, b)) (e : fx_aB h q j = some v) (g : mm_Ex (mm_Run X d) y Q (pc + 1, .int v :: rest, ls, h) c k) : mm_Ex (mm_Run X d) y Q (pc, .int j :: .ref q :: rest, ls, h) c k := by
  obtain ⟨z, e1, e2⟩ := mm_bind e
  obtain ⟨hq, hc, ht⟩ := fx_arI_s e1
  rcases mm_ite e2 with ⟨hi, e2⟩ | ⟨-, e2⟩
  · cases e2
    refine go_p hX cd hf (P := q ∈ h.1 ∧ (z.1 = 1 ∨ z.1 = 4) ∧ vp_in j z.2.1) ?_ ⟨hq, by simpa using ht, fx_in_of hi⟩ g
    simp only [mm_st, mm_ai, mm_arI, hc]
  · cases e2
theorem go_aR (hX : mm_mono X) {j : Int32} {v : Nat} (cd : mm_cd y = K) (hf : mm_find K pc = some (.aaload, a, b)) (e : fx_aR h q j = some v) (g : mm_Ex (mm_Run X d) y Q (pc + 1, .ref v :: rest, ls, h) c k) : mm_Ex (mm_Run X d) y Q (pc, .int j :: .ref q :: rest, ls, h) c k := by
  obtain ⟨z, e1, e2⟩ := mm_bind e
  obtain ⟨hq, hc, h5, h9⟩ := fx_arR_s e1
  rcases mm_ite e2 with ⟨hi, e2⟩ | ⟨-, e2⟩
  · refine go_p hX cd hf (P := q ∈ h.1 ∧ 5 ≤ z.1 ∧ z.1 < 9 ∧ vp_in j z.2.1) ?_ ⟨hq, h5, h9, fx_in_of hi⟩ g
    simp only [mm_st, mm_ai, mm_arR, hc, e2, va_rf]
  · cases e2
theorem go_sI (hX : mm_mono X) {j x : Int32} {h2 : mm_S} (cd : mm_cd y = K) (hf : mm_find K pc = some (.iastore, a, b)) (e : fx_sI h q j x = some h2) (g : mm_Ex (mm_Run X d) y Q (pc + 1, rest, ls, h2) c k) : mm_Ex (mm_Run X d) y Q (pc, .int x :: .int j :: .ref q :: rest, ls, h) c k := by
  obtain ⟨z, e1, e2⟩ := mm_bind e
  obtain ⟨hq, hc, ht⟩ := fx_arI_s e1
  have ht := List.mem_singleton.mp ht
  rcases mm_ite e2 with ⟨hi, e2⟩ | ⟨-, e2⟩
  · cases e2
    refine go_p hX cd hf (P := q ∈ h.1 ∧ z.1 = 0 ∧ vp_in j z.2.1) ?_ ⟨hq, ht, fx_in_of hi⟩ g
    simp only [mm_st, mm_arI, hc, ht]
  · cases e2
theorem go_sB (hX : mm_mono X) {j x : Int32} {h2 : mm_S} (cd : mm_cd y = K) (hf : mm_find K pc = some (.bastore, a, b)) (e : fx_sB h q j x = some h2) (g : mm_Ex (mm_Run X d) y Q (pc + 1, rest, ls, h2) c k) : mm_Ex (mm_Run X d) y Q (pc, .int x :: .int j :: .ref q :: rest, ls, h) c k := by
  obtain ⟨z, e1, e2⟩ := mm_bind e
  obtain ⟨hq, hc, ht⟩ := fx_arI_s e1
  rcases mm_ite e2 with ⟨hi, e2⟩ | ⟨-, e2⟩
  · rcases mm_ite e2 with ⟨h1, e2⟩ | ⟨h1, e2⟩
    · cases e2
      refine go_p hX cd hf (P := q ∈ h.1 ∧ vp_in j z.2.1) ?_ ⟨hq, fx_in_of hi⟩ g
      simp only [mm_st, mm_arI, hc, h1, if_true]
    · cases e2
      have h4 : z.1 = 4 := by
        simp only [List.mem_cons, List.not_mem_nil, or_false] at ht
        exact ht.resolve_left h1
      refine go_p hX cd hf (P := q ∈ h.1 ∧ vp_in j z.2.1) ?_ ⟨hq, fx_in_of hi⟩ g
      simp only [mm_st, mm_arI, hc, h4, if_true, if_neg (show ¬ (4 : Nat) = 1 by decide)]
  · cases e2
theorem go_sR (hX : mm_mono X) {j : Int32} {v : Nat} {h2 : mm_S} (cd : mm_cd y = K) (hf : mm_find K pc = some (.aastore, a, b)) (e : fx_sR h q j v = some h2) (g : mm_Ex (mm_Run X d) y Q (pc + 1, rest, ls, h2) c k) : mm_Ex (mm_Run X d) y Q (pc, .ref v :: .int j :: .ref q :: rest, ls, h) c k := by
  obtain ⟨z, e1, e2⟩ := mm_bind e
  obtain ⟨hq, hc, h5, h9⟩ := fx_arR_s e1
  rcases mm_ite e2 with ⟨⟨hi, hv⟩, e2⟩ | ⟨-, e2⟩
  · split at e2
    · next c2 fs hcv =>
      rcases mm_ite e2 with ⟨⟨h6, h7⟩, e2⟩ | ⟨-, e2⟩
      · cases e2
        refine go_p hX cd hf (P := q ∈ h.1 ∧ v ∈ h.1 ∧ mm_tyl[z.1]? = some (.object (mm_C c2).1) ∧ c2 < 8 ∧ vp_in j z.2.1) ?_ ⟨hq, hv, h6, h7, fx_in_of hi⟩ g
        simp only [mm_st, mm_arR, mm_obj, hc, hcv]
      · cases e2
    · cases e2
  · cases e2
theorem go_len (hX : mm_mono X) {v : Int32} (cd : mm_cd y = K) (hf : mm_find K pc = some (.arraylength, a, b)) (e : fx_len h q = some v) (g : mm_Ex (mm_Run X d) y Q (pc + 1, .int v :: rest, ls, h) c k) : mm_Ex (mm_Run X d) y Q (pc, .ref q :: rest, ls, h) c k := by
  unfold fx_len at e
  rcases mm_ite e with ⟨hq, e⟩ | ⟨-, e⟩
  · split at e
    · next t x hc =>
      rcases mm_ite e with ⟨h9, e⟩ | ⟨-, e⟩
      · cases e
        refine go_p hX cd hf (P := q ∈ h.1 ∧ t < 9) ?_ ⟨hq, h9⟩ g
        simp only [mm_st, mm_a1, hc]
      · cases e
    · cases e
  · cases e
theorem go_div (hX : mm_mono X) {x z v : Int32} (cd : mm_cd y = K) (hf : mm_find K pc = some (.idiv, a, b)) (e : fx_div x z = some v) (g : mm_Ex (mm_Run X d) y Q (pc + 1, .int v :: rest, ls, h) c k) : mm_Ex (mm_Run X d) y Q (pc, .int z :: .int x :: rest, ls, h) c k := by
  unfold fx_div at e
  rcases mm_ite e with ⟨-, e⟩ | ⟨h0, e⟩
  · cases e
  · cases e
    exact go_p hX cd hf rfl h0 g
theorem go_rem (hX : mm_mono X) {x z v : Int32} (cd : mm_cd y = K) (hf : mm_find K pc = some (.irem, a, b)) (e : fx_rem x z = some v) (g : mm_Ex (mm_Run X d) y Q (pc + 1, .int v :: rest, ls, h) c k) : mm_Ex (mm_Run X d) y Q (pc, .int z :: .int x :: rest, ls, h) c k := by
  unfold fx_rem at e
  rcases mm_ite e with ⟨-, e⟩ | ⟨h0, e⟩
  · cases e
  · cases e
    exact go_p hX cd hf rfl h0 g
theorem go_to (hX : mm_mono X) {off : Int} (tgt : Nat) (cd : mm_cd y = K) (hf : mm_find K pc = some (.goto off, a, b)) (ht : (pc : Int) + off = (tgt : Int)) (g : mm_Ex (mm_Run X d) y Q (tgt, st, ls, h) c k) : mm_Ex (mm_Run X d) y Q (pc, st, ls, h) c k := by
  have e : mm_to pc off = tgt := by
    unfold mm_to
    omega
  rw [← e] at g
  exact go_p hX cd hf rfl (by omega) g
def mm_cnd (cd : Jvm.ClassFile.Cond) (x y : Int32) : Prop := match cd with
  | .eq => x = y
  | .ne => x ≠ y
  | .lt => x < y
  | .ge => y ≤ x
  | .gt => y < x
  | .le => x ≤ y
theorem mm_cm_t {cd : Jvm.ClassFile.Cond} {x y : Int32} {F G : mm_F} (hc : mm_cnd cd x y) : mm_cm cd x y F G = F := by
  cases cd <;> exact if_pos hc
theorem mm_cm_f {cd : Jvm.ClassFile.Cond} {x y : Int32} {F G : mm_F} (hc : ¬ mm_cnd cd x y) : mm_cm cd x y F G = G := by
  cases cd <;> exact if_neg hc
theorem go_ct (hX : mm_mono X) {x z : Int32} {cn : Jvm.ClassFile.Cond} {off : Int} (tgt : Nat) (cd : mm_cd y = K) (hf : mm_find K pc = some (.if_icmp cn off, a, b)) (ht : (pc : Int) + off = (tgt : Int)) (hc : mm_cnd cn x z) (g : mm_Ex (mm_Run X d) y Q (tgt, rest, ls, h) c k) : mm_Ex (mm_Run X d) y Q (pc, .int z :: .int x :: rest, ls, h) c k := by
  have e : mm_to pc off = tgt := by
    unfold mm_to
    omega
  refine go_p hX cd hf rfl (by omega) ?_
  rw [mm_cm_t hc, e]
  exact g
theorem go_cf (hX : mm_mono X) {x z : Int32} {cn : Jvm.ClassFile.Cond} {off : Int} (cd : mm_cd y = K) (hf : mm_find K pc = some (.if_icmp cn off, a, b)) (ht : 0 ≤ (pc : Int) + off) (hc : ¬ mm_cnd cn x z) (g : mm_Ex (mm_Run X d) y Q (pc + 3, rest, ls, h) c k) : mm_Ex (mm_Run X d) y Q (pc, .int z :: .int x :: rest, ls, h) c k := by
  refine go_p hX cd hf rfl ht ?_
  rw [mm_cm_f hc]
  exact g
theorem go_zt (hX : mm_mono X) {x : Int32} {cn : Jvm.ClassFile.Cond} {off : Int} (tgt : Nat) (cd : mm_cd y = K) (hf : mm_find K pc = some (.ifCond cn off, a, b)) (ht : (pc : Int) + off = (tgt : Int)) (hc : mm_cnd cn x 0) (g : mm_Ex (mm_Run X d) y Q (tgt, rest, ls, h) c k) : mm_Ex (mm_Run X d) y Q (pc, .int x :: rest, ls, h) c k := by
  have e : mm_to pc off = tgt := by
    unfold mm_to
    omega
  refine go_p hX cd hf rfl (by omega) ?_
  rw [mm_cm_t hc, e]
  exact g
theorem go_zf (hX : mm_mono X) {x : Int32} {cn : Jvm.ClassFile.Cond} {off : Int} (cd : mm_cd y = K) (hf : mm_find K pc = some (.ifCond cn off, a, b)) (ht : 0 ≤ (pc : Int) + off) (hc : ¬ mm_cnd cn x 0) (g : mm_Ex (mm_Run X d) y Q (pc + 3, rest, ls, h) c k) : mm_Ex (mm_Run X d) y Q (pc, .int x :: rest, ls, h) c k := by
  refine go_p hX cd hf rfl ht ?_
  rw [mm_cm_f hc]
  exact g
theorem go_sw (hX : mm_mono X) {x v : Int32} {dd lo hi : Int} {offs : Array Int} (tgt : Nat) (cd : mm_cd y = K) (hf : mm_find K pc = some (.tableswitch dd lo hi offs, a, b)) (hx : x = v) (hp : 0 ≤ (pc : Int) + dd ∧ (∀ o ∈ offs.toList, 0 ≤ (pc : Int) + o) ∧ (offs.size : Int) = hi - lo + 1) (ht : mm_to pc (if v.toInt < lo ∨ hi < v.toInt then dd else (offs[(v.toInt - lo).toNat]?).getD dd) = tgt) (g : mm_Ex (mm_Run X d) y Q (tgt, rest, ls, h) c k) : mm_Ex (mm_Run X d) y Q (pc, .int x :: rest, ls, h) c k := by
  subst hx
  refine go_p hX cd hf rfl hp ?_
  rw [ht]
  exact g
theorem mm_swd {x : Int32} {n : Nat} (hn : n < 2 ^ 30) (h : ∀ i, i < n → x ≠ nI i) : x.toInt < 0 ∨ (n : Int) - 1 < x.toInt := by
  by_cases h0 : x < 0
  · left
    exact Int32.lt_iff_toInt_lt.mp h0
  · obtain ⟨j, hj, e⟩ := nI_of h0
    right
    rcases Nat.lt_or_ge j n with q | q
    · exact absurd e (h j q)
    · rw [e, nI_toInt hj]
      omega
theorem go_swd (hX : mm_mono X) {x : Int32} {dd hi : Int} {offs : Array Int} (n tgt : Nat) (cd : mm_cd y = K) (hf : mm_find K pc = some (.tableswitch dd 0 hi offs, a, b)) (hn : n < 2 ^ 30) (hh : hi = (n : Int) - 1) (hp : 0 ≤ (pc : Int) + dd ∧ (∀ o ∈ offs.toList, 0 ≤ (pc : Int) + o) ∧ (offs.size : Int) = hi - 0 + 1) (hne : ∀ i, i < n → x ≠ nI i) (ht : mm_to pc dd = tgt) (g : mm_Ex (mm_Run X d) y Q (tgt, rest, ls, h) c k) : mm_Ex (mm_Run X d) y Q (pc, .int x :: rest, ls, h) c k := by
  refine go_p hX cd hf rfl hp ?_
  have hz : x.toInt < 0 ∨ hi < x.toInt := by
    rw [hh]
    exact mm_swd hn hne
  rw [if_pos hz, ht]
  exact g
theorem go_min (hX : mm_mono X) {x z : Int32} (cd : mm_cd y = K) (hf : mm_find K pc = some (.invokestatic i, a, 258)) (hw : mm_wd rest ≤ 8) (g : mm_Ex (mm_Run X d) y Q (pc + 3, .int (if z < x then z else x) :: rest, ls, h) c k) : mm_Ex (mm_Run X d) y Q (pc, .int z :: .int x :: rest, ls, h) c k := by
  refine mm_Ex_go (mm_Run_mono hX d) ?_
  unfold mm_row1
  dsimp only
  rw [cd, hf]
  exact ⟨hw, g⟩
theorem go_max (hX : mm_mono X) {x z : Int32} (cd : mm_cd y = K) (hf : mm_find K pc = some (.invokestatic i, a, 274)) (hw : mm_wd rest ≤ 8) (g : mm_Ex (mm_Run X d) y Q (pc + 3, .int (if x < z then z else x) :: rest, ls, h) c k) : mm_Ex (mm_Run X d) y Q (pc, .int z :: .int x :: rest, ls, h) c k := by
  refine mm_Ex_go (mm_Run_mono hX d) ?_
  unfold mm_row1
  dsimp only
  rw [cd, hf]
  exact ⟨hw, g⟩
theorem go_cp (hX : mm_mono X) {q0 q1 : Nat} {sp dp n : Int32} {h2 : mm_S} (cd : mm_cd y = K) (hf : mm_find K pc = some (.invokestatic i, a, 245)) (hw : mm_wd rest ≤ 8) (e : fx_cp h q0 sp q1 dp n = some h2) (g : mm_Ex (mm_Run X d) y Q (pc + 3, rest, ls, h2) c k) : mm_Ex (mm_Run X d) y Q (pc, .int n :: .int dp :: .ref q1 :: .int sp :: .ref q0 :: rest, ls, h) c k := by
  obtain ⟨z, e1, e2⟩ := mm_bind e
  obtain ⟨w, e3, e4⟩ := mm_bind e2
  obtain ⟨hq, hc, ht⟩ := fx_arI_s e1
  obtain ⟨hq2, hc2, ht2⟩ := fx_arI_s e3
  rcases mm_ite e4 with ⟨⟨h1, ⟨h3, h4, h5⟩, h6, h7, h8⟩, e4⟩ | ⟨-, e4⟩
  · cases e4
    refine mm_Ex_go (mm_Run_mono hX d) ?_
    unfold mm_row1
    dsimp only
    rw [cd, hf]
    show (match h.2 q0, h.2 q1 with
        | .inl (t0, n0, .inl f), .inl (t1, n1, .inl g) => _
        | _, _ => False)
    rw [hc, hc2]
    exact ⟨hq, hq2, h1, by simpa using ht, h3, h4, h5, h6, h7, h8, hw, g⟩
  · cases e4
/-- a call whose callee is known to come to an end with rv in the world h2 -/
theorem go_cS (hX : mm_mono X) {As : List Value} {rv : Option Value} {h2 : mm_S} (cd : mm_cd y = K) (hf : mm_find K pc = some (.invokestatic i, a, b)) (hb : b ≠ 258 ∧ b ≠ 274 ∧ b ≠ 245 ∧ (b / 16 = 2 ∨ b / 16 = 3)) (hn : b % 16 ≤ st.length) (hA : (st.take (b % 16)).reverse = As) (hr : st.drop (b % 16) = rest) (hw : mm_wd rest ≤ 8)
    (hrun : ∀ Q2 : mm_Re → Prop, Q2 (.inl rv, h2) → mm_Run X d a 0 0 As h Q2) (g : mm_Ex (mm_Run X d) y Q (pc + 3, rv.toList ++ rest, ls, h2) c k) : mm_Ex (mm_Run X d) y Q (pc, st, ls, h) c k := by
  refine mm_Ex_go (mm_Run_mono hX d) ?_
  unfold mm_row1
  dsimp only
  rw [cd, hf]
  show mm_do _ _ _ _ _ _ _ _ _ _ _ _ _
  unfold mm_do
  rw [if_neg hb.1, if_neg hb.2.1, if_neg hb.2.2.1, hA, hr]
  exact ⟨hb.2.2.2, hn, 0, 0, Nat.zero_le _, Nat.zero_le _, hw, hrun _ g⟩
theorem go_cV (hX : mm_mono X) {As : List Value} {rv : Option Value} {h2 : mm_S} {ci : Nat} (cd : mm_cd y = K) (hf : mm_find K pc = some (.invokevirtual i, a, b)) (hn : b % 16 ≤ st.length) (hA : (st.take (b % 16)).reverse = As) (hr : st.drop (b % 16) = .ref q :: rest) (ho : fx_is h q ci = some ()) (hk : ci < 8 ∧ (((b / 16 = 4 ∨ b / 16 = 5) ∧ (mm_C ci).1 = (mm_m a).2.1.cls) ∨ (b / 16 = 13 ∧ ci = 7))) (hw : mm_wd rest ≤ 8)
    (hrun : ∀ Q2 : mm_Re → Prop, Q2 (.inl rv, h2) → mm_Run X d a 0 0 (.ref q :: As) h Q2) (g : mm_Ex (mm_Run X d) y Q (pc + 3, rv.toList ++ rest, ls, h2) c k) : mm_Ex (mm_Run X d) y Q (pc, st, ls, h) c k := by
  refine mm_Ex_go (mm_Run_mono hX d) ?_
  unfold mm_row1
  dsimp only
  rw [cd, hf]
  show mm_do _ _ _ _ _ _ _ _ _ _ _ _ _
  unfold mm_do
  rw [hA, hr]
  obtain ⟨fs, e1, -⟩ := mm_bind ho
  obtain ⟨hq, hc⟩ := fx_obj_s e1
  refine ⟨hn, ?_⟩
  dsimp only
  rw [hc]
  exact ⟨Or.inl ⟨hq, hk.1, hk.2⟩, 0, 0, Nat.zero_le _, Nat.zero_le _, hw, hrun _ g⟩
def fx_ms (h : mm_S) (q : Nat) : Option Unit := match h.2 q with
  | .inr (9, []) => some ()
  | _ => none
theorem fx_ms_s {h : mm_S} {q : Nat} {u : Unit} (e : fx_ms h q = some u) : h.2 q = .inr (9, []) := by
  unfold fx_ms at e
  split at e
  · next hc => exact hc
  · cases e
theorem go_cVS (hX : mm_mono X) {As : List Value} {rv : Option Value} {h2 : mm_S} {u : Unit} (cd : mm_cd y = K) (hf : mm_find K pc = some (.invokevirtual i, a, b)) (hn : b % 16 ≤ st.length) (hA : (st.take (b % 16)).reverse = As) (hr : st.drop (b % 16) = .ref q :: rest) (ho : fx_ms h q = some u) (hk : (a = 262 ∨ a = 263) ∧ b / 16 = 4) (hw : mm_wd rest ≤ 8)
    (hrun : ∀ Q2 : mm_Re → Prop, Q2 (.inl rv, h2) → mm_Run X d a 0 0 (.ref q :: As) h Q2) (g : mm_Ex (mm_Run X d) y Q (pc + 3, rv.toList ++ rest, ls, h2) c k) : mm_Ex (mm_Run X d) y Q (pc, st, ls, h) c k := by
  refine mm_Ex_go (mm_Run_mono hX d) ?_
  unfold mm_row1
  dsimp only
  rw [cd, hf]
  show mm_do _ _ _ _ _ _ _ _ _ _ _ _ _
  unfold mm_do
  rw [hA, hr]
  have hc := fx_ms_s ho
  refine ⟨hn, ?_⟩
  dsimp only
  rw [hc]
  exact ⟨Or.inr ⟨hk.1, hk.2, rfl, rfl⟩, 0, 0, Nat.zero_le _, Nat.zero_le _, hw, hrun _ g⟩
theorem go_cSU (hX : mm_mono X) {As : List Value} {rv : Option Value} {h2 : mm_S} {ci : Nat} (cd : mm_cd y = K) (hf : mm_find K pc = some (.invokespecial i, a, b)) (hb : b / 16 = 14) (hn : b % 16 ≤ st.length) (hA : (st.take (b % 16)).reverse = As) (hr : st.drop (b % 16) = .ref q :: rest) (ho : fx_is h q ci = some ()) (hk : ci < 8) (hw : mm_wd rest ≤ 8)
    (hrun : ∀ Q2 : mm_Re → Prop, Q2 (.inl rv, h2) → mm_Run X d a 0 0 (.ref q :: As) h Q2) (g : mm_Ex (mm_Run X d) y Q (pc + 3, rv.toList ++ rest, ls, h2) c k) : mm_Ex (mm_Run X d) y Q (pc, st, ls, h) c k := by
  refine mm_Ex_go (mm_Run_mono hX d) ?_
  unfold mm_row1
  dsimp only
  rw [cd, hf]
  show mm_do _ _ _ _ _ _ _ _ _ _ _ _ _
  unfold mm_do
  have e8 : ¬ b = 128 := by omega
  rw [if_neg e8, if_pos hb, hA, hr]
  obtain ⟨fs, e1, -⟩ := mm_bind ho
  obtain ⟨hq, hc⟩ := fx_obj_s e1
  refine ⟨hn, ?_⟩
  dsimp only
  rw [hc]
  exact ⟨hq, hk, 0, 0, Nat.zero_le _, Nat.zero_le _, hw, hrun _ g⟩
theorem go_iret (hX : mm_mono X) {v : Int32} {ty : FieldType} (cd : mm_cd y = K) (hf : mm_find K pc = some (.ireturn, a, b)) (hr : (mm_m y).2.2.2.2 = some ty) (hn : narrow ty (.int v) = .int v) (g : Q (.inl (some (.int v)), h)) : mm_Ex (mm_Run X d) y Q (pc, [.int v], ls, h) c k := by
  refine mm_Ex_go (mm_Run_mono hX d) ?_
  unfold mm_row1
  dsimp only
  rw [cd, hf]
  exact ⟨ty, hr, hn, g⟩
theorem go_lret (hX : mm_mono X) {v : Int64} (cd : mm_cd y = K) (hf : mm_find K pc = some (.lreturn, a, b)) (hr : (mm_m y).2.2.2.2 = some .long) (g : Q (.inl (some (.long v)), h)) : mm_Ex (mm_Run X d) y Q (pc, [.long v], ls, h) c k := by
  refine mm_Ex_go (mm_Run_mono hX d) ?_
  unfold mm_row1
  dsimp only
  rw [cd, hf]
  exact ⟨hr, g⟩
theorem go_dret (hX : mm_mono X) {v : UInt64} (cd : mm_cd y = K) (hf : mm_find K pc = some (.dreturn, a, b)) (hr : (mm_m y).2.2.2.2 = some .double) (g : Q (.inl (some (.double v)), h)) : mm_Ex (mm_Run X d) y Q (pc, [.double v], ls, h) c k := by
  refine mm_Ex_go (mm_Run_mono hX d) ?_
  unfold mm_row1
  dsimp only
  rw [cd, hf]
  exact ⟨hr, g⟩
theorem go_fret (hX : mm_mono X) {v : UInt32} (cd : mm_cd y = K) (hf : mm_find K pc = some (.freturn, a, b)) (hr : (mm_m y).2.2.2.2 = some .float) (g : Q (.inl (some (.float v)), h)) : mm_Ex (mm_Run X d) y Q (pc, [.float v], ls, h) c k := by
  refine mm_Ex_go (mm_Run_mono hX d) ?_
  unfold mm_row1
  dsimp only
  rw [cd, hf]
  exact ⟨hr, g⟩
theorem go_aret (hX : mm_mono X) {v : Nat} {ty : FieldType} (cd : mm_cd y = K) (hf : mm_find K pc = some (.areturn, a, b)) (hr : (mm_m y).2.2.2.2 = some ty) (ht : (∃ n, ty = .object n) ∨ ∃ t, ty = .array t) (g : Q (.inl (some (.ref v)), h)) : mm_Ex (mm_Run X d) y Q (pc, [.ref v], ls, h) c k := by
  refine mm_Ex_go (mm_Run_mono hX d) ?_
  unfold mm_row1
  dsimp only
  rw [cd, hf]
  exact ⟨ty, hr, ht, g⟩
theorem go_ret (hX : mm_mono X) (cd : mm_cd y = K) (hf : mm_find K pc = some (.return_, a, b)) (hr : (mm_m y).2.2.2.2 = none) (g : Q (.inl none, h)) : mm_Ex (mm_Run X d) y Q (pc, [], ls, h) c k := by
  refine mm_Ex_go (mm_Run_mono hX d) ?_
  unfold mm_row1
  dsimp only
  rw [cd, hf]
  exact ⟨hr, g⟩
theorem go_thr (hX : mm_mono X) (E : String) (cd : mm_cd y = K) (hf : mm_find K pc = some (.new i, a, b)) (hb : b = 16 ∨ b = 17) (hE : mm_exc.getD (mm_th a).2.2.2.2.1 "" = E) (hw : mm_wd st ≤ 8) (hc : 1 ≤ c ∧ 6 ≤ k) (g : Q (.inr E, h)) : mm_Ex (mm_Run X d) y Q (pc, st, ls, h) c k := by
  refine mm_Ex_go (mm_Run_mono hX d) ?_
  unfold mm_row1
  dsimp only
  rw [cd, hf]
  show mm_do _ _ _ _ _ _ _ _ _ _ _ _ _
  unfold mm_do
  have e9 : ¬ b = 9 := by omega
  rw [if_neg e9, if_pos hb, hE]
  exact ⟨hc.1, hc.2, hw, g⟩
end GO
def mm_subs (ls : mm_L) : mm_L → Prop
  | [] => True
  | q :: l => mm_get ls q.1 = some q.2 ∧ mm_subs ls l
theorem mm_subs_of {ls : mm_L} : ∀ {l : mm_L}, mm_subs ls l → ∀ q ∈ l, mm_get ls q.1 = some q.2
  | [], _, _, hq => by cases hq
  | _ :: _, h, q, hq => by
    rcases List.mem_cons.mp hq with e | e
    · rw [e]
      exact h.1
    · exact mm_subs_of h.2 q e
theorem go_ls {C : mm_Cl} {y : Nat} {Q : mm_Re → Prop} {pc : Nat} {st : List Value} {ls : mm_L} (ls2 : mm_L) {h : mm_S} {c k : Nat} (hs : mm_subs ls ls2) (g : mm_Ex C y Q (pc, st, ls2, h) c k) : mm_Ex C y Q (pc, st, ls, h) c k := mm_Ex_ls ls2 (mm_subs_of hs) g
/-! how a function's answer is told -/
def fx_oI (o : Int32 ⊕ String) : Option Value ⊕ String := match o with
  | .inl v => .inl (some (.int v))
  | .inr E => .inr E
def fx_oV (o : Unit ⊕ String) : Option Value ⊕ String := match o with
  | .inl _ => .inl none
  | .inr E => .inr E
def fx_oD (o : UInt64 ⊕ String) : Option Value ⊕ String := match o with
  | .inl v => .inl (some (.double v))
  | .inr E => .inr E
def fx_oF (o : UInt32 ⊕ String) : Option Value ⊕ String := match o with
  | .inl v => .inl (some (.float v))
  | .inr E => .inr E
def fx_ddiv (x y : UInt64) : Option UInt64 := if FP.ddiv x y &&& 0x7fffffffffffffff ≤ 0x7ff0000000000000 then some (FP.ddiv x y) else none
def fx_fdiv (x y : UInt32) : Option UInt32 := if FP.fdiv x y &&& 0x7fffffff ≤ 0x7f800000 then some (FP.fdiv x y) else none
theorem go_ddiv {X : mm_Cl} {d y c k pc a b : Nat} {Q : mm_Re → Prop} {K : List mm_E} {ls : mm_L} {h : mm_S} {rest : List Value} (hX : mm_mono X) {x z v : UInt64} (cd : mm_cd y = K) (hf : mm_find K pc = some (.ddiv, a, b)) (e : fx_ddiv x z = some v) (g : mm_Ex (mm_Run X d) y Q (pc + 1, .double v :: rest, ls, h) c k) : mm_Ex (mm_Run X d) y Q (pc, .double z :: .double x :: rest, ls, h) c k := by
  unfold fx_ddiv at e
  rcases mm_ite e with ⟨h0, e⟩ | ⟨-, e⟩
  · cases e
    exact go_p hX cd hf rfl h0 g
  · cases e
theorem go_fdiv {X : mm_Cl} {d y c k pc a b : Nat} {Q : mm_Re → Prop} {K : List mm_E} {ls : mm_L} {h : mm_S} {rest : List Value} (hX : mm_mono X) {x z v : UInt32} (cd : mm_cd y = K) (hf : mm_find K pc = some (.fdiv, a, b)) (e : fx_fdiv x z = some v) (g : mm_Ex (mm_Run X d) y Q (pc + 1, .float v :: rest, ls, h) c k) : mm_Ex (mm_Run X d) y Q (pc, .float z :: .float x :: rest, ls, h) c k := by
  unfold fx_fdiv at e
  rcases mm_ite e with ⟨h0, e⟩ | ⟨-, e⟩
  · cases e
    exact go_p hX cd hf rfl h0 g
  · cases e
end
section
/-! what the methods that are not run by the little machine answer -/
def fx_texts : List (List Nat) := [[98, 117, 105, 108, 100, 32, 35, 35, 32, 35], [116, 101, 97, 114, 32, 35], [104, 97, 108, 118, 101, 32, 35], [108, 101, 97, 115, 101, 32, 35, 32, 35, 32, 35], [99, 108, 105, 109, 98, 32, 35, 32, 35], [108, 101, 118, 121, 32, 35, 32, 35], [116, 97, 107, 101, 32, 35], [102, 114, 101, 101, 32, 35, 32, 35], [100, 97, 121]]
def fx_tx (i : Nat) : List Nat := fx_texts.getD i []
def fx_ix (S : Nat → Nat) (q : Nat) : Option Nat := (List.range 9).find? (fun i => S i == q)
def F_X1_formOf (S : Nat → Nat) (_ : mm_S) (x : Int32) : Option Nat := some (S (if x.toInt < 0 ∨ 7 < x.toInt then 8 else x.toInt.toNat))
def F_J0_length_8abf5 (S : Nat → Nat) (_ : mm_S) (q : Nat) : Option Int32 := (fx_ix S q).bind fun i => some (nI (fx_tx i).length)
def F_J0_charAt_5068e (S : Nat → Nat) (_ : mm_S) (q : Nat) (j : Int32) : Option Int32 := (fx_ix S q).bind fun i => if fx_in j (fx_tx i).length = true then some (nI ((fx_tx i).getD j.toNatClampNeg 0)) else none
def F_J0_checkIndex_df160 (_ : Nat → Nat) (_ : mm_S) (j n : Int32) : Option Unit := if ¬ j < 0 ∧ j < n then some () else none
def F_J5_isLatin1_aae02 (_ : Nat → Nat) (h : mm_S) (q : Nat) : Option Int32 := (fx_obj h q 7).bind fun fs => match (fs[1]? : Option Value) with
  | some (Value.int x) => if x = 0 then some (ki 1) else none
  | _ => none
def F_J6_getChars_ba4f3 (_ : Nat → Nat) (h : mm_S) (x j : Int32) (q : Nat) : Option (Int32 × mm_S) := if 0 ≤ x ∧ x < 10 then (fx_sB h q (j - 1) (x + 48)).bind fun h2 => some (j - 1, h2)
  else if 10 ≤ x ∧ x < 100 then (fx_sB h q (j - 1) (x - x / 10 * 10 + 48)).bind fun h2 => (fx_sB h2 q (j - 1 - 1) (x / 10 + 48)).bind fun h3 => some (j - 1 - 1, h3)
  else none
/-- the contracts of the methods that are not run -/
def mm_Xc (S : Nat → Nat) : mm_Cl := fun y c k args h Q =>
  (y = 3 ∧ ∃ x v, args = [.int x] ∧ F_X1_formOf S h x = some v ∧ Q (.inl (some (.ref v)), h)) ∨
  (y = 262 ∧ ∃ q v, args = [.ref q] ∧ F_J0_length_8abf5 S h q = some v ∧ Q (.inl (some (.int v)), h)) ∨
  (y = 263 ∧ ∃ q j v, args = [.ref q, .int j] ∧ F_J0_charAt_5068e S h q j = some v ∧ Q (.inl (some (.int v)), h)) ∨
  (y = 264 ∧ ∃ j n v, args = [.int j, .int n] ∧ F_J0_checkIndex_df160 S h j n = some v ∧ Q (.inl none, h)) ∨
  (y = 256 ∧ ∃ x j q o, args = [.int x, .int j, .ref q] ∧ F_J6_getChars_ba4f3 S h x j q = some o ∧ Q (.inl (some (.int o.1)), o.2)) ∨
  (y = 255 ∧ ∃ q v, args = [.ref q] ∧ F_J5_isLatin1_aae02 S h q = some v ∧ Q (.inl (some (.int v)), h)) ∨
  (y = 247 ∧ ∃ q n fs, args = [.ref q, .int n] ∧ fx_obj h q 7 = some fs ∧ ¬ n < 0 ∧ n.toNatClampNeg ≤ 65536 ∧ 1 ≤ c ∧ n.toNatClampNeg ≤ k ∧ ∀ v : Nat, v ∉ h.1 → Q (.inl none, (h.1 ++ [v], va_up (va_up h.2 v (.inl (4, n.toNatClampNeg, .inl (fun _ => 0)))) q (.inr (7, ((fs.set 0 (.ref v)).set 1 (.int 0)))))))
def mm_XS (S : Nat → Nat) (X : mm_Cl) : Prop := ∀ y c k args h Q, mm_Xc S y c k args h Q → X y c k args h Q
theorem mm_Xc_mono (S : Nat → Nat) : mm_mono (mm_Xc S) := by
  intro y c k args h Q1 Q2 hQ g
  rcases g with ⟨e, x, v, h1, h2, h3⟩ | ⟨e, x, v, h1, h2, h3⟩ | ⟨e, x, j, v, h1, h2, h3⟩ | ⟨e, x, j, v, h1, h2, h3⟩ | ⟨e, x, j, q, o, h1, h2, h3⟩ | ⟨e, x, v, h1, h2, h3⟩ | ⟨e, q, n, fs, h1, h2, h3, h4, h5, h6, h7⟩
  · exact .inl ⟨e, x, v, h1, h2, hQ _ h3⟩
  · exact .inr (.inl ⟨e, x, v, h1, h2, hQ _ h3⟩)
  · exact .inr (.inr (.inl ⟨e, x, j, v, h1, h2, hQ _ h3⟩))
  · exact .inr (.inr (.inr (.inl ⟨e, x, j, v, h1, h2, hQ _ h3⟩)))
  · exact .inr (.inr (.inr (.inr (.inl ⟨e, x, j, q, o, h1, h2, hQ _ h3⟩))))
  · exact .inr (.inr (.inr (.inr (.inr (.inl ⟨e, x, v, h1, h2, hQ _ h3⟩)))))
  · exact .inr (.inr (.inr (.inr (.inr (.inr ⟨e, q, n, fs, h1, h2, h3, h4, h5, h6, fun v hv => hQ _ (h7 v hv)⟩)))))
section XS
variable {X : mm_Cl} {S : Nat → Nat} {d c k : Nat} {Q : mm_Re → Prop} {h : mm_S}
theorem mm_Run_x {y : Nat} {args : List Value} (hS : mm_XS S X) (hy : y < 265) (he : y ∈ mm_ext) (hl : (lg_sl args).length ≤ (mm_m y).2.2.2.1) (g : mm_Xc S y c k args h Q) : mm_Run X (d + 1) y c k args h Q := ⟨hy, hl, by rw [if_pos he]; exact hS _ _ _ _ _ _ g⟩
theorem r_X1_formOf (_ : mm_mono X) (hS : mm_XS S X) {x : Int32} {o : Nat} (hF : F_X1_formOf S h x = some o) (hQ : Q (.inl (some (.ref o)), h)) : mm_Run X (d + 1) 3 c k [.int x] h Q :=
  mm_Run_x hS (by decide) (by decide) (Nat.le_of_ble_eq_true rfl) (.inl ⟨rfl, _, _, rfl, hF, hQ⟩)
theorem r_J0_length_8abf5 (_ : mm_mono X) (hS : mm_XS S X) {x : Nat} {o : Int32} (hF : F_J0_length_8abf5 S h x = some o) (hQ : Q (.inl (some (.int o)), h)) : mm_Run X (d + 1) 262 c k [.ref x] h Q :=
  mm_Run_x hS (by decide) (by decide) (Nat.le_of_ble_eq_true rfl) (.inr (.inl ⟨rfl, _, _, rfl, hF, hQ⟩))
theorem r_J0_charAt_5068e (_ : mm_mono X) (hS : mm_XS S X) {x : Nat} {j o : Int32} (hF : F_J0_charAt_5068e S h x j = some o) (hQ : Q (.inl (some (.int o)), h)) : mm_Run X (d + 1) 263 c k [.ref x, .int j] h Q :=
  mm_Run_x hS (by decide) (by decide) (Nat.le_of_ble_eq_true rfl) (.inr (.inr (.inl ⟨rfl, _, _, _, rfl, hF, hQ⟩)))
theorem r_J0_checkIndex_df160 (_ : mm_mono X) (hS : mm_XS S X) {j n : Int32} {o : Unit} (hF : F_J0_checkIndex_df160 S h j n = some o) (hQ : Q (.inl none, h)) : mm_Run X (d + 1) 264 c k [.int j, .int n] h Q :=
  mm_Run_x hS (by decide) (by decide) (Nat.le_of_ble_eq_true rfl) (.inr (.inr (.inr (.inl ⟨rfl, _, _, _, rfl, hF, hQ⟩))))
theorem r_J6_getChars_ba4f3 (_ : mm_mono X) (hS : mm_XS S X) {x j : Int32} {q : Nat} {o : Int32 × mm_S} (hF : F_J6_getChars_ba4f3 S h x j q = some o) (hQ : Q (.inl (some (.int o.1)), o.2)) : mm_Run X (d + 1) 256 c k [.int x, .int j, .ref q] h Q :=
  mm_Run_x hS (by decide) (by decide) (Nat.le_of_ble_eq_true rfl) (.inr (.inr (.inr (.inr (.inl ⟨rfl, _, _, _, _, rfl, hF, hQ⟩)))))
theorem r_J5_isLatin1_aae02 (_ : mm_mono X) (hS : mm_XS S X) {x : Nat} {o : Int32} (hF : F_J5_isLatin1_aae02 S h x = some o) (hQ : Q (.inl (some (.int o)), h)) : mm_Run X (d + 1) 255 c k [.ref x] h Q :=
  mm_Run_x hS (by decide) (by decide) (Nat.le_of_ble_eq_true rfl) (.inr (.inr (.inr (.inr (.inr (.inl ⟨rfl, _, _, rfl, hF, hQ⟩))))))
end XS
end
section
/-! views: a piece of the world, laid at addresses -/
def ov_ (n : Nat) (c : Nat → mm_Ce) (l : Nat → Nat) (h : mm_S) : mm_S := (h.1, fun q => match (List.range n).find? (fun i => l i == q) with
  | some i => c i
  | none => h.2 q)
def ov_L (n : Nat) (l : Nat → Nat) (h : mm_S) : Prop := (∀ i, i < n → l i ∈ h.1) ∧ ∀ i j, i < n → j < n → l i = l j → i = j
section OV
variable {n : Nat} {c c' : Nat → mm_Ce} {l : Nat → Nat} {h : mm_S} {i q : Nat}
theorem ov_find (hd : ∀ i j, i < n → j < n → l i = l j → i = j) (hi : i < n) : (List.range n).find? (fun j => l j == l i) = some i := by
  cases e : (List.range n).find? (fun j => l j == l i) with
  | none =>
    have h3 := List.find?_eq_none.mp e i (List.mem_range.mpr hi)
    exact absurd (beq_self_eq_true (l i)) h3
  | some j =>
    have h1 := List.find?_some e
    have h2 := List.mem_of_find?_eq_some e
    rw [hd j i (List.mem_range.mp h2) hi (by simpa using h1)]
theorem ov_at (hl : ov_L n l h) (hi : i < n) : (ov_ n c l h).2 (l i) = c i := by
  unfold ov_
  dsimp only
  rw [ov_find hl.2 hi]
theorem ov_none (hq : ∀ i, i < n → l i ≠ q) : (List.range n).find? (fun i => l i == q) = none :=
  List.find?_eq_none.mpr (fun i hi => by simpa using hq i (List.mem_range.mp hi))
theorem ov_ne (hq : ∀ i, i < n → l i ≠ q) : (ov_ n c l h).2 q = h.2 q := by
  unfold ov_
  dsimp only
  rw [ov_none hq]
theorem ov_cs (P : Nat → Prop) (h1 : ∀ i, i < n → P (l i)) (h2 : (∀ i, i < n → l i ≠ q) → P q) : P q := by
  by_cases e : ∃ i, i < n ∧ l i = q
  · obtain ⟨i, hi, rfl⟩ := e
    exact h1 i hi
  · exact h2 (fun i hi e2 => e ⟨i, hi, e2⟩)
theorem ov_ext (he : ∀ i, i < n → c i = c' i) : ov_ n c l h = ov_ n c' l h := by
  unfold ov_
  refine Prod.ext rfl (funext fun q => ?_)
  dsimp only
  cases e : (List.range n).find? (fun i => l i == q) with
  | none => rfl
  | some i => exact he i (List.mem_range.mp (List.mem_of_find?_eq_some e))
theorem ov_put (hl : ov_L n l h) (hi : i < n) {x : mm_Ce} : mm_put (ov_ n c l h) (l i) x = ov_ n (va_up c i x) l h := by
  refine Prod.ext rfl (funext fun q => ?_)
  show va_up (ov_ n c l h).2 (l i) x q = _
  refine ov_cs (n := n) (l := l) (q := q) (fun q => va_up (ov_ n c l h).2 (l i) x q = (ov_ n (va_up c i x) l h).2 q) (fun j hj => ?_) (fun hn => ?_)
  · rw [ov_at (c := va_up c i x) hl hj]
    by_cases e : j = i
    · subst e
      rw [va_up_self, va_up_self]
    · rw [va_up_ne _ _ e, va_up_ne _ _ (fun e2 => e (hl.2 _ _ hj hi e2)), ov_at hl hj]
  · rw [va_up_ne _ _ (fun e => hn i hi e.symm), ov_ne hn, ov_ne hn]
theorem ov_eq (hl : ov_L n l h) (he : ∀ i, i < n → h.2 (l i) = c i) : ov_ n c l h = h := by
  refine Prod.ext rfl (funext fun q => ?_)
  refine ov_cs (n := n) (l := l) (q := q) (fun q => (ov_ n c l h).2 q = h.2 q) (fun j hj => ?_) (fun hn => ov_ne hn)
  rw [ov_at hl hj, he j hj]
theorem ov_ov : ov_ n c l (ov_ n c' l h) = ov_ n c l h := by
  unfold ov_
  refine Prod.ext rfl (funext fun q => ?_)
  dsimp only
  cases (List.range n).find? (fun i => l i == q) <;> rfl
theorem ov_Lo (hl : ov_L n l h) : ov_L n l (ov_ n c l h) := hl
end OV
/-! the numbers of the codes -/
theorem kk_i (n : Nat) : ki (@OfNat.ofNat Int n instOfNat) = nI n := by
  show Int32.ofInt ((n : Nat) : Int) = Int32.ofNat n
  first | rfl | exact Int32.ofInt_eq_ofNat | simp | (apply Int32.toBitVec_inj.mp; simp [Int32.ofInt, Int32.ofNat])
theorem kk_m1 : ki (-1) = -1 := by decide
theorem kk_0 : (0 : Int32) = nI 0 := rfl
theorem kk_1 : (1 : Int32) = nI 1 := rfl
theorem kk_b6 : kb 6 = nI 6 := by decide
theorem kk_b7 : kb 7 = nI 7 := by decide
theorem kk_b8 : kb 8 = nI 8 := by decide
theorem kk_b9 : kb 9 = nI 9 := by decide
theorem kk_b10 : kb 10 = nI 10 := by decide
theorem kk_b11 : kb 11 = nI 11 := by decide
theorem kk_b12 : kb 12 = nI 12 := by decide
theorem kk_b13 : kb 13 = nI 13 := by decide
theorem kk_b14 : kb 14 = nI 14 := by decide
theorem kk_b15 : kb 15 = nI 15 := by decide
theorem kk_b16 : kb 16 = nI 16 := by decide
theorem kk_b20 : kb 20 = nI 20 := by decide
theorem kk_b24 : kb 24 = nI 24 := by decide
theorem kk_b32 : kb 32 = nI 32 := by decide
theorem kk_b33 : kb 33 = nI 33 := by decide
theorem kk_b34 : kb 34 = nI 34 := by decide
theorem kk_b35 : kb 35 = nI 35 := by decide
theorem kk_b36 : kb 36 = nI 36 := by decide
theorem kk_b40 : kb 40 = nI 40 := by decide
theorem kk_b46 : kb 46 = nI 46 := by decide
theorem kk_b47 : kb 47 = nI 47 := by decide
theorem kk_b48 : kb 48 = nI 48 := by decide
theorem kk_b57 : kb 57 = nI 57 := by decide
theorem kk_b58 : kb 58 = nI 58 := by decide
theorem kk_b59 : kb 59 = nI 59 := by decide
theorem kk_b60 : kb 60 = nI 60 := by decide
theorem kk_b61 : kb 61 = nI 61 := by decide
theorem kk_b63 : kb 63 = nI 63 := by decide
theorem kk_b64 : kb 64 = nI 64 := by decide
theorem kk_b94 : kb 94 = nI 94 := by decide
theorem kk_b97 : kb 97 = nI 97 := by decide
theorem kk_b98 : kb 98 = nI 98 := by decide
theorem kk_b99 : kb 99 = nI 99 := by decide
theorem kk_b100 : kb 100 = nI 100 := by decide
theorem kk_b101 : kb 101 = nI 101 := by decide
theorem kk_b102 : kb 102 = nI 102 := by decide
theorem kk_b104 : kb 104 = nI 104 := by decide
theorem kk_b105 : kb 105 = nI 105 := by decide
theorem kk_b107 : kb 107 = nI 107 := by decide
theorem kk_b108 : kb 108 = nI 108 := by decide
theorem kk_b109 : kb 109 = nI 109 := by decide
theorem kk_b110 : kb 110 = nI 110 := by decide
theorem kk_b114 : kb 114 = nI 114 := by decide
theorem kk_b115 : kb 115 = nI 115 := by decide
theorem kk_b116 : kb 116 = nI 116 := by decide
theorem kk_b117 : kb 117 = nI 117 := by decide
theorem kk_b118 : kb 118 = nI 118 := by decide
theorem kk_b121 : kb 121 = nI 121 := by decide
theorem kk_b126 : kb 126 = nI 126 := by decide
theorem kk_bm : kb (-10) = -10 := by decide
theorem kk_s : ks 255 = nI 255 := by decide
/-- a loop, without an end of its own -/
theorem lp_ {β γ : Type} {n : Nat} {f : Nat → Nat → β → Option γ} (P : Nat → β → Prop) (hs : ∀ m i b, i < n → P i b → ∃ b2, f (m + 1) i b = f m (i + 1) b2 ∧ P (i + 1) b2) : ∀ (d i : Nat) (b : β) (m : Nat), d + i = n → P i b → d ≤ m → ∃ b2, f m i b = f (m - d) n b2 ∧ P n b2
  | 0, i, b, m, hd, hp, _ => by
    have e : i = n := by omega
    subst e
    exact ⟨b, rfl, hp⟩
  | d + 1, i, b, m, hd, hp, hm => by
    obtain ⟨m, rfl⟩ : ∃ m2, m = m2 + 1 := ⟨m - 1, by omega⟩
    obtain ⟨b2, e, hp2⟩ := hs m i b (by omega) hp
    obtain ⟨b3, e3, hp3⟩ := lp_ P hs d (i + 1) b2 m (by omega) hp2 (by omega)
    refine ⟨b3, ?_, hp3⟩
    rw [e, e3, Nat.add_sub_add_right]
/-- a loop that may be left -/
theorem lp_x {β γ : Type} {n : Nat} {f : Nat → Nat → β → Option γ} (P : Nat → β → Prop) (E : γ → Prop) (hs : ∀ m i b, i < n → P i b → (∃ r, f (m + 1) i b = some r ∧ E r) ∨ ∃ b2, f (m + 1) i b = f m (i + 1) b2 ∧ P (i + 1) b2) : ∀ (d i : Nat) (b : β) (m : Nat), d + i = n → P i b → d ≤ m → (∃ r, f m i b = some r ∧ E r) ∨ ∃ b2, f m i b = f (m - d) n b2 ∧ P n b2
  | 0, i, b, m, hd, hp, _ => by
    have e : i = n := by omega
    subst e
    exact .inr ⟨b, rfl, hp⟩
  | d + 1, i, b, m, hd, hp, hm => by
    obtain ⟨m, rfl⟩ : ∃ m2, m = m2 + 1 := ⟨m - 1, by omega⟩
    rcases hs m i b (by omega) hp with ⟨r, e, hr⟩ | ⟨b2, e, hp2⟩
    · exact .inl ⟨r, e, hr⟩
    · rcases lp_x P E hs d (i + 1) b2 m (by omega) hp2 (by omega) with ⟨r, e3, hr⟩ | ⟨b3, e3, hp3⟩
      · exact .inl ⟨r, by rw [e, e3], hr⟩
      · exact .inr ⟨b3, by rw [e, e3, Nat.add_sub_add_right], hp3⟩
/-- a loop that counts or sums: one number is carried -/
theorem lp_f {β γ : Type} {n : Nat} {f : Nat → Nat → β → Option γ} (g : Nat → β → β) (hs : ∀ m i b, i < n → f (m + 1) i b = f m (i + 1) (g i b)) (b : β) (m : Nat) (hm : n ≤ m) : f m 0 b = f (m - n) n (Nat.rec b (fun i x => g i x) n) := by
  obtain ⟨b2, e, hp⟩ := lp_ (P := fun i x => x = Nat.rec b (fun i x => g i x) i) (fun m i x hi hp => ⟨g i x, hs m i x hi, by rw [hp]⟩) n 0 b m (by omega) rfl hm
  rw [e, hp]
/-- a loop that looks for the first -/
theorem lp_d {γ : Type} {n : Nat} {f : Nat → Nat → Option γ} (p : Nat → Bool) (r : Nat → γ) (hs : ∀ m i, i < n → f (m + 1) i = if p i = true then some (r i) else f m (i + 1)) (m : Nat) (hm : n ≤ m) : f m 0 = match (List.range n).find? p with
    | some i => some (r i)
    | none => f (m - n) n := by
  have key : ∀ (d i m : Nat), d + i = n → d ≤ m → f m i = match (List.range' i d).find? p with
    | some i => some (r i)
    | none => f (m - d) n := by
    intro d
    induction d with
    | zero =>
      intro i m hd _
      have e : i = n := by omega
      subst e
      rfl
    | succ d ih =>
      intro i m hd hm
      obtain ⟨m, rfl⟩ : ∃ m2, m = m2 + 1 := ⟨m - 1, by omega⟩
      rw [hs m i (by omega), List.range'_succ, List.find?_cons]
      by_cases hp : p i = true
      · rw [if_pos hp, hp]
      · rw [if_neg hp, ih (i + 1) m (by omega) (by omega), Nat.add_sub_add_right]
        rw [Bool.not_eq_true] at hp
        rw [hp]
  rw [key n 0 m (by omega) hm, List.range_eq_range']
end
section
/-! a treaty of the class: sixteen cells -/
def fS_ (f : Nat → Int32) : List Value := [.int (f 0), .int (f 1), .int (f 2), .int (f 3), .int (f 4), .int (f 5), .int (f 6)]
def fG_ (f : Nat → Int32) : List Value := [.int (f 0), .int (f 1), .int (f 2), .int (f 3), .int (f 4)]
def fT_ (l : Nat → Nat) (f : Nat → Int32) : List Value := [.ref (l 1), .ref (l 2), .ref (l 3), .int (f 3), .int (f 4), .int (f 5), .int (f 6), .int (f 7), .int (f 8), .int (f 9)]
def aR_ (n : Nat) (f : Nat → Nat) : Nat → Option Nat := fun k => if k < n then some (f k) else none
def tc_ (l g : Nat → Nat) (w : Nat → Nat → Int32) (i : Nat) : mm_Ce := match i with
  | 0 => .inr (3, fT_ l (w 0))
  | 1 => .inl (5, 2, .inr (.inr (.inr (.inr (aR_ 2 (fun k => l (k + 4)))))))
  | 2 => .inl (0, 8, .inl (w 2))
  | 3 => .inl (6, 10, .inr (.inr (.inr (.inr (aR_ 10 (fun k => l (g k)))))))
  | 4 => .inr (0, fG_ (w 4))
  | 5 => .inr (0, fG_ (w 5))
  | i + 6 => .inr (2, fS_ (w (i + 6)))
def tv_ (l g : Nat → Nat) (w : Nat → Nat → Int32) (h : mm_S) : mm_S := ov_ 16 (tc_ l g w) l h
def w2_ (w : Nat → Nat → Int32) (i k : Nat) (v : Int32) : Nat → Nat → Int32 := fun a b => if a = i ∧ b = k then v else w a b
def si_ (i : Nat) : Prop := 6 ≤ i ∧ i < 16
def gi_ (i : Nat) : Prop := i = 4 ∨ i = 5
theorem tc_S {l g : Nat → Nat} {w : Nat → Nat → Int32} {i : Nat} (hi : si_ i) : tc_ l g w i = .inr (2, fS_ (w i)) := by
  obtain ⟨n, rfl⟩ := Nat.exists_eq_add_of_le' hi.1
  rfl
theorem tc_G {l g : Nat → Nat} {w : Nat → Nat → Int32} {i : Nat} (hi : gi_ i) : tc_ l g w i = .inr (0, fG_ (w i)) := by
  rcases hi with rfl | rfl <;> rfl
theorem tc_w {l g : Nat → Nat} {w w' : Nat → Nat → Int32} {i : Nat} (e : w i = w' i) : tc_ l g w i = tc_ l g w' i := by
  unfold tc_
  split <;> simp only [e]
theorem w2_ne {w : Nat → Nat → Int32} {i k a : Nat} {v : Int32} (e : a ≠ i) : w2_ w i k v a = w a := by
  funext b
  unfold w2_
  rw [if_neg (fun q => e q.1)]
theorem w2_upd {w : Nat → Nat → Int32} {i k : Nat} {v : Int32} : w2_ w i k v i = upd (w i) k v := by
  funext b
  unfold w2_ upd
  by_cases e : b = k
  · rw [if_pos ⟨rfl, e⟩, if_pos e]
  · rw [if_neg (fun q => e q.2), if_neg e]
theorem fit_int (x : Int32) : narrow .int (.int x) = .int x ∧ fits .int (.int x) = true := ⟨vp_nar_int x, rfl⟩
theorem fS_get (f : Nat → Int32) : ∀ k, k < 7 → (fS_ f)[k]? = some (.int (f k)) := by
  intro k hk
  match k, hk with
  | 0, _ | 1, _ | 2, _ | 3, _ | 4, _ | 5, _ | 6, _ => rfl
theorem fS_set (f : Nat → Int32) (v : Int32) : ∀ k, k < 7 → (fS_ f).set k (.int v) = fS_ (upd f k v) := by
  intro k hk
  match k, hk with
  | 0, _ | 1, _ | 2, _ | 3, _ | 4, _ | 5, _ | 6, _ => rfl
theorem fS_fit (v : Int32) : ∀ k, k < 7 → (narrow (mm_fty 2 k) (.int v) = .int v ∧ fits (mm_fty 2 k) (.int v) = true) := by
  intro k hk
  match k, hk with
  | 0, _ | 1, _ | 2, _ | 3, _ | 4, _ | 5, _ | 6, _ => exact fit_int v
theorem fG_get (f : Nat → Int32) : ∀ k, k < 5 → (fG_ f)[k]? = some (.int (f k)) := by
  intro k hk
  match k, hk with
  | 0, _ | 1, _ | 2, _ | 3, _ | 4, _ => rfl
theorem fG_set (f : Nat → Int32) (v : Int32) : ∀ k, k < 5 → (fG_ f).set k (.int v) = fG_ (upd f k v) := by
  intro k hk
  match k, hk with
  | 0, _ | 1, _ | 2, _ | 3, _ | 4, _ => rfl
theorem fG_fit (v : Int32) : ∀ k, k < 5 → (narrow (mm_fty 0 k) (.int v) = .int v ∧ fits (mm_fty 0 k) (.int v) = true) := by
  intro k hk
  match k, hk with
  | 0, _ | 1, _ | 2, _ | 3, _ | 4, _ => exact fit_int v
theorem fT_get (l : Nat → Nat) (f : Nat → Int32) : ∀ k, 3 ≤ k → k < 10 → (fT_ l f)[k]? = some (.int (f k)) := by
  intro k h3 hk
  match k, h3, hk with
  | 3, _, _ | 4, _, _ | 5, _, _ | 6, _, _ | 7, _, _ | 8, _, _ | 9, _, _ => rfl
theorem fT_set (l : Nat → Nat) (f : Nat → Int32) (v : Int32) : ∀ k, 3 ≤ k → k < 10 → (fT_ l f).set k (.int v) = fT_ l (upd f k v) := by
  intro k h3 hk
  match k, h3, hk with
  | 3, _, _ | 4, _, _ | 5, _, _ | 6, _, _ | 7, _, _ | 8, _, _ | 9, _, _ => rfl
theorem fT_fit (v : Int32) : ∀ k, 3 ≤ k → k < 10 → (narrow (mm_fty 3 k) (.int v) = .int v ∧ fits (mm_fty 3 k) (.int v) = true) := by
  intro k h3 hk
  match k, h3, hk with
  | 3, _, _ | 4, _, _ | 5, _, _ | 6, _, _ | 7, _, _ | 8, _, _ | 9, _, _ => exact fit_int v
theorem fx_in_nI {j n : Nat} (h : j < n) (hn : n < 2 ^ 31) : fx_in (nI j) n = true := by
  have h1 := nI_in h hn
  unfold fx_in
  rw [Bool.not_eq_true', Bool.or_eq_false_iff, decide_eq_false_iff_not, decide_eq_false_iff_not]
  exact ⟨fun q => h1 (.inl q), fun q => h1 (.inr q)⟩
section OO
variable {n : Nat} {c : Nat → mm_Ce} {l : Nat → Nat} {h : mm_S} {i : Nat}
theorem ox_obj (hl : ov_L n l h) (hi : i < n) {a : Nat} {fs : List Value} (e : c i = .inr (a, fs)) : fx_obj (ov_ n c l h) (l i) a = some fs := by
  unfold fx_obj
  rw [if_pos (show l i ∈ (ov_ n c l h).1 from hl.1 i hi), ov_at hl hi, e]
  exact if_pos rfl
theorem ox_is (hl : ov_L n l h) (hi : i < n) {a : Nat} {fs : List Value} (e : c i = .inr (a, fs)) : fx_is (ov_ n c l h) (l i) a = some () := by
  unfold fx_is
  rw [ox_obj hl hi e]
  rfl
theorem ox_gI (hl : ov_L n l h) (hi : i < n) {a k : Nat} {fs : List Value} {x : Int32} (e : c i = .inr (a, fs)) (hk : fs[k]? = some (.int x)) : fx_gI (ov_ n c l h) (l i) a k = some x := by
  unfold fx_gI
  rw [ox_obj hl hi e, Option.bind_some, hk]
theorem ox_gL (hl : ov_L n l h) (hi : i < n) {a k : Nat} {fs : List Value} {x : Int64} (e : c i = .inr (a, fs)) (hk : fs[k]? = some (.long x)) : fx_gL (ov_ n c l h) (l i) a k = some x := by
  unfold fx_gL
  rw [ox_obj hl hi e, Option.bind_some, hk]
theorem ox_gR (hl : ov_L n l h) (hi : i < n) {a k : Nat} {fs : List Value} {x : Nat} (e : c i = .inr (a, fs)) (hk : fs[k]? = some (.ref x)) : fx_gR (ov_ n c l h) (l i) a k = some x := by
  unfold fx_gR
  rw [ox_obj hl hi e, Option.bind_some, hk]
theorem ox_pV (hl : ov_L n l h) (hi : i < n) {a k : Nat} {fs : List Value} {v : Value} (e : c i = .inr (a, fs)) (hk : k < fs.length) (hf : narrow (mm_fty a k) v = v ∧ fits (mm_fty a k) v = true) : fx_pV (ov_ n c l h) (l i) a k v = some (ov_ n (va_up c i (.inr (a, fs.set k v))) l h) := by
  unfold fx_pV
  rw [ox_obj hl hi e, Option.bind_some, if_pos ⟨hk, hf⟩, ov_put hl hi]
theorem ox_arI (hl : ov_L n l h) (hi : i < n) {ts : List Nat} {t m : Nat} {f : Nat → Int32} (e : c i = .inl (t, m, .inl f)) (ht : t ∈ ts) : fx_arI (ov_ n c l h) (l i) ts = some (t, m, f) := by
  unfold fx_arI
  rw [if_pos (show l i ∈ (ov_ n c l h).1 from hl.1 i hi), ov_at hl hi, e]
  exact if_pos ht
theorem ox_aI (hl : ov_L n l h) (hi : i < n) {m j : Nat} {f : Nat → Int32} (e : c i = .inl (0, m, .inl f)) (hj : j < m) (hm : m < 2 ^ 31) : fx_aI (ov_ n c l h) (l i) (nI j) = some (f j) := by
  unfold fx_aI
  rw [ox_arI hl hi e List.mem_cons_self, Option.bind_some]
  dsimp only
  rw [if_pos (fx_in_nI hj hm), nI_clamp (by omega)]
theorem ox_sI (hl : ov_L n l h) (hi : i < n) {m j : Nat} {f : Nat → Int32} {x : Int32} (e : c i = .inl (0, m, .inl f)) (hj : j < m) (hm : m < 2 ^ 31) : fx_sI (ov_ n c l h) (l i) (nI j) x = some (ov_ n (va_up c i (.inl (0, m, .inl (upd f j x)))) l h) := by
  unfold fx_sI
  rw [ox_arI hl hi e List.mem_cons_self, Option.bind_some]
  dsimp only
  rw [if_pos (fx_in_nI hj hm), nI_clamp (by omega), ov_put hl hi]
theorem ox_arR (hl : ov_L n l h) (hi : i < n) {t m : Nat} {f : Nat → Option Nat} (e : c i = .inl (t, m, .inr (.inr (.inr (.inr f))))) (ht : 5 ≤ t ∧ t < 9) : fx_arR (ov_ n c l h) (l i) = some (t, m, f) := by
  unfold fx_arR
  rw [if_pos (show l i ∈ (ov_ n c l h).1 from hl.1 i hi), ov_at hl hi, e]
  exact if_pos ht
theorem ox_aR (hl : ov_L n l h) (hi : i < n) {t m j v : Nat} {f : Nat → Option Nat} (e : c i = .inl (t, m, .inr (.inr (.inr (.inr f))))) (ht : 5 ≤ t ∧ t < 9) (hj : j < m) (hm : m < 2 ^ 31) (hv : f j = some v) : fx_aR (ov_ n c l h) (l i) (nI j) = some v := by
  unfold fx_aR
  rw [ox_arR hl hi e ht, Option.bind_some]
  dsimp only
  rw [if_pos (fx_in_nI hj hm), nI_clamp (by omega), hv]
theorem ox_sR (hl : ov_L n l h) (hi : i < n) {t m j z a : Nat} {fs : List Value} {f : Nat → Option Nat} (e : c i = .inl (t, m, .inr (.inr (.inr (.inr f))))) (ht : 5 ≤ t ∧ t < 9) (hj : j < m) (hm : m < 2 ^ 31) (hz : z < n) (ez : c z = .inr (a, fs)) (ha : mm_tyl[t]? = some (.object (mm_C a).1) ∧ a < 8) : fx_sR (ov_ n c l h) (l i) (nI j) (l z) = some (ov_ n (va_up c i (.inl (t, m, .inr (.inr (.inr (.inr (va_up f j (some (l z))))))))) l h) := by
  unfold fx_sR
  rw [ox_arR hl hi e ht, Option.bind_some]
  dsimp only
  rw [if_pos ⟨fx_in_nI hj hm, show l z ∈ (ov_ n c l h).1 from hl.1 z hz⟩, ov_at hl hz, ez]
  dsimp only
  rw [if_pos ha, nI_clamp (by omega), ov_put hl hi]
theorem ox_len (hl : ov_L n l h) (hi : i < n) {t : Nat} {x : Nat × ((Nat → Int32) ⊕ (Nat → Int64) ⊕ (Nat → UInt32) ⊕ (Nat → UInt64) ⊕ (Nat → Option Nat))} (e : c i = .inl (t, x)) (ht : t < 9) : fx_len (ov_ n c l h) (l i) = some (nI x.1) := by
  unfold fx_len
  rw [if_pos (show l i ∈ (ov_ n c l h).1 from hl.1 i hi), ov_at hl hi, e]
  exact if_pos ht
end OO
section TV
variable {l g : Nat → Nat} {w : Nat → Nat → Int32} {h : mm_S} {i k j b : Nat} {v : Int32}
theorem tv_is (hl : ov_L 16 l h) : fx_is (tv_ l g w h) (l 0) 3 = some () := ox_is hl (by decide) rfl
theorem tv_isS (hl : ov_L 16 l h) (hi : si_ i) : fx_is (tv_ l g w h) (l i) 2 = some () := ox_is hl hi.2 (tc_S hi)
theorem gi_lt {i : Nat} (hi : gi_ i) : i < 16 := by rcases hi with rfl | rfl <;> decide
theorem tv_isG (hl : ov_L 16 l h) (hi : gi_ i) : fx_is (tv_ l g w h) (l i) 0 = some () := ox_is hl (gi_lt hi) (tc_G hi)
theorem tv_r0 (hl : ov_L 16 l h) : fx_gR (tv_ l g w h) (l 0) 3 0 = some (l 1) := ox_gR hl (by decide) rfl rfl
theorem tv_r1 (hl : ov_L 16 l h) : fx_gR (tv_ l g w h) (l 0) 3 1 = some (l 2) := ox_gR hl (by decide) rfl rfl
theorem tv_r2 (hl : ov_L 16 l h) : fx_gR (tv_ l g w h) (l 0) 3 2 = some (l 3) := ox_gR hl (by decide) rfl rfl
theorem tv_gN (hl : ov_L 16 l h) (h3 : 3 ≤ k) (hk : k < 10) : fx_gI (tv_ l g w h) (l 0) 3 k = some (w 0 k) := ox_gI hl (by decide) rfl (fT_get l (w 0) k h3 hk)
theorem tv_gG (hl : ov_L 16 l h) (hi : gi_ i) (hk : k < 5) : fx_gI (tv_ l g w h) (l i) 0 k = some (w i k) := ox_gI hl (gi_lt hi) (tc_G hi) (fG_get (w i) k hk)
theorem tv_gS (hl : ov_L 16 l h) (hi : si_ i) (hk : k < 7) : fx_gI (tv_ l g w h) (l i) 2 k = some (w i k) := ox_gI hl hi.2 (tc_S hi) (fS_get (w i) k hk)
theorem tv_aO (hl : ov_L 16 l h) (hk : k < 8) : fx_aI (tv_ l g w h) (l 2) (nI k) = some (w 2 k) := ox_aI hl (by decide) rfl hk (by decide)
theorem tv_aG (hl : ov_L 16 l h) (hk : b < 2) : fx_aR (tv_ l g w h) (l 1) (nI b) = some (l (b + 4)) := ox_aR hl (by decide) rfl (by decide) hk (by decide) (if_pos hk)
theorem tv_aS (hl : ov_L 16 l h) (hk : j < 10) : fx_aR (tv_ l g w h) (l 3) (nI j) = some (l (g j)) := ox_aR hl (by decide) rfl (by decide) hk (by decide) (if_pos hk)
theorem tv_up {i : Nat} {w' : Nat → Nat → Int32} {x : mm_Ce} (hx : x = tc_ l g w' i) (hw : ∀ a, a ≠ i → w a = w' a) : ov_ 16 (va_up (tc_ l g w) i x) l h = tv_ l g w' h := by
  refine ov_ext fun a _ => ?_
  by_cases e : a = i
  · subst e
    rw [va_up_self, hx]
  · rw [va_up_ne _ _ e]
    exact tc_w (hw a e)
theorem tv_pN (hl : ov_L 16 l h) (h3 : 3 ≤ k) (hk : k < 10) : fx_pV (tv_ l g w h) (l 0) 3 k (.int v) = some (tv_ l g (w2_ w 0 k v) h) := by
  unfold tv_
  rw [ox_pV hl (by decide) (show tc_ l g w 0 = .inr (3, fT_ l (w 0)) from rfl) hk (fT_fit v k h3 hk), fT_set l (w 0) v k h3 hk]
  exact congrArg some (tv_up (by rw [← w2_upd]; rfl) (fun a ha => (w2_ne ha).symm))
theorem tv_pG (hl : ov_L 16 l h) (hi : gi_ i) (hk : k < 5) : fx_pV (tv_ l g w h) (l i) 0 k (.int v) = some (tv_ l g (w2_ w i k v) h) := by
  unfold tv_
  rw [ox_pV hl (gi_lt hi) (tc_G hi) hk (fG_fit v k hk), fG_set (w i) v k hk]
  exact congrArg some (tv_up (by rw [tc_G hi, w2_upd]) (fun a ha => (w2_ne ha).symm))
theorem tv_pS (hl : ov_L 16 l h) (hi : si_ i) (hk : k < 7) : fx_pV (tv_ l g w h) (l i) 2 k (.int v) = some (tv_ l g (w2_ w i k v) h) := by
  unfold tv_
  rw [ox_pV hl hi.2 (tc_S hi) hk (fS_fit v k hk), fS_set (w i) v k hk]
  exact congrArg some (tv_up (by rw [tc_S hi, w2_upd]) (fun a ha => (w2_ne ha).symm))
theorem tv_sO (hl : ov_L 16 l h) (hk : k < 8) : fx_sI (tv_ l g w h) (l 2) (nI k) v = some (tv_ l g (w2_ w 2 k v) h) := by
  unfold tv_
  rw [ox_sI hl (by decide) (show tc_ l g w 2 = .inl (0, 8, .inl (w 2)) from rfl) hk (by decide)]
  exact congrArg some (tv_up (by rw [← w2_upd]; rfl) (fun a ha => (w2_ne ha).symm))
theorem tv_sS (hl : ov_L 16 l h) (hj : j < 10) (hi : si_ i) : fx_sR (tv_ l g w h) (l 3) (nI j) (l i) = some (tv_ l (va_up g j i) w h) := by
  unfold tv_
  rw [ox_sR hl (by decide) (show tc_ l g w 3 = .inl (6, 10, .inr (.inr (.inr (.inr (aR_ 10 (fun k => l (g k))))))) from rfl) (by decide) hj (by decide) hi.2 (tc_S hi) ⟨rfl, by decide⟩]
  refine congrArg some (ov_ext fun a _ => ?_)
  by_cases e : a = 3
  · subst e
    rw [va_up_self]
    have e2 : va_up (aR_ 10 (fun k => l (g k))) j (some (l i)) = aR_ 10 (fun k => l (va_up g j i k)) := by
      funext z
      unfold aR_ va_up
      by_cases ez : z = j
      · subst ez
        dsimp only
        rw [if_pos rfl, if_pos hj, if_pos rfl]
      · dsimp only
        rw [if_neg ez, if_neg ez]
    rw [e2]
    rfl
  · rw [va_up_ne _ _ e]
    unfold tc_
    split <;> first | rfl | (exact absurd rfl e)
end TV
end
