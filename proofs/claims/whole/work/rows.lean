section
-- ===== PART A: goes FIRST, ahead of the names: the tables' words, and 'selects' of the private methods out of them =====
/-- a private method of a class that the tables say can be made, by its rows of tables_1 -/
def lw_okq (q : MethodName × Nat) : Prop := (q.1.cls ≠ "java/lang/invoke/MethodHandle" ∧ q.1.cls ≠ "java/lang/invoke/VarHandle") ∧ Cond.instantiable q.1.cls q.2 ∈ tables_1 ∧ Cond.privateMethod q.1 ∈ tables_1 ∧ Cond.instanceMethod q.1 ∈ tables_1
theorem lw_p0 : lw_okq (⟨"HillHours$Ground", "survey", "()V"⟩, 8) := ⟨⟨by decide +kernel, by decide +kernel⟩, List.mem_of_getElem? (i := 28) (by decide +kernel), List.mem_of_getElem? (i := 246) (by decide +kernel), List.mem_of_getElem? (i := 247) (by decide +kernel)⟩
theorem lw_p1 : lw_okq (⟨"HillHours$Ground", "findFault", "()I"⟩, 8) := ⟨⟨by decide +kernel, by decide +kernel⟩, List.mem_of_getElem? (i := 28) (by decide +kernel), List.mem_of_getElem? (i := 250) (by decide +kernel), List.mem_of_getElem? (i := 251) (by decide +kernel)⟩
theorem lw_p2 : lw_okq (⟨"HillHours$Ground", "layCells", "()V"⟩, 8) := ⟨⟨by decide +kernel, by decide +kernel⟩, List.mem_of_getElem? (i := 28) (by decide +kernel), List.mem_of_getElem? (i := 260) (by decide +kernel), List.mem_of_getElem? (i := 261) (by decide +kernel)⟩
theorem lw_p3 : lw_okq (⟨"HillHours", "measureAnew", "()V"⟩, 17) := ⟨⟨by decide +kernel, by decide +kernel⟩, List.mem_of_getElem? (i := 14) (by decide +kernel), List.mem_of_getElem? (i := 264) (by decide +kernel), List.mem_of_getElem? (i := 265) (by decide +kernel)⟩
theorem lw_p4 : lw_okq (⟨"HillHours$Sun", "bitsAsBuilt", "(II)I"⟩, 6) := ⟨⟨by decide +kernel, by decide +kernel⟩, List.mem_of_getElem? (i := 22) (by decide +kernel), List.mem_of_getElem? (i := 276) (by decide +kernel), List.mem_of_getElem? (i := 277) (by decide +kernel)⟩
theorem lw_p5 : lw_okq (⟨"HillHours$Sun", "darkHours", "(III)I"⟩, 6) := ⟨⟨by decide +kernel, by decide +kernel⟩, List.mem_of_getElem? (i := 22) (by decide +kernel), List.mem_of_getElem? (i := 280) (by decide +kernel), List.mem_of_getElem? (i := 281) (by decide +kernel)⟩
theorem lw_p6 : lw_okq (⟨"HillHours$Sun", "reachOf", "(II)I"⟩, 6) := ⟨⟨by decide +kernel, by decide +kernel⟩, List.mem_of_getElem? (i := 22) (by decide +kernel), List.mem_of_getElem? (i := 284) (by decide +kernel), List.mem_of_getElem? (i := 285) (by decide +kernel)⟩
theorem lw_p7 : lw_okq (⟨"HillHours$Sun", "rise", "(II)I"⟩, 6) := ⟨⟨by decide +kernel, by decide +kernel⟩, List.mem_of_getElem? (i := 22) (by decide +kernel), List.mem_of_getElem? (i := 288) (by decide +kernel), List.mem_of_getElem? (i := 289) (by decide +kernel)⟩
theorem lw_p8 : lw_okq (⟨"HillHours", "isCell", "(I)Z"⟩, 17) := ⟨⟨by decide +kernel, by decide +kernel⟩, List.mem_of_getElem? (i := 14) (by decide +kernel), List.mem_of_getElem? (i := 326) (by decide +kernel), List.mem_of_getElem? (i := 327) (by decide +kernel)⟩
theorem lw_p9 : lw_okq (⟨"HillHours", "found", "(I)I"⟩, 17) := ⟨⟨by decide +kernel, by decide +kernel⟩, List.mem_of_getElem? (i := 14) (by decide +kernel), List.mem_of_getElem? (i := 359) (by decide +kernel), List.mem_of_getElem? (i := 360) (by decide +kernel)⟩
theorem lw_p10 : lw_okq (⟨"HillHours", "knowParts", "()V"⟩, 17) := ⟨⟨by decide +kernel, by decide +kernel⟩, List.mem_of_getElem? (i := 14) (by decide +kernel), List.mem_of_getElem? (i := 426) (by decide +kernel), List.mem_of_getElem? (i := 427) (by decide +kernel)⟩
theorem lw_p11 : lw_okq (⟨"HillHours$Parting", "prepare", "(LHillHours$Ground;[I)V"⟩, 11) := ⟨⟨by decide +kernel, by decide +kernel⟩, List.mem_of_getElem? (i := 83) (by decide +kernel), List.mem_of_getElem? (i := 438) (by decide +kernel), List.mem_of_getElem? (i := 439) (by decide +kernel)⟩
theorem lw_p12 : lw_okq (⟨"HillHours$Parting", "fillSums", "([I[II)V"⟩, 11) := ⟨⟨by decide +kernel, by decide +kernel⟩, List.mem_of_getElem? (i := 83) (by decide +kernel), List.mem_of_getElem? (i := 451) (by decide +kernel), List.mem_of_getElem? (i := 452) (by decide +kernel)⟩
theorem lw_p13 : lw_okq (⟨"HillHours$Parting", "differenceOf", "(I)I"⟩, 11) := ⟨⟨by decide +kernel, by decide +kernel⟩, List.mem_of_getElem? (i := 83) (by decide +kernel), List.mem_of_getElem? (i := 455) (by decide +kernel), List.mem_of_getElem? (i := 456) (by decide +kernel)⟩
theorem lw_p14 : lw_okq (⟨"HillHours$Parting", "sumOf", "(I)I"⟩, 11) := ⟨⟨by decide +kernel, by decide +kernel⟩, List.mem_of_getElem? (i := 83) (by decide +kernel), List.mem_of_getElem? (i := 459) (by decide +kernel), List.mem_of_getElem? (i := 460) (by decide +kernel)⟩
theorem lw_p15 : lw_okq (⟨"HillHours$Parting", "bothHang", "(I)Z"⟩, 11) := ⟨⟨by decide +kernel, by decide +kernel⟩, List.mem_of_getElem? (i := 83) (by decide +kernel), List.mem_of_getElem? (i := 466) (by decide +kernel), List.mem_of_getElem? (i := 467) (by decide +kernel)⟩
def lw_privs_1 : List (MethodName × Nat) := [(⟨"HillHours$Ground", "survey", "()V"⟩, 8), (⟨"HillHours$Ground", "findFault", "()I"⟩, 8), (⟨"HillHours$Ground", "layCells", "()V"⟩, 8), (⟨"HillHours", "measureAnew", "()V"⟩, 17), (⟨"HillHours$Sun", "bitsAsBuilt", "(II)I"⟩, 6), (⟨"HillHours$Sun", "darkHours", "(III)I"⟩, 6), (⟨"HillHours$Sun", "reachOf", "(II)I"⟩, 6), (⟨"HillHours$Sun", "rise", "(II)I"⟩, 6), (⟨"HillHours", "isCell", "(I)Z"⟩, 17), (⟨"HillHours", "found", "(I)I"⟩, 17), (⟨"HillHours", "knowParts", "()V"⟩, 17), (⟨"HillHours$Parting", "prepare", "(LHillHours$Ground;[I)V"⟩, 11), (⟨"HillHours$Parting", "fillSums", "([I[II)V"⟩, 11), (⟨"HillHours$Parting", "differenceOf", "(I)I"⟩, 11), (⟨"HillHours$Parting", "sumOf", "(I)I"⟩, 11), (⟨"HillHours$Parting", "bothHang", "(I)Z"⟩, 11)]
theorem lw_r1 : ∀ q ∈ lw_privs_1, lw_okq q := List.forall_mem_cons.mpr ⟨lw_p0, List.forall_mem_cons.mpr ⟨lw_p1, List.forall_mem_cons.mpr ⟨lw_p2, List.forall_mem_cons.mpr ⟨lw_p3, List.forall_mem_cons.mpr ⟨lw_p4, List.forall_mem_cons.mpr ⟨lw_p5, List.forall_mem_cons.mpr ⟨lw_p6, List.forall_mem_cons.mpr ⟨lw_p7, List.forall_mem_cons.mpr ⟨lw_p8, List.forall_mem_cons.mpr ⟨lw_p9, List.forall_mem_cons.mpr ⟨lw_p10, List.forall_mem_cons.mpr ⟨lw_p11, List.forall_mem_cons.mpr ⟨lw_p12, List.forall_mem_cons.mpr ⟨lw_p13, List.forall_mem_cons.mpr ⟨lw_p14, List.forall_mem_cons.mpr ⟨lw_p15, fun _ h => absurd h List.not_mem_nil⟩⟩⟩⟩⟩⟩⟩⟩⟩⟩⟩⟩⟩⟩⟩⟩
theorem lw_p16 : lw_okq (⟨"HillHours$Parting", "hangs", "(I)Z"⟩, 11) := ⟨⟨by decide +kernel, by decide +kernel⟩, List.mem_of_getElem? (i := 83) (by decide +kernel), List.mem_of_getElem? (i := 470) (by decide +kernel), List.mem_of_getElem? (i := 471) (by decide +kernel)⟩
theorem lw_p17 : lw_okq (⟨"HillHours$Parting", "nextTo", "(I)I"⟩, 11) := ⟨⟨by decide +kernel, by decide +kernel⟩, List.mem_of_getElem? (i := 83) (by decide +kernel), List.mem_of_getElem? (i := 474) (by decide +kernel), List.mem_of_getElem? (i := 475) (by decide +kernel)⟩
theorem lw_p18 : lw_okq (⟨"HillHours", "weighLosses", "(II)V"⟩, 17) := ⟨⟨by decide +kernel, by decide +kernel⟩, List.mem_of_getElem? (i := 14) (by decide +kernel), List.mem_of_getElem? (i := 491) (by decide +kernel), List.mem_of_getElem? (i := 492) (by decide +kernel)⟩
theorem lw_p19 : lw_okq (⟨"HillHours", "mostLost", "()I"⟩, 17) := ⟨⟨by decide +kernel, by decide +kernel⟩, List.mem_of_getElem? (i := 14) (by decide +kernel), List.mem_of_getElem? (i := 506) (by decide +kernel), List.mem_of_getElem? (i := 507) (by decide +kernel)⟩
theorem lw_p20 : lw_okq (⟨"HillHours", "weighFall", "(I)V"⟩, 17) := ⟨⟨by decide +kernel, by decide +kernel⟩, List.mem_of_getElem? (i := 14) (by decide +kernel), List.mem_of_getElem? (i := 517) (by decide +kernel), List.mem_of_getElem? (i := 518) (by decide +kernel)⟩
theorem lw_p21 : lw_okq (⟨"HillHours", "worthTo", "(II)I"⟩, 17) := ⟨⟨by decide +kernel, by decide +kernel⟩, List.mem_of_getElem? (i := 14) (by decide +kernel), List.mem_of_getElem? (i := 542) (by decide +kernel), List.mem_of_getElem? (i := 543) (by decide +kernel)⟩
theorem lw_p22 : lw_okq (⟨"HillHours", "wouldSwap", "(II)Z"⟩, 17) := ⟨⟨by decide +kernel, by decide +kernel⟩, List.mem_of_getElem? (i := 14) (by decide +kernel), List.mem_of_getElem? (i := 554) (by decide +kernel), List.mem_of_getElem? (i := 555) (by decide +kernel)⟩
theorem lw_p23 : lw_okq (⟨"HillHours", "wouldRather", "(II)Z"⟩, 17) := ⟨⟨by decide +kernel, by decide +kernel⟩, List.mem_of_getElem? (i := 14) (by decide +kernel), List.mem_of_getElem? (i := 558) (by decide +kernel), List.mem_of_getElem? (i := 559) (by decide +kernel)⟩
theorem lw_p24 : lw_okq (⟨"HillHours", "countPairs", "()I"⟩, 17) := ⟨⟨by decide +kernel, by decide +kernel⟩, List.mem_of_getElem? (i := 14) (by decide +kernel), List.mem_of_getElem? (i := 566) (by decide +kernel), List.mem_of_getElem? (i := 567) (by decide +kernel)⟩
theorem lw_p25 : lw_okq (⟨"HillHours", "countRings", "()I"⟩, 17) := ⟨⟨by decide +kernel, by decide +kernel⟩, List.mem_of_getElem? (i := 14) (by decide +kernel), List.mem_of_getElem? (i := 570) (by decide +kernel), List.mem_of_getElem? (i := 571) (by decide +kernel)⟩
theorem lw_p26 : lw_okq (⟨"HillHours", "isRing", "(III)Z"⟩, 17) := ⟨⟨by decide +kernel, by decide +kernel⟩, List.mem_of_getElem? (i := 14) (by decide +kernel), List.mem_of_getElem? (i := 574) (by decide +kernel), List.mem_of_getElem? (i := 575) (by decide +kernel)⟩
theorem lw_p27 : lw_okq (⟨"HillHours$Planting", "bestFrom", "(III)I"⟩, 4) := ⟨⟨by decide +kernel, by decide +kernel⟩, List.mem_of_getElem? (i := 123) (by decide +kernel), List.mem_of_getElem? (i := 598) (by decide +kernel), List.mem_of_getElem? (i := 599) (by decide +kernel)⟩
theorem lw_p28 : lw_okq (⟨"HillHours$Planting", "payFrom", "(III)I"⟩, 4) := ⟨⟨by decide +kernel, by decide +kernel⟩, List.mem_of_getElem? (i := 123) (by decide +kernel), List.mem_of_getElem? (i := 602) (by decide +kernel), List.mem_of_getElem? (i := 603) (by decide +kernel)⟩
theorem lw_p29 : lw_okq (⟨"HillHours$Planting", "mayStand", "(III)Z"⟩, 4) := ⟨⟨by decide +kernel, by decide +kernel⟩, List.mem_of_getElem? (i := 123) (by decide +kernel), List.mem_of_getElem? (i := 609) (by decide +kernel), List.mem_of_getElem? (i := 610) (by decide +kernel)⟩
theorem lw_p30 : lw_okq (⟨"HillHours$Planting", "leastSort", "(III)I"⟩, 4) := ⟨⟨by decide +kernel, by decide +kernel⟩, List.mem_of_getElem? (i := 123) (by decide +kernel), List.mem_of_getElem? (i := 617) (by decide +kernel), List.mem_of_getElem? (i := 618) (by decide +kernel)⟩
theorem lw_p31 : lw_okq (⟨"HillHours", "fitsAllSeen", "(I)Z"⟩, 17) := ⟨⟨by decide +kernel, by decide +kernel⟩, List.mem_of_getElem? (i := 14) (by decide +kernel), List.mem_of_getElem? (i := 641) (by decide +kernel), List.mem_of_getElem? (i := 642) (by decide +kernel)⟩
def lw_privs_2 : List (MethodName × Nat) := [(⟨"HillHours$Parting", "hangs", "(I)Z"⟩, 11), (⟨"HillHours$Parting", "nextTo", "(I)I"⟩, 11), (⟨"HillHours", "weighLosses", "(II)V"⟩, 17), (⟨"HillHours", "mostLost", "()I"⟩, 17), (⟨"HillHours", "weighFall", "(I)V"⟩, 17), (⟨"HillHours", "worthTo", "(II)I"⟩, 17), (⟨"HillHours", "wouldSwap", "(II)Z"⟩, 17), (⟨"HillHours", "wouldRather", "(II)Z"⟩, 17), (⟨"HillHours", "countPairs", "()I"⟩, 17), (⟨"HillHours", "countRings", "()I"⟩, 17), (⟨"HillHours", "isRing", "(III)Z"⟩, 17), (⟨"HillHours$Planting", "bestFrom", "(III)I"⟩, 4), (⟨"HillHours$Planting", "payFrom", "(III)I"⟩, 4), (⟨"HillHours$Planting", "mayStand", "(III)Z"⟩, 4), (⟨"HillHours$Planting", "leastSort", "(III)I"⟩, 4), (⟨"HillHours", "fitsAllSeen", "(I)Z"⟩, 17)]
theorem lw_r2 : ∀ q ∈ lw_privs_2, lw_okq q := List.forall_mem_cons.mpr ⟨lw_p16, List.forall_mem_cons.mpr ⟨lw_p17, List.forall_mem_cons.mpr ⟨lw_p18, List.forall_mem_cons.mpr ⟨lw_p19, List.forall_mem_cons.mpr ⟨lw_p20, List.forall_mem_cons.mpr ⟨lw_p21, List.forall_mem_cons.mpr ⟨lw_p22, List.forall_mem_cons.mpr ⟨lw_p23, List.forall_mem_cons.mpr ⟨lw_p24, List.forall_mem_cons.mpr ⟨lw_p25, List.forall_mem_cons.mpr ⟨lw_p26, List.forall_mem_cons.mpr ⟨lw_p27, List.forall_mem_cons.mpr ⟨lw_p28, List.forall_mem_cons.mpr ⟨lw_p29, List.forall_mem_cons.mpr ⟨lw_p30, List.forall_mem_cons.mpr ⟨lw_p31, fun _ h => absurd h List.not_mem_nil⟩⟩⟩⟩⟩⟩⟩⟩⟩⟩⟩⟩⟩⟩⟩⟩
theorem lw_p32 : lw_okq (⟨"HillHours$Chance", "reduce", "()V"⟩, 3) := ⟨⟨by decide +kernel, by decide +kernel⟩, List.mem_of_getElem? (i := 142) (by decide +kernel), List.mem_of_getElem? (i := 660) (by decide +kernel), List.mem_of_getElem? (i := 661) (by decide +kernel)⟩
theorem lw_p33 : lw_okq (⟨"HillHours$Chance", "countWays", "(II)V"⟩, 3) := ⟨⟨by decide +kernel, by decide +kernel⟩, List.mem_of_getElem? (i := 142) (by decide +kernel), List.mem_of_getElem? (i := 668) (by decide +kernel), List.mem_of_getElem? (i := 669) (by decide +kernel)⟩
theorem lw_p34 : lw_okq (⟨"HillHours", "refuseItem", "(III)I"⟩, 17) := ⟨⟨by decide +kernel, by decide +kernel⟩, List.mem_of_getElem? (i := 14) (by decide +kernel), List.mem_of_getElem? (i := 703) (by decide +kernel), List.mem_of_getElem? (i := 704) (by decide +kernel)⟩
theorem lw_p35 : lw_okq (⟨"HillHours", "countStanding", "()I"⟩, 17) := ⟨⟨by decide +kernel, by decide +kernel⟩, List.mem_of_getElem? (i := 14) (by decide +kernel), List.mem_of_getElem? (i := 750) (by decide +kernel), List.mem_of_getElem? (i := 751) (by decide +kernel)⟩
theorem lw_p36 : lw_okq (⟨"HillHours", "countOwners", "()I"⟩, 17) := ⟨⟨by decide +kernel, by decide +kernel⟩, List.mem_of_getElem? (i := 14) (by decide +kernel), List.mem_of_getElem? (i := 754) (by decide +kernel), List.mem_of_getElem? (i := 755) (by decide +kernel)⟩
theorem lw_p37 : lw_okq (⟨"HillHours", "mixCell", "(JI)J"⟩, 17) := ⟨⟨by decide +kernel, by decide +kernel⟩, List.mem_of_getElem? (i := 14) (by decide +kernel), List.mem_of_getElem? (i := 777) (by decide +kernel), List.mem_of_getElem? (i := 778) (by decide +kernel)⟩
theorem lw_p38 : lw_okq (⟨"HillHours", "mixChances", "(JI)J"⟩, 17) := ⟨⟨by decide +kernel, by decide +kernel⟩, List.mem_of_getElem? (i := 14) (by decide +kernel), List.mem_of_getElem? (i := 788) (by decide +kernel), List.mem_of_getElem? (i := 789) (by decide +kernel)⟩
theorem lw_p39 : lw_okq (⟨"HillHoursModel", "faultNow", "()I"⟩, 27) := ⟨⟨by decide +kernel, by decide +kernel⟩, List.mem_of_getElem? (i := 798) (by decide +kernel), List.mem_of_getElem? (i := 902) (by decide +kernel), List.mem_of_getElem? (i := 903) (by decide +kernel)⟩
theorem lw_p40 : lw_okq (⟨"HillHoursModel", "figureAt", "(I)I"⟩, 27) := ⟨⟨by decide +kernel, by decide +kernel⟩, List.mem_of_getElem? (i := 798) (by decide +kernel), List.mem_of_getElem? (i := 906) (by decide +kernel), List.mem_of_getElem? (i := 907) (by decide +kernel)⟩
theorem lw_p41 : lw_okq (⟨"HillHoursModel", "isCell", "(I)Z"⟩, 27) := ⟨⟨by decide +kernel, by decide +kernel⟩, List.mem_of_getElem? (i := 798) (by decide +kernel), List.mem_of_getElem? (i := 914) (by decide +kernel), List.mem_of_getElem? (i := 915) (by decide +kernel)⟩
theorem lw_p42 : lw_okq (⟨"HillHoursModel", "cellOf", "(II)I"⟩, 27) := ⟨⟨by decide +kernel, by decide +kernel⟩, List.mem_of_getElem? (i := 798) (by decide +kernel), List.mem_of_getElem? (i := 918) (by decide +kernel), List.mem_of_getElem? (i := 919) (by decide +kernel)⟩
theorem lw_p43 : lw_okq (⟨"HillHoursModel", "meets", "(I)I"⟩, 27) := ⟨⟨by decide +kernel, by decide +kernel⟩, List.mem_of_getElem? (i := 798) (by decide +kernel), List.mem_of_getElem? (i := 943) (by decide +kernel), List.mem_of_getElem? (i := 944) (by decide +kernel)⟩
theorem lw_p44 : lw_okq (⟨"HillHoursModel", "shadeOf", "(III)I"⟩, 27) := ⟨⟨by decide +kernel, by decide +kernel⟩, List.mem_of_getElem? (i := 798) (by decide +kernel), List.mem_of_getElem? (i := 962) (by decide +kernel), List.mem_of_getElem? (i := 963) (by decide +kernel)⟩
theorem lw_p45 : lw_okq (⟨"HillHoursModel", "lightOf", "(II)I"⟩, 27) := ⟨⟨by decide +kernel, by decide +kernel⟩, List.mem_of_getElem? (i := 798) (by decide +kernel), List.mem_of_getElem? (i := 970) (by decide +kernel), List.mem_of_getElem? (i := 971) (by decide +kernel)⟩
theorem lw_p46 : lw_okq (⟨"HillHoursModel", "hoursOf", "(II)I"⟩, 27) := ⟨⟨by decide +kernel, by decide +kernel⟩, List.mem_of_getElem? (i := 798) (by decide +kernel), List.mem_of_getElem? (i := 978) (by decide +kernel), List.mem_of_getElem? (i := 979) (by decide +kernel)⟩
theorem lw_p47 : lw_okq (⟨"HillHoursModel", "yearOf", "(I)I"⟩, 27) := ⟨⟨by decide +kernel, by decide +kernel⟩, List.mem_of_getElem? (i := 798) (by decide +kernel), List.mem_of_getElem? (i := 982) (by decide +kernel), List.mem_of_getElem? (i := 983) (by decide +kernel)⟩
def lw_privs_3 : List (MethodName × Nat) := [(⟨"HillHours$Chance", "reduce", "()V"⟩, 3), (⟨"HillHours$Chance", "countWays", "(II)V"⟩, 3), (⟨"HillHours", "refuseItem", "(III)I"⟩, 17), (⟨"HillHours", "countStanding", "()I"⟩, 17), (⟨"HillHours", "countOwners", "()I"⟩, 17), (⟨"HillHours", "mixCell", "(JI)J"⟩, 17), (⟨"HillHours", "mixChances", "(JI)J"⟩, 17), (⟨"HillHoursModel", "faultNow", "()I"⟩, 27), (⟨"HillHoursModel", "figureAt", "(I)I"⟩, 27), (⟨"HillHoursModel", "isCell", "(I)Z"⟩, 27), (⟨"HillHoursModel", "cellOf", "(II)I"⟩, 27), (⟨"HillHoursModel", "meets", "(I)I"⟩, 27), (⟨"HillHoursModel", "shadeOf", "(III)I"⟩, 27), (⟨"HillHoursModel", "lightOf", "(II)I"⟩, 27), (⟨"HillHoursModel", "hoursOf", "(II)I"⟩, 27), (⟨"HillHoursModel", "yearOf", "(I)I"⟩, 27)]
theorem lw_r3 : ∀ q ∈ lw_privs_3, lw_okq q := List.forall_mem_cons.mpr ⟨lw_p32, List.forall_mem_cons.mpr ⟨lw_p33, List.forall_mem_cons.mpr ⟨lw_p34, List.forall_mem_cons.mpr ⟨lw_p35, List.forall_mem_cons.mpr ⟨lw_p36, List.forall_mem_cons.mpr ⟨lw_p37, List.forall_mem_cons.mpr ⟨lw_p38, List.forall_mem_cons.mpr ⟨lw_p39, List.forall_mem_cons.mpr ⟨lw_p40, List.forall_mem_cons.mpr ⟨lw_p41, List.forall_mem_cons.mpr ⟨lw_p42, List.forall_mem_cons.mpr ⟨lw_p43, List.forall_mem_cons.mpr ⟨lw_p44, List.forall_mem_cons.mpr ⟨lw_p45, List.forall_mem_cons.mpr ⟨lw_p46, List.forall_mem_cons.mpr ⟨lw_p47, fun _ h => absurd h List.not_mem_nil⟩⟩⟩⟩⟩⟩⟩⟩⟩⟩⟩⟩⟩⟩⟩⟩
theorem lw_p48 : lw_okq (⟨"HillHoursModel", "hasOf", "(II)I"⟩, 27) := ⟨⟨by decide +kernel, by decide +kernel⟩, List.mem_of_getElem? (i := 798) (by decide +kernel), List.mem_of_getElem? (i := 993) (by decide +kernel), List.mem_of_getElem? (i := 994) (by decide +kernel)⟩
theorem lw_p49 : lw_okq (⟨"HillHoursModel", "partsOf", "(I)I"⟩, 27) := ⟨⟨by decide +kernel, by decide +kernel⟩, List.mem_of_getElem? (i := 798) (by decide +kernel), List.mem_of_getElem? (i := 1001) (by decide +kernel), List.mem_of_getElem? (i := 1002) (by decide +kernel)⟩
theorem lw_p50 : lw_okq (⟨"HillHoursModel", "partsNow", "()I"⟩, 27) := ⟨⟨by decide +kernel, by decide +kernel⟩, List.mem_of_getElem? (i := 798) (by decide +kernel), List.mem_of_getElem? (i := 1005) (by decide +kernel), List.mem_of_getElem? (i := 1006) (by decide +kernel)⟩
theorem lw_p51 : lw_okq (⟨"HillHoursModel", "laysYears", "()V"⟩, 27) := ⟨⟨by decide +kernel, by decide +kernel⟩, List.mem_of_getElem? (i := 798) (by decide +kernel), List.mem_of_getElem? (i := 1009) (by decide +kernel), List.mem_of_getElem? (i := 1010) (by decide +kernel)⟩
theorem lw_p52 : lw_okq (⟨"HillHoursModel", "all", "()I"⟩, 27) := ⟨⟨by decide +kernel, by decide +kernel⟩, List.mem_of_getElem? (i := 798) (by decide +kernel), List.mem_of_getElem? (i := 1013) (by decide +kernel), List.mem_of_getElem? (i := 1014) (by decide +kernel)⟩
theorem lw_p53 : lw_okq (⟨"HillHoursModel", "differs", "(I)I"⟩, 27) := ⟨⟨by decide +kernel, by decide +kernel⟩, List.mem_of_getElem? (i := 798) (by decide +kernel), List.mem_of_getElem? (i := 1017) (by decide +kernel), List.mem_of_getElem? (i := 1018) (by decide +kernel)⟩
theorem lw_p54 : lw_okq (⟨"HillHoursModel", "isParting", "(I)Z"⟩, 27) := ⟨⟨by decide +kernel, by decide +kernel⟩, List.mem_of_getElem? (i := 798) (by decide +kernel), List.mem_of_getElem? (i := 1024) (by decide +kernel), List.mem_of_getElem? (i := 1025) (by decide +kernel)⟩
theorem lw_p55 : lw_okq (⟨"HillHoursModel", "hangs", "(I)Z"⟩, 27) := ⟨⟨by decide +kernel, by decide +kernel⟩, List.mem_of_getElem? (i := 798) (by decide +kernel), List.mem_of_getElem? (i := 1028) (by decide +kernel), List.mem_of_getElem? (i := 1029) (by decide +kernel)⟩
theorem lw_p56 : lw_okq (⟨"HillHoursModel", "isNext", "(II)Z"⟩, 27) := ⟨⟨by decide +kernel, by decide +kernel⟩, List.mem_of_getElem? (i := 798) (by decide +kernel), List.mem_of_getElem? (i := 1032) (by decide +kernel), List.mem_of_getElem? (i := 1033) (by decide +kernel)⟩
theorem lw_p57 : lw_okq (⟨"HillHoursModel", "takenOf", "(III)I"⟩, 27) := ⟨⟨by decide +kernel, by decide +kernel⟩, List.mem_of_getElem? (i := 798) (by decide +kernel), List.mem_of_getElem? (i := 1040) (by decide +kernel), List.mem_of_getElem? (i := 1041) (by decide +kernel)⟩
theorem lw_p58 : lw_okq (⟨"HillHoursModel", "highestOf", "(II)I"⟩, 27) := ⟨⟨by decide +kernel, by decide +kernel⟩, List.mem_of_getElem? (i := 798) (by decide +kernel), List.mem_of_getElem? (i := 1050) (by decide +kernel), List.mem_of_getElem? (i := 1051) (by decide +kernel)⟩
theorem lw_p59 : lw_okq (⟨"HillHoursModel", "againOf", "(III)I"⟩, 27) := ⟨⟨by decide +kernel, by decide +kernel⟩, List.mem_of_getElem? (i := 798) (by decide +kernel), List.mem_of_getElem? (i := 1058) (by decide +kernel), List.mem_of_getElem? (i := 1059) (by decide +kernel)⟩
theorem lw_p60 : lw_okq (⟨"HillHoursModel", "valueOf", "(II)I"⟩, 27) := ⟨⟨by decide +kernel, by decide +kernel⟩, List.mem_of_getElem? (i := 798) (by decide +kernel), List.mem_of_getElem? (i := 1070) (by decide +kernel), List.mem_of_getElem? (i := 1071) (by decide +kernel)⟩
theorem lw_p61 : lw_okq (⟨"HillHoursModel", "isChange", "(II)Z"⟩, 27) := ⟨⟨by decide +kernel, by decide +kernel⟩, List.mem_of_getElem? (i := 798) (by decide +kernel), List.mem_of_getElem? (i := 1078) (by decide +kernel), List.mem_of_getElem? (i := 1079) (by decide +kernel)⟩
theorem lw_p62 : lw_okq (⟨"HillHoursModel", "isRather", "(II)Z"⟩, 27) := ⟨⟨by decide +kernel, by decide +kernel⟩, List.mem_of_getElem? (i := 798) (by decide +kernel), List.mem_of_getElem? (i := 1082) (by decide +kernel), List.mem_of_getElem? (i := 1083) (by decide +kernel)⟩
theorem lw_p63 : lw_okq (⟨"HillHoursModel", "changesOf", "(I)I"⟩, 27) := ⟨⟨by decide +kernel, by decide +kernel⟩, List.mem_of_getElem? (i := 798) (by decide +kernel), List.mem_of_getElem? (i := 1090) (by decide +kernel), List.mem_of_getElem? (i := 1091) (by decide +kernel)⟩
def lw_privs_4 : List (MethodName × Nat) := [(⟨"HillHoursModel", "hasOf", "(II)I"⟩, 27), (⟨"HillHoursModel", "partsOf", "(I)I"⟩, 27), (⟨"HillHoursModel", "partsNow", "()I"⟩, 27), (⟨"HillHoursModel", "laysYears", "()V"⟩, 27), (⟨"HillHoursModel", "all", "()I"⟩, 27), (⟨"HillHoursModel", "differs", "(I)I"⟩, 27), (⟨"HillHoursModel", "isParting", "(I)Z"⟩, 27), (⟨"HillHoursModel", "hangs", "(I)Z"⟩, 27), (⟨"HillHoursModel", "isNext", "(II)Z"⟩, 27), (⟨"HillHoursModel", "takenOf", "(III)I"⟩, 27), (⟨"HillHoursModel", "highestOf", "(II)I"⟩, 27), (⟨"HillHoursModel", "againOf", "(III)I"⟩, 27), (⟨"HillHoursModel", "valueOf", "(II)I"⟩, 27), (⟨"HillHoursModel", "isChange", "(II)Z"⟩, 27), (⟨"HillHoursModel", "isRather", "(II)Z"⟩, 27), (⟨"HillHoursModel", "changesOf", "(I)I"⟩, 27)]
theorem lw_r4 : ∀ q ∈ lw_privs_4, lw_okq q := List.forall_mem_cons.mpr ⟨lw_p48, List.forall_mem_cons.mpr ⟨lw_p49, List.forall_mem_cons.mpr ⟨lw_p50, List.forall_mem_cons.mpr ⟨lw_p51, List.forall_mem_cons.mpr ⟨lw_p52, List.forall_mem_cons.mpr ⟨lw_p53, List.forall_mem_cons.mpr ⟨lw_p54, List.forall_mem_cons.mpr ⟨lw_p55, List.forall_mem_cons.mpr ⟨lw_p56, List.forall_mem_cons.mpr ⟨lw_p57, List.forall_mem_cons.mpr ⟨lw_p58, List.forall_mem_cons.mpr ⟨lw_p59, List.forall_mem_cons.mpr ⟨lw_p60, List.forall_mem_cons.mpr ⟨lw_p61, List.forall_mem_cons.mpr ⟨lw_p62, List.forall_mem_cons.mpr ⟨lw_p63, fun _ h => absurd h List.not_mem_nil⟩⟩⟩⟩⟩⟩⟩⟩⟩⟩⟩⟩⟩⟩⟩⟩
theorem lw_p64 : lw_okq (⟨"HillHoursModel", "setOf", "(I)I"⟩, 27) := ⟨⟨by decide +kernel, by decide +kernel⟩, List.mem_of_getElem? (i := 798) (by decide +kernel), List.mem_of_getElem? (i := 1102) (by decide +kernel), List.mem_of_getElem? (i := 1103) (by decide +kernel)⟩
theorem lw_p65 : lw_okq (⟨"HillHoursModel", "whoseOf", "(I)I"⟩, 27) := ⟨⟨by decide +kernel, by decide +kernel⟩, List.mem_of_getElem? (i := 798) (by decide +kernel), List.mem_of_getElem? (i := 1121) (by decide +kernel), List.mem_of_getElem? (i := 1122) (by decide +kernel)⟩
theorem lw_p66 : lw_okq (⟨"HillHoursModel", "clearOf", "(IIII)J"⟩, 27) := ⟨⟨by decide +kernel, by decide +kernel⟩, List.mem_of_getElem? (i := 798) (by decide +kernel), List.mem_of_getElem? (i := 1133) (by decide +kernel), List.mem_of_getElem? (i := 1134) (by decide +kernel)⟩
theorem lw_p67 : lw_okq (⟨"HillHoursModel", "lacks", "(III)I"⟩, 27) := ⟨⟨by decide +kernel, by decide +kernel⟩, List.mem_of_getElem? (i := 798) (by decide +kernel), List.mem_of_getElem? (i := 1157) (by decide +kernel), List.mem_of_getElem? (i := 1158) (by decide +kernel)⟩
theorem lw_p68 : lw_okq (⟨"HillHoursModel", "keep", "(III)V"⟩, 27) := ⟨⟨by decide +kernel, by decide +kernel⟩, List.mem_of_getElem? (i := 798) (by decide +kernel), List.mem_of_getElem? (i := 1161) (by decide +kernel), List.mem_of_getElem? (i := 1162) (by decide +kernel)⟩
theorem lw_p69 : lw_okq (⟨"HillHoursModel", "sumOf", "(I)I"⟩, 27) := ⟨⟨by decide +kernel, by decide +kernel⟩, List.mem_of_getElem? (i := 798) (by decide +kernel), List.mem_of_getElem? (i := 1182) (by decide +kernel), List.mem_of_getElem? (i := 1183) (by decide +kernel)⟩
def lw_privs_5 : List (MethodName × Nat) := [(⟨"HillHoursModel", "setOf", "(I)I"⟩, 27), (⟨"HillHoursModel", "whoseOf", "(I)I"⟩, 27), (⟨"HillHoursModel", "clearOf", "(IIII)J"⟩, 27), (⟨"HillHoursModel", "lacks", "(III)I"⟩, 27), (⟨"HillHoursModel", "keep", "(III)V"⟩, 27), (⟨"HillHoursModel", "sumOf", "(I)I"⟩, 27)]
theorem lw_r5 : ∀ q ∈ lw_privs_5, lw_okq q := List.forall_mem_cons.mpr ⟨lw_p64, List.forall_mem_cons.mpr ⟨lw_p65, List.forall_mem_cons.mpr ⟨lw_p66, List.forall_mem_cons.mpr ⟨lw_p67, List.forall_mem_cons.mpr ⟨lw_p68, List.forall_mem_cons.mpr ⟨lw_p69, fun _ h => absurd h List.not_mem_nil⟩⟩⟩⟩⟩⟩
def lw_privs : List (MethodName × Nat) := lw_privs_1 ++ (lw_privs_2 ++ (lw_privs_3 ++ (lw_privs_4 ++ (lw_privs_5))))
def lw_tbl : List Cond := k2_sels lw_privs ++ tables_1
theorem lw_privs_ok : ∀ q ∈ lw_privs, lw_okq q := by
  show ∀ q ∈ lw_privs_1 ++ (lw_privs_2 ++ (lw_privs_3 ++ (lw_privs_4 ++ (lw_privs_5)))), lw_okq q
  exact List.forall_mem_append.mpr ⟨lw_r1, List.forall_mem_append.mpr ⟨lw_r2, List.forall_mem_append.mpr ⟨lw_r3, List.forall_mem_append.mpr ⟨lw_r4, lw_r5⟩⟩⟩⟩
end
section
def RX0 : String := "HillHours$Chance"
def TX0 : u_T := fun k => match k with
  | 0 => ("HillHours$Chance", "ways", "[J", true)
  | 1 => ("HillHours$Chance", "upper", "J", false)
  | _ => ("HillHours$Chance", "lower", "J", false)
def tyX0 : Nat → FieldType := fun k => match k with
  | 0 => .array .long
  | 1 => .long
  | _ => .long
theorem nmX0 : ∀ a, a < 3 → ∀ b, b < 3 → a ≠ b → (TX0 a).2.1 ≠ (TX0 b).2.1 := by decide +kernel
theorem tyX0_ok : ∀ k, k < 3 → parseFieldDescriptor (TX0 k).2.2.1 = some (tyX0 k) := by decide +kernel
abbrev cX0_init : ByteArray := prog_2_method_1_code
def yX0_init : MethodName := ⟨RX0, "<init>", "()V"⟩
abbrev cX0_above : ByteArray := prog_2_method_2_code
def yX0_above : MethodName := ⟨RX0, "above", "()J"⟩
abbrev cX0_below : ByteArray := prog_2_method_3_code
def yX0_below : MethodName := ⟨RX0, "below", "()J"⟩
abbrev cX0_takeMean : ByteArray := prog_2_method_4_code
def yX0_takeMean : MethodName := ⟨RX0, "takeMean", "(II)V"⟩
abbrev cX0_takeAtLeast : ByteArray := prog_2_method_5_code
def yX0_takeAtLeast : MethodName := ⟨RX0, "takeAtLeast", "(III)V"⟩
abbrev cX0_countWays : ByteArray := prog_2_method_6_code
def yX0_countWays : MethodName := ⟨RX0, "countWays", "(II)V"⟩
abbrev cX0_reduce : ByteArray := prog_2_method_7_code
def yX0_reduce : MethodName := ⟨RX0, "reduce", "()V"⟩
def RX1 : String := "HillHours$Ground"
def TX1 : u_T := fun k => match k with
  | 0 => ("HillHours$Ground", "text", "[I", true)
  | 1 => ("HillHours$Ground", "heights", "[I", true)
  | 2 => ("HillHours$Ground", "columnsOfCells", "[I", true)
  | 3 => ("HillHours$Ground", "byteCount", "I", false)
  | 4 => ("HillHours$Ground", "rowCount", "I", false)
  | 5 => ("HillHours$Ground", "columnCount", "I", false)
  | 6 => ("HillHours$Ground", "cellCount", "I", false)
  | _ => ("HillHours$Ground", "faultAt", "I", false)
def tyX1 : Nat → FieldType := fun k => match k with
  | 0 => .array .int
  | 1 => .array .int
  | 2 => .array .int
  | 3 => .int
  | 4 => .int
  | 5 => .int
  | 6 => .int
  | _ => .int
theorem nmX1 : ∀ a, a < 8 → ∀ b, b < 8 → a ≠ b → (TX1 a).2.1 ≠ (TX1 b).2.1 := by decide +kernel
theorem tyX1_ok : ∀ k, k < 8 → parseFieldDescriptor (TX1 k).2.2.1 = some (tyX1 k) := by decide +kernel
abbrev cX1_init : ByteArray := prog_3_method_1_code
def yX1_init : MethodName := ⟨RX1, "<init>", "()V"⟩
abbrev cX1_bytes : ByteArray := prog_3_method_2_code
def yX1_bytes : MethodName := ⟨RX1, "bytes", "()I"⟩
abbrev cX1_rows : ByteArray := prog_3_method_3_code
def yX1_rows : MethodName := ⟨RX1, "rows", "()I"⟩
abbrev cX1_columns : ByteArray := prog_3_method_4_code
def yX1_columns : MethodName := ⟨RX1, "columns", "()I"⟩
abbrev cX1_cells : ByteArray := prog_3_method_5_code
def yX1_cells : MethodName := ⟨RX1, "cells", "()I"⟩
abbrev cX1_faultPlace : ByteArray := prog_3_method_6_code
def yX1_faultPlace : MethodName := ⟨RX1, "faultPlace", "()I"⟩
abbrev cX1_heightOf : ByteArray := prog_3_method_7_code
def yX1_heightOf : MethodName := ⟨RX1, "heightOf", "(I)I"⟩
abbrev cX1_columnOf : ByteArray := prog_3_method_8_code
def yX1_columnOf : MethodName := ⟨RX1, "columnOf", "(I)I"⟩
abbrev cX1_rowStart : ByteArray := prog_3_method_9_code
def yX1_rowStart : MethodName := ⟨RX1, "rowStart", "(I)I"⟩
abbrev cX1_isFull : ByteArray := prog_3_method_10_code
def yX1_isFull : MethodName := ⟨RX1, "isFull", "()Z"⟩
abbrev cX1_append : ByteArray := prog_3_method_11_code
def yX1_append : MethodName := ⟨RX1, "append", "(I)V"⟩
abbrev cX1_empty : ByteArray := prog_3_method_12_code
def yX1_empty : MethodName := ⟨RX1, "empty", "()V"⟩
abbrev cX1_survey : ByteArray := prog_3_method_13_code
def yX1_survey : MethodName := ⟨RX1, "survey", "()V"⟩
abbrev cX1_findFault : ByteArray := prog_3_method_14_code
def yX1_findFault : MethodName := ⟨RX1, "findFault", "()I"⟩
abbrev cX1_endsRow : ByteArray := prog_3_method_15_code
def yX1_endsRow : MethodName := ⟨RX1, "endsRow", "(III)Z"⟩
abbrev cX1_layCells : ByteArray := prog_3_method_16_code
def yX1_layCells : MethodName := ⟨RX1, "layCells", "()V"⟩
abbrev cX1_isFigure : ByteArray := prog_3_method_17_code
def yX1_isFigure : MethodName := ⟨RX1, "isFigure", "(I)Z"⟩
def RX2 : String := "HillHours$Parting"
def TX2 : u_T := fun k => match k with
  | 0 => ("HillHours$Parting", "lowSums", "[I", true)
  | 1 => ("HillHours$Parting", "highSums", "[I", true)
  | 2 => ("HillHours$Parting", "cells", "I", false)
  | 3 => ("HillHours$Parting", "columns", "I", false)
  | 4 => ("HillHours$Parting", "all", "I", false)
  | 5 => ("HillHours$Parting", "eastColumn", "I", false)
  | 6 => ("HillHours$Parting", "westColumn", "I", false)
  | 7 => ("HillHours$Parting", "first", "I", false)
  | 8 => ("HillHours$Parting", "difference", "I", false)
  | 9 => ("HillHours$Parting", "firstAfter", "I", false)
  | _ => ("HillHours$Parting", "moved", "I", false)
def tyX2 : Nat → FieldType := fun k => match k with
  | 0 => .array .int
  | 1 => .array .int
  | 2 => .int
  | 3 => .int
  | 4 => .int
  | 5 => .int
  | 6 => .int
  | 7 => .int
  | 8 => .int
  | 9 => .int
  | _ => .int
theorem nmX2 : ∀ a, a < 11 → ∀ b, b < 11 → a ≠ b → (TX2 a).2.1 ≠ (TX2 b).2.1 := by decide +kernel
theorem tyX2_ok : ∀ k, k < 11 → parseFieldDescriptor (TX2 k).2.2.1 = some (tyX2 k) := by decide +kernel
abbrev cX2_init : ByteArray := prog_4_method_1_code
def yX2_init : MethodName := ⟨RX2, "<init>", "()V"⟩
abbrev cX2_firstPart : ByteArray := prog_4_method_2_code
def yX2_firstPart : MethodName := ⟨RX2, "firstPart", "()I"⟩
abbrev cX2_leastDifference : ByteArray := prog_4_method_3_code
def yX2_leastDifference : MethodName := ⟨RX2, "leastDifference", "()I"⟩
abbrev cX2_partAfter : ByteArray := prog_4_method_4_code
def yX2_partAfter : MethodName := ⟨RX2, "partAfter", "()I"⟩
abbrev cX2_fewestMoved : ByteArray := prog_4_method_5_code
def yX2_fewestMoved : MethodName := ⟨RX2, "fewestMoved", "()I"⟩
abbrev cX2_part : ByteArray := prog_4_method_6_code
def yX2_part : MethodName := ⟨RX2, "part", "(LHillHours$Ground;[I)V"⟩
abbrev cX2_partAgain : ByteArray := prog_4_method_7_code
def yX2_partAgain : MethodName := ⟨RX2, "partAgain", "(LHillHours$Ground;[II)V"⟩
abbrev cX2_prepare : ByteArray := prog_4_method_8_code
def yX2_prepare : MethodName := ⟨RX2, "prepare", "(LHillHours$Ground;[I)V"⟩
abbrev cX2_fillSums : ByteArray := prog_4_method_9_code
def yX2_fillSums : MethodName := ⟨RX2, "fillSums", "([I[II)V"⟩
abbrev cX2_sumOf : ByteArray := prog_4_method_10_code
def yX2_sumOf : MethodName := ⟨RX2, "sumOf", "(I)I"⟩
abbrev cX2_differenceOf : ByteArray := prog_4_method_11_code
def yX2_differenceOf : MethodName := ⟨RX2, "differenceOf", "(I)I"⟩
abbrev cX2_bothHang : ByteArray := prog_4_method_12_code
def yX2_bothHang : MethodName := ⟨RX2, "bothHang", "(I)Z"⟩
abbrev cX2_hangs : ByteArray := prog_4_method_13_code
def yX2_hangs : MethodName := ⟨RX2, "hangs", "(I)Z"⟩
abbrev cX2_nextTo : ByteArray := prog_4_method_14_code
def yX2_nextTo : MethodName := ⟨RX2, "nextTo", "(I)I"⟩
def RX3 : String := "HillHours$Planting"
def TX3 : u_T := fun k => match k with
  | 0 => ("HillHours$Planting", "needs", "[I", true)
  | 1 => ("HillHours$Planting", "pays", "[I", true)
  | 2 => ("HillHours$Planting", "sorts", "[I", true)
  | _ => ("HillHours$Planting", "most", "[I", true)
def tyX3 : Nat → FieldType := fun k => match k with
  | 0 => .array .int
  | 1 => .array .int
  | 2 => .array .int
  | _ => .array .int
theorem nmX3 : ∀ a, a < 4 → ∀ b, b < 4 → a ≠ b → (TX3 a).2.1 ≠ (TX3 b).2.1 := by decide +kernel
theorem tyX3_ok : ∀ k, k < 4 → parseFieldDescriptor (TX3 k).2.2.1 = some (tyX3 k) := by decide +kernel
abbrev cX3_init : ByteArray := prog_5_method_1_code
def yX3_init : MethodName := ⟨RX3, "<init>", "()V"⟩
abbrev cX3_changeNeed : ByteArray := prog_5_method_2_code
def yX3_changeNeed : MethodName := ⟨RX3, "changeNeed", "(II)I"⟩
abbrev cX3_changePay : ByteArray := prog_5_method_3_code
def yX3_changePay : MethodName := ⟨RX3, "changePay", "(II)I"⟩
abbrev cX3_mostPaid : ByteArray := prog_5_method_4_code
def yX3_mostPaid : MethodName := ⟨RX3, "mostPaid", "()I"⟩
abbrev cX3_sortOn : ByteArray := prog_5_method_5_code
def yX3_sortOn : MethodName := ⟨RX3, "sortOn", "(I)I"⟩
abbrev cX3_plant : ByteArray := prog_5_method_6_code
def yX3_plant : MethodName := ⟨RX3, "plant", "([II)V"⟩
abbrev cX3_bestFrom : ByteArray := prog_5_method_7_code
def yX3_bestFrom : MethodName := ⟨RX3, "bestFrom", "(III)I"⟩
abbrev cX3_leastSort : ByteArray := prog_5_method_8_code
def yX3_leastSort : MethodName := ⟨RX3, "leastSort", "(III)I"⟩
abbrev cX3_mayStand : ByteArray := prog_5_method_9_code
def yX3_mayStand : MethodName := ⟨RX3, "mayStand", "(III)Z"⟩
abbrev cX3_payFrom : ByteArray := prog_5_method_10_code
def yX3_payFrom : MethodName := ⟨RX3, "payFrom", "(III)I"⟩
abbrev cX3_standAhead : ByteArray := prog_5_method_11_code
def yX3_standAhead : MethodName := ⟨RX3, "standAhead", "(II)I"⟩
abbrev cX3_weightOf : ByteArray := prog_5_method_12_code
def yX3_weightOf : MethodName := ⟨RX3, "weightOf", "(I)I"⟩
def RX4 : String := "HillHours$Sheets"
def TX4 : u_T := fun k => match k with
  | 0 => ("HillHours$Sheets", "items", "[I", true)
  | 1 => ("HillHours$Sheets", "forms", "[I", true)
  | _ => ("HillHours$Sheets", "sizes", "[I", true)
def tyX4 : Nat → FieldType := fun k => match k with
  | 0 => .array .int
  | 1 => .array .int
  | _ => .array .int
theorem nmX4 : ∀ a, a < 3 → ∀ b, b < 3 → a ≠ b → (TX4 a).2.1 ≠ (TX4 b).2.1 := by decide +kernel
theorem tyX4_ok : ∀ k, k < 3 → parseFieldDescriptor (TX4 k).2.2.1 = some (tyX4 k) := by decide +kernel
abbrev cX4_init : ByteArray := prog_6_method_1_code
def yX4_init : MethodName := ⟨RX4, "<init>", "()V"⟩
abbrev cX4_isLost : ByteArray := prog_6_method_2_code
def yX4_isLost : MethodName := ⟨RX4, "isLost", "(I)Z"⟩
abbrev cX4_sizeOf : ByteArray := prog_6_method_3_code
def yX4_sizeOf : MethodName := ⟨RX4, "sizeOf", "(I)I"⟩
abbrev cX4_formOf : ByteArray := prog_6_method_4_code
def yX4_formOf : MethodName := ⟨RX4, "formOf", "(I)I"⟩
abbrev cX4_lay : ByteArray := prog_6_method_5_code
def yX4_lay : MethodName := ⟨RX4, "lay", "(III)V"⟩
abbrev cX4_drop : ByteArray := prog_6_method_6_code
def yX4_drop : MethodName := ⟨RX4, "drop", "(I)V"⟩
abbrev cX4_itemAt : ByteArray := prog_6_method_7_code
def yX4_itemAt : MethodName := ⟨RX4, "itemAt", "(II)I"⟩
abbrev cX4_store : ByteArray := prog_6_method_8_code
def yX4_store : MethodName := ⟨RX4, "store", "(III)V"⟩
abbrev cX4_holds : ByteArray := prog_6_method_9_code
def yX4_holds : MethodName := ⟨RX4, "holds", "(III)Z"⟩
abbrev cX4_carry : ByteArray := prog_6_method_10_code
def yX4_carry : MethodName := ⟨RX4, "carry", "(IIIII)V"⟩
abbrev cX4_narrow : ByteArray := prog_6_method_11_code
def yX4_narrow : MethodName := ⟨RX4, "narrow", "(II)I"⟩
def RX5 : String := "HillHours$Sun"
def TX5 : u_T := fun k => match k with
  | 0 => ("HillHours$Sun", "ground", "LHillHours$Ground;", true)
  | 1 => ("HillHours$Sun", "standing", "[I", true)
  | 2 => ("HillHours$Sun", "dayCounts", "[I", true)
  | 3 => ("HillHours$Sun", "lightBits", "[I", true)
  | 4 => ("HillHours$Sun", "sunHours", "[I", true)
  | _ => ("HillHours$Sun", "cellYears", "[I", true)
def tyX5 : Nat → FieldType := fun k => match k with
  | 0 => .object "HillHours$Ground"
  | 1 => .array .int
  | 2 => .array .int
  | 3 => .array .int
  | 4 => .array .int
  | _ => .array .int
theorem nmX5 : ∀ a, a < 6 → ∀ b, b < 6 → a ≠ b → (TX5 a).2.1 ≠ (TX5 b).2.1 := by decide +kernel
theorem tyX5_ok : ∀ k, k < 6 → parseFieldDescriptor (TX5 k).2.2.1 = some (tyX5 k) := by decide +kernel
abbrev cX5_init : ByteArray := prog_7_method_1_code
def yX5_init : MethodName := ⟨RX5, "<init>", "()V"⟩
abbrev cX5_steepness : ByteArray := prog_7_method_2_code
def yX5_steepness : MethodName := ⟨RX5, "steepness", "(II)I"⟩
abbrev cX5_standingOn : ByteArray := prog_7_method_3_code
def yX5_standingOn : MethodName := ⟨RX5, "standingOn", "(I)I"⟩
abbrev cX5_build : ByteArray := prog_7_method_4_code
def yX5_build : MethodName := ⟨RX5, "build", "(II)I"⟩
abbrev cX5_daysOf : ByteArray := prog_7_method_5_code
def yX5_daysOf : MethodName := ⟨RX5, "daysOf", "(I)I"⟩
abbrev cX5_lengthen : ByteArray := prog_7_method_6_code
def yX5_lengthen : MethodName := ⟨RX5, "lengthen", "(II)I"⟩
abbrev cX5_allDays : ByteArray := prog_7_method_7_code
def yX5_allDays : MethodName := ⟨RX5, "allDays", "()I"⟩
abbrev cX5_years : ByteArray := prog_7_method_8_code
def yX5_years : MethodName := ⟨RX5, "years", "()[I"⟩
abbrev cX5_yearOf : ByteArray := prog_7_method_9_code
def yX5_yearOf : MethodName := ⟨RX5, "yearOf", "(I)I"⟩
abbrev cX5_allYears : ByteArray := prog_7_method_10_code
def yX5_allYears : MethodName := ⟨RX5, "allYears", "()I"⟩
abbrev cX5_bitsOf : ByteArray := prog_7_method_11_code
def yX5_bitsOf : MethodName := ⟨RX5, "bitsOf", "(II)I"⟩
abbrev cX5_hoursOf : ByteArray := prog_7_method_12_code
def yX5_hoursOf : MethodName := ⟨RX5, "hoursOf", "(II)I"⟩
abbrev cX5_measure : ByteArray := prog_7_method_13_code
def yX5_measure : MethodName := ⟨RX5, "measure", "()V"⟩
abbrev cX5_yearAsBuilt : ByteArray := prog_7_method_14_code
def yX5_yearAsBuilt : MethodName := ⟨RX5, "yearAsBuilt", "(I)I"⟩
abbrev cX5_nearestShader : ByteArray := prog_7_method_15_code
def yX5_nearestShader : MethodName := ⟨RX5, "nearestShader", "(III)I"⟩
abbrev cX5_bitsAsBuilt : ByteArray := prog_7_method_16_code
def yX5_bitsAsBuilt : MethodName := ⟨RX5, "bitsAsBuilt", "(II)I"⟩
abbrev cX5_darkHours : ByteArray := prog_7_method_17_code
def yX5_darkHours : MethodName := ⟨RX5, "darkHours", "(III)I"⟩
abbrev cX5_reachOf : ByteArray := prog_7_method_18_code
def yX5_reachOf : MethodName := ⟨RX5, "reachOf", "(II)I"⟩
abbrev cX5_rise : ByteArray := prog_7_method_19_code
def yX5_rise : MethodName := ⟨RX5, "rise", "(II)I"⟩
def RX6 : String := "HillHours"
def TX6 : u_T := fun k => match k with
  | 0 => ("HillHours", "sun", "LHillHours$Sun;", true)
  | 1 => ("HillHours", "ground", "LHillHours$Ground;", true)
  | 2 => ("HillHours", "parting", "LHillHours$Parting;", true)
  | 3 => ("HillHours", "planting", "LHillHours$Planting;", true)
  | 4 => ("HillHours", "chance", "LHillHours$Chance;", true)
  | 5 => ("HillHours", "sheets", "LHillHours$Sheets;", true)
  | 6 => ("HillHours", "owners", "[I", true)
  | 7 => ("HillHours", "worths", "[I", true)
  | 8 => ("HillHours", "losses", "[I", true)
  | 9 => ("HillHours", "yearsAfterFall", "[I", true)
  | 10 => ("HillHours", "seenSeasons", "[I", true)
  | 11 => ("HillHours", "seenHours", "[I", true)
  | 12 => ("HillHours", "cloudSixteenths", "[I", true)
  | 13 => ("HillHours", "seenCount", "I", false)
  | 14 => ("HillHours", "latestFinding", "I", false)
  | 15 => ("HillHours", "partsKnown", "Z", false)
  | _ => ("HillHours", "plantsKnown", "Z", false)
def tyX6 : Nat → FieldType := fun k => match k with
  | 0 => .object "HillHours$Sun"
  | 1 => .object "HillHours$Ground"
  | 2 => .object "HillHours$Parting"
  | 3 => .object "HillHours$Planting"
  | 4 => .object "HillHours$Chance"
  | 5 => .object "HillHours$Sheets"
  | 6 => .array .int
  | 7 => .array .int
  | 8 => .array .int
  | 9 => .array .int
  | 10 => .array .int
  | 11 => .array .int
  | 12 => .array .int
  | 13 => .int
  | 14 => .int
  | 15 => .boolean
  | _ => .boolean
theorem nmX6 : ∀ a, a < 17 → ∀ b, b < 17 → a ≠ b → (TX6 a).2.1 ≠ (TX6 b).2.1 := by decide +kernel
theorem tyX6_ok : ∀ k, k < 17 → parseFieldDescriptor (TX6 k).2.2.1 = some (tyX6 k) := by decide +kernel
abbrev cX6_init : ByteArray := prog_1_method_1_code
def yX6_init : MethodName := ⟨RX6, "<init>", "()V"⟩
abbrev cX6_type : ByteArray := prog_1_method_2_code
def yX6_type : MethodName := ⟨RX6, "type", "(I)I"⟩
abbrev cX6_wipe : ByteArray := prog_1_method_3_code
def yX6_wipe : MethodName := ⟨RX6, "wipe", "()I"⟩
abbrev cX6_fault : ByteArray := prog_1_method_4_code
def yX6_fault : MethodName := ⟨RX6, "fault", "()I"⟩
abbrev cX6_cell : ByteArray := prog_1_method_5_code
def yX6_cell : MethodName := ⟨RX6, "cell", "(II)I"⟩
abbrev cX6_stand : ByteArray := prog_1_method_6_code
def yX6_stand : MethodName := ⟨RX6, "stand", "(II)I"⟩
abbrev cX6_owner : ByteArray := prog_1_method_7_code
def yX6_owner : MethodName := ⟨RX6, "owner", "(II)I"⟩
abbrev cX6_read : ByteArray := prog_1_method_8_code
def yX6_read : MethodName := ⟨RX6, "read", "(I)I"⟩
abbrev cX6_days : ByteArray := prog_1_method_9_code
def yX6_days : MethodName := ⟨RX6, "days", "(II)I"⟩
abbrev cX6_steep : ByteArray := prog_1_method_10_code
def yX6_steep : MethodName := ⟨RX6, "steep", "(II)I"⟩
abbrev cX6_shade : ByteArray := prog_1_method_11_code
def yX6_shade : MethodName := ⟨RX6, "shade", "(III)I"⟩
abbrev cX6_light : ByteArray := prog_1_method_12_code
def yX6_light : MethodName := ⟨RX6, "light", "(II)I"⟩
abbrev cX6_hours : ByteArray := prog_1_method_13_code
def yX6_hours : MethodName := ⟨RX6, "hours", "(II)I"⟩
abbrev cX6_has : ByteArray := prog_1_method_14_code
def yX6_has : MethodName := ⟨RX6, "has", "(II)I"⟩
abbrev cX6_parts : ByteArray := prog_1_method_15_code
def yX6_parts : MethodName := ⟨RX6, "parts", "(I)I"⟩
abbrev cX6_taken : ByteArray := prog_1_method_16_code
def yX6_taken : MethodName := ⟨RX6, "taken", "(III)I"⟩
abbrev cX6_highest : ByteArray := prog_1_method_17_code
def yX6_highest : MethodName := ⟨RX6, "highest", "(II)I"⟩
abbrev cX6_again : ByteArray := prog_1_method_18_code
def yX6_again : MethodName := ⟨RX6, "again", "(III)I"⟩
abbrev cX6_worth : ByteArray := prog_1_method_19_code
def yX6_worth : MethodName := ⟨RX6, "worth", "(III)I"⟩
abbrev cX6_value : ByteArray := prog_1_method_20_code
def yX6_value : MethodName := ⟨RX6, "value", "(II)I"⟩
abbrev cX6_change : ByteArray := prog_1_method_21_code
def yX6_change : MethodName := ⟨RX6, "change", "(II)I"⟩
abbrev cX6_changes : ByteArray := prog_1_method_22_code
def yX6_changes : MethodName := ⟨RX6, "changes", "(I)I"⟩
abbrev cX6_sort : ByteArray := prog_1_method_23_code
def yX6_sort : MethodName := ⟨RX6, "sort", "(III)I"⟩
abbrev cX6_set : ByteArray := prog_1_method_24_code
def yX6_set : MethodName := ⟨RX6, "set", "(I)I"⟩
abbrev cX6_seen : ByteArray := prog_1_method_25_code
def yX6_seen : MethodName := ⟨RX6, "seen", "(II)I"⟩
abbrev cX6_forget : ByteArray := prog_1_method_26_code
def yX6_forget : MethodName := ⟨RX6, "forget", "()I"⟩
abbrev cX6_whose : ByteArray := prog_1_method_27_code
def yX6_whose : MethodName := ⟨RX6, "whose", "(I)I"⟩
abbrev cX6_clouds : ByteArray := prog_1_method_28_code
def yX6_clouds : MethodName := ⟨RX6, "clouds", "(II)I"⟩
abbrev cX6_clear : ByteArray := prog_1_method_29_code
def yX6_clear : MethodName := ⟨RX6, "clear", "(IIII)J"⟩
abbrev cX6_sheet : ByteArray := prog_1_method_30_code
def yX6_sheet : MethodName := ⟨RX6, "sheet", "(III)I"⟩
abbrev cX6_lose : ByteArray := prog_1_method_31_code
def yX6_lose : MethodName := ⟨RX6, "lose", "(I)I"⟩
abbrev cX6_put : ByteArray := prog_1_method_32_code
def yX6_put : MethodName := ⟨RX6, "put", "(IIII)I"⟩
abbrev cX6_get : ByteArray := prog_1_method_33_code
def yX6_get : MethodName := ⟨RX6, "get", "(III)I"⟩
abbrev cX6_copy : ByteArray := prog_1_method_34_code
def yX6_copy : MethodName := ⟨RX6, "copy", "(IIIII)I"⟩
abbrev cX6_write : ByteArray := prog_1_method_35_code
def yX6_write : MethodName := ⟨RX6, "write", "(II)I"⟩
abbrev cX6_count : ByteArray := prog_1_method_36_code
def yX6_count : MethodName := ⟨RX6, "count", "(I)I"⟩
abbrev cX6_digest : ByteArray := prog_1_method_37_code
def yX6_digest : MethodName := ⟨RX6, "digest", "()J"⟩
abbrev cX6_mix : ByteArray := prog_1_method_38_code
def yX6_mix : MethodName := ⟨RX6, "mix", "(JJ)J"⟩
abbrev cX6_mixCell : ByteArray := prog_1_method_39_code
def yX6_mixCell : MethodName := ⟨RX6, "mixCell", "(JI)J"⟩
abbrev cX6_mixChances : ByteArray := prog_1_method_40_code
def yX6_mixChances : MethodName := ⟨RX6, "mixChances", "(JI)J"⟩
abbrev cX6_isBelow : ByteArray := prog_1_method_41_code
def yX6_isBelow : MethodName := ⟨RX6, "isBelow", "(II)Z"⟩
abbrev cX6_isCell : ByteArray := prog_1_method_42_code
def yX6_isCell : MethodName := ⟨RX6, "isCell", "(I)Z"⟩
abbrev cX6_found : ByteArray := prog_1_method_43_code
def yX6_found : MethodName := ⟨RX6, "found", "(I)I"⟩
abbrev cX6_refuseItem : ByteArray := prog_1_method_44_code
def yX6_refuseItem : MethodName := ⟨RX6, "refuseItem", "(III)I"⟩
abbrev cX6_measureAnew : ByteArray := prog_1_method_45_code
def yX6_measureAnew : MethodName := ⟨RX6, "measureAnew", "()V"⟩
abbrev cX6_knowParts : ByteArray := prog_1_method_46_code
def yX6_knowParts : MethodName := ⟨RX6, "knowParts", "()V"⟩
abbrev cX6_weighLosses : ByteArray := prog_1_method_47_code
def yX6_weighLosses : MethodName := ⟨RX6, "weighLosses", "(II)V"⟩
abbrev cX6_mostLost : ByteArray := prog_1_method_48_code
def yX6_mostLost : MethodName := ⟨RX6, "mostLost", "()I"⟩
abbrev cX6_weighFall : ByteArray := prog_1_method_49_code
def yX6_weighFall : MethodName := ⟨RX6, "weighFall", "(I)V"⟩
abbrev cX6_worthTo : ByteArray := prog_1_method_50_code
def yX6_worthTo : MethodName := ⟨RX6, "worthTo", "(II)I"⟩
abbrev cX6_wouldRather : ByteArray := prog_1_method_51_code
def yX6_wouldRather : MethodName := ⟨RX6, "wouldRather", "(II)Z"⟩
abbrev cX6_wouldSwap : ByteArray := prog_1_method_52_code
def yX6_wouldSwap : MethodName := ⟨RX6, "wouldSwap", "(II)Z"⟩
abbrev cX6_countPairs : ByteArray := prog_1_method_53_code
def yX6_countPairs : MethodName := ⟨RX6, "countPairs", "()I"⟩
abbrev cX6_countRings : ByteArray := prog_1_method_54_code
def yX6_countRings : MethodName := ⟨RX6, "countRings", "()I"⟩
abbrev cX6_isRing : ByteArray := prog_1_method_55_code
def yX6_isRing : MethodName := ⟨RX6, "isRing", "(III)Z"⟩
abbrev cX6_fitsAllSeen : ByteArray := prog_1_method_56_code
def yX6_fitsAllSeen : MethodName := ⟨RX6, "fitsAllSeen", "(I)Z"⟩
abbrev cX6_countStanding : ByteArray := prog_1_method_57_code
def yX6_countStanding : MethodName := ⟨RX6, "countStanding", "()I"⟩
abbrev cX6_countOwners : ByteArray := prog_1_method_58_code
def yX6_countOwners : MethodName := ⟨RX6, "countOwners", "()I"⟩
def RX7 : String := "HillHoursModel"
def TX7 : u_T := fun k => match k with
  | 0 => ("HillHoursModel", "text", "[I", true)
  | 1 => ("HillHoursModel", "typed", "I", false)
  | 2 => ("HillHoursModel", "cells", "I", false)
  | 3 => ("HillHoursModel", "wide", "I", false)
  | 4 => ("HillHoursModel", "rowsMany", "I", false)
  | 5 => ("HillHoursModel", "heights", "[I", true)
  | 6 => ("HillHoursModel", "stands", "[I", true)
  | 7 => ("HillHoursModel", "owners", "[I", true)
  | 8 => ("HillHoursModel", "dayOf", "[I", true)
  | 9 => ("HillHoursModel", "cloudOf", "[I", true)
  | 10 => ("HillHoursModel", "worths", "[I", true)
  | 11 => ("HillHoursModel", "needs", "[I", true)
  | 12 => ("HillHoursModel", "pays", "[I", true)
  | 13 => ("HillHoursModel", "years", "[I", true)
  | 14 => ("HillHoursModel", "rathers", "[I", true)
  | 15 => ("HillHoursModel", "most", "[I", true)
  | 16 => ("HillHoursModel", "chosen", "[I", true)
  | 17 => ("HillHoursModel", "sights", "I", false)
  | 18 => ("HillHoursModel", "seenSeason", "[I", true)
  | 19 => ("HillHoursModel", "seenHour", "[I", true)
  | 20 => ("HillHoursModel", "parts", "[J", true)
  | 21 => ("HillHoursModel", "isThere", "[Z", true)
  | 22 => ("HillHoursModel", "forms", "[I", true)
  | 23 => ("HillHoursModel", "sizes", "[I", true)
  | 24 => ("HillHoursModel", "items", "[I", true)
  | 25 => ("HillHoursModel", "moved", "[I", true)
  | _ => ("HillHoursModel", "finding", "I", false)
def tyX7 : Nat → FieldType := fun k => match k with
  | 0 => .array .int
  | 1 => .int
  | 2 => .int
  | 3 => .int
  | 4 => .int
  | 5 => .array .int
  | 6 => .array .int
  | 7 => .array .int
  | 8 => .array .int
  | 9 => .array .int
  | 10 => .array .int
  | 11 => .array .int
  | 12 => .array .int
  | 13 => .array .int
  | 14 => .array .int
  | 15 => .array .int
  | 16 => .array .int
  | 17 => .int
  | 18 => .array .int
  | 19 => .array .int
  | 20 => .array .long
  | 21 => .array .boolean
  | 22 => .array .int
  | 23 => .array .int
  | 24 => .array .int
  | 25 => .array .int
  | _ => .int
theorem nmX7 : ∀ a, a < 27 → ∀ b, b < 27 → a ≠ b → (TX7 a).2.1 ≠ (TX7 b).2.1 := by decide +kernel
theorem tyX7_ok : ∀ k, k < 27 → parseFieldDescriptor (TX7 k).2.2.1 = some (tyX7 k) := by decide +kernel
abbrev cX7_init : ByteArray := prog_9_method_1_code
def yX7_init : MethodName := ⟨RX7, "<init>", "()V"⟩
abbrev cX7_in : ByteArray := prog_9_method_3_code
def yX7_in : MethodName := ⟨RX7, "in", "(III)Z"⟩
abbrev cX7_isIn : ByteArray := prog_9_method_4_code
def yX7_isIn : MethodName := ⟨RX7, "isIn", "(II)Z"⟩
abbrev cX7_ones : ByteArray := prog_9_method_5_code
def yX7_ones : MethodName := ⟨RX7, "ones", "(I)I"⟩
abbrev cX7_no : ByteArray := prog_9_method_6_code
def yX7_no : MethodName := ⟨RX7, "no", "(I)J"⟩
abbrev cX7_lowest : ByteArray := prog_9_method_7_code
def yX7_lowest : MethodName := ⟨RX7, "lowest", "(JJI)J"⟩
abbrev cX7_type : ByteArray := prog_9_method_8_code
def yX7_type : MethodName := ⟨RX7, "type", "(I)I"⟩
abbrev cX7_wipe : ByteArray := prog_9_method_9_code
def yX7_wipe : MethodName := ⟨RX7, "wipe", "()I"⟩
abbrev cX7_figureAt : ByteArray := prog_9_method_10_code
def yX7_figureAt : MethodName := ⟨RX7, "figureAt", "(I)I"⟩
abbrev cX7_faultNow : ByteArray := prog_9_method_11_code
def yX7_faultNow : MethodName := ⟨RX7, "faultNow", "()I"⟩
abbrev cX7_fault : ByteArray := prog_9_method_12_code
def yX7_fault : MethodName := ⟨RX7, "fault", "()I"⟩
abbrev cX7_isCell : ByteArray := prog_9_method_13_code
def yX7_isCell : MethodName := ⟨RX7, "isCell", "(I)Z"⟩
abbrev cX7_isTwelve : ByteArray := prog_9_method_14_code
def yX7_isTwelve : MethodName := ⟨RX7, "isTwelve", "(I)Z"⟩
abbrev cX7_isFour : ByteArray := prog_9_method_15_code
def yX7_isFour : MethodName := ⟨RX7, "isFour", "(I)Z"⟩
abbrev cX7_cellOf : ByteArray := prog_9_method_16_code
def yX7_cellOf : MethodName := ⟨RX7, "cellOf", "(II)I"⟩
abbrev cX7_cell : ByteArray := prog_9_method_17_code
def yX7_cell : MethodName := ⟨RX7, "cell", "(II)I"⟩
abbrev cX7_stand : ByteArray := prog_9_method_18_code
def yX7_stand : MethodName := ⟨RX7, "stand", "(II)I"⟩
abbrev cX7_owner : ByteArray := prog_9_method_19_code
def yX7_owner : MethodName := ⟨RX7, "owner", "(II)I"⟩
abbrev cX7_read : ByteArray := prog_9_method_20_code
def yX7_read : MethodName := ⟨RX7, "read", "(I)I"⟩
abbrev cX7_days : ByteArray := prog_9_method_21_code
def yX7_days : MethodName := ⟨RX7, "days", "(II)I"⟩
abbrev cX7_steepOf : ByteArray := prog_9_method_22_code
def yX7_steepOf : MethodName := ⟨RX7, "steepOf", "(II)I"⟩
abbrev cX7_steep : ByteArray := prog_9_method_23_code
def yX7_steep : MethodName := ⟨RX7, "steep", "(II)I"⟩
abbrev cX7_shadeOf : ByteArray := prog_9_method_24_code
def yX7_shadeOf : MethodName := ⟨RX7, "shadeOf", "(III)I"⟩
abbrev cX7_shade : ByteArray := prog_9_method_25_code
def yX7_shade : MethodName := ⟨RX7, "shade", "(III)I"⟩
abbrev cX7_lightOf : ByteArray := prog_9_method_26_code
def yX7_lightOf : MethodName := ⟨RX7, "lightOf", "(II)I"⟩
abbrev cX7_light : ByteArray := prog_9_method_27_code
def yX7_light : MethodName := ⟨RX7, "light", "(II)I"⟩
abbrev cX7_yearOf : ByteArray := prog_9_method_28_code
def yX7_yearOf : MethodName := ⟨RX7, "yearOf", "(I)I"⟩
abbrev cX7_hoursOf : ByteArray := prog_9_method_29_code
def yX7_hoursOf : MethodName := ⟨RX7, "hoursOf", "(II)I"⟩
abbrev cX7_hours : ByteArray := prog_9_method_30_code
def yX7_hours : MethodName := ⟨RX7, "hours", "(II)I"⟩
abbrev cX7_hasOf : ByteArray := prog_9_method_31_code
def yX7_hasOf : MethodName := ⟨RX7, "hasOf", "(II)I"⟩
abbrev cX7_has : ByteArray := prog_9_method_32_code
def yX7_has : MethodName := ⟨RX7, "has", "(II)I"⟩
abbrev cX7_laysYears : ByteArray := prog_9_method_33_code
def yX7_laysYears : MethodName := ⟨RX7, "laysYears", "()V"⟩
abbrev cX7_isNext : ByteArray := prog_9_method_34_code
def yX7_isNext : MethodName := ⟨RX7, "isNext", "(II)Z"⟩
abbrev cX7_hangs : ByteArray := prog_9_method_35_code
def yX7_hangs : MethodName := ⟨RX7, "hangs", "(I)Z"⟩
abbrev cX7_all : ByteArray := prog_9_method_36_code
def yX7_all : MethodName := ⟨RX7, "all", "()I"⟩
abbrev cX7_isParting : ByteArray := prog_9_method_37_code
def yX7_isParting : MethodName := ⟨RX7, "isParting", "(I)Z"⟩
abbrev cX7_differs : ByteArray := prog_9_method_38_code
def yX7_differs : MethodName := ⟨RX7, "differs", "(I)I"⟩
abbrev cX7_partsNow : ByteArray := prog_9_method_39_code
def yX7_partsNow : MethodName := ⟨RX7, "partsNow", "()I"⟩
abbrev cX7_partsOf : ByteArray := prog_9_method_40_code
def yX7_partsOf : MethodName := ⟨RX7, "partsOf", "(I)I"⟩
abbrev cX7_parts : ByteArray := prog_9_method_41_code
def yX7_parts : MethodName := ⟨RX7, "parts", "(I)I"⟩
abbrev cX7_takenOf : ByteArray := prog_9_method_42_code
def yX7_takenOf : MethodName := ⟨RX7, "takenOf", "(III)I"⟩
abbrev cX7_taken : ByteArray := prog_9_method_43_code
def yX7_taken : MethodName := ⟨RX7, "taken", "(III)I"⟩
abbrev cX7_highestOf : ByteArray := prog_9_method_44_code
def yX7_highestOf : MethodName := ⟨RX7, "highestOf", "(II)I"⟩
abbrev cX7_highest : ByteArray := prog_9_method_45_code
def yX7_highest : MethodName := ⟨RX7, "highest", "(II)I"⟩
abbrev cX7_againOf : ByteArray := prog_9_method_46_code
def yX7_againOf : MethodName := ⟨RX7, "againOf", "(III)I"⟩
abbrev cX7_again : ByteArray := prog_9_method_47_code
def yX7_again : MethodName := ⟨RX7, "again", "(III)I"⟩
abbrev cX7_worth : ByteArray := prog_9_method_48_code
def yX7_worth : MethodName := ⟨RX7, "worth", "(III)I"⟩
abbrev cX7_valueOf : ByteArray := prog_9_method_49_code
def yX7_valueOf : MethodName := ⟨RX7, "valueOf", "(II)I"⟩
abbrev cX7_value : ByteArray := prog_9_method_50_code
def yX7_value : MethodName := ⟨RX7, "value", "(II)I"⟩
abbrev cX7_isRather : ByteArray := prog_9_method_51_code
def yX7_isRather : MethodName := ⟨RX7, "isRather", "(II)Z"⟩
abbrev cX7_isChange : ByteArray := prog_9_method_52_code
def yX7_isChange : MethodName := ⟨RX7, "isChange", "(II)Z"⟩
abbrev cX7_change : ByteArray := prog_9_method_53_code
def yX7_change : MethodName := ⟨RX7, "change", "(II)I"⟩
abbrev cX7_changesOf : ByteArray := prog_9_method_54_code
def yX7_changesOf : MethodName := ⟨RX7, "changesOf", "(I)I"⟩
abbrev cX7_changes : ByteArray := prog_9_method_55_code
def yX7_changes : MethodName := ⟨RX7, "changes", "(I)I"⟩
abbrev cX7_sort : ByteArray := prog_9_method_56_code
def yX7_sort : MethodName := ⟨RX7, "sort", "(III)I"⟩
abbrev cX7_fives : ByteArray := prog_9_method_57_code
def yX7_fives : MethodName := ⟨RX7, "fives", "(I)I"⟩
abbrev cX7_setOf : ByteArray := prog_9_method_58_code
def yX7_setOf : MethodName := ⟨RX7, "setOf", "(I)I"⟩
abbrev cX7_set : ByteArray := prog_9_method_59_code
def yX7_set : MethodName := ⟨RX7, "set", "(I)I"⟩
abbrev cX7_seen : ByteArray := prog_9_method_60_code
def yX7_seen : MethodName := ⟨RX7, "seen", "(II)I"⟩
abbrev cX7_forget : ByteArray := prog_9_method_61_code
def yX7_forget : MethodName := ⟨RX7, "forget", "()I"⟩
abbrev cX7_whoseOf : ByteArray := prog_9_method_62_code
def yX7_whoseOf : MethodName := ⟨RX7, "whoseOf", "(I)I"⟩
abbrev cX7_whose : ByteArray := prog_9_method_63_code
def yX7_whose : MethodName := ⟨RX7, "whose", "(I)I"⟩
abbrev cX7_clouds : ByteArray := prog_9_method_64_code
def yX7_clouds : MethodName := ⟨RX7, "clouds", "(II)I"⟩
abbrev cX7_clearOf : ByteArray := prog_9_method_65_code
def yX7_clearOf : MethodName := ⟨RX7, "clearOf", "(IIII)J"⟩
abbrev cX7_clear : ByteArray := prog_9_method_66_code
def yX7_clear : MethodName := ⟨RX7, "clear", "(IIII)J"⟩
abbrev cX7_meets : ByteArray := prog_9_method_67_code
def yX7_meets : MethodName := ⟨RX7, "meets", "(I)I"⟩
abbrev cX7_isSheet : ByteArray := prog_9_method_68_code
def yX7_isSheet : MethodName := ⟨RX7, "isSheet", "(I)Z"⟩
abbrev cX7_sheet : ByteArray := prog_9_method_69_code
def yX7_sheet : MethodName := ⟨RX7, "sheet", "(III)I"⟩
abbrev cX7_lose : ByteArray := prog_9_method_70_code
def yX7_lose : MethodName := ⟨RX7, "lose", "(I)I"⟩
abbrev cX7_lacks : ByteArray := prog_9_method_71_code
def yX7_lacks : MethodName := ⟨RX7, "lacks", "(III)I"⟩
abbrev cX7_keep : ByteArray := prog_9_method_72_code
def yX7_keep : MethodName := ⟨RX7, "keep", "(III)V"⟩
abbrev cX7_put : ByteArray := prog_9_method_73_code
def yX7_put : MethodName := ⟨RX7, "put", "(IIII)I"⟩
abbrev cX7_get : ByteArray := prog_9_method_74_code
def yX7_get : MethodName := ⟨RX7, "get", "(III)I"⟩
abbrev cX7_copy : ByteArray := prog_9_method_75_code
def yX7_copy : MethodName := ⟨RX7, "copy", "(IIIII)I"⟩
abbrev cX7_write : ByteArray := prog_9_method_76_code
def yX7_write : MethodName := ⟨RX7, "write", "(II)I"⟩
abbrev cX7_sumOf : ByteArray := prog_9_method_77_code
def yX7_sumOf : MethodName := ⟨RX7, "sumOf", "(I)I"⟩
abbrev cX7_count : ByteArray := prog_9_method_78_code
def yX7_count : MethodName := ⟨RX7, "count", "(I)I"⟩
abbrev cX7_digest : ByteArray := prog_9_method_79_code
def yX7_digest : MethodName := ⟨RX7, "digest", "()J"⟩
def RJ6 : String := "java/lang/Integer"
def TJ6 : u_T := fun k => match k with
  | _ => ("", "", "", false)
def tyJ6 : Nat → FieldType := fun k => match k with
  | _ => .int
theorem nmJ6 : ∀ a, a < 0 → ∀ b, b < 0 → a ≠ b → (TJ6 a).2.1 ≠ (TJ6 b).2.1 := by decide +kernel
theorem tyJ6_ok : ∀ k, k < 0 → parseFieldDescriptor (TJ6 k).2.2.1 = some (tyJ6 k) := by decide +kernel
abbrev cJ6_bitCount_0f7a4 : ByteArray := prog_10_method_49_code
def yJ6_bitCount_0f7a4 : MethodName := ⟨RJ6, "bitCount", "(I)I"⟩
def RJ9 : String := "java/lang/Math"
def TJ9 : u_T := fun k => match k with
  | _ => ("", "", "", false)
def tyJ9 : Nat → FieldType := fun k => match k with
  | _ => .int
theorem nmJ9 : ∀ a, a < 0 → ∀ b, b < 0 → a ≠ b → (TJ9 a).2.1 ≠ (TJ9 b).2.1 := by decide +kernel
theorem tyJ9_ok : ∀ k, k < 0 → parseFieldDescriptor (TJ9 k).2.2.1 = some (tyJ9 k) := by decide +kernel
abbrev cJ9_abs_0f7a4 : ByteArray := prog_11_method_59_code
def yJ9_abs_0f7a4 : MethodName := ⟨RJ9, "abs", "(I)I"⟩
abbrev cJ9_max_7cf53 : ByteArray := prog_11_method_65_code
def yJ9_max_7cf53 : MethodName := ⟨RJ9, "max", "(II)I"⟩
abbrev cJ9_min_7cf53 : ByteArray := prog_11_method_69_code
def yJ9_min_7cf53 : MethodName := ⟨RJ9, "min", "(II)I"⟩
def RJ10 : String := "java/lang/System"
def TJ10 : u_T := fun k => match k with
  | _ => ("", "", "", false)
def tyJ10 : Nat → FieldType := fun k => match k with
  | _ => .int
theorem nmJ10 : ∀ a, a < 0 → ∀ b, b < 0 → a ≠ b → (TJ10 a).2.1 ≠ (TJ10 b).2.1 := by decide +kernel
theorem tyJ10_ok : ∀ k, k < 0 → parseFieldDescriptor (TJ10 k).2.2.1 = some (tyJ10 k) := by decide +kernel
def RJ7 : String := "java/util/Arrays"
def TJ7 : u_T := fun k => match k with
  | _ => ("", "", "", false)
def tyJ7 : Nat → FieldType := fun k => match k with
  | _ => .int
theorem nmJ7 : ∀ a, a < 0 → ∀ b, b < 0 → a ≠ b → (TJ7 a).2.1 ≠ (TJ7 b).2.1 := by decide +kernel
theorem tyJ7_ok : ∀ k, k < 0 → parseFieldDescriptor (TJ7 k).2.2.1 = some (tyJ7 k) := by decide +kernel
abbrev cJ7_fill_d0a16 : ByteArray := prog_13_method_101_code
def yJ7_fill_d0a16 : MethodName := ⟨RJ7, "fill", "([JJ)V"⟩
abbrev cJ7_fill_53178 : ByteArray := prog_13_method_103_code
def yJ7_fill_53178 : MethodName := ⟨RJ7, "fill", "([II)V"⟩
def RL : String := "HillHoursLaw"
abbrev cL_law : ByteArray := code
def yL_law : MethodName := ⟨RL, "law", "([I)Z"⟩
end
section
theorem dX0_init_0 : decode cX0_init 0 = .ok (.aload_n 0, 1) := by decide +kernel
theorem dX0_init_1 : decode cX0_init 1 = .ok (.invokespecial 3, 3) := by decide +kernel
theorem dX0_init_4 : decode cX0_init 4 = .ok (.aload_n 0, 1) := by decide +kernel
theorem dX0_init_5 : decode cX0_init 5 = .ok (.bipush 13, 2) := by decide +kernel
theorem dX0_init_7 : decode cX0_init 7 = .ok (.newarray .long, 2) := by decide +kernel
theorem dX0_init_9 : decode cX0_init 9 = .ok (.putfield 9, 3) := by decide +kernel
theorem dX0_init_12 : decode cX0_init 12 = .ok (.aload_n 0, 1) := by decide +kernel
theorem dX0_init_13 : decode cX0_init 13 = .ok (.lconst 1, 1) := by decide +kernel
theorem dX0_init_14 : decode cX0_init 14 = .ok (.putfield 15, 3) := by decide +kernel
theorem dX0_init_17 : decode cX0_init 17 = .ok (.return_, 1) := by decide +kernel
theorem dX0_above_0 : decode cX0_above 0 = .ok (.aload_n 0, 1) := by decide +kernel
theorem dX0_above_1 : decode cX0_above 1 = .ok (.getfield 19, 3) := by decide +kernel
theorem dX0_above_4 : decode cX0_above 4 = .ok (.lreturn, 1) := by decide +kernel
theorem dX0_below_0 : decode cX0_below 0 = .ok (.aload_n 0, 1) := by decide +kernel
theorem dX0_below_1 : decode cX0_below 1 = .ok (.getfield 15, 3) := by decide +kernel
theorem dX0_below_4 : decode cX0_below 4 = .ok (.lreturn, 1) := by decide +kernel
theorem dX0_takeMean_0 : decode cX0_takeMean 0 = .ok (.aload_n 0, 1) := by decide +kernel
theorem dX0_takeMean_1 : decode cX0_takeMean 1 = .ok (.iload_n 1, 1) := by decide +kernel
theorem dX0_takeMean_2 : decode cX0_takeMean 2 = .ok (.bipush 16, 2) := by decide +kernel
theorem dX0_takeMean_4 : decode cX0_takeMean 4 = .ok (.iload_n 2, 1) := by decide +kernel
theorem dX0_takeMean_5 : decode cX0_takeMean 5 = .ok (.isub, 1) := by decide +kernel
theorem dX0_takeMean_6 : decode cX0_takeMean 6 = .ok (.imul, 1) := by decide +kernel
theorem dX0_takeMean_7 : decode cX0_takeMean 7 = .ok (.i2l, 1) := by decide +kernel
theorem dX0_takeMean_8 : decode cX0_takeMean 8 = .ok (.putfield 19, 3) := by decide +kernel
theorem dX0_takeMean_11 : decode cX0_takeMean 11 = .ok (.aload_n 0, 1) := by decide +kernel
theorem dX0_takeMean_12 : decode cX0_takeMean 12 = .ok (.ldc2_w 22, 3) := by decide +kernel
theorem dX0_takeMean_15 : decode cX0_takeMean 15 = .ok (.putfield 15, 3) := by decide +kernel
theorem dX0_takeMean_18 : decode cX0_takeMean 18 = .ok (.aload_n 0, 1) := by decide +kernel
theorem dX0_takeMean_19 : decode cX0_takeMean 19 = .ok (.invokevirtual 24, 3) := by decide +kernel
theorem dX0_takeMean_22 : decode cX0_takeMean 22 = .ok (.return_, 1) := by decide +kernel
theorem dX0_takeAtLeast_0 : decode cX0_takeAtLeast 0 = .ok (.aload_n 0, 1) := by decide +kernel
theorem dX0_takeAtLeast_1 : decode cX0_takeAtLeast 1 = .ok (.iload_n 1, 1) := by decide +kernel
theorem dX0_takeAtLeast_2 : decode cX0_takeAtLeast 2 = .ok (.iload_n 2, 1) := by decide +kernel
theorem dX0_takeAtLeast_3 : decode cX0_takeAtLeast 3 = .ok (.invokevirtual 27, 3) := by decide +kernel
theorem dX0_takeAtLeast_6 : decode cX0_takeAtLeast 6 = .ok (.aload_n 0, 1) := by decide +kernel
theorem dX0_takeAtLeast_7 : decode cX0_takeAtLeast 7 = .ok (.lconst 0, 1) := by decide +kernel
theorem dX0_takeAtLeast_8 : decode cX0_takeAtLeast 8 = .ok (.putfield 19, 3) := by decide +kernel
theorem dX0_takeAtLeast_11 : decode cX0_takeAtLeast 11 = .ok (.iload_n 3, 1) := by decide +kernel
theorem dX0_takeAtLeast_12 : decode cX0_takeAtLeast 12 = .ok (.istore 4, 2) := by decide +kernel
theorem dX0_takeAtLeast_14 : decode cX0_takeAtLeast 14 = .ok (.iload 4, 2) := by decide +kernel
theorem dX0_takeAtLeast_16 : decode cX0_takeAtLeast 16 = .ok (.bipush 12, 2) := by decide +kernel
theorem dX0_takeAtLeast_18 : decode cX0_takeAtLeast 18 = .ok (.if_icmp .gt 25, 3) := by decide +kernel
theorem dX0_takeAtLeast_21 : decode cX0_takeAtLeast 21 = .ok (.aload_n 0, 1) := by decide +kernel
theorem dX0_takeAtLeast_22 : decode cX0_takeAtLeast 22 = .ok (.dup, 1) := by decide +kernel
theorem dX0_takeAtLeast_23 : decode cX0_takeAtLeast 23 = .ok (.getfield 19, 3) := by decide +kernel
theorem dX0_takeAtLeast_26 : decode cX0_takeAtLeast 26 = .ok (.aload_n 0, 1) := by decide +kernel
theorem dX0_takeAtLeast_27 : decode cX0_takeAtLeast 27 = .ok (.getfield 9, 3) := by decide +kernel
theorem dX0_takeAtLeast_30 : decode cX0_takeAtLeast 30 = .ok (.iload 4, 2) := by decide +kernel
theorem dX0_takeAtLeast_32 : decode cX0_takeAtLeast 32 = .ok (.laload, 1) := by decide +kernel
theorem dX0_takeAtLeast_33 : decode cX0_takeAtLeast 33 = .ok (.ladd, 1) := by decide +kernel
theorem dX0_takeAtLeast_34 : decode cX0_takeAtLeast 34 = .ok (.putfield 19, 3) := by decide +kernel
theorem dX0_takeAtLeast_37 : decode cX0_takeAtLeast 37 = .ok (.iinc 4 1, 3) := by decide +kernel
theorem dX0_takeAtLeast_40 : decode cX0_takeAtLeast 40 = .ok (.goto (-26), 3) := by decide +kernel
theorem dX0_takeAtLeast_43 : decode cX0_takeAtLeast 43 = .ok (.aload_n 0, 1) := by decide +kernel
theorem dX0_takeAtLeast_44 : decode cX0_takeAtLeast 44 = .ok (.invokevirtual 24, 3) := by decide +kernel
theorem dX0_takeAtLeast_47 : decode cX0_takeAtLeast 47 = .ok (.return_, 1) := by decide +kernel
theorem dX0_countWays_0 : decode cX0_countWays 0 = .ok (.aload_n 0, 1) := by decide +kernel
theorem dX0_countWays_1 : decode cX0_countWays 1 = .ok (.getfield 9, 3) := by decide +kernel
theorem dX0_countWays_4 : decode cX0_countWays 4 = .ok (.lconst 0, 1) := by decide +kernel
theorem dX0_countWays_5 : decode cX0_countWays 5 = .ok (.invokestatic 31, 3) := by decide +kernel
theorem dX0_countWays_8 : decode cX0_countWays 8 = .ok (.aload_n 0, 1) := by decide +kernel
theorem dX0_countWays_9 : decode cX0_countWays 9 = .ok (.getfield 9, 3) := by decide +kernel
theorem dX0_countWays_12 : decode cX0_countWays 12 = .ok (.iconst 0, 1) := by decide +kernel
theorem dX0_countWays_13 : decode cX0_countWays 13 = .ok (.lconst 1, 1) := by decide +kernel
theorem dX0_countWays_14 : decode cX0_countWays 14 = .ok (.lastore, 1) := by decide +kernel
theorem dX0_countWays_15 : decode cX0_countWays 15 = .ok (.aload_n 0, 1) := by decide +kernel
theorem dX0_countWays_16 : decode cX0_countWays 16 = .ok (.lconst 1, 1) := by decide +kernel
theorem dX0_countWays_17 : decode cX0_countWays 17 = .ok (.putfield 15, 3) := by decide +kernel
theorem dX0_countWays_20 : decode cX0_countWays 20 = .ok (.iconst 0, 1) := by decide +kernel
theorem dX0_countWays_21 : decode cX0_countWays 21 = .ok (.istore_n 3, 1) := by decide +kernel
theorem dX0_countWays_22 : decode cX0_countWays 22 = .ok (.iload_n 3, 1) := by decide +kernel
theorem dX0_countWays_23 : decode cX0_countWays 23 = .ok (.iload_n 1, 1) := by decide +kernel
theorem dX0_countWays_24 : decode cX0_countWays 24 = .ok (.if_icmp .ge 80, 3) := by decide +kernel
theorem dX0_countWays_27 : decode cX0_countWays 27 = .ok (.bipush 12, 2) := by decide +kernel
theorem dX0_countWays_29 : decode cX0_countWays 29 = .ok (.istore 4, 2) := by decide +kernel
theorem dX0_countWays_31 : decode cX0_countWays 31 = .ok (.iload 4, 2) := by decide +kernel
theorem dX0_countWays_33 : decode cX0_countWays 33 = .ok (.ifCond .le 42, 3) := by decide +kernel
theorem dX0_countWays_36 : decode cX0_countWays 36 = .ok (.aload_n 0, 1) := by decide +kernel
theorem dX0_countWays_37 : decode cX0_countWays 37 = .ok (.getfield 9, 3) := by decide +kernel
theorem dX0_countWays_40 : decode cX0_countWays 40 = .ok (.iload 4, 2) := by decide +kernel
theorem dX0_countWays_42 : decode cX0_countWays 42 = .ok (.aload_n 0, 1) := by decide +kernel
theorem dX0_countWays_43 : decode cX0_countWays 43 = .ok (.getfield 9, 3) := by decide +kernel
theorem dX0_countWays_46 : decode cX0_countWays 46 = .ok (.iload 4, 2) := by decide +kernel
theorem dX0_countWays_48 : decode cX0_countWays 48 = .ok (.laload, 1) := by decide +kernel
theorem dX0_countWays_49 : decode cX0_countWays 49 = .ok (.iload_n 2, 1) := by decide +kernel
theorem dX0_countWays_50 : decode cX0_countWays 50 = .ok (.i2l, 1) := by decide +kernel
theorem dX0_countWays_51 : decode cX0_countWays 51 = .ok (.lmul, 1) := by decide +kernel
theorem dX0_countWays_52 : decode cX0_countWays 52 = .ok (.aload_n 0, 1) := by decide +kernel
theorem dX0_countWays_53 : decode cX0_countWays 53 = .ok (.getfield 9, 3) := by decide +kernel
theorem dX0_countWays_56 : decode cX0_countWays 56 = .ok (.iload 4, 2) := by decide +kernel
theorem dX0_countWays_58 : decode cX0_countWays 58 = .ok (.iconst 1, 1) := by decide +kernel
theorem dX0_countWays_59 : decode cX0_countWays 59 = .ok (.isub, 1) := by decide +kernel
theorem dX0_countWays_60 : decode cX0_countWays 60 = .ok (.laload, 1) := by decide +kernel
theorem dX0_countWays_61 : decode cX0_countWays 61 = .ok (.bipush 16, 2) := by decide +kernel
theorem dX0_countWays_63 : decode cX0_countWays 63 = .ok (.iload_n 2, 1) := by decide +kernel
theorem dX0_countWays_64 : decode cX0_countWays 64 = .ok (.isub, 1) := by decide +kernel
theorem dX0_countWays_65 : decode cX0_countWays 65 = .ok (.i2l, 1) := by decide +kernel
theorem dX0_countWays_66 : decode cX0_countWays 66 = .ok (.lmul, 1) := by decide +kernel
theorem dX0_countWays_67 : decode cX0_countWays 67 = .ok (.ladd, 1) := by decide +kernel
theorem dX0_countWays_68 : decode cX0_countWays 68 = .ok (.lastore, 1) := by decide +kernel
theorem dX0_countWays_69 : decode cX0_countWays 69 = .ok (.iinc 4 (-1), 3) := by decide +kernel
theorem dX0_countWays_72 : decode cX0_countWays 72 = .ok (.goto (-41), 3) := by decide +kernel
theorem dX0_countWays_75 : decode cX0_countWays 75 = .ok (.aload_n 0, 1) := by decide +kernel
theorem dX0_countWays_76 : decode cX0_countWays 76 = .ok (.getfield 9, 3) := by decide +kernel
theorem dX0_countWays_79 : decode cX0_countWays 79 = .ok (.iconst 0, 1) := by decide +kernel
theorem dX0_countWays_80 : decode cX0_countWays 80 = .ok (.dup2, 1) := by decide +kernel
theorem dX0_countWays_81 : decode cX0_countWays 81 = .ok (.laload, 1) := by decide +kernel
theorem dX0_countWays_82 : decode cX0_countWays 82 = .ok (.iload_n 2, 1) := by decide +kernel
theorem dX0_countWays_83 : decode cX0_countWays 83 = .ok (.i2l, 1) := by decide +kernel
theorem dX0_countWays_84 : decode cX0_countWays 84 = .ok (.lmul, 1) := by decide +kernel
theorem dX0_countWays_85 : decode cX0_countWays 85 = .ok (.lastore, 1) := by decide +kernel
theorem dX0_countWays_86 : decode cX0_countWays 86 = .ok (.aload_n 0, 1) := by decide +kernel
theorem dX0_countWays_87 : decode cX0_countWays 87 = .ok (.dup, 1) := by decide +kernel
theorem dX0_countWays_88 : decode cX0_countWays 88 = .ok (.getfield 15, 3) := by decide +kernel
theorem dX0_countWays_91 : decode cX0_countWays 91 = .ok (.ldc2_w 22, 3) := by decide +kernel
theorem dX0_countWays_94 : decode cX0_countWays 94 = .ok (.lmul, 1) := by decide +kernel
theorem dX0_countWays_95 : decode cX0_countWays 95 = .ok (.putfield 15, 3) := by decide +kernel
theorem dX0_countWays_98 : decode cX0_countWays 98 = .ok (.iinc 3 1, 3) := by decide +kernel
theorem dX0_countWays_101 : decode cX0_countWays 101 = .ok (.goto (-79), 3) := by decide +kernel
theorem dX0_countWays_104 : decode cX0_countWays 104 = .ok (.return_, 1) := by decide +kernel
theorem dX0_reduce_0 : decode cX0_reduce 0 = .ok (.iconst 0, 1) := by decide +kernel
theorem dX0_reduce_1 : decode cX0_reduce 1 = .ok (.istore_n 1, 1) := by decide +kernel
theorem dX0_reduce_2 : decode cX0_reduce 2 = .ok (.iload_n 1, 1) := by decide +kernel
theorem dX0_reduce_3 : decode cX0_reduce 3 = .ok (.bipush 48, 2) := by decide +kernel
theorem dX0_reduce_5 : decode cX0_reduce 5 = .ok (.if_icmp .ge 49, 3) := by decide +kernel
theorem dX0_reduce_8 : decode cX0_reduce 8 = .ok (.aload_n 0, 1) := by decide +kernel
theorem dX0_reduce_9 : decode cX0_reduce 9 = .ok (.getfield 15, 3) := by decide +kernel
theorem dX0_reduce_12 : decode cX0_reduce 12 = .ok (.lconst 1, 1) := by decide +kernel
theorem dX0_reduce_13 : decode cX0_reduce 13 = .ok (.lcmp, 1) := by decide +kernel
theorem dX0_reduce_14 : decode cX0_reduce 14 = .ok (.ifCond .le 40, 3) := by decide +kernel
theorem dX0_reduce_17 : decode cX0_reduce 17 = .ok (.aload_n 0, 1) := by decide +kernel
theorem dX0_reduce_18 : decode cX0_reduce 18 = .ok (.getfield 19, 3) := by decide +kernel
theorem dX0_reduce_21 : decode cX0_reduce 21 = .ok (.lconst 1, 1) := by decide +kernel
theorem dX0_reduce_22 : decode cX0_reduce 22 = .ok (.land, 1) := by decide +kernel
theorem dX0_reduce_23 : decode cX0_reduce 23 = .ok (.lconst 0, 1) := by decide +kernel
theorem dX0_reduce_24 : decode cX0_reduce 24 = .ok (.lcmp, 1) := by decide +kernel
theorem dX0_reduce_25 : decode cX0_reduce 25 = .ok (.ifCond .ne 29, 3) := by decide +kernel
theorem dX0_reduce_28 : decode cX0_reduce 28 = .ok (.aload_n 0, 1) := by decide +kernel
theorem dX0_reduce_29 : decode cX0_reduce 29 = .ok (.dup, 1) := by decide +kernel
theorem dX0_reduce_30 : decode cX0_reduce 30 = .ok (.getfield 19, 3) := by decide +kernel
theorem dX0_reduce_33 : decode cX0_reduce 33 = .ok (.iconst 1, 1) := by decide +kernel
theorem dX0_reduce_34 : decode cX0_reduce 34 = .ok (.lshr, 1) := by decide +kernel
theorem dX0_reduce_35 : decode cX0_reduce 35 = .ok (.putfield 19, 3) := by decide +kernel
theorem dX0_reduce_38 : decode cX0_reduce 38 = .ok (.aload_n 0, 1) := by decide +kernel
theorem dX0_reduce_39 : decode cX0_reduce 39 = .ok (.dup, 1) := by decide +kernel
theorem dX0_reduce_40 : decode cX0_reduce 40 = .ok (.getfield 15, 3) := by decide +kernel
theorem dX0_reduce_43 : decode cX0_reduce 43 = .ok (.iconst 1, 1) := by decide +kernel
theorem dX0_reduce_44 : decode cX0_reduce 44 = .ok (.lshr, 1) := by decide +kernel
theorem dX0_reduce_45 : decode cX0_reduce 45 = .ok (.putfield 15, 3) := by decide +kernel
theorem dX0_reduce_48 : decode cX0_reduce 48 = .ok (.iinc 1 1, 3) := by decide +kernel
theorem dX0_reduce_51 : decode cX0_reduce 51 = .ok (.goto (-49), 3) := by decide +kernel
theorem dX0_reduce_54 : decode cX0_reduce 54 = .ok (.return_, 1) := by decide +kernel
theorem dX1_init_0 : decode cX1_init 0 = .ok (.aload_n 0, 1) := by decide +kernel
theorem dX1_init_1 : decode cX1_init 1 = .ok (.invokespecial 3, 3) := by decide +kernel
theorem dX1_init_4 : decode cX1_init 4 = .ok (.aload_n 0, 1) := by decide +kernel
theorem dX1_init_5 : decode cX1_init 5 = .ok (.bipush 20, 2) := by decide +kernel
theorem dX1_init_7 : decode cX1_init 7 = .ok (.newarray .int, 2) := by decide +kernel
theorem dX1_init_9 : decode cX1_init 9 = .ok (.putfield 11, 3) := by decide +kernel
theorem dX1_init_12 : decode cX1_init 12 = .ok (.aload_n 0, 1) := by decide +kernel
theorem dX1_init_13 : decode cX1_init 13 = .ok (.bipush 12, 2) := by decide +kernel
theorem dX1_init_15 : decode cX1_init 15 = .ok (.newarray .int, 2) := by decide +kernel
theorem dX1_init_17 : decode cX1_init 17 = .ok (.putfield 15, 3) := by decide +kernel
theorem dX1_init_20 : decode cX1_init 20 = .ok (.aload_n 0, 1) := by decide +kernel
theorem dX1_init_21 : decode cX1_init 21 = .ok (.bipush 12, 2) := by decide +kernel
theorem dX1_init_23 : decode cX1_init 23 = .ok (.newarray .int, 2) := by decide +kernel
theorem dX1_init_25 : decode cX1_init 25 = .ok (.putfield 18, 3) := by decide +kernel
theorem dX1_init_28 : decode cX1_init 28 = .ok (.aload_n 0, 1) := by decide +kernel
theorem dX1_init_29 : decode cX1_init 29 = .ok (.iconst (-1), 1) := by decide +kernel
theorem dX1_init_30 : decode cX1_init 30 = .ok (.putfield 21, 3) := by decide +kernel
theorem dX1_init_33 : decode cX1_init 33 = .ok (.return_, 1) := by decide +kernel
theorem dX1_bytes_0 : decode cX1_bytes 0 = .ok (.aload_n 0, 1) := by decide +kernel
theorem dX1_bytes_1 : decode cX1_bytes 1 = .ok (.getfield 25, 3) := by decide +kernel
theorem dX1_bytes_4 : decode cX1_bytes 4 = .ok (.ireturn, 1) := by decide +kernel
theorem dX1_rows_0 : decode cX1_rows 0 = .ok (.aload_n 0, 1) := by decide +kernel
theorem dX1_rows_1 : decode cX1_rows 1 = .ok (.getfield 28, 3) := by decide +kernel
theorem dX1_rows_4 : decode cX1_rows 4 = .ok (.ireturn, 1) := by decide +kernel
theorem dX1_columns_0 : decode cX1_columns 0 = .ok (.aload_n 0, 1) := by decide +kernel
theorem dX1_columns_1 : decode cX1_columns 1 = .ok (.getfield 31, 3) := by decide +kernel
theorem dX1_columns_4 : decode cX1_columns 4 = .ok (.ireturn, 1) := by decide +kernel
theorem dX1_cells_0 : decode cX1_cells 0 = .ok (.aload_n 0, 1) := by decide +kernel
theorem dX1_cells_1 : decode cX1_cells 1 = .ok (.getfield 34, 3) := by decide +kernel
theorem dX1_cells_4 : decode cX1_cells 4 = .ok (.ireturn, 1) := by decide +kernel
theorem dX1_faultPlace_0 : decode cX1_faultPlace 0 = .ok (.aload_n 0, 1) := by decide +kernel
theorem dX1_faultPlace_1 : decode cX1_faultPlace 1 = .ok (.getfield 21, 3) := by decide +kernel
theorem dX1_faultPlace_4 : decode cX1_faultPlace 4 = .ok (.ireturn, 1) := by decide +kernel
theorem dX1_heightOf_0 : decode cX1_heightOf 0 = .ok (.aload_n 0, 1) := by decide +kernel
theorem dX1_heightOf_1 : decode cX1_heightOf 1 = .ok (.getfield 15, 3) := by decide +kernel
theorem dX1_heightOf_4 : decode cX1_heightOf 4 = .ok (.iload_n 1, 1) := by decide +kernel
theorem dX1_heightOf_5 : decode cX1_heightOf 5 = .ok (.iaload, 1) := by decide +kernel
theorem dX1_heightOf_6 : decode cX1_heightOf 6 = .ok (.ireturn, 1) := by decide +kernel
theorem dX1_columnOf_0 : decode cX1_columnOf 0 = .ok (.aload_n 0, 1) := by decide +kernel
theorem dX1_columnOf_1 : decode cX1_columnOf 1 = .ok (.getfield 18, 3) := by decide +kernel
theorem dX1_columnOf_4 : decode cX1_columnOf 4 = .ok (.iload_n 1, 1) := by decide +kernel
theorem dX1_columnOf_5 : decode cX1_columnOf 5 = .ok (.iaload, 1) := by decide +kernel
theorem dX1_columnOf_6 : decode cX1_columnOf 6 = .ok (.ireturn, 1) := by decide +kernel
theorem dX1_rowStart_0 : decode cX1_rowStart 0 = .ok (.iload_n 1, 1) := by decide +kernel
theorem dX1_rowStart_1 : decode cX1_rowStart 1 = .ok (.aload_n 0, 1) := by decide +kernel
theorem dX1_rowStart_2 : decode cX1_rowStart 2 = .ok (.getfield 18, 3) := by decide +kernel
theorem dX1_rowStart_5 : decode cX1_rowStart 5 = .ok (.iload_n 1, 1) := by decide +kernel
theorem dX1_rowStart_6 : decode cX1_rowStart 6 = .ok (.iaload, 1) := by decide +kernel
theorem dX1_rowStart_7 : decode cX1_rowStart 7 = .ok (.isub, 1) := by decide +kernel
theorem dX1_rowStart_8 : decode cX1_rowStart 8 = .ok (.ireturn, 1) := by decide +kernel
theorem dX1_isFull_0 : decode cX1_isFull 0 = .ok (.aload_n 0, 1) := by decide +kernel
theorem dX1_isFull_1 : decode cX1_isFull 1 = .ok (.getfield 25, 3) := by decide +kernel
theorem dX1_isFull_4 : decode cX1_isFull 4 = .ok (.bipush 20, 2) := by decide +kernel
theorem dX1_isFull_6 : decode cX1_isFull 6 = .ok (.if_icmp .lt 7, 3) := by decide +kernel
theorem dX1_isFull_9 : decode cX1_isFull 9 = .ok (.iconst 1, 1) := by decide +kernel
theorem dX1_isFull_10 : decode cX1_isFull 10 = .ok (.goto 4, 3) := by decide +kernel
theorem dX1_isFull_13 : decode cX1_isFull 13 = .ok (.iconst 0, 1) := by decide +kernel
theorem dX1_isFull_14 : decode cX1_isFull 14 = .ok (.ireturn, 1) := by decide +kernel
theorem dX1_append_0 : decode cX1_append 0 = .ok (.aload_n 0, 1) := by decide +kernel
theorem dX1_append_1 : decode cX1_append 1 = .ok (.invokevirtual 37, 3) := by decide +kernel
theorem dX1_append_4 : decode cX1_append 4 = .ok (.ifCond .ne 27, 3) := by decide +kernel
theorem dX1_append_7 : decode cX1_append 7 = .ok (.aload_n 0, 1) := by decide +kernel
theorem dX1_append_8 : decode cX1_append 8 = .ok (.getfield 11, 3) := by decide +kernel
theorem dX1_append_11 : decode cX1_append 11 = .ok (.aload_n 0, 1) := by decide +kernel
theorem dX1_append_12 : decode cX1_append 12 = .ok (.getfield 25, 3) := by decide +kernel
theorem dX1_append_15 : decode cX1_append 15 = .ok (.iload_n 1, 1) := by decide +kernel
theorem dX1_append_16 : decode cX1_append 16 = .ok (.iastore, 1) := by decide +kernel
theorem dX1_append_17 : decode cX1_append 17 = .ok (.aload_n 0, 1) := by decide +kernel
theorem dX1_append_18 : decode cX1_append 18 = .ok (.dup, 1) := by decide +kernel
theorem dX1_append_19 : decode cX1_append 19 = .ok (.getfield 25, 3) := by decide +kernel
theorem dX1_append_22 : decode cX1_append 22 = .ok (.iconst 1, 1) := by decide +kernel
theorem dX1_append_23 : decode cX1_append 23 = .ok (.iadd, 1) := by decide +kernel
theorem dX1_append_24 : decode cX1_append 24 = .ok (.putfield 25, 3) := by decide +kernel
theorem dX1_append_27 : decode cX1_append 27 = .ok (.aload_n 0, 1) := by decide +kernel
theorem dX1_append_28 : decode cX1_append 28 = .ok (.invokevirtual 41, 3) := by decide +kernel
theorem dX1_append_31 : decode cX1_append 31 = .ok (.return_, 1) := by decide +kernel
theorem dX1_empty_0 : decode cX1_empty 0 = .ok (.aload_n 0, 1) := by decide +kernel
theorem dX1_empty_1 : decode cX1_empty 1 = .ok (.iconst 0, 1) := by decide +kernel
theorem dX1_empty_2 : decode cX1_empty 2 = .ok (.putfield 25, 3) := by decide +kernel
theorem dX1_empty_5 : decode cX1_empty 5 = .ok (.aload_n 0, 1) := by decide +kernel
theorem dX1_empty_6 : decode cX1_empty 6 = .ok (.invokevirtual 41, 3) := by decide +kernel
theorem dX1_empty_9 : decode cX1_empty 9 = .ok (.return_, 1) := by decide +kernel
theorem dX1_survey_0 : decode cX1_survey 0 = .ok (.aload_n 0, 1) := by decide +kernel
theorem dX1_survey_1 : decode cX1_survey 1 = .ok (.iconst 0, 1) := by decide +kernel
theorem dX1_survey_2 : decode cX1_survey 2 = .ok (.putfield 28, 3) := by decide +kernel
theorem dX1_survey_5 : decode cX1_survey 5 = .ok (.aload_n 0, 1) := by decide +kernel
theorem dX1_survey_6 : decode cX1_survey 6 = .ok (.iconst 0, 1) := by decide +kernel
theorem dX1_survey_7 : decode cX1_survey 7 = .ok (.putfield 31, 3) := by decide +kernel
theorem dX1_survey_10 : decode cX1_survey 10 = .ok (.aload_n 0, 1) := by decide +kernel
theorem dX1_survey_11 : decode cX1_survey 11 = .ok (.iconst 0, 1) := by decide +kernel
theorem dX1_survey_12 : decode cX1_survey 12 = .ok (.putfield 34, 3) := by decide +kernel
theorem dX1_survey_15 : decode cX1_survey 15 = .ok (.aload_n 0, 1) := by decide +kernel
theorem dX1_survey_16 : decode cX1_survey 16 = .ok (.aload_n 0, 1) := by decide +kernel
theorem dX1_survey_17 : decode cX1_survey 17 = .ok (.invokevirtual 44, 3) := by decide +kernel
theorem dX1_survey_20 : decode cX1_survey 20 = .ok (.putfield 21, 3) := by decide +kernel
theorem dX1_survey_23 : decode cX1_survey 23 = .ok (.aload_n 0, 1) := by decide +kernel
theorem dX1_survey_24 : decode cX1_survey 24 = .ok (.getfield 21, 3) := by decide +kernel
theorem dX1_survey_27 : decode cX1_survey 27 = .ok (.iconst (-1), 1) := by decide +kernel
theorem dX1_survey_28 : decode cX1_survey 28 = .ok (.if_icmp .ne 14, 3) := by decide +kernel
theorem dX1_survey_31 : decode cX1_survey 31 = .ok (.aload_n 0, 1) := by decide +kernel
theorem dX1_survey_32 : decode cX1_survey 32 = .ok (.getfield 25, 3) := by decide +kernel
theorem dX1_survey_35 : decode cX1_survey 35 = .ok (.ifCond .le 7, 3) := by decide +kernel
theorem dX1_survey_38 : decode cX1_survey 38 = .ok (.aload_n 0, 1) := by decide +kernel
theorem dX1_survey_39 : decode cX1_survey 39 = .ok (.invokevirtual 48, 3) := by decide +kernel
theorem dX1_survey_42 : decode cX1_survey 42 = .ok (.return_, 1) := by decide +kernel
theorem dX1_findFault_0 : decode cX1_findFault 0 = .ok (.iconst 0, 1) := by decide +kernel
theorem dX1_findFault_1 : decode cX1_findFault 1 = .ok (.istore_n 1, 1) := by decide +kernel
theorem dX1_findFault_2 : decode cX1_findFault 2 = .ok (.iconst 0, 1) := by decide +kernel
theorem dX1_findFault_3 : decode cX1_findFault 3 = .ok (.istore_n 2, 1) := by decide +kernel
theorem dX1_findFault_4 : decode cX1_findFault 4 = .ok (.iconst 4, 1) := by decide +kernel
theorem dX1_findFault_5 : decode cX1_findFault 5 = .ok (.istore_n 3, 1) := by decide +kernel
theorem dX1_findFault_6 : decode cX1_findFault 6 = .ok (.iconst 0, 1) := by decide +kernel
theorem dX1_findFault_7 : decode cX1_findFault 7 = .ok (.istore 4, 2) := by decide +kernel
theorem dX1_findFault_9 : decode cX1_findFault 9 = .ok (.iload 4, 2) := by decide +kernel
theorem dX1_findFault_11 : decode cX1_findFault 11 = .ok (.aload_n 0, 1) := by decide +kernel
theorem dX1_findFault_12 : decode cX1_findFault 12 = .ok (.getfield 25, 3) := by decide +kernel
theorem dX1_findFault_15 : decode cX1_findFault 15 = .ok (.if_icmp .ge 75, 3) := by decide +kernel
theorem dX1_findFault_18 : decode cX1_findFault 18 = .ok (.iload_n 1, 1) := by decide +kernel
theorem dX1_findFault_19 : decode cX1_findFault 19 = .ok (.iconst 3, 1) := by decide +kernel
theorem dX1_findFault_20 : decode cX1_findFault 20 = .ok (.if_icmp .ne 6, 3) := by decide +kernel
theorem dX1_findFault_23 : decode cX1_findFault 23 = .ok (.iload 4, 2) := by decide +kernel
theorem dX1_findFault_25 : decode cX1_findFault 25 = .ok (.ireturn, 1) := by decide +kernel
theorem dX1_findFault_26 : decode cX1_findFault 26 = .ok (.aload_n 0, 1) := by decide +kernel
theorem dX1_findFault_27 : decode cX1_findFault 27 = .ok (.getfield 11, 3) := by decide +kernel
theorem dX1_findFault_30 : decode cX1_findFault 30 = .ok (.iload 4, 2) := by decide +kernel
theorem dX1_findFault_32 : decode cX1_findFault 32 = .ok (.iaload, 1) := by decide +kernel
theorem dX1_findFault_33 : decode cX1_findFault 33 = .ok (.invokestatic 51, 3) := by decide +kernel
theorem dX1_findFault_36 : decode cX1_findFault 36 = .ok (.ifCond .eq 14, 3) := by decide +kernel
theorem dX1_findFault_39 : decode cX1_findFault 39 = .ok (.iload_n 2, 1) := by decide +kernel
theorem dX1_findFault_40 : decode cX1_findFault 40 = .ok (.iload_n 3, 1) := by decide +kernel
theorem dX1_findFault_41 : decode cX1_findFault 41 = .ok (.if_icmp .ge 9, 3) := by decide +kernel
theorem dX1_findFault_44 : decode cX1_findFault 44 = .ok (.iinc 2 1, 3) := by decide +kernel
theorem dX1_findFault_47 : decode cX1_findFault 47 = .ok (.goto 37, 3) := by decide +kernel
theorem dX1_findFault_50 : decode cX1_findFault 50 = .ok (.aload_n 0, 1) := by decide +kernel
theorem dX1_findFault_51 : decode cX1_findFault 51 = .ok (.getfield 11, 3) := by decide +kernel
theorem dX1_findFault_54 : decode cX1_findFault 54 = .ok (.iload 4, 2) := by decide +kernel
theorem dX1_findFault_56 : decode cX1_findFault 56 = .ok (.iaload, 1) := by decide +kernel
theorem dX1_findFault_57 : decode cX1_findFault 57 = .ok (.bipush 59, 2) := by decide +kernel
theorem dX1_findFault_59 : decode cX1_findFault 59 = .ok (.if_icmp .ne 22, 3) := by decide +kernel
theorem dX1_findFault_62 : decode cX1_findFault 62 = .ok (.iload_n 1, 1) := by decide +kernel
theorem dX1_findFault_63 : decode cX1_findFault 63 = .ok (.iload_n 2, 1) := by decide +kernel
theorem dX1_findFault_64 : decode cX1_findFault 64 = .ok (.iload_n 3, 1) := by decide +kernel
theorem dX1_findFault_65 : decode cX1_findFault 65 = .ok (.invokestatic 55, 3) := by decide +kernel
theorem dX1_findFault_68 : decode cX1_findFault 68 = .ok (.ifCond .eq 13, 3) := by decide +kernel
theorem dX1_findFault_71 : decode cX1_findFault 71 = .ok (.iload_n 2, 1) := by decide +kernel
theorem dX1_findFault_72 : decode cX1_findFault 72 = .ok (.istore_n 3, 1) := by decide +kernel
theorem dX1_findFault_73 : decode cX1_findFault 73 = .ok (.iconst 0, 1) := by decide +kernel
theorem dX1_findFault_74 : decode cX1_findFault 74 = .ok (.istore_n 2, 1) := by decide +kernel
theorem dX1_findFault_75 : decode cX1_findFault 75 = .ok (.iinc 1 1, 3) := by decide +kernel
theorem dX1_findFault_78 : decode cX1_findFault 78 = .ok (.goto 6, 3) := by decide +kernel
theorem dX1_findFault_81 : decode cX1_findFault 81 = .ok (.iload 4, 2) := by decide +kernel
theorem dX1_findFault_83 : decode cX1_findFault 83 = .ok (.ireturn, 1) := by decide +kernel
theorem dX1_findFault_84 : decode cX1_findFault 84 = .ok (.iinc 4 1, 3) := by decide +kernel
theorem dX1_findFault_87 : decode cX1_findFault 87 = .ok (.goto (-78), 3) := by decide +kernel
theorem dX1_findFault_90 : decode cX1_findFault 90 = .ok (.aload_n 0, 1) := by decide +kernel
theorem dX1_findFault_91 : decode cX1_findFault 91 = .ok (.getfield 25, 3) := by decide +kernel
theorem dX1_findFault_94 : decode cX1_findFault 94 = .ok (.ifCond .eq 17, 3) := by decide +kernel
theorem dX1_findFault_97 : decode cX1_findFault 97 = .ok (.iload_n 1, 1) := by decide +kernel
theorem dX1_findFault_98 : decode cX1_findFault 98 = .ok (.iconst 3, 1) := by decide +kernel
theorem dX1_findFault_99 : decode cX1_findFault 99 = .ok (.if_icmp .ge 16, 3) := by decide +kernel
theorem dX1_findFault_102 : decode cX1_findFault 102 = .ok (.iload_n 1, 1) := by decide +kernel
theorem dX1_findFault_103 : decode cX1_findFault 103 = .ok (.iload_n 2, 1) := by decide +kernel
theorem dX1_findFault_104 : decode cX1_findFault 104 = .ok (.iload_n 3, 1) := by decide +kernel
theorem dX1_findFault_105 : decode cX1_findFault 105 = .ok (.invokestatic 55, 3) := by decide +kernel
theorem dX1_findFault_108 : decode cX1_findFault 108 = .ok (.ifCond .eq 7, 3) := by decide +kernel
theorem dX1_findFault_111 : decode cX1_findFault 111 = .ok (.iconst 1, 1) := by decide +kernel
theorem dX1_findFault_112 : decode cX1_findFault 112 = .ok (.goto 4, 3) := by decide +kernel
theorem dX1_findFault_115 : decode cX1_findFault 115 = .ok (.iconst 0, 1) := by decide +kernel
theorem dX1_findFault_116 : decode cX1_findFault 116 = .ok (.istore 4, 2) := by decide +kernel
theorem dX1_findFault_118 : decode cX1_findFault 118 = .ok (.iload 4, 2) := by decide +kernel
theorem dX1_findFault_120 : decode cX1_findFault 120 = .ok (.ifCond .eq 7, 3) := by decide +kernel
theorem dX1_findFault_123 : decode cX1_findFault 123 = .ok (.iconst (-1), 1) := by decide +kernel
theorem dX1_findFault_124 : decode cX1_findFault 124 = .ok (.goto 7, 3) := by decide +kernel
theorem dX1_findFault_127 : decode cX1_findFault 127 = .ok (.aload_n 0, 1) := by decide +kernel
theorem dX1_findFault_128 : decode cX1_findFault 128 = .ok (.getfield 25, 3) := by decide +kernel
theorem dX1_findFault_131 : decode cX1_findFault 131 = .ok (.ireturn, 1) := by decide +kernel
theorem dX1_endsRow_0 : decode cX1_endsRow 0 = .ok (.iload_n 0, 1) := by decide +kernel
theorem dX1_endsRow_1 : decode cX1_endsRow 1 = .ok (.ifCond .ne 15, 3) := by decide +kernel
theorem dX1_endsRow_4 : decode cX1_endsRow 4 = .ok (.iload_n 1, 1) := by decide +kernel
theorem dX1_endsRow_5 : decode cX1_endsRow 5 = .ok (.ifCond .le 7, 3) := by decide +kernel
theorem dX1_endsRow_8 : decode cX1_endsRow 8 = .ok (.iconst 1, 1) := by decide +kernel
theorem dX1_endsRow_9 : decode cX1_endsRow 9 = .ok (.goto 17, 3) := by decide +kernel
theorem dX1_endsRow_12 : decode cX1_endsRow 12 = .ok (.iconst 0, 1) := by decide +kernel
theorem dX1_endsRow_13 : decode cX1_endsRow 13 = .ok (.goto 13, 3) := by decide +kernel
theorem dX1_endsRow_16 : decode cX1_endsRow 16 = .ok (.iload_n 1, 1) := by decide +kernel
theorem dX1_endsRow_17 : decode cX1_endsRow 17 = .ok (.iload_n 2, 1) := by decide +kernel
theorem dX1_endsRow_18 : decode cX1_endsRow 18 = .ok (.if_icmp .ne 7, 3) := by decide +kernel
theorem dX1_endsRow_21 : decode cX1_endsRow 21 = .ok (.iconst 1, 1) := by decide +kernel
theorem dX1_endsRow_22 : decode cX1_endsRow 22 = .ok (.goto 4, 3) := by decide +kernel
theorem dX1_endsRow_25 : decode cX1_endsRow 25 = .ok (.iconst 0, 1) := by decide +kernel
theorem dX1_endsRow_26 : decode cX1_endsRow 26 = .ok (.ireturn, 1) := by decide +kernel
theorem dX1_layCells_0 : decode cX1_layCells 0 = .ok (.iconst 0, 1) := by decide +kernel
theorem dX1_layCells_1 : decode cX1_layCells 1 = .ok (.istore_n 1, 1) := by decide +kernel
theorem dX1_layCells_2 : decode cX1_layCells 2 = .ok (.aload_n 0, 1) := by decide +kernel
theorem dX1_layCells_3 : decode cX1_layCells 3 = .ok (.iconst 1, 1) := by decide +kernel
theorem dX1_layCells_4 : decode cX1_layCells 4 = .ok (.putfield 28, 3) := by decide +kernel
theorem dX1_layCells_7 : decode cX1_layCells 7 = .ok (.iconst 0, 1) := by decide +kernel
theorem dX1_layCells_8 : decode cX1_layCells 8 = .ok (.istore_n 2, 1) := by decide +kernel
theorem dX1_layCells_9 : decode cX1_layCells 9 = .ok (.iload_n 2, 1) := by decide +kernel
theorem dX1_layCells_10 : decode cX1_layCells 10 = .ok (.aload_n 0, 1) := by decide +kernel
theorem dX1_layCells_11 : decode cX1_layCells 11 = .ok (.getfield 25, 3) := by decide +kernel
theorem dX1_layCells_14 : decode cX1_layCells 14 = .ok (.if_icmp .ge 85, 3) := by decide +kernel
theorem dX1_layCells_17 : decode cX1_layCells 17 = .ok (.aload_n 0, 1) := by decide +kernel
theorem dX1_layCells_18 : decode cX1_layCells 18 = .ok (.getfield 11, 3) := by decide +kernel
theorem dX1_layCells_21 : decode cX1_layCells 21 = .ok (.iload_n 2, 1) := by decide +kernel
theorem dX1_layCells_22 : decode cX1_layCells 22 = .ok (.iaload, 1) := by decide +kernel
theorem dX1_layCells_23 : decode cX1_layCells 23 = .ok (.bipush 59, 2) := by decide +kernel
theorem dX1_layCells_25 : decode cX1_layCells 25 = .ok (.if_icmp .ne 18, 3) := by decide +kernel
theorem dX1_layCells_28 : decode cX1_layCells 28 = .ok (.aload_n 0, 1) := by decide +kernel
theorem dX1_layCells_29 : decode cX1_layCells 29 = .ok (.dup, 1) := by decide +kernel
theorem dX1_layCells_30 : decode cX1_layCells 30 = .ok (.getfield 28, 3) := by decide +kernel
theorem dX1_layCells_33 : decode cX1_layCells 33 = .ok (.iconst 1, 1) := by decide +kernel
theorem dX1_layCells_34 : decode cX1_layCells 34 = .ok (.iadd, 1) := by decide +kernel
theorem dX1_layCells_35 : decode cX1_layCells 35 = .ok (.putfield 28, 3) := by decide +kernel
theorem dX1_layCells_38 : decode cX1_layCells 38 = .ok (.iconst 0, 1) := by decide +kernel
theorem dX1_layCells_39 : decode cX1_layCells 39 = .ok (.istore_n 1, 1) := by decide +kernel
theorem dX1_layCells_40 : decode cX1_layCells 40 = .ok (.goto 53, 3) := by decide +kernel
theorem dX1_layCells_43 : decode cX1_layCells 43 = .ok (.aload_n 0, 1) := by decide +kernel
theorem dX1_layCells_44 : decode cX1_layCells 44 = .ok (.getfield 34, 3) := by decide +kernel
theorem dX1_layCells_47 : decode cX1_layCells 47 = .ok (.bipush 12, 2) := by decide +kernel
theorem dX1_layCells_49 : decode cX1_layCells 49 = .ok (.if_icmp .ge 44, 3) := by decide +kernel
theorem dX1_layCells_52 : decode cX1_layCells 52 = .ok (.aload_n 0, 1) := by decide +kernel
theorem dX1_layCells_53 : decode cX1_layCells 53 = .ok (.getfield 15, 3) := by decide +kernel
theorem dX1_layCells_56 : decode cX1_layCells 56 = .ok (.aload_n 0, 1) := by decide +kernel
theorem dX1_layCells_57 : decode cX1_layCells 57 = .ok (.getfield 34, 3) := by decide +kernel
theorem dX1_layCells_60 : decode cX1_layCells 60 = .ok (.aload_n 0, 1) := by decide +kernel
theorem dX1_layCells_61 : decode cX1_layCells 61 = .ok (.getfield 11, 3) := by decide +kernel
theorem dX1_layCells_64 : decode cX1_layCells 64 = .ok (.iload_n 2, 1) := by decide +kernel
theorem dX1_layCells_65 : decode cX1_layCells 65 = .ok (.iaload, 1) := by decide +kernel
theorem dX1_layCells_66 : decode cX1_layCells 66 = .ok (.bipush 48, 2) := by decide +kernel
theorem dX1_layCells_68 : decode cX1_layCells 68 = .ok (.isub, 1) := by decide +kernel
theorem dX1_layCells_69 : decode cX1_layCells 69 = .ok (.iastore, 1) := by decide +kernel
theorem dX1_layCells_70 : decode cX1_layCells 70 = .ok (.aload_n 0, 1) := by decide +kernel
theorem dX1_layCells_71 : decode cX1_layCells 71 = .ok (.getfield 18, 3) := by decide +kernel
theorem dX1_layCells_74 : decode cX1_layCells 74 = .ok (.aload_n 0, 1) := by decide +kernel
theorem dX1_layCells_75 : decode cX1_layCells 75 = .ok (.getfield 34, 3) := by decide +kernel
theorem dX1_layCells_78 : decode cX1_layCells 78 = .ok (.iload_n 1, 1) := by decide +kernel
theorem dX1_layCells_79 : decode cX1_layCells 79 = .ok (.iastore, 1) := by decide +kernel
theorem dX1_layCells_80 : decode cX1_layCells 80 = .ok (.aload_n 0, 1) := by decide +kernel
theorem dX1_layCells_81 : decode cX1_layCells 81 = .ok (.dup, 1) := by decide +kernel
theorem dX1_layCells_82 : decode cX1_layCells 82 = .ok (.getfield 34, 3) := by decide +kernel
theorem dX1_layCells_85 : decode cX1_layCells 85 = .ok (.iconst 1, 1) := by decide +kernel
theorem dX1_layCells_86 : decode cX1_layCells 86 = .ok (.iadd, 1) := by decide +kernel
theorem dX1_layCells_87 : decode cX1_layCells 87 = .ok (.putfield 34, 3) := by decide +kernel
theorem dX1_layCells_90 : decode cX1_layCells 90 = .ok (.iinc 1 1, 3) := by decide +kernel
theorem dX1_layCells_93 : decode cX1_layCells 93 = .ok (.iinc 2 1, 3) := by decide +kernel
theorem dX1_layCells_96 : decode cX1_layCells 96 = .ok (.goto (-87), 3) := by decide +kernel
theorem dX1_layCells_99 : decode cX1_layCells 99 = .ok (.aload_n 0, 1) := by decide +kernel
theorem dX1_layCells_100 : decode cX1_layCells 100 = .ok (.iload_n 1, 1) := by decide +kernel
theorem dX1_layCells_101 : decode cX1_layCells 101 = .ok (.putfield 31, 3) := by decide +kernel
theorem dX1_layCells_104 : decode cX1_layCells 104 = .ok (.return_, 1) := by decide +kernel
theorem dX1_isFigure_0 : decode cX1_isFigure 0 = .ok (.iload_n 0, 1) := by decide +kernel
theorem dX1_isFigure_1 : decode cX1_isFigure 1 = .ok (.bipush 48, 2) := by decide +kernel
theorem dX1_isFigure_3 : decode cX1_isFigure 3 = .ok (.if_icmp .lt 13, 3) := by decide +kernel
theorem dX1_isFigure_6 : decode cX1_isFigure 6 = .ok (.iload_n 0, 1) := by decide +kernel
theorem dX1_isFigure_7 : decode cX1_isFigure 7 = .ok (.bipush 57, 2) := by decide +kernel
theorem dX1_isFigure_9 : decode cX1_isFigure 9 = .ok (.if_icmp .gt 7, 3) := by decide +kernel
theorem dX1_isFigure_12 : decode cX1_isFigure 12 = .ok (.iconst 1, 1) := by decide +kernel
theorem dX1_isFigure_13 : decode cX1_isFigure 13 = .ok (.goto 4, 3) := by decide +kernel
theorem dX1_isFigure_16 : decode cX1_isFigure 16 = .ok (.iconst 0, 1) := by decide +kernel
theorem dX1_isFigure_17 : decode cX1_isFigure 17 = .ok (.ireturn, 1) := by decide +kernel
theorem dX2_init_0 : decode cX2_init 0 = .ok (.aload_n 0, 1) := by decide +kernel
theorem dX2_init_1 : decode cX2_init 1 = .ok (.invokespecial 3, 3) := by decide +kernel
theorem dX2_init_4 : decode cX2_init 4 = .ok (.aload_n 0, 1) := by decide +kernel
theorem dX2_init_5 : decode cX2_init 5 = .ok (.bipush 64, 2) := by decide +kernel
theorem dX2_init_7 : decode cX2_init 7 = .ok (.newarray .int, 2) := by decide +kernel
theorem dX2_init_9 : decode cX2_init 9 = .ok (.putfield 11, 3) := by decide +kernel
theorem dX2_init_12 : decode cX2_init 12 = .ok (.aload_n 0, 1) := by decide +kernel
theorem dX2_init_13 : decode cX2_init 13 = .ok (.bipush 64, 2) := by decide +kernel
theorem dX2_init_15 : decode cX2_init 15 = .ok (.newarray .int, 2) := by decide +kernel
theorem dX2_init_17 : decode cX2_init 17 = .ok (.putfield 15, 3) := by decide +kernel
theorem dX2_init_20 : decode cX2_init 20 = .ok (.aload_n 0, 1) := by decide +kernel
theorem dX2_init_21 : decode cX2_init 21 = .ok (.iconst (-1), 1) := by decide +kernel
theorem dX2_init_22 : decode cX2_init 22 = .ok (.putfield 18, 3) := by decide +kernel
theorem dX2_init_25 : decode cX2_init 25 = .ok (.aload_n 0, 1) := by decide +kernel
theorem dX2_init_26 : decode cX2_init 26 = .ok (.iconst (-1), 1) := by decide +kernel
theorem dX2_init_27 : decode cX2_init 27 = .ok (.putfield 22, 3) := by decide +kernel
theorem dX2_init_30 : decode cX2_init 30 = .ok (.aload_n 0, 1) := by decide +kernel
theorem dX2_init_31 : decode cX2_init 31 = .ok (.iconst (-1), 1) := by decide +kernel
theorem dX2_init_32 : decode cX2_init 32 = .ok (.putfield 25, 3) := by decide +kernel
theorem dX2_init_35 : decode cX2_init 35 = .ok (.aload_n 0, 1) := by decide +kernel
theorem dX2_init_36 : decode cX2_init 36 = .ok (.iconst (-1), 1) := by decide +kernel
theorem dX2_init_37 : decode cX2_init 37 = .ok (.putfield 28, 3) := by decide +kernel
theorem dX2_init_40 : decode cX2_init 40 = .ok (.return_, 1) := by decide +kernel
theorem dX2_firstPart_0 : decode cX2_firstPart 0 = .ok (.aload_n 0, 1) := by decide +kernel
theorem dX2_firstPart_1 : decode cX2_firstPart 1 = .ok (.getfield 18, 3) := by decide +kernel
theorem dX2_firstPart_4 : decode cX2_firstPart 4 = .ok (.ireturn, 1) := by decide +kernel
theorem dX2_leastDifference_0 : decode cX2_leastDifference 0 = .ok (.aload_n 0, 1) := by decide +kernel
theorem dX2_leastDifference_1 : decode cX2_leastDifference 1 = .ok (.getfield 22, 3) := by decide +kernel
theorem dX2_leastDifference_4 : decode cX2_leastDifference 4 = .ok (.ireturn, 1) := by decide +kernel
theorem dX2_partAfter_0 : decode cX2_partAfter 0 = .ok (.aload_n 0, 1) := by decide +kernel
theorem dX2_partAfter_1 : decode cX2_partAfter 1 = .ok (.getfield 25, 3) := by decide +kernel
theorem dX2_partAfter_4 : decode cX2_partAfter 4 = .ok (.ireturn, 1) := by decide +kernel
theorem dX2_fewestMoved_0 : decode cX2_fewestMoved 0 = .ok (.aload_n 0, 1) := by decide +kernel
theorem dX2_fewestMoved_1 : decode cX2_fewestMoved 1 = .ok (.getfield 28, 3) := by decide +kernel
theorem dX2_fewestMoved_4 : decode cX2_fewestMoved 4 = .ok (.ireturn, 1) := by decide +kernel
theorem dX2_part_0 : decode cX2_part 0 = .ok (.aload_n 0, 1) := by decide +kernel
theorem dX2_part_1 : decode cX2_part 1 = .ok (.aload_n 1, 1) := by decide +kernel
theorem dX2_part_2 : decode cX2_part 2 = .ok (.aload_n 2, 1) := by decide +kernel
theorem dX2_part_3 : decode cX2_part 3 = .ok (.invokevirtual 31, 3) := by decide +kernel
theorem dX2_part_6 : decode cX2_part 6 = .ok (.aload_n 0, 1) := by decide +kernel
theorem dX2_part_7 : decode cX2_part 7 = .ok (.iconst (-1), 1) := by decide +kernel
theorem dX2_part_8 : decode cX2_part 8 = .ok (.putfield 18, 3) := by decide +kernel
theorem dX2_part_11 : decode cX2_part 11 = .ok (.aload_n 0, 1) := by decide +kernel
theorem dX2_part_12 : decode cX2_part 12 = .ok (.iconst (-1), 1) := by decide +kernel
theorem dX2_part_13 : decode cX2_part 13 = .ok (.putfield 22, 3) := by decide +kernel
theorem dX2_part_16 : decode cX2_part 16 = .ok (.iconst 1, 1) := by decide +kernel
theorem dX2_part_17 : decode cX2_part 17 = .ok (.istore_n 3, 1) := by decide +kernel
theorem dX2_part_18 : decode cX2_part 18 = .ok (.iload_n 3, 1) := by decide +kernel
theorem dX2_part_19 : decode cX2_part 19 = .ok (.aload_n 0, 1) := by decide +kernel
theorem dX2_part_20 : decode cX2_part 20 = .ok (.getfield 35, 3) := by decide +kernel
theorem dX2_part_23 : decode cX2_part 23 = .ok (.if_icmp .ge 52, 3) := by decide +kernel
theorem dX2_part_26 : decode cX2_part 26 = .ok (.aload_n 0, 1) := by decide +kernel
theorem dX2_part_27 : decode cX2_part 27 = .ok (.iload_n 3, 1) := by decide +kernel
theorem dX2_part_28 : decode cX2_part 28 = .ok (.invokevirtual 38, 3) := by decide +kernel
theorem dX2_part_31 : decode cX2_part 31 = .ok (.istore 4, 2) := by decide +kernel
theorem dX2_part_33 : decode cX2_part 33 = .ok (.aload_n 0, 1) := by decide +kernel
theorem dX2_part_34 : decode cX2_part 34 = .ok (.getfield 22, 3) := by decide +kernel
theorem dX2_part_37 : decode cX2_part 37 = .ok (.iconst (-1), 1) := by decide +kernel
theorem dX2_part_38 : decode cX2_part 38 = .ok (.if_icmp .eq 12, 3) := by decide +kernel
theorem dX2_part_41 : decode cX2_part 41 = .ok (.iload 4, 2) := by decide +kernel
theorem dX2_part_43 : decode cX2_part 43 = .ok (.aload_n 0, 1) := by decide +kernel
theorem dX2_part_44 : decode cX2_part 44 = .ok (.getfield 22, 3) := by decide +kernel
theorem dX2_part_47 : decode cX2_part 47 = .ok (.if_icmp .ge 22, 3) := by decide +kernel
theorem dX2_part_50 : decode cX2_part 50 = .ok (.aload_n 0, 1) := by decide +kernel
theorem dX2_part_51 : decode cX2_part 51 = .ok (.iload_n 3, 1) := by decide +kernel
theorem dX2_part_52 : decode cX2_part 52 = .ok (.invokevirtual 42, 3) := by decide +kernel
theorem dX2_part_55 : decode cX2_part 55 = .ok (.ifCond .eq 14, 3) := by decide +kernel
theorem dX2_part_58 : decode cX2_part 58 = .ok (.aload_n 0, 1) := by decide +kernel
theorem dX2_part_59 : decode cX2_part 59 = .ok (.iload 4, 2) := by decide +kernel
theorem dX2_part_61 : decode cX2_part 61 = .ok (.putfield 22, 3) := by decide +kernel
theorem dX2_part_64 : decode cX2_part 64 = .ok (.aload_n 0, 1) := by decide +kernel
theorem dX2_part_65 : decode cX2_part 65 = .ok (.iload_n 3, 1) := by decide +kernel
theorem dX2_part_66 : decode cX2_part 66 = .ok (.putfield 18, 3) := by decide +kernel
theorem dX2_part_69 : decode cX2_part 69 = .ok (.iinc 3 2, 3) := by decide +kernel
theorem dX2_part_72 : decode cX2_part 72 = .ok (.goto (-54), 3) := by decide +kernel
theorem dX2_part_75 : decode cX2_part 75 = .ok (.return_, 1) := by decide +kernel
theorem dX2_partAgain_0 : decode cX2_partAgain 0 = .ok (.aload_n 0, 1) := by decide +kernel
theorem dX2_partAgain_1 : decode cX2_partAgain 1 = .ok (.aload_n 1, 1) := by decide +kernel
theorem dX2_partAgain_2 : decode cX2_partAgain 2 = .ok (.aload_n 2, 1) := by decide +kernel
theorem dX2_partAgain_3 : decode cX2_partAgain 3 = .ok (.invokevirtual 31, 3) := by decide +kernel
theorem dX2_partAgain_6 : decode cX2_partAgain 6 = .ok (.aload_n 0, 1) := by decide +kernel
theorem dX2_partAgain_7 : decode cX2_partAgain 7 = .ok (.iconst (-1), 1) := by decide +kernel
theorem dX2_partAgain_8 : decode cX2_partAgain 8 = .ok (.putfield 25, 3) := by decide +kernel
theorem dX2_partAgain_11 : decode cX2_partAgain 11 = .ok (.aload_n 0, 1) := by decide +kernel
theorem dX2_partAgain_12 : decode cX2_partAgain 12 = .ok (.iconst (-1), 1) := by decide +kernel
theorem dX2_partAgain_13 : decode cX2_partAgain 13 = .ok (.putfield 28, 3) := by decide +kernel
theorem dX2_partAgain_16 : decode cX2_partAgain 16 = .ok (.iconst 1, 1) := by decide +kernel
theorem dX2_partAgain_17 : decode cX2_partAgain 17 = .ok (.istore 4, 2) := by decide +kernel
theorem dX2_partAgain_19 : decode cX2_partAgain 19 = .ok (.iload 4, 2) := by decide +kernel
theorem dX2_partAgain_21 : decode cX2_partAgain 21 = .ok (.aload_n 0, 1) := by decide +kernel
theorem dX2_partAgain_22 : decode cX2_partAgain 22 = .ok (.getfield 35, 3) := by decide +kernel
theorem dX2_partAgain_25 : decode cX2_partAgain 25 = .ok (.if_icmp .ge 69, 3) := by decide +kernel
theorem dX2_partAgain_28 : decode cX2_partAgain 28 = .ok (.iload 4, 2) := by decide +kernel
theorem dX2_partAgain_30 : decode cX2_partAgain 30 = .ok (.aload_n 0, 1) := by decide +kernel
theorem dX2_partAgain_31 : decode cX2_partAgain 31 = .ok (.getfield 18, 3) := by decide +kernel
theorem dX2_partAgain_34 : decode cX2_partAgain 34 = .ok (.ixor, 1) := by decide +kernel
theorem dX2_partAgain_35 : decode cX2_partAgain 35 = .ok (.invokestatic 46, 3) := by decide +kernel
theorem dX2_partAgain_38 : decode cX2_partAgain 38 = .ok (.istore 5, 2) := by decide +kernel
theorem dX2_partAgain_40 : decode cX2_partAgain 40 = .ok (.aload_n 0, 1) := by decide +kernel
theorem dX2_partAgain_41 : decode cX2_partAgain 41 = .ok (.getfield 28, 3) := by decide +kernel
theorem dX2_partAgain_44 : decode cX2_partAgain 44 = .ok (.iconst (-1), 1) := by decide +kernel
theorem dX2_partAgain_45 : decode cX2_partAgain 45 = .ok (.if_icmp .eq 12, 3) := by decide +kernel
theorem dX2_partAgain_48 : decode cX2_partAgain 48 = .ok (.iload 5, 2) := by decide +kernel
theorem dX2_partAgain_50 : decode cX2_partAgain 50 = .ok (.aload_n 0, 1) := by decide +kernel
theorem dX2_partAgain_51 : decode cX2_partAgain 51 = .ok (.getfield 28, 3) := by decide +kernel
theorem dX2_partAgain_54 : decode cX2_partAgain 54 = .ok (.if_icmp .ge 34, 3) := by decide +kernel
theorem dX2_partAgain_57 : decode cX2_partAgain 57 = .ok (.aload_n 0, 1) := by decide +kernel
theorem dX2_partAgain_58 : decode cX2_partAgain 58 = .ok (.iload 4, 2) := by decide +kernel
theorem dX2_partAgain_60 : decode cX2_partAgain 60 = .ok (.invokevirtual 38, 3) := by decide +kernel
theorem dX2_partAgain_63 : decode cX2_partAgain 63 = .ok (.iload_n 3, 1) := by decide +kernel
theorem dX2_partAgain_64 : decode cX2_partAgain 64 = .ok (.if_icmp .gt 24, 3) := by decide +kernel
theorem dX2_partAgain_67 : decode cX2_partAgain 67 = .ok (.aload_n 0, 1) := by decide +kernel
theorem dX2_partAgain_68 : decode cX2_partAgain 68 = .ok (.iload 4, 2) := by decide +kernel
theorem dX2_partAgain_70 : decode cX2_partAgain 70 = .ok (.invokevirtual 42, 3) := by decide +kernel
theorem dX2_partAgain_73 : decode cX2_partAgain 73 = .ok (.ifCond .eq 15, 3) := by decide +kernel
theorem dX2_partAgain_76 : decode cX2_partAgain 76 = .ok (.aload_n 0, 1) := by decide +kernel
theorem dX2_partAgain_77 : decode cX2_partAgain 77 = .ok (.iload 5, 2) := by decide +kernel
theorem dX2_partAgain_79 : decode cX2_partAgain 79 = .ok (.putfield 28, 3) := by decide +kernel
theorem dX2_partAgain_82 : decode cX2_partAgain 82 = .ok (.aload_n 0, 1) := by decide +kernel
theorem dX2_partAgain_83 : decode cX2_partAgain 83 = .ok (.iload 4, 2) := by decide +kernel
theorem dX2_partAgain_85 : decode cX2_partAgain 85 = .ok (.putfield 25, 3) := by decide +kernel
theorem dX2_partAgain_88 : decode cX2_partAgain 88 = .ok (.iinc 4 2, 3) := by decide +kernel
theorem dX2_partAgain_91 : decode cX2_partAgain 91 = .ok (.goto (-72), 3) := by decide +kernel
theorem dX2_partAgain_94 : decode cX2_partAgain 94 = .ok (.return_, 1) := by decide +kernel
theorem dX2_prepare_0 : decode cX2_prepare 0 = .ok (.aload_n 0, 1) := by decide +kernel
theorem dX2_prepare_1 : decode cX2_prepare 1 = .ok (.aload_n 1, 1) := by decide +kernel
theorem dX2_prepare_2 : decode cX2_prepare 2 = .ok (.invokevirtual 51, 3) := by decide +kernel
theorem dX2_prepare_5 : decode cX2_prepare 5 = .ok (.putfield 57, 3) := by decide +kernel
theorem dX2_prepare_8 : decode cX2_prepare 8 = .ok (.aload_n 0, 1) := by decide +kernel
theorem dX2_prepare_9 : decode cX2_prepare 9 = .ok (.aload_n 1, 1) := by decide +kernel
theorem dX2_prepare_10 : decode cX2_prepare 10 = .ok (.invokevirtual 59, 3) := by decide +kernel
theorem dX2_prepare_13 : decode cX2_prepare 13 = .ok (.putfield 62, 3) := by decide +kernel
theorem dX2_prepare_16 : decode cX2_prepare 16 = .ok (.aload_n 0, 1) := by decide +kernel
theorem dX2_prepare_17 : decode cX2_prepare 17 = .ok (.iconst 1, 1) := by decide +kernel
theorem dX2_prepare_18 : decode cX2_prepare 18 = .ok (.aload_n 0, 1) := by decide +kernel
theorem dX2_prepare_19 : decode cX2_prepare 19 = .ok (.getfield 57, 3) := by decide +kernel
theorem dX2_prepare_22 : decode cX2_prepare 22 = .ok (.ishl, 1) := by decide +kernel
theorem dX2_prepare_23 : decode cX2_prepare 23 = .ok (.iconst 1, 1) := by decide +kernel
theorem dX2_prepare_24 : decode cX2_prepare 24 = .ok (.isub, 1) := by decide +kernel
theorem dX2_prepare_25 : decode cX2_prepare 25 = .ok (.putfield 35, 3) := by decide +kernel
theorem dX2_prepare_28 : decode cX2_prepare 28 = .ok (.aload_n 0, 1) := by decide +kernel
theorem dX2_prepare_29 : decode cX2_prepare 29 = .ok (.iconst 0, 1) := by decide +kernel
theorem dX2_prepare_30 : decode cX2_prepare 30 = .ok (.putfield 64, 3) := by decide +kernel
theorem dX2_prepare_33 : decode cX2_prepare 33 = .ok (.aload_n 0, 1) := by decide +kernel
theorem dX2_prepare_34 : decode cX2_prepare 34 = .ok (.iconst 0, 1) := by decide +kernel
theorem dX2_prepare_35 : decode cX2_prepare 35 = .ok (.putfield 67, 3) := by decide +kernel
theorem dX2_prepare_38 : decode cX2_prepare 38 = .ok (.iconst 0, 1) := by decide +kernel
theorem dX2_prepare_39 : decode cX2_prepare 39 = .ok (.istore_n 3, 1) := by decide +kernel
theorem dX2_prepare_40 : decode cX2_prepare 40 = .ok (.iload_n 3, 1) := by decide +kernel
theorem dX2_prepare_41 : decode cX2_prepare 41 = .ok (.aload_n 0, 1) := by decide +kernel
theorem dX2_prepare_42 : decode cX2_prepare 42 = .ok (.getfield 57, 3) := by decide +kernel
theorem dX2_prepare_45 : decode cX2_prepare 45 = .ok (.if_icmp .ge 64, 3) := by decide +kernel
theorem dX2_prepare_48 : decode cX2_prepare 48 = .ok (.aload_n 1, 1) := by decide +kernel
theorem dX2_prepare_49 : decode cX2_prepare 49 = .ok (.iload_n 3, 1) := by decide +kernel
theorem dX2_prepare_50 : decode cX2_prepare 50 = .ok (.invokevirtual 70, 3) := by decide +kernel
theorem dX2_prepare_53 : decode cX2_prepare 53 = .ok (.istore 4, 2) := by decide +kernel
theorem dX2_prepare_55 : decode cX2_prepare 55 = .ok (.aload_n 0, 1) := by decide +kernel
theorem dX2_prepare_56 : decode cX2_prepare 56 = .ok (.dup, 1) := by decide +kernel
theorem dX2_prepare_57 : decode cX2_prepare 57 = .ok (.getfield 64, 3) := by decide +kernel
theorem dX2_prepare_60 : decode cX2_prepare 60 = .ok (.iload 4, 2) := by decide +kernel
theorem dX2_prepare_62 : decode cX2_prepare 62 = .ok (.ifCond .ne 9, 3) := by decide +kernel
theorem dX2_prepare_65 : decode cX2_prepare 65 = .ok (.iconst 1, 1) := by decide +kernel
theorem dX2_prepare_66 : decode cX2_prepare 66 = .ok (.iload_n 3, 1) := by decide +kernel
theorem dX2_prepare_67 : decode cX2_prepare 67 = .ok (.ishl, 1) := by decide +kernel
theorem dX2_prepare_68 : decode cX2_prepare 68 = .ok (.goto 4, 3) := by decide +kernel
theorem dX2_prepare_71 : decode cX2_prepare 71 = .ok (.iconst 0, 1) := by decide +kernel
theorem dX2_prepare_72 : decode cX2_prepare 72 = .ok (.ior, 1) := by decide +kernel
theorem dX2_prepare_73 : decode cX2_prepare 73 = .ok (.putfield 64, 3) := by decide +kernel
theorem dX2_prepare_76 : decode cX2_prepare 76 = .ok (.aload_n 0, 1) := by decide +kernel
theorem dX2_prepare_77 : decode cX2_prepare 77 = .ok (.dup, 1) := by decide +kernel
theorem dX2_prepare_78 : decode cX2_prepare 78 = .ok (.getfield 67, 3) := by decide +kernel
theorem dX2_prepare_81 : decode cX2_prepare 81 = .ok (.iload 4, 2) := by decide +kernel
theorem dX2_prepare_83 : decode cX2_prepare 83 = .ok (.aload_n 0, 1) := by decide +kernel
theorem dX2_prepare_84 : decode cX2_prepare 84 = .ok (.getfield 62, 3) := by decide +kernel
theorem dX2_prepare_87 : decode cX2_prepare 87 = .ok (.iconst 1, 1) := by decide +kernel
theorem dX2_prepare_88 : decode cX2_prepare 88 = .ok (.isub, 1) := by decide +kernel
theorem dX2_prepare_89 : decode cX2_prepare 89 = .ok (.if_icmp .ne 9, 3) := by decide +kernel
theorem dX2_prepare_92 : decode cX2_prepare 92 = .ok (.iconst 1, 1) := by decide +kernel
theorem dX2_prepare_93 : decode cX2_prepare 93 = .ok (.iload_n 3, 1) := by decide +kernel
theorem dX2_prepare_94 : decode cX2_prepare 94 = .ok (.ishl, 1) := by decide +kernel
theorem dX2_prepare_95 : decode cX2_prepare 95 = .ok (.goto 4, 3) := by decide +kernel
theorem dX2_prepare_98 : decode cX2_prepare 98 = .ok (.iconst 0, 1) := by decide +kernel
theorem dX2_prepare_99 : decode cX2_prepare 99 = .ok (.ior, 1) := by decide +kernel
theorem dX2_prepare_100 : decode cX2_prepare 100 = .ok (.putfield 67, 3) := by decide +kernel
theorem dX2_prepare_103 : decode cX2_prepare 103 = .ok (.iinc 3 1, 3) := by decide +kernel
theorem dX2_prepare_106 : decode cX2_prepare 106 = .ok (.goto (-66), 3) := by decide +kernel
theorem dX2_prepare_109 : decode cX2_prepare 109 = .ok (.aload_n 0, 1) := by decide +kernel
theorem dX2_prepare_110 : decode cX2_prepare 110 = .ok (.aload_n 0, 1) := by decide +kernel
theorem dX2_prepare_111 : decode cX2_prepare 111 = .ok (.getfield 11, 3) := by decide +kernel
theorem dX2_prepare_114 : decode cX2_prepare 114 = .ok (.aload_n 2, 1) := by decide +kernel
theorem dX2_prepare_115 : decode cX2_prepare 115 = .ok (.iconst 0, 1) := by decide +kernel
theorem dX2_prepare_116 : decode cX2_prepare 116 = .ok (.invokevirtual 73, 3) := by decide +kernel
theorem dX2_prepare_119 : decode cX2_prepare 119 = .ok (.aload_n 0, 1) := by decide +kernel
theorem dX2_prepare_120 : decode cX2_prepare 120 = .ok (.aload_n 0, 1) := by decide +kernel
theorem dX2_prepare_121 : decode cX2_prepare 121 = .ok (.getfield 15, 3) := by decide +kernel
theorem dX2_prepare_124 : decode cX2_prepare 124 = .ok (.aload_n 2, 1) := by decide +kernel
theorem dX2_prepare_125 : decode cX2_prepare 125 = .ok (.bipush 6, 2) := by decide +kernel
theorem dX2_prepare_127 : decode cX2_prepare 127 = .ok (.invokevirtual 73, 3) := by decide +kernel
theorem dX2_prepare_130 : decode cX2_prepare 130 = .ok (.return_, 1) := by decide +kernel
theorem dX2_fillSums_0 : decode cX2_fillSums 0 = .ok (.aload_n 1, 1) := by decide +kernel
theorem dX2_fillSums_1 : decode cX2_fillSums 1 = .ok (.iconst 0, 1) := by decide +kernel
theorem dX2_fillSums_2 : decode cX2_fillSums 2 = .ok (.iconst 0, 1) := by decide +kernel
theorem dX2_fillSums_3 : decode cX2_fillSums 3 = .ok (.iastore, 1) := by decide +kernel
theorem dX2_fillSums_4 : decode cX2_fillSums 4 = .ok (.iconst 0, 1) := by decide +kernel
theorem dX2_fillSums_5 : decode cX2_fillSums 5 = .ok (.istore 4, 2) := by decide +kernel
theorem dX2_fillSums_7 : decode cX2_fillSums 7 = .ok (.iload 4, 2) := by decide +kernel
theorem dX2_fillSums_9 : decode cX2_fillSums 9 = .ok (.bipush 6, 2) := by decide +kernel
theorem dX2_fillSums_11 : decode cX2_fillSums 11 = .ok (.if_icmp .ge 68, 3) := by decide +kernel
theorem dX2_fillSums_14 : decode cX2_fillSums 14 = .ok (.iload_n 3, 1) := by decide +kernel
theorem dX2_fillSums_15 : decode cX2_fillSums 15 = .ok (.iload 4, 2) := by decide +kernel
theorem dX2_fillSums_17 : decode cX2_fillSums 17 = .ok (.iadd, 1) := by decide +kernel
theorem dX2_fillSums_18 : decode cX2_fillSums 18 = .ok (.istore 5, 2) := by decide +kernel
theorem dX2_fillSums_20 : decode cX2_fillSums 20 = .ok (.iload 5, 2) := by decide +kernel
theorem dX2_fillSums_22 : decode cX2_fillSums 22 = .ok (.aload_n 0, 1) := by decide +kernel
theorem dX2_fillSums_23 : decode cX2_fillSums 23 = .ok (.getfield 57, 3) := by decide +kernel
theorem dX2_fillSums_26 : decode cX2_fillSums 26 = .ok (.if_icmp .ge 10, 3) := by decide +kernel
theorem dX2_fillSums_29 : decode cX2_fillSums 29 = .ok (.aload_n 2, 1) := by decide +kernel
theorem dX2_fillSums_30 : decode cX2_fillSums 30 = .ok (.iload 5, 2) := by decide +kernel
theorem dX2_fillSums_32 : decode cX2_fillSums 32 = .ok (.iaload, 1) := by decide +kernel
theorem dX2_fillSums_33 : decode cX2_fillSums 33 = .ok (.goto 4, 3) := by decide +kernel
theorem dX2_fillSums_36 : decode cX2_fillSums 36 = .ok (.iconst 0, 1) := by decide +kernel
theorem dX2_fillSums_37 : decode cX2_fillSums 37 = .ok (.istore 6, 2) := by decide +kernel
theorem dX2_fillSums_39 : decode cX2_fillSums 39 = .ok (.iconst 0, 1) := by decide +kernel
theorem dX2_fillSums_40 : decode cX2_fillSums 40 = .ok (.istore 7, 2) := by decide +kernel
theorem dX2_fillSums_42 : decode cX2_fillSums 42 = .ok (.iload 7, 2) := by decide +kernel
theorem dX2_fillSums_44 : decode cX2_fillSums 44 = .ok (.iconst 1, 1) := by decide +kernel
theorem dX2_fillSums_45 : decode cX2_fillSums 45 = .ok (.iload 4, 2) := by decide +kernel
theorem dX2_fillSums_47 : decode cX2_fillSums 47 = .ok (.ishl, 1) := by decide +kernel
theorem dX2_fillSums_48 : decode cX2_fillSums 48 = .ok (.if_icmp .ge 25, 3) := by decide +kernel
theorem dX2_fillSums_51 : decode cX2_fillSums 51 = .ok (.aload_n 1, 1) := by decide +kernel
theorem dX2_fillSums_52 : decode cX2_fillSums 52 = .ok (.iload 7, 2) := by decide +kernel
theorem dX2_fillSums_54 : decode cX2_fillSums 54 = .ok (.iconst 1, 1) := by decide +kernel
theorem dX2_fillSums_55 : decode cX2_fillSums 55 = .ok (.iload 4, 2) := by decide +kernel
theorem dX2_fillSums_57 : decode cX2_fillSums 57 = .ok (.ishl, 1) := by decide +kernel
theorem dX2_fillSums_58 : decode cX2_fillSums 58 = .ok (.ior, 1) := by decide +kernel
theorem dX2_fillSums_59 : decode cX2_fillSums 59 = .ok (.aload_n 1, 1) := by decide +kernel
theorem dX2_fillSums_60 : decode cX2_fillSums 60 = .ok (.iload 7, 2) := by decide +kernel
theorem dX2_fillSums_62 : decode cX2_fillSums 62 = .ok (.iaload, 1) := by decide +kernel
theorem dX2_fillSums_63 : decode cX2_fillSums 63 = .ok (.iload 6, 2) := by decide +kernel
theorem dX2_fillSums_65 : decode cX2_fillSums 65 = .ok (.iadd, 1) := by decide +kernel
theorem dX2_fillSums_66 : decode cX2_fillSums 66 = .ok (.iastore, 1) := by decide +kernel
theorem dX2_fillSums_67 : decode cX2_fillSums 67 = .ok (.iinc 7 1, 3) := by decide +kernel
theorem dX2_fillSums_70 : decode cX2_fillSums 70 = .ok (.goto (-28), 3) := by decide +kernel
theorem dX2_fillSums_73 : decode cX2_fillSums 73 = .ok (.iinc 4 1, 3) := by decide +kernel
theorem dX2_fillSums_76 : decode cX2_fillSums 76 = .ok (.goto (-69), 3) := by decide +kernel
theorem dX2_fillSums_79 : decode cX2_fillSums 79 = .ok (.return_, 1) := by decide +kernel
theorem dX2_sumOf_0 : decode cX2_sumOf 0 = .ok (.aload_n 0, 1) := by decide +kernel
theorem dX2_sumOf_1 : decode cX2_sumOf 1 = .ok (.getfield 11, 3) := by decide +kernel
theorem dX2_sumOf_4 : decode cX2_sumOf 4 = .ok (.iload_n 1, 1) := by decide +kernel
theorem dX2_sumOf_5 : decode cX2_sumOf 5 = .ok (.bipush 63, 2) := by decide +kernel
theorem dX2_sumOf_7 : decode cX2_sumOf 7 = .ok (.iand, 1) := by decide +kernel
theorem dX2_sumOf_8 : decode cX2_sumOf 8 = .ok (.iaload, 1) := by decide +kernel
theorem dX2_sumOf_9 : decode cX2_sumOf 9 = .ok (.aload_n 0, 1) := by decide +kernel
theorem dX2_sumOf_10 : decode cX2_sumOf 10 = .ok (.getfield 15, 3) := by decide +kernel
theorem dX2_sumOf_13 : decode cX2_sumOf 13 = .ok (.iload_n 1, 1) := by decide +kernel
theorem dX2_sumOf_14 : decode cX2_sumOf 14 = .ok (.bipush 6, 2) := by decide +kernel
theorem dX2_sumOf_16 : decode cX2_sumOf 16 = .ok (.ishr, 1) := by decide +kernel
theorem dX2_sumOf_17 : decode cX2_sumOf 17 = .ok (.bipush 63, 2) := by decide +kernel
theorem dX2_sumOf_19 : decode cX2_sumOf 19 = .ok (.iand, 1) := by decide +kernel
theorem dX2_sumOf_20 : decode cX2_sumOf 20 = .ok (.iaload, 1) := by decide +kernel
theorem dX2_sumOf_21 : decode cX2_sumOf 21 = .ok (.iadd, 1) := by decide +kernel
theorem dX2_sumOf_22 : decode cX2_sumOf 22 = .ok (.ireturn, 1) := by decide +kernel
theorem dX2_differenceOf_0 : decode cX2_differenceOf 0 = .ok (.aload_n 0, 1) := by decide +kernel
theorem dX2_differenceOf_1 : decode cX2_differenceOf 1 = .ok (.iload_n 1, 1) := by decide +kernel
theorem dX2_differenceOf_2 : decode cX2_differenceOf 2 = .ok (.invokevirtual 77, 3) := by decide +kernel
theorem dX2_differenceOf_5 : decode cX2_differenceOf 5 = .ok (.aload_n 0, 1) := by decide +kernel
theorem dX2_differenceOf_6 : decode cX2_differenceOf 6 = .ok (.aload_n 0, 1) := by decide +kernel
theorem dX2_differenceOf_7 : decode cX2_differenceOf 7 = .ok (.getfield 35, 3) := by decide +kernel
theorem dX2_differenceOf_10 : decode cX2_differenceOf 10 = .ok (.iload_n 1, 1) := by decide +kernel
theorem dX2_differenceOf_11 : decode cX2_differenceOf 11 = .ok (.iconst (-1), 1) := by decide +kernel
theorem dX2_differenceOf_12 : decode cX2_differenceOf 12 = .ok (.ixor, 1) := by decide +kernel
theorem dX2_differenceOf_13 : decode cX2_differenceOf 13 = .ok (.iand, 1) := by decide +kernel
theorem dX2_differenceOf_14 : decode cX2_differenceOf 14 = .ok (.invokevirtual 77, 3) := by decide +kernel
theorem dX2_differenceOf_17 : decode cX2_differenceOf 17 = .ok (.isub, 1) := by decide +kernel
theorem dX2_differenceOf_18 : decode cX2_differenceOf 18 = .ok (.invokestatic 80, 3) := by decide +kernel
theorem dX2_differenceOf_21 : decode cX2_differenceOf 21 = .ok (.ireturn, 1) := by decide +kernel
theorem dX2_bothHang_0 : decode cX2_bothHang 0 = .ok (.aload_n 0, 1) := by decide +kernel
theorem dX2_bothHang_1 : decode cX2_bothHang 1 = .ok (.iload_n 1, 1) := by decide +kernel
theorem dX2_bothHang_2 : decode cX2_bothHang 2 = .ok (.invokevirtual 85, 3) := by decide +kernel
theorem dX2_bothHang_5 : decode cX2_bothHang 5 = .ok (.ifCond .eq 22, 3) := by decide +kernel
theorem dX2_bothHang_8 : decode cX2_bothHang 8 = .ok (.aload_n 0, 1) := by decide +kernel
theorem dX2_bothHang_9 : decode cX2_bothHang 9 = .ok (.aload_n 0, 1) := by decide +kernel
theorem dX2_bothHang_10 : decode cX2_bothHang 10 = .ok (.getfield 35, 3) := by decide +kernel
theorem dX2_bothHang_13 : decode cX2_bothHang 13 = .ok (.iload_n 1, 1) := by decide +kernel
theorem dX2_bothHang_14 : decode cX2_bothHang 14 = .ok (.iconst (-1), 1) := by decide +kernel
theorem dX2_bothHang_15 : decode cX2_bothHang 15 = .ok (.ixor, 1) := by decide +kernel
theorem dX2_bothHang_16 : decode cX2_bothHang 16 = .ok (.iand, 1) := by decide +kernel
theorem dX2_bothHang_17 : decode cX2_bothHang 17 = .ok (.invokevirtual 85, 3) := by decide +kernel
theorem dX2_bothHang_20 : decode cX2_bothHang 20 = .ok (.ifCond .eq 7, 3) := by decide +kernel
theorem dX2_bothHang_23 : decode cX2_bothHang 23 = .ok (.iconst 1, 1) := by decide +kernel
theorem dX2_bothHang_24 : decode cX2_bothHang 24 = .ok (.goto 4, 3) := by decide +kernel
theorem dX2_bothHang_27 : decode cX2_bothHang 27 = .ok (.iconst 0, 1) := by decide +kernel
theorem dX2_bothHang_28 : decode cX2_bothHang 28 = .ok (.ireturn, 1) := by decide +kernel
theorem dX2_hangs_0 : decode cX2_hangs 0 = .ok (.iload_n 1, 1) := by decide +kernel
theorem dX2_hangs_1 : decode cX2_hangs 1 = .ok (.iload_n 1, 1) := by decide +kernel
theorem dX2_hangs_2 : decode cX2_hangs 2 = .ok (.ineg, 1) := by decide +kernel
theorem dX2_hangs_3 : decode cX2_hangs 3 = .ok (.iand, 1) := by decide +kernel
theorem dX2_hangs_4 : decode cX2_hangs 4 = .ok (.istore_n 2, 1) := by decide +kernel
theorem dX2_hangs_5 : decode cX2_hangs 5 = .ok (.iconst 0, 1) := by decide +kernel
theorem dX2_hangs_6 : decode cX2_hangs 6 = .ok (.istore_n 3, 1) := by decide +kernel
theorem dX2_hangs_7 : decode cX2_hangs 7 = .ok (.iload_n 3, 1) := by decide +kernel
theorem dX2_hangs_8 : decode cX2_hangs 8 = .ok (.bipush 12, 2) := by decide +kernel
theorem dX2_hangs_10 : decode cX2_hangs 10 = .ok (.if_icmp .ge 32, 3) := by decide +kernel
theorem dX2_hangs_13 : decode cX2_hangs 13 = .ok (.iload_n 2, 1) := by decide +kernel
theorem dX2_hangs_14 : decode cX2_hangs 14 = .ok (.aload_n 0, 1) := by decide +kernel
theorem dX2_hangs_15 : decode cX2_hangs 15 = .ok (.iload_n 2, 1) := by decide +kernel
theorem dX2_hangs_16 : decode cX2_hangs 16 = .ok (.invokevirtual 88, 3) := by decide +kernel
theorem dX2_hangs_19 : decode cX2_hangs 19 = .ok (.iload_n 1, 1) := by decide +kernel
theorem dX2_hangs_20 : decode cX2_hangs 20 = .ok (.iand, 1) := by decide +kernel
theorem dX2_hangs_21 : decode cX2_hangs 21 = .ok (.ior, 1) := by decide +kernel
theorem dX2_hangs_22 : decode cX2_hangs 22 = .ok (.istore 4, 2) := by decide +kernel
theorem dX2_hangs_24 : decode cX2_hangs 24 = .ok (.iload 4, 2) := by decide +kernel
theorem dX2_hangs_26 : decode cX2_hangs 26 = .ok (.iload_n 2, 1) := by decide +kernel
theorem dX2_hangs_27 : decode cX2_hangs 27 = .ok (.if_icmp .ne 6, 3) := by decide +kernel
theorem dX2_hangs_30 : decode cX2_hangs 30 = .ok (.goto 12, 3) := by decide +kernel
theorem dX2_hangs_33 : decode cX2_hangs 33 = .ok (.iload 4, 2) := by decide +kernel
theorem dX2_hangs_35 : decode cX2_hangs 35 = .ok (.istore_n 2, 1) := by decide +kernel
theorem dX2_hangs_36 : decode cX2_hangs 36 = .ok (.iinc 3 1, 3) := by decide +kernel
theorem dX2_hangs_39 : decode cX2_hangs 39 = .ok (.goto (-32), 3) := by decide +kernel
theorem dX2_hangs_42 : decode cX2_hangs 42 = .ok (.iload_n 2, 1) := by decide +kernel
theorem dX2_hangs_43 : decode cX2_hangs 43 = .ok (.iload_n 1, 1) := by decide +kernel
theorem dX2_hangs_44 : decode cX2_hangs 44 = .ok (.if_icmp .ne 7, 3) := by decide +kernel
theorem dX2_hangs_47 : decode cX2_hangs 47 = .ok (.iconst 1, 1) := by decide +kernel
theorem dX2_hangs_48 : decode cX2_hangs 48 = .ok (.goto 4, 3) := by decide +kernel
theorem dX2_hangs_51 : decode cX2_hangs 51 = .ok (.iconst 0, 1) := by decide +kernel
theorem dX2_hangs_52 : decode cX2_hangs 52 = .ok (.ireturn, 1) := by decide +kernel
theorem dX2_nextTo_0 : decode cX2_nextTo 0 = .ok (.iload_n 1, 1) := by decide +kernel
theorem dX2_nextTo_1 : decode cX2_nextTo 1 = .ok (.aload_n 0, 1) := by decide +kernel
theorem dX2_nextTo_2 : decode cX2_nextTo 2 = .ok (.getfield 67, 3) := by decide +kernel
theorem dX2_nextTo_5 : decode cX2_nextTo 5 = .ok (.iconst (-1), 1) := by decide +kernel
theorem dX2_nextTo_6 : decode cX2_nextTo 6 = .ok (.ixor, 1) := by decide +kernel
theorem dX2_nextTo_7 : decode cX2_nextTo 7 = .ok (.iand, 1) := by decide +kernel
theorem dX2_nextTo_8 : decode cX2_nextTo 8 = .ok (.iconst 1, 1) := by decide +kernel
theorem dX2_nextTo_9 : decode cX2_nextTo 9 = .ok (.ishl, 1) := by decide +kernel
theorem dX2_nextTo_10 : decode cX2_nextTo 10 = .ok (.istore_n 2, 1) := by decide +kernel
theorem dX2_nextTo_11 : decode cX2_nextTo 11 = .ok (.iload_n 1, 1) := by decide +kernel
theorem dX2_nextTo_12 : decode cX2_nextTo 12 = .ok (.aload_n 0, 1) := by decide +kernel
theorem dX2_nextTo_13 : decode cX2_nextTo 13 = .ok (.getfield 64, 3) := by decide +kernel
theorem dX2_nextTo_16 : decode cX2_nextTo 16 = .ok (.iconst (-1), 1) := by decide +kernel
theorem dX2_nextTo_17 : decode cX2_nextTo 17 = .ok (.ixor, 1) := by decide +kernel
theorem dX2_nextTo_18 : decode cX2_nextTo 18 = .ok (.iand, 1) := by decide +kernel
theorem dX2_nextTo_19 : decode cX2_nextTo 19 = .ok (.iconst 1, 1) := by decide +kernel
theorem dX2_nextTo_20 : decode cX2_nextTo 20 = .ok (.ishr, 1) := by decide +kernel
theorem dX2_nextTo_21 : decode cX2_nextTo 21 = .ok (.istore_n 3, 1) := by decide +kernel
theorem dX2_nextTo_22 : decode cX2_nextTo 22 = .ok (.iload_n 2, 1) := by decide +kernel
theorem dX2_nextTo_23 : decode cX2_nextTo 23 = .ok (.iload_n 3, 1) := by decide +kernel
theorem dX2_nextTo_24 : decode cX2_nextTo 24 = .ok (.ior, 1) := by decide +kernel
theorem dX2_nextTo_25 : decode cX2_nextTo 25 = .ok (.iload_n 1, 1) := by decide +kernel
theorem dX2_nextTo_26 : decode cX2_nextTo 26 = .ok (.aload_n 0, 1) := by decide +kernel
theorem dX2_nextTo_27 : decode cX2_nextTo 27 = .ok (.getfield 62, 3) := by decide +kernel
theorem dX2_nextTo_30 : decode cX2_nextTo 30 = .ok (.ishl, 1) := by decide +kernel
theorem dX2_nextTo_31 : decode cX2_nextTo 31 = .ok (.ior, 1) := by decide +kernel
theorem dX2_nextTo_32 : decode cX2_nextTo 32 = .ok (.iload_n 1, 1) := by decide +kernel
theorem dX2_nextTo_33 : decode cX2_nextTo 33 = .ok (.aload_n 0, 1) := by decide +kernel
theorem dX2_nextTo_34 : decode cX2_nextTo 34 = .ok (.getfield 62, 3) := by decide +kernel
theorem dX2_nextTo_37 : decode cX2_nextTo 37 = .ok (.ishr, 1) := by decide +kernel
theorem dX2_nextTo_38 : decode cX2_nextTo 38 = .ok (.ior, 1) := by decide +kernel
theorem dX2_nextTo_39 : decode cX2_nextTo 39 = .ok (.ireturn, 1) := by decide +kernel
theorem dX3_init_0 : decode cX3_init 0 = .ok (.aload_n 0, 1) := by decide +kernel
theorem dX3_init_1 : decode cX3_init 1 = .ok (.invokespecial 3, 3) := by decide +kernel
theorem dX3_init_4 : decode cX3_init 4 = .ok (.aload_n 0, 1) := by decide +kernel
theorem dX3_init_5 : decode cX3_init 5 = .ok (.iconst 3, 1) := by decide +kernel
theorem dX3_init_6 : decode cX3_init 6 = .ok (.newarray .int, 2) := by decide +kernel
theorem dX3_init_8 : decode cX3_init 8 = .ok (.dup, 1) := by decide +kernel
theorem dX3_init_9 : decode cX3_init 9 = .ok (.iconst 0, 1) := by decide +kernel
theorem dX3_init_10 : decode cX3_init 10 = .ok (.sipush 1000, 3) := by decide +kernel
theorem dX3_init_13 : decode cX3_init 13 = .ok (.iastore, 1) := by decide +kernel
theorem dX3_init_14 : decode cX3_init 14 = .ok (.dup, 1) := by decide +kernel
theorem dX3_init_15 : decode cX3_init 15 = .ok (.iconst 1, 1) := by decide +kernel
theorem dX3_init_16 : decode cX3_init 16 = .ok (.sipush 1000, 3) := by decide +kernel
theorem dX3_init_19 : decode cX3_init 19 = .ok (.iastore, 1) := by decide +kernel
theorem dX3_init_20 : decode cX3_init 20 = .ok (.dup, 1) := by decide +kernel
theorem dX3_init_21 : decode cX3_init 21 = .ok (.iconst 2, 1) := by decide +kernel
theorem dX3_init_22 : decode cX3_init 22 = .ok (.sipush 1000, 3) := by decide +kernel
theorem dX3_init_25 : decode cX3_init 25 = .ok (.iastore, 1) := by decide +kernel
theorem dX3_init_26 : decode cX3_init 26 = .ok (.putfield 9, 3) := by decide +kernel
theorem dX3_init_29 : decode cX3_init 29 = .ok (.aload_n 0, 1) := by decide +kernel
theorem dX3_init_30 : decode cX3_init 30 = .ok (.iconst 3, 1) := by decide +kernel
theorem dX3_init_31 : decode cX3_init 31 = .ok (.newarray .int, 2) := by decide +kernel
theorem dX3_init_33 : decode cX3_init 33 = .ok (.dup, 1) := by decide +kernel
theorem dX3_init_34 : decode cX3_init 34 = .ok (.iconst 0, 1) := by decide +kernel
theorem dX3_init_35 : decode cX3_init 35 = .ok (.bipush 10, 2) := by decide +kernel
theorem dX3_init_37 : decode cX3_init 37 = .ok (.iastore, 1) := by decide +kernel
theorem dX3_init_38 : decode cX3_init 38 = .ok (.dup, 1) := by decide +kernel
theorem dX3_init_39 : decode cX3_init 39 = .ok (.iconst 1, 1) := by decide +kernel
theorem dX3_init_40 : decode cX3_init 40 = .ok (.bipush 20, 2) := by decide +kernel
theorem dX3_init_42 : decode cX3_init 42 = .ok (.iastore, 1) := by decide +kernel
theorem dX3_init_43 : decode cX3_init 43 = .ok (.dup, 1) := by decide +kernel
theorem dX3_init_44 : decode cX3_init 44 = .ok (.iconst 2, 1) := by decide +kernel
theorem dX3_init_45 : decode cX3_init 45 = .ok (.bipush 30, 2) := by decide +kernel
theorem dX3_init_47 : decode cX3_init 47 = .ok (.iastore, 1) := by decide +kernel
theorem dX3_init_48 : decode cX3_init 48 = .ok (.putfield 15, 3) := by decide +kernel
theorem dX3_init_51 : decode cX3_init 51 = .ok (.aload_n 0, 1) := by decide +kernel
theorem dX3_init_52 : decode cX3_init 52 = .ok (.bipush 12, 2) := by decide +kernel
theorem dX3_init_54 : decode cX3_init 54 = .ok (.newarray .int, 2) := by decide +kernel
theorem dX3_init_56 : decode cX3_init 56 = .ok (.putfield 18, 3) := by decide +kernel
theorem dX3_init_59 : decode cX3_init 59 = .ok (.aload_n 0, 1) := by decide +kernel
theorem dX3_init_60 : decode cX3_init 60 = .ok (.sipush 1625, 3) := by decide +kernel
theorem dX3_init_63 : decode cX3_init 63 = .ok (.newarray .int, 2) := by decide +kernel
theorem dX3_init_65 : decode cX3_init 65 = .ok (.putfield 21, 3) := by decide +kernel
theorem dX3_init_68 : decode cX3_init 68 = .ok (.return_, 1) := by decide +kernel
theorem dX3_changeNeed_0 : decode cX3_changeNeed 0 = .ok (.aload_n 0, 1) := by decide +kernel
theorem dX3_changeNeed_1 : decode cX3_changeNeed 1 = .ok (.getfield 9, 3) := by decide +kernel
theorem dX3_changeNeed_4 : decode cX3_changeNeed 4 = .ok (.iload_n 1, 1) := by decide +kernel
theorem dX3_changeNeed_5 : decode cX3_changeNeed 5 = .ok (.iaload, 1) := by decide +kernel
theorem dX3_changeNeed_6 : decode cX3_changeNeed 6 = .ok (.istore_n 3, 1) := by decide +kernel
theorem dX3_changeNeed_7 : decode cX3_changeNeed 7 = .ok (.aload_n 0, 1) := by decide +kernel
theorem dX3_changeNeed_8 : decode cX3_changeNeed 8 = .ok (.getfield 9, 3) := by decide +kernel
theorem dX3_changeNeed_11 : decode cX3_changeNeed 11 = .ok (.iload_n 1, 1) := by decide +kernel
theorem dX3_changeNeed_12 : decode cX3_changeNeed 12 = .ok (.iload_n 2, 1) := by decide +kernel
theorem dX3_changeNeed_13 : decode cX3_changeNeed 13 = .ok (.iastore, 1) := by decide +kernel
theorem dX3_changeNeed_14 : decode cX3_changeNeed 14 = .ok (.iload_n 3, 1) := by decide +kernel
theorem dX3_changeNeed_15 : decode cX3_changeNeed 15 = .ok (.ireturn, 1) := by decide +kernel
theorem dX3_changePay_0 : decode cX3_changePay 0 = .ok (.aload_n 0, 1) := by decide +kernel
theorem dX3_changePay_1 : decode cX3_changePay 1 = .ok (.getfield 15, 3) := by decide +kernel
theorem dX3_changePay_4 : decode cX3_changePay 4 = .ok (.iload_n 1, 1) := by decide +kernel
theorem dX3_changePay_5 : decode cX3_changePay 5 = .ok (.iaload, 1) := by decide +kernel
theorem dX3_changePay_6 : decode cX3_changePay 6 = .ok (.istore_n 3, 1) := by decide +kernel
theorem dX3_changePay_7 : decode cX3_changePay 7 = .ok (.aload_n 0, 1) := by decide +kernel
theorem dX3_changePay_8 : decode cX3_changePay 8 = .ok (.getfield 15, 3) := by decide +kernel
theorem dX3_changePay_11 : decode cX3_changePay 11 = .ok (.iload_n 1, 1) := by decide +kernel
theorem dX3_changePay_12 : decode cX3_changePay 12 = .ok (.iload_n 2, 1) := by decide +kernel
theorem dX3_changePay_13 : decode cX3_changePay 13 = .ok (.iastore, 1) := by decide +kernel
theorem dX3_changePay_14 : decode cX3_changePay 14 = .ok (.iload_n 3, 1) := by decide +kernel
theorem dX3_changePay_15 : decode cX3_changePay 15 = .ok (.ireturn, 1) := by decide +kernel
theorem dX3_mostPaid_0 : decode cX3_mostPaid 0 = .ok (.aload_n 0, 1) := by decide +kernel
theorem dX3_mostPaid_1 : decode cX3_mostPaid 1 = .ok (.getfield 21, 3) := by decide +kernel
theorem dX3_mostPaid_4 : decode cX3_mostPaid 4 = .ok (.iconst 0, 1) := by decide +kernel
theorem dX3_mostPaid_5 : decode cX3_mostPaid 5 = .ok (.iaload, 1) := by decide +kernel
theorem dX3_mostPaid_6 : decode cX3_mostPaid 6 = .ok (.ireturn, 1) := by decide +kernel
theorem dX3_sortOn_0 : decode cX3_sortOn 0 = .ok (.aload_n 0, 1) := by decide +kernel
theorem dX3_sortOn_1 : decode cX3_sortOn 1 = .ok (.getfield 18, 3) := by decide +kernel
theorem dX3_sortOn_4 : decode cX3_sortOn 4 = .ok (.iload_n 1, 1) := by decide +kernel
theorem dX3_sortOn_5 : decode cX3_sortOn 5 = .ok (.iaload, 1) := by decide +kernel
theorem dX3_sortOn_6 : decode cX3_sortOn 6 = .ok (.ireturn, 1) := by decide +kernel
theorem dX3_plant_0 : decode cX3_plant 0 = .ok (.iconst 0, 1) := by decide +kernel
theorem dX3_plant_1 : decode cX3_plant 1 = .ok (.istore_n 3, 1) := by decide +kernel
theorem dX3_plant_2 : decode cX3_plant 2 = .ok (.iload_n 3, 1) := by decide +kernel
theorem dX3_plant_3 : decode cX3_plant 3 = .ok (.bipush 125, 2) := by decide +kernel
theorem dX3_plant_5 : decode cX3_plant 5 = .ok (.if_icmp .ge 21, 3) := by decide +kernel
theorem dX3_plant_8 : decode cX3_plant 8 = .ok (.aload_n 0, 1) := by decide +kernel
theorem dX3_plant_9 : decode cX3_plant 9 = .ok (.getfield 21, 3) := by decide +kernel
theorem dX3_plant_12 : decode cX3_plant 12 = .ok (.iload_n 2, 1) := by decide +kernel
theorem dX3_plant_13 : decode cX3_plant 13 = .ok (.bipush 125, 2) := by decide +kernel
theorem dX3_plant_15 : decode cX3_plant 15 = .ok (.imul, 1) := by decide +kernel
theorem dX3_plant_16 : decode cX3_plant 16 = .ok (.iload_n 3, 1) := by decide +kernel
theorem dX3_plant_17 : decode cX3_plant 17 = .ok (.iadd, 1) := by decide +kernel
theorem dX3_plant_18 : decode cX3_plant 18 = .ok (.iconst 0, 1) := by decide +kernel
theorem dX3_plant_19 : decode cX3_plant 19 = .ok (.iastore, 1) := by decide +kernel
theorem dX3_plant_20 : decode cX3_plant 20 = .ok (.iinc 3 1, 3) := by decide +kernel
theorem dX3_plant_23 : decode cX3_plant 23 = .ok (.goto (-21), 3) := by decide +kernel
theorem dX3_plant_26 : decode cX3_plant 26 = .ok (.iload_n 2, 1) := by decide +kernel
theorem dX3_plant_27 : decode cX3_plant 27 = .ok (.iconst 1, 1) := by decide +kernel
theorem dX3_plant_28 : decode cX3_plant 28 = .ok (.isub, 1) := by decide +kernel
theorem dX3_plant_29 : decode cX3_plant 29 = .ok (.istore_n 3, 1) := by decide +kernel
theorem dX3_plant_30 : decode cX3_plant 30 = .ok (.iload_n 3, 1) := by decide +kernel
theorem dX3_plant_31 : decode cX3_plant 31 = .ok (.ifCond .lt 47, 3) := by decide +kernel
theorem dX3_plant_34 : decode cX3_plant 34 = .ok (.iconst 0, 1) := by decide +kernel
theorem dX3_plant_35 : decode cX3_plant 35 = .ok (.istore 4, 2) := by decide +kernel
theorem dX3_plant_37 : decode cX3_plant 37 = .ok (.iload 4, 2) := by decide +kernel
theorem dX3_plant_39 : decode cX3_plant 39 = .ok (.bipush 125, 2) := by decide +kernel
theorem dX3_plant_41 : decode cX3_plant 41 = .ok (.if_icmp .ge 31, 3) := by decide +kernel
theorem dX3_plant_44 : decode cX3_plant 44 = .ok (.aload_n 0, 1) := by decide +kernel
theorem dX3_plant_45 : decode cX3_plant 45 = .ok (.getfield 21, 3) := by decide +kernel
theorem dX3_plant_48 : decode cX3_plant 48 = .ok (.iload_n 3, 1) := by decide +kernel
theorem dX3_plant_49 : decode cX3_plant 49 = .ok (.bipush 125, 2) := by decide +kernel
theorem dX3_plant_51 : decode cX3_plant 51 = .ok (.imul, 1) := by decide +kernel
theorem dX3_plant_52 : decode cX3_plant 52 = .ok (.iload 4, 2) := by decide +kernel
theorem dX3_plant_54 : decode cX3_plant 54 = .ok (.iadd, 1) := by decide +kernel
theorem dX3_plant_55 : decode cX3_plant 55 = .ok (.aload_n 0, 1) := by decide +kernel
theorem dX3_plant_56 : decode cX3_plant 56 = .ok (.iload_n 3, 1) := by decide +kernel
theorem dX3_plant_57 : decode cX3_plant 57 = .ok (.iload 4, 2) := by decide +kernel
theorem dX3_plant_59 : decode cX3_plant 59 = .ok (.aload_n 1, 1) := by decide +kernel
theorem dX3_plant_60 : decode cX3_plant 60 = .ok (.iload_n 3, 1) := by decide +kernel
theorem dX3_plant_61 : decode cX3_plant 61 = .ok (.iaload, 1) := by decide +kernel
theorem dX3_plant_62 : decode cX3_plant 62 = .ok (.invokevirtual 24, 3) := by decide +kernel
theorem dX3_plant_65 : decode cX3_plant 65 = .ok (.iastore, 1) := by decide +kernel
theorem dX3_plant_66 : decode cX3_plant 66 = .ok (.iinc 4 1, 3) := by decide +kernel
theorem dX3_plant_69 : decode cX3_plant 69 = .ok (.goto (-32), 3) := by decide +kernel
theorem dX3_plant_72 : decode cX3_plant 72 = .ok (.iinc 3 (-1), 3) := by decide +kernel
theorem dX3_plant_75 : decode cX3_plant 75 = .ok (.goto (-45), 3) := by decide +kernel
theorem dX3_plant_78 : decode cX3_plant 78 = .ok (.iconst 0, 1) := by decide +kernel
theorem dX3_plant_79 : decode cX3_plant 79 = .ok (.istore_n 3, 1) := by decide +kernel
theorem dX3_plant_80 : decode cX3_plant 80 = .ok (.iconst 0, 1) := by decide +kernel
theorem dX3_plant_81 : decode cX3_plant 81 = .ok (.istore 4, 2) := by decide +kernel
theorem dX3_plant_83 : decode cX3_plant 83 = .ok (.iload 4, 2) := by decide +kernel
theorem dX3_plant_85 : decode cX3_plant 85 = .ok (.iload_n 2, 1) := by decide +kernel
theorem dX3_plant_86 : decode cX3_plant 86 = .ok (.if_icmp .ge 40, 3) := by decide +kernel
theorem dX3_plant_89 : decode cX3_plant 89 = .ok (.aload_n 0, 1) := by decide +kernel
theorem dX3_plant_90 : decode cX3_plant 90 = .ok (.getfield 18, 3) := by decide +kernel
theorem dX3_plant_93 : decode cX3_plant 93 = .ok (.iload 4, 2) := by decide +kernel
theorem dX3_plant_95 : decode cX3_plant 95 = .ok (.aload_n 0, 1) := by decide +kernel
theorem dX3_plant_96 : decode cX3_plant 96 = .ok (.iload 4, 2) := by decide +kernel
theorem dX3_plant_98 : decode cX3_plant 98 = .ok (.iload_n 3, 1) := by decide +kernel
theorem dX3_plant_99 : decode cX3_plant 99 = .ok (.aload_n 1, 1) := by decide +kernel
theorem dX3_plant_100 : decode cX3_plant 100 = .ok (.iload 4, 2) := by decide +kernel
theorem dX3_plant_102 : decode cX3_plant 102 = .ok (.iaload, 1) := by decide +kernel
theorem dX3_plant_103 : decode cX3_plant 103 = .ok (.invokevirtual 28, 3) := by decide +kernel
theorem dX3_plant_106 : decode cX3_plant 106 = .ok (.iastore, 1) := by decide +kernel
theorem dX3_plant_107 : decode cX3_plant 107 = .ok (.iload_n 3, 1) := by decide +kernel
theorem dX3_plant_108 : decode cX3_plant 108 = .ok (.aload_n 0, 1) := by decide +kernel
theorem dX3_plant_109 : decode cX3_plant 109 = .ok (.getfield 18, 3) := by decide +kernel
theorem dX3_plant_112 : decode cX3_plant 112 = .ok (.iload 4, 2) := by decide +kernel
theorem dX3_plant_114 : decode cX3_plant 114 = .ok (.iaload, 1) := by decide +kernel
theorem dX3_plant_115 : decode cX3_plant 115 = .ok (.invokestatic 31, 3) := by decide +kernel
theorem dX3_plant_118 : decode cX3_plant 118 = .ok (.iadd, 1) := by decide +kernel
theorem dX3_plant_119 : decode cX3_plant 119 = .ok (.istore_n 3, 1) := by decide +kernel
theorem dX3_plant_120 : decode cX3_plant 120 = .ok (.iinc 4 1, 3) := by decide +kernel
theorem dX3_plant_123 : decode cX3_plant 123 = .ok (.goto (-40), 3) := by decide +kernel
theorem dX3_plant_126 : decode cX3_plant 126 = .ok (.return_, 1) := by decide +kernel
theorem dX3_bestFrom_0 : decode cX3_bestFrom 0 = .ok (.aload_n 0, 1) := by decide +kernel
theorem dX3_bestFrom_1 : decode cX3_bestFrom 1 = .ok (.iload_n 1, 1) := by decide +kernel
theorem dX3_bestFrom_2 : decode cX3_bestFrom 2 = .ok (.iload_n 2, 1) := by decide +kernel
theorem dX3_bestFrom_3 : decode cX3_bestFrom 3 = .ok (.iconst (-1), 1) := by decide +kernel
theorem dX3_bestFrom_4 : decode cX3_bestFrom 4 = .ok (.invokevirtual 35, 3) := by decide +kernel
theorem dX3_bestFrom_7 : decode cX3_bestFrom 7 = .ok (.istore 4, 2) := by decide +kernel
theorem dX3_bestFrom_9 : decode cX3_bestFrom 9 = .ok (.iconst 0, 1) := by decide +kernel
theorem dX3_bestFrom_10 : decode cX3_bestFrom 10 = .ok (.istore 5, 2) := by decide +kernel
theorem dX3_bestFrom_12 : decode cX3_bestFrom 12 = .ok (.iload 5, 2) := by decide +kernel
theorem dX3_bestFrom_14 : decode cX3_bestFrom 14 = .ok (.iconst 3, 1) := by decide +kernel
theorem dX3_bestFrom_15 : decode cX3_bestFrom 15 = .ok (.if_icmp .ge 35, 3) := by decide +kernel
theorem dX3_bestFrom_18 : decode cX3_bestFrom 18 = .ok (.aload_n 0, 1) := by decide +kernel
theorem dX3_bestFrom_19 : decode cX3_bestFrom 19 = .ok (.iload_n 2, 1) := by decide +kernel
theorem dX3_bestFrom_20 : decode cX3_bestFrom 20 = .ok (.iload 5, 2) := by decide +kernel
theorem dX3_bestFrom_22 : decode cX3_bestFrom 22 = .ok (.iload_n 3, 1) := by decide +kernel
theorem dX3_bestFrom_23 : decode cX3_bestFrom 23 = .ok (.invokevirtual 38, 3) := by decide +kernel
theorem dX3_bestFrom_26 : decode cX3_bestFrom 26 = .ok (.ifCond .eq 18, 3) := by decide +kernel
theorem dX3_bestFrom_29 : decode cX3_bestFrom 29 = .ok (.iload 4, 2) := by decide +kernel
theorem dX3_bestFrom_31 : decode cX3_bestFrom 31 = .ok (.aload_n 0, 1) := by decide +kernel
theorem dX3_bestFrom_32 : decode cX3_bestFrom 32 = .ok (.iload_n 1, 1) := by decide +kernel
theorem dX3_bestFrom_33 : decode cX3_bestFrom 33 = .ok (.iload_n 2, 1) := by decide +kernel
theorem dX3_bestFrom_34 : decode cX3_bestFrom 34 = .ok (.iload 5, 2) := by decide +kernel
theorem dX3_bestFrom_36 : decode cX3_bestFrom 36 = .ok (.invokevirtual 35, 3) := by decide +kernel
theorem dX3_bestFrom_39 : decode cX3_bestFrom 39 = .ok (.invokestatic 42, 3) := by decide +kernel
theorem dX3_bestFrom_42 : decode cX3_bestFrom 42 = .ok (.istore 4, 2) := by decide +kernel
theorem dX3_bestFrom_44 : decode cX3_bestFrom 44 = .ok (.iinc 5 1, 3) := by decide +kernel
theorem dX3_bestFrom_47 : decode cX3_bestFrom 47 = .ok (.goto (-35), 3) := by decide +kernel
theorem dX3_bestFrom_50 : decode cX3_bestFrom 50 = .ok (.iload 4, 2) := by decide +kernel
theorem dX3_bestFrom_52 : decode cX3_bestFrom 52 = .ok (.ireturn, 1) := by decide +kernel
theorem dX3_leastSort_0 : decode cX3_leastSort 0 = .ok (.aload_n 0, 1) := by decide +kernel
theorem dX3_leastSort_1 : decode cX3_leastSort 1 = .ok (.getfield 21, 3) := by decide +kernel
theorem dX3_leastSort_4 : decode cX3_leastSort 4 = .ok (.iload_n 1, 1) := by decide +kernel
theorem dX3_leastSort_5 : decode cX3_leastSort 5 = .ok (.bipush 125, 2) := by decide +kernel
theorem dX3_leastSort_7 : decode cX3_leastSort 7 = .ok (.imul, 1) := by decide +kernel
theorem dX3_leastSort_8 : decode cX3_leastSort 8 = .ok (.iload_n 2, 1) := by decide +kernel
theorem dX3_leastSort_9 : decode cX3_leastSort 9 = .ok (.iadd, 1) := by decide +kernel
theorem dX3_leastSort_10 : decode cX3_leastSort 10 = .ok (.iaload, 1) := by decide +kernel
theorem dX3_leastSort_11 : decode cX3_leastSort 11 = .ok (.istore 4, 2) := by decide +kernel
theorem dX3_leastSort_13 : decode cX3_leastSort 13 = .ok (.aload_n 0, 1) := by decide +kernel
theorem dX3_leastSort_14 : decode cX3_leastSort 14 = .ok (.iload_n 1, 1) := by decide +kernel
theorem dX3_leastSort_15 : decode cX3_leastSort 15 = .ok (.iload_n 2, 1) := by decide +kernel
theorem dX3_leastSort_16 : decode cX3_leastSort 16 = .ok (.iconst (-1), 1) := by decide +kernel
theorem dX3_leastSort_17 : decode cX3_leastSort 17 = .ok (.invokevirtual 35, 3) := by decide +kernel
theorem dX3_leastSort_20 : decode cX3_leastSort 20 = .ok (.iload 4, 2) := by decide +kernel
theorem dX3_leastSort_22 : decode cX3_leastSort 22 = .ok (.if_icmp .ne 5, 3) := by decide +kernel
theorem dX3_leastSort_25 : decode cX3_leastSort 25 = .ok (.iconst (-1), 1) := by decide +kernel
theorem dX3_leastSort_26 : decode cX3_leastSort 26 = .ok (.ireturn, 1) := by decide +kernel
theorem dX3_leastSort_27 : decode cX3_leastSort 27 = .ok (.iconst 0, 1) := by decide +kernel
theorem dX3_leastSort_28 : decode cX3_leastSort 28 = .ok (.istore 5, 2) := by decide +kernel
theorem dX3_leastSort_30 : decode cX3_leastSort 30 = .ok (.iload 5, 2) := by decide +kernel
theorem dX3_leastSort_32 : decode cX3_leastSort 32 = .ok (.iconst 3, 1) := by decide +kernel
theorem dX3_leastSort_33 : decode cX3_leastSort 33 = .ok (.if_icmp .ge 36, 3) := by decide +kernel
theorem dX3_leastSort_36 : decode cX3_leastSort 36 = .ok (.aload_n 0, 1) := by decide +kernel
theorem dX3_leastSort_37 : decode cX3_leastSort 37 = .ok (.iload_n 2, 1) := by decide +kernel
theorem dX3_leastSort_38 : decode cX3_leastSort 38 = .ok (.iload 5, 2) := by decide +kernel
theorem dX3_leastSort_40 : decode cX3_leastSort 40 = .ok (.iload_n 3, 1) := by decide +kernel
theorem dX3_leastSort_41 : decode cX3_leastSort 41 = .ok (.invokevirtual 38, 3) := by decide +kernel
theorem dX3_leastSort_44 : decode cX3_leastSort 44 = .ok (.ifCond .eq 19, 3) := by decide +kernel
theorem dX3_leastSort_47 : decode cX3_leastSort 47 = .ok (.aload_n 0, 1) := by decide +kernel
theorem dX3_leastSort_48 : decode cX3_leastSort 48 = .ok (.iload_n 1, 1) := by decide +kernel
theorem dX3_leastSort_49 : decode cX3_leastSort 49 = .ok (.iload_n 2, 1) := by decide +kernel
theorem dX3_leastSort_50 : decode cX3_leastSort 50 = .ok (.iload 5, 2) := by decide +kernel
theorem dX3_leastSort_52 : decode cX3_leastSort 52 = .ok (.invokevirtual 35, 3) := by decide +kernel
theorem dX3_leastSort_55 : decode cX3_leastSort 55 = .ok (.iload 4, 2) := by decide +kernel
theorem dX3_leastSort_57 : decode cX3_leastSort 57 = .ok (.if_icmp .ne 6, 3) := by decide +kernel
theorem dX3_leastSort_60 : decode cX3_leastSort 60 = .ok (.iload 5, 2) := by decide +kernel
theorem dX3_leastSort_62 : decode cX3_leastSort 62 = .ok (.ireturn, 1) := by decide +kernel
theorem dX3_leastSort_63 : decode cX3_leastSort 63 = .ok (.iinc 5 1, 3) := by decide +kernel
theorem dX3_leastSort_66 : decode cX3_leastSort 66 = .ok (.goto (-36), 3) := by decide +kernel
theorem dX3_leastSort_69 : decode cX3_leastSort 69 = .ok (.iconst (-1), 1) := by decide +kernel
theorem dX3_leastSort_70 : decode cX3_leastSort 70 = .ok (.ireturn, 1) := by decide +kernel
theorem dX3_mayStand_0 : decode cX3_mayStand 0 = .ok (.iload_n 3, 1) := by decide +kernel
theorem dX3_mayStand_1 : decode cX3_mayStand 1 = .ok (.aload_n 0, 1) := by decide +kernel
theorem dX3_mayStand_2 : decode cX3_mayStand 2 = .ok (.getfield 9, 3) := by decide +kernel
theorem dX3_mayStand_5 : decode cX3_mayStand 5 = .ok (.iload_n 2, 1) := by decide +kernel
theorem dX3_mayStand_6 : decode cX3_mayStand 6 = .ok (.iaload, 1) := by decide +kernel
theorem dX3_mayStand_7 : decode cX3_mayStand 7 = .ok (.if_icmp .lt 16, 3) := by decide +kernel
theorem dX3_mayStand_10 : decode cX3_mayStand 10 = .ok (.iload_n 1, 1) := by decide +kernel
theorem dX3_mayStand_11 : decode cX3_mayStand 11 = .ok (.iload_n 2, 1) := by decide +kernel
theorem dX3_mayStand_12 : decode cX3_mayStand 12 = .ok (.invokestatic 48, 3) := by decide +kernel
theorem dX3_mayStand_15 : decode cX3_mayStand 15 = .ok (.iconst 4, 1) := by decide +kernel
theorem dX3_mayStand_16 : decode cX3_mayStand 16 = .ok (.if_icmp .ge 7, 3) := by decide +kernel
theorem dX3_mayStand_19 : decode cX3_mayStand 19 = .ok (.iconst 1, 1) := by decide +kernel
theorem dX3_mayStand_20 : decode cX3_mayStand 20 = .ok (.goto 4, 3) := by decide +kernel
theorem dX3_mayStand_23 : decode cX3_mayStand 23 = .ok (.iconst 0, 1) := by decide +kernel
theorem dX3_mayStand_24 : decode cX3_mayStand 24 = .ok (.ireturn, 1) := by decide +kernel
theorem dX3_payFrom_0 : decode cX3_payFrom 0 = .ok (.aload_n 0, 1) := by decide +kernel
theorem dX3_payFrom_1 : decode cX3_payFrom 1 = .ok (.getfield 21, 3) := by decide +kernel
theorem dX3_payFrom_4 : decode cX3_payFrom 4 = .ok (.iload_n 1, 1) := by decide +kernel
theorem dX3_payFrom_5 : decode cX3_payFrom 5 = .ok (.iconst 1, 1) := by decide +kernel
theorem dX3_payFrom_6 : decode cX3_payFrom 6 = .ok (.iadd, 1) := by decide +kernel
theorem dX3_payFrom_7 : decode cX3_payFrom 7 = .ok (.bipush 125, 2) := by decide +kernel
theorem dX3_payFrom_9 : decode cX3_payFrom 9 = .ok (.imul, 1) := by decide +kernel
theorem dX3_payFrom_10 : decode cX3_payFrom 10 = .ok (.iload_n 2, 1) := by decide +kernel
theorem dX3_payFrom_11 : decode cX3_payFrom 11 = .ok (.iadd, 1) := by decide +kernel
theorem dX3_payFrom_12 : decode cX3_payFrom 12 = .ok (.iload_n 3, 1) := by decide +kernel
theorem dX3_payFrom_13 : decode cX3_payFrom 13 = .ok (.invokestatic 31, 3) := by decide +kernel
theorem dX3_payFrom_16 : decode cX3_payFrom 16 = .ok (.iadd, 1) := by decide +kernel
theorem dX3_payFrom_17 : decode cX3_payFrom 17 = .ok (.iaload, 1) := by decide +kernel
theorem dX3_payFrom_18 : decode cX3_payFrom 18 = .ok (.istore 4, 2) := by decide +kernel
theorem dX3_payFrom_20 : decode cX3_payFrom 20 = .ok (.iload_n 3, 1) := by decide +kernel
theorem dX3_payFrom_21 : decode cX3_payFrom 21 = .ok (.iconst (-1), 1) := by decide +kernel
theorem dX3_payFrom_22 : decode cX3_payFrom 22 = .ok (.if_icmp .ne 8, 3) := by decide +kernel
theorem dX3_payFrom_25 : decode cX3_payFrom 25 = .ok (.iload 4, 2) := by decide +kernel
theorem dX3_payFrom_27 : decode cX3_payFrom 27 = .ok (.goto 12, 3) := by decide +kernel
theorem dX3_payFrom_30 : decode cX3_payFrom 30 = .ok (.aload_n 0, 1) := by decide +kernel
theorem dX3_payFrom_31 : decode cX3_payFrom 31 = .ok (.getfield 15, 3) := by decide +kernel
theorem dX3_payFrom_34 : decode cX3_payFrom 34 = .ok (.iload_n 3, 1) := by decide +kernel
theorem dX3_payFrom_35 : decode cX3_payFrom 35 = .ok (.iaload, 1) := by decide +kernel
theorem dX3_payFrom_36 : decode cX3_payFrom 36 = .ok (.iload 4, 2) := by decide +kernel
theorem dX3_payFrom_38 : decode cX3_payFrom 38 = .ok (.iadd, 1) := by decide +kernel
theorem dX3_payFrom_39 : decode cX3_payFrom 39 = .ok (.ireturn, 1) := by decide +kernel
theorem dX3_standAhead_0 : decode cX3_standAhead 0 = .ok (.iload_n 1, 1) := by decide +kernel
theorem dX3_standAhead_1 : decode cX3_standAhead 1 = .ok (.ifCond .ne 7, 3) := by decide +kernel
theorem dX3_standAhead_4 : decode cX3_standAhead 4 = .ok (.iload_n 0, 1) := by decide +kernel
theorem dX3_standAhead_5 : decode cX3_standAhead 5 = .ok (.iconst 5, 1) := by decide +kernel
theorem dX3_standAhead_6 : decode cX3_standAhead 6 = .ok (.irem, 1) := by decide +kernel
theorem dX3_standAhead_7 : decode cX3_standAhead 7 = .ok (.ireturn, 1) := by decide +kernel
theorem dX3_standAhead_8 : decode cX3_standAhead 8 = .ok (.iload_n 1, 1) := by decide +kernel
theorem dX3_standAhead_9 : decode cX3_standAhead 9 = .ok (.iconst 1, 1) := by decide +kernel
theorem dX3_standAhead_10 : decode cX3_standAhead 10 = .ok (.if_icmp .ne 11, 3) := by decide +kernel
theorem dX3_standAhead_13 : decode cX3_standAhead 13 = .ok (.iload_n 0, 1) := by decide +kernel
theorem dX3_standAhead_14 : decode cX3_standAhead 14 = .ok (.iconst 5, 1) := by decide +kernel
theorem dX3_standAhead_15 : decode cX3_standAhead 15 = .ok (.idiv, 1) := by decide +kernel
theorem dX3_standAhead_16 : decode cX3_standAhead 16 = .ok (.iconst 5, 1) := by decide +kernel
theorem dX3_standAhead_17 : decode cX3_standAhead 17 = .ok (.irem, 1) := by decide +kernel
theorem dX3_standAhead_18 : decode cX3_standAhead 18 = .ok (.goto 7, 3) := by decide +kernel
theorem dX3_standAhead_21 : decode cX3_standAhead 21 = .ok (.iload_n 0, 1) := by decide +kernel
theorem dX3_standAhead_22 : decode cX3_standAhead 22 = .ok (.bipush 25, 2) := by decide +kernel
theorem dX3_standAhead_24 : decode cX3_standAhead 24 = .ok (.idiv, 1) := by decide +kernel
theorem dX3_standAhead_25 : decode cX3_standAhead 25 = .ok (.ireturn, 1) := by decide +kernel
theorem dX3_weightOf_0 : decode cX3_weightOf 0 = .ok (.iload_n 0, 1) := by decide +kernel
theorem dX3_weightOf_1 : decode cX3_weightOf 1 = .ok (.iconst (-1), 1) := by decide +kernel
theorem dX3_weightOf_2 : decode cX3_weightOf 2 = .ok (.if_icmp .ne 5, 3) := by decide +kernel
theorem dX3_weightOf_5 : decode cX3_weightOf 5 = .ok (.iconst 0, 1) := by decide +kernel
theorem dX3_weightOf_6 : decode cX3_weightOf 6 = .ok (.ireturn, 1) := by decide +kernel
theorem dX3_weightOf_7 : decode cX3_weightOf 7 = .ok (.iload_n 0, 1) := by decide +kernel
theorem dX3_weightOf_8 : decode cX3_weightOf 8 = .ok (.ifCond .ne 5, 3) := by decide +kernel
theorem dX3_weightOf_11 : decode cX3_weightOf 11 = .ok (.iconst 1, 1) := by decide +kernel
theorem dX3_weightOf_12 : decode cX3_weightOf 12 = .ok (.ireturn, 1) := by decide +kernel
theorem dX3_weightOf_13 : decode cX3_weightOf 13 = .ok (.iload_n 0, 1) := by decide +kernel
theorem dX3_weightOf_14 : decode cX3_weightOf 14 = .ok (.iconst 1, 1) := by decide +kernel
theorem dX3_weightOf_15 : decode cX3_weightOf 15 = .ok (.if_icmp .ne 7, 3) := by decide +kernel
theorem dX3_weightOf_18 : decode cX3_weightOf 18 = .ok (.iconst 5, 1) := by decide +kernel
theorem dX3_weightOf_19 : decode cX3_weightOf 19 = .ok (.goto 5, 3) := by decide +kernel
theorem dX3_weightOf_22 : decode cX3_weightOf 22 = .ok (.bipush 25, 2) := by decide +kernel
theorem dX3_weightOf_24 : decode cX3_weightOf 24 = .ok (.ireturn, 1) := by decide +kernel
theorem dX4_init_0 : decode cX4_init 0 = .ok (.aload_n 0, 1) := by decide +kernel
theorem dX4_init_1 : decode cX4_init 1 = .ok (.invokespecial 3, 3) := by decide +kernel
theorem dX4_init_4 : decode cX4_init 4 = .ok (.aload_n 0, 1) := by decide +kernel
theorem dX4_init_5 : decode cX4_init 5 = .ok (.sipush 192, 3) := by decide +kernel
theorem dX4_init_8 : decode cX4_init 8 = .ok (.newarray .int, 2) := by decide +kernel
theorem dX4_init_10 : decode cX4_init 10 = .ok (.putfield 9, 3) := by decide +kernel
theorem dX4_init_13 : decode cX4_init 13 = .ok (.aload_n 0, 1) := by decide +kernel
theorem dX4_init_14 : decode cX4_init 14 = .ok (.iconst 4, 1) := by decide +kernel
theorem dX4_init_15 : decode cX4_init 15 = .ok (.newarray .int, 2) := by decide +kernel
theorem dX4_init_17 : decode cX4_init 17 = .ok (.putfield 15, 3) := by decide +kernel
theorem dX4_init_20 : decode cX4_init 20 = .ok (.aload_n 0, 1) := by decide +kernel
theorem dX4_init_21 : decode cX4_init 21 = .ok (.iconst 4, 1) := by decide +kernel
theorem dX4_init_22 : decode cX4_init 22 = .ok (.newarray .int, 2) := by decide +kernel
theorem dX4_init_24 : decode cX4_init 24 = .ok (.dup, 1) := by decide +kernel
theorem dX4_init_25 : decode cX4_init 25 = .ok (.iconst 0, 1) := by decide +kernel
theorem dX4_init_26 : decode cX4_init 26 = .ok (.iconst (-1), 1) := by decide +kernel
theorem dX4_init_27 : decode cX4_init 27 = .ok (.iastore, 1) := by decide +kernel
theorem dX4_init_28 : decode cX4_init 28 = .ok (.dup, 1) := by decide +kernel
theorem dX4_init_29 : decode cX4_init 29 = .ok (.iconst 1, 1) := by decide +kernel
theorem dX4_init_30 : decode cX4_init 30 = .ok (.iconst (-1), 1) := by decide +kernel
theorem dX4_init_31 : decode cX4_init 31 = .ok (.iastore, 1) := by decide +kernel
theorem dX4_init_32 : decode cX4_init 32 = .ok (.dup, 1) := by decide +kernel
theorem dX4_init_33 : decode cX4_init 33 = .ok (.iconst 2, 1) := by decide +kernel
theorem dX4_init_34 : decode cX4_init 34 = .ok (.iconst (-1), 1) := by decide +kernel
theorem dX4_init_35 : decode cX4_init 35 = .ok (.iastore, 1) := by decide +kernel
theorem dX4_init_36 : decode cX4_init 36 = .ok (.dup, 1) := by decide +kernel
theorem dX4_init_37 : decode cX4_init 37 = .ok (.iconst 3, 1) := by decide +kernel
theorem dX4_init_38 : decode cX4_init 38 = .ok (.iconst (-1), 1) := by decide +kernel
theorem dX4_init_39 : decode cX4_init 39 = .ok (.iastore, 1) := by decide +kernel
theorem dX4_init_40 : decode cX4_init 40 = .ok (.putfield 18, 3) := by decide +kernel
theorem dX4_init_43 : decode cX4_init 43 = .ok (.return_, 1) := by decide +kernel
theorem dX4_isLost_0 : decode cX4_isLost 0 = .ok (.aload_n 0, 1) := by decide +kernel
theorem dX4_isLost_1 : decode cX4_isLost 1 = .ok (.getfield 18, 3) := by decide +kernel
theorem dX4_isLost_4 : decode cX4_isLost 4 = .ok (.iload_n 1, 1) := by decide +kernel
theorem dX4_isLost_5 : decode cX4_isLost 5 = .ok (.iaload, 1) := by decide +kernel
theorem dX4_isLost_6 : decode cX4_isLost 6 = .ok (.iconst (-1), 1) := by decide +kernel
theorem dX4_isLost_7 : decode cX4_isLost 7 = .ok (.if_icmp .ne 7, 3) := by decide +kernel
theorem dX4_isLost_10 : decode cX4_isLost 10 = .ok (.iconst 1, 1) := by decide +kernel
theorem dX4_isLost_11 : decode cX4_isLost 11 = .ok (.goto 4, 3) := by decide +kernel
theorem dX4_isLost_14 : decode cX4_isLost 14 = .ok (.iconst 0, 1) := by decide +kernel
theorem dX4_isLost_15 : decode cX4_isLost 15 = .ok (.ireturn, 1) := by decide +kernel
theorem dX4_sizeOf_0 : decode cX4_sizeOf 0 = .ok (.aload_n 0, 1) := by decide +kernel
theorem dX4_sizeOf_1 : decode cX4_sizeOf 1 = .ok (.getfield 18, 3) := by decide +kernel
theorem dX4_sizeOf_4 : decode cX4_sizeOf 4 = .ok (.iload_n 1, 1) := by decide +kernel
theorem dX4_sizeOf_5 : decode cX4_sizeOf 5 = .ok (.iaload, 1) := by decide +kernel
theorem dX4_sizeOf_6 : decode cX4_sizeOf 6 = .ok (.ireturn, 1) := by decide +kernel
theorem dX4_formOf_0 : decode cX4_formOf 0 = .ok (.aload_n 0, 1) := by decide +kernel
theorem dX4_formOf_1 : decode cX4_formOf 1 = .ok (.getfield 15, 3) := by decide +kernel
theorem dX4_formOf_4 : decode cX4_formOf 4 = .ok (.iload_n 1, 1) := by decide +kernel
theorem dX4_formOf_5 : decode cX4_formOf 5 = .ok (.iaload, 1) := by decide +kernel
theorem dX4_formOf_6 : decode cX4_formOf 6 = .ok (.ireturn, 1) := by decide +kernel
theorem dX4_lay_0 : decode cX4_lay 0 = .ok (.aload_n 0, 1) := by decide +kernel
theorem dX4_lay_1 : decode cX4_lay 1 = .ok (.getfield 15, 3) := by decide +kernel
theorem dX4_lay_4 : decode cX4_lay 4 = .ok (.iload_n 1, 1) := by decide +kernel
theorem dX4_lay_5 : decode cX4_lay 5 = .ok (.iload_n 2, 1) := by decide +kernel
theorem dX4_lay_6 : decode cX4_lay 6 = .ok (.iastore, 1) := by decide +kernel
theorem dX4_lay_7 : decode cX4_lay 7 = .ok (.aload_n 0, 1) := by decide +kernel
theorem dX4_lay_8 : decode cX4_lay 8 = .ok (.getfield 18, 3) := by decide +kernel
theorem dX4_lay_11 : decode cX4_lay 11 = .ok (.iload_n 1, 1) := by decide +kernel
theorem dX4_lay_12 : decode cX4_lay 12 = .ok (.iload_n 3, 1) := by decide +kernel
theorem dX4_lay_13 : decode cX4_lay 13 = .ok (.iastore, 1) := by decide +kernel
theorem dX4_lay_14 : decode cX4_lay 14 = .ok (.iconst 0, 1) := by decide +kernel
theorem dX4_lay_15 : decode cX4_lay 15 = .ok (.istore 4, 2) := by decide +kernel
theorem dX4_lay_17 : decode cX4_lay 17 = .ok (.iload 4, 2) := by decide +kernel
theorem dX4_lay_19 : decode cX4_lay 19 = .ok (.iload_n 3, 1) := by decide +kernel
theorem dX4_lay_20 : decode cX4_lay 20 = .ok (.if_icmp .ge 22, 3) := by decide +kernel
theorem dX4_lay_23 : decode cX4_lay 23 = .ok (.aload_n 0, 1) := by decide +kernel
theorem dX4_lay_24 : decode cX4_lay 24 = .ok (.getfield 9, 3) := by decide +kernel
theorem dX4_lay_27 : decode cX4_lay 27 = .ok (.iload_n 1, 1) := by decide +kernel
theorem dX4_lay_28 : decode cX4_lay 28 = .ok (.bipush 48, 2) := by decide +kernel
theorem dX4_lay_30 : decode cX4_lay 30 = .ok (.imul, 1) := by decide +kernel
theorem dX4_lay_31 : decode cX4_lay 31 = .ok (.iload 4, 2) := by decide +kernel
theorem dX4_lay_33 : decode cX4_lay 33 = .ok (.iadd, 1) := by decide +kernel
theorem dX4_lay_34 : decode cX4_lay 34 = .ok (.iconst 0, 1) := by decide +kernel
theorem dX4_lay_35 : decode cX4_lay 35 = .ok (.iastore, 1) := by decide +kernel
theorem dX4_lay_36 : decode cX4_lay 36 = .ok (.iinc 4 1, 3) := by decide +kernel
theorem dX4_lay_39 : decode cX4_lay 39 = .ok (.goto (-22), 3) := by decide +kernel
theorem dX4_lay_42 : decode cX4_lay 42 = .ok (.return_, 1) := by decide +kernel
theorem dX4_drop_0 : decode cX4_drop 0 = .ok (.aload_n 0, 1) := by decide +kernel
theorem dX4_drop_1 : decode cX4_drop 1 = .ok (.getfield 18, 3) := by decide +kernel
theorem dX4_drop_4 : decode cX4_drop 4 = .ok (.iload_n 1, 1) := by decide +kernel
theorem dX4_drop_5 : decode cX4_drop 5 = .ok (.iconst (-1), 1) := by decide +kernel
theorem dX4_drop_6 : decode cX4_drop 6 = .ok (.iastore, 1) := by decide +kernel
theorem dX4_drop_7 : decode cX4_drop 7 = .ok (.return_, 1) := by decide +kernel
theorem dX4_itemAt_0 : decode cX4_itemAt 0 = .ok (.aload_n 0, 1) := by decide +kernel
theorem dX4_itemAt_1 : decode cX4_itemAt 1 = .ok (.getfield 9, 3) := by decide +kernel
theorem dX4_itemAt_4 : decode cX4_itemAt 4 = .ok (.iload_n 1, 1) := by decide +kernel
theorem dX4_itemAt_5 : decode cX4_itemAt 5 = .ok (.bipush 48, 2) := by decide +kernel
theorem dX4_itemAt_7 : decode cX4_itemAt 7 = .ok (.imul, 1) := by decide +kernel
theorem dX4_itemAt_8 : decode cX4_itemAt 8 = .ok (.iload_n 2, 1) := by decide +kernel
theorem dX4_itemAt_9 : decode cX4_itemAt 9 = .ok (.iadd, 1) := by decide +kernel
theorem dX4_itemAt_10 : decode cX4_itemAt 10 = .ok (.iaload, 1) := by decide +kernel
theorem dX4_itemAt_11 : decode cX4_itemAt 11 = .ok (.ireturn, 1) := by decide +kernel
theorem dX4_store_0 : decode cX4_store 0 = .ok (.aload_n 0, 1) := by decide +kernel
theorem dX4_store_1 : decode cX4_store 1 = .ok (.getfield 9, 3) := by decide +kernel
theorem dX4_store_4 : decode cX4_store 4 = .ok (.iload_n 1, 1) := by decide +kernel
theorem dX4_store_5 : decode cX4_store 5 = .ok (.bipush 48, 2) := by decide +kernel
theorem dX4_store_7 : decode cX4_store 7 = .ok (.imul, 1) := by decide +kernel
theorem dX4_store_8 : decode cX4_store 8 = .ok (.iload_n 2, 1) := by decide +kernel
theorem dX4_store_9 : decode cX4_store 9 = .ok (.iadd, 1) := by decide +kernel
theorem dX4_store_10 : decode cX4_store 10 = .ok (.aload_n 0, 1) := by decide +kernel
theorem dX4_store_11 : decode cX4_store 11 = .ok (.getfield 15, 3) := by decide +kernel
theorem dX4_store_14 : decode cX4_store 14 = .ok (.iload_n 1, 1) := by decide +kernel
theorem dX4_store_15 : decode cX4_store 15 = .ok (.iaload, 1) := by decide +kernel
theorem dX4_store_16 : decode cX4_store 16 = .ok (.iload_n 3, 1) := by decide +kernel
theorem dX4_store_17 : decode cX4_store 17 = .ok (.invokestatic 21, 3) := by decide +kernel
theorem dX4_store_20 : decode cX4_store 20 = .ok (.iastore, 1) := by decide +kernel
theorem dX4_store_21 : decode cX4_store 21 = .ok (.return_, 1) := by decide +kernel
theorem dX4_holds_0 : decode cX4_holds 0 = .ok (.iload_n 2, 1) := by decide +kernel
theorem dX4_holds_1 : decode cX4_holds 1 = .ok (.ifCond .lt 33, 3) := by decide +kernel
theorem dX4_holds_4 : decode cX4_holds 4 = .ok (.iload_n 3, 1) := by decide +kernel
theorem dX4_holds_5 : decode cX4_holds 5 = .ok (.ifCond .lt 29, 3) := by decide +kernel
theorem dX4_holds_8 : decode cX4_holds 8 = .ok (.iload_n 2, 1) := by decide +kernel
theorem dX4_holds_9 : decode cX4_holds 9 = .ok (.aload_n 0, 1) := by decide +kernel
theorem dX4_holds_10 : decode cX4_holds 10 = .ok (.getfield 18, 3) := by decide +kernel
theorem dX4_holds_13 : decode cX4_holds 13 = .ok (.iload_n 1, 1) := by decide +kernel
theorem dX4_holds_14 : decode cX4_holds 14 = .ok (.iaload, 1) := by decide +kernel
theorem dX4_holds_15 : decode cX4_holds 15 = .ok (.if_icmp .gt 19, 3) := by decide +kernel
theorem dX4_holds_18 : decode cX4_holds 18 = .ok (.iload_n 3, 1) := by decide +kernel
theorem dX4_holds_19 : decode cX4_holds 19 = .ok (.aload_n 0, 1) := by decide +kernel
theorem dX4_holds_20 : decode cX4_holds 20 = .ok (.getfield 18, 3) := by decide +kernel
theorem dX4_holds_23 : decode cX4_holds 23 = .ok (.iload_n 1, 1) := by decide +kernel
theorem dX4_holds_24 : decode cX4_holds 24 = .ok (.iaload, 1) := by decide +kernel
theorem dX4_holds_25 : decode cX4_holds 25 = .ok (.iload_n 2, 1) := by decide +kernel
theorem dX4_holds_26 : decode cX4_holds 26 = .ok (.isub, 1) := by decide +kernel
theorem dX4_holds_27 : decode cX4_holds 27 = .ok (.if_icmp .gt 7, 3) := by decide +kernel
theorem dX4_holds_30 : decode cX4_holds 30 = .ok (.iconst 1, 1) := by decide +kernel
theorem dX4_holds_31 : decode cX4_holds 31 = .ok (.goto 4, 3) := by decide +kernel
theorem dX4_holds_34 : decode cX4_holds 34 = .ok (.iconst 0, 1) := by decide +kernel
theorem dX4_holds_35 : decode cX4_holds 35 = .ok (.ireturn, 1) := by decide +kernel
theorem dX4_carry_0 : decode cX4_carry 0 = .ok (.aload_n 0, 1) := by decide +kernel
theorem dX4_carry_1 : decode cX4_carry 1 = .ok (.getfield 9, 3) := by decide +kernel
theorem dX4_carry_4 : decode cX4_carry 4 = .ok (.iload_n 1, 1) := by decide +kernel
theorem dX4_carry_5 : decode cX4_carry 5 = .ok (.bipush 48, 2) := by decide +kernel
theorem dX4_carry_7 : decode cX4_carry 7 = .ok (.imul, 1) := by decide +kernel
theorem dX4_carry_8 : decode cX4_carry 8 = .ok (.iload_n 2, 1) := by decide +kernel
theorem dX4_carry_9 : decode cX4_carry 9 = .ok (.iadd, 1) := by decide +kernel
theorem dX4_carry_10 : decode cX4_carry 10 = .ok (.aload_n 0, 1) := by decide +kernel
theorem dX4_carry_11 : decode cX4_carry 11 = .ok (.getfield 9, 3) := by decide +kernel
theorem dX4_carry_14 : decode cX4_carry 14 = .ok (.iload_n 3, 1) := by decide +kernel
theorem dX4_carry_15 : decode cX4_carry 15 = .ok (.bipush 48, 2) := by decide +kernel
theorem dX4_carry_17 : decode cX4_carry 17 = .ok (.imul, 1) := by decide +kernel
theorem dX4_carry_18 : decode cX4_carry 18 = .ok (.iload 4, 2) := by decide +kernel
theorem dX4_carry_20 : decode cX4_carry 20 = .ok (.iadd, 1) := by decide +kernel
theorem dX4_carry_21 : decode cX4_carry 21 = .ok (.iload 5, 2) := by decide +kernel
theorem dX4_carry_23 : decode cX4_carry 23 = .ok (.invokestatic 25, 3) := by decide +kernel
theorem dX4_carry_26 : decode cX4_carry 26 = .ok (.return_, 1) := by decide +kernel
theorem dX4_narrow_0 : decode cX4_narrow 0 = .ok (.iload_n 0, 1) := by decide +kernel
theorem dX4_narrow_1 : decode cX4_narrow 1 = .ok (.ifCond .ne 6, 3) := by decide +kernel
theorem dX4_narrow_4 : decode cX4_narrow 4 = .ok (.iload_n 1, 1) := by decide +kernel
theorem dX4_narrow_5 : decode cX4_narrow 5 = .ok (.i2b, 1) := by decide +kernel
theorem dX4_narrow_6 : decode cX4_narrow 6 = .ok (.ireturn, 1) := by decide +kernel
theorem dX4_narrow_7 : decode cX4_narrow 7 = .ok (.iload_n 0, 1) := by decide +kernel
theorem dX4_narrow_8 : decode cX4_narrow 8 = .ok (.iconst 1, 1) := by decide +kernel
theorem dX4_narrow_9 : decode cX4_narrow 9 = .ok (.if_icmp .ne 8, 3) := by decide +kernel
theorem dX4_narrow_12 : decode cX4_narrow 12 = .ok (.iload_n 1, 1) := by decide +kernel
theorem dX4_narrow_13 : decode cX4_narrow 13 = .ok (.i2s, 1) := by decide +kernel
theorem dX4_narrow_14 : decode cX4_narrow 14 = .ok (.goto 4, 3) := by decide +kernel
theorem dX4_narrow_17 : decode cX4_narrow 17 = .ok (.iload_n 1, 1) := by decide +kernel
theorem dX4_narrow_18 : decode cX4_narrow 18 = .ok (.ireturn, 1) := by decide +kernel
theorem dX5_init_0 : decode cX5_init 0 = .ok (.aload_n 0, 1) := by decide +kernel
theorem dX5_init_1 : decode cX5_init 1 = .ok (.invokespecial 3, 3) := by decide +kernel
theorem dX5_init_4 : decode cX5_init 4 = .ok (.aload_n 0, 1) := by decide +kernel
theorem dX5_init_5 : decode cX5_init 5 = .ok (.new 9, 3) := by decide +kernel
theorem dX5_init_8 : decode cX5_init 8 = .ok (.dup, 1) := by decide +kernel
theorem dX5_init_9 : decode cX5_init 9 = .ok (.invokespecial 11, 3) := by decide +kernel
theorem dX5_init_12 : decode cX5_init 12 = .ok (.putfield 12, 3) := by decide +kernel
theorem dX5_init_15 : decode cX5_init 15 = .ok (.aload_n 0, 1) := by decide +kernel
theorem dX5_init_16 : decode cX5_init 16 = .ok (.bipush 12, 2) := by decide +kernel
theorem dX5_init_18 : decode cX5_init 18 = .ok (.newarray .int, 2) := by decide +kernel
theorem dX5_init_20 : decode cX5_init 20 = .ok (.putfield 18, 3) := by decide +kernel
theorem dX5_init_23 : decode cX5_init 23 = .ok (.aload_n 0, 1) := by decide +kernel
theorem dX5_init_24 : decode cX5_init 24 = .ok (.iconst 4, 1) := by decide +kernel
theorem dX5_init_25 : decode cX5_init 25 = .ok (.newarray .int, 2) := by decide +kernel
theorem dX5_init_27 : decode cX5_init 27 = .ok (.dup, 1) := by decide +kernel
theorem dX5_init_28 : decode cX5_init 28 = .ok (.iconst 0, 1) := by decide +kernel
theorem dX5_init_29 : decode cX5_init 29 = .ok (.bipush 90, 2) := by decide +kernel
theorem dX5_init_31 : decode cX5_init 31 = .ok (.iastore, 1) := by decide +kernel
theorem dX5_init_32 : decode cX5_init 32 = .ok (.dup, 1) := by decide +kernel
theorem dX5_init_33 : decode cX5_init 33 = .ok (.iconst 1, 1) := by decide +kernel
theorem dX5_init_34 : decode cX5_init 34 = .ok (.bipush 90, 2) := by decide +kernel
theorem dX5_init_36 : decode cX5_init 36 = .ok (.iastore, 1) := by decide +kernel
theorem dX5_init_37 : decode cX5_init 37 = .ok (.dup, 1) := by decide +kernel
theorem dX5_init_38 : decode cX5_init 38 = .ok (.iconst 2, 1) := by decide +kernel
theorem dX5_init_39 : decode cX5_init 39 = .ok (.bipush 90, 2) := by decide +kernel
theorem dX5_init_41 : decode cX5_init 41 = .ok (.iastore, 1) := by decide +kernel
theorem dX5_init_42 : decode cX5_init 42 = .ok (.dup, 1) := by decide +kernel
theorem dX5_init_43 : decode cX5_init 43 = .ok (.iconst 3, 1) := by decide +kernel
theorem dX5_init_44 : decode cX5_init 44 = .ok (.bipush 90, 2) := by decide +kernel
theorem dX5_init_46 : decode cX5_init 46 = .ok (.iastore, 1) := by decide +kernel
theorem dX5_init_47 : decode cX5_init 47 = .ok (.putfield 22, 3) := by decide +kernel
theorem dX5_init_50 : decode cX5_init 50 = .ok (.aload_n 0, 1) := by decide +kernel
theorem dX5_init_51 : decode cX5_init 51 = .ok (.bipush 48, 2) := by decide +kernel
theorem dX5_init_53 : decode cX5_init 53 = .ok (.newarray .int, 2) := by decide +kernel
theorem dX5_init_55 : decode cX5_init 55 = .ok (.putfield 25, 3) := by decide +kernel
theorem dX5_init_58 : decode cX5_init 58 = .ok (.aload_n 0, 1) := by decide +kernel
theorem dX5_init_59 : decode cX5_init 59 = .ok (.bipush 48, 2) := by decide +kernel
theorem dX5_init_61 : decode cX5_init 61 = .ok (.newarray .int, 2) := by decide +kernel
theorem dX5_init_63 : decode cX5_init 63 = .ok (.putfield 28, 3) := by decide +kernel
theorem dX5_init_66 : decode cX5_init 66 = .ok (.aload_n 0, 1) := by decide +kernel
theorem dX5_init_67 : decode cX5_init 67 = .ok (.bipush 12, 2) := by decide +kernel
theorem dX5_init_69 : decode cX5_init 69 = .ok (.newarray .int, 2) := by decide +kernel
theorem dX5_init_71 : decode cX5_init 71 = .ok (.putfield 31, 3) := by decide +kernel
theorem dX5_init_74 : decode cX5_init 74 = .ok (.return_, 1) := by decide +kernel
theorem dX5_steepness_0 : decode cX5_steepness 0 = .ok (.iload_n 0, 1) := by decide +kernel
theorem dX5_steepness_1 : decode cX5_steepness 1 = .ok (.iconst 1, 1) := by decide +kernel
theorem dX5_steepness_2 : decode cX5_steepness 2 = .ok (.iadd, 1) := by decide +kernel
theorem dX5_steepness_3 : decode cX5_steepness 3 = .ok (.iload_n 1, 1) := by decide +kernel
theorem dX5_steepness_4 : decode cX5_steepness 4 = .ok (.bipush 6, 2) := by decide +kernel
theorem dX5_steepness_6 : decode cX5_steepness 6 = .ok (.if_icmp .ge 9, 3) := by decide +kernel
theorem dX5_steepness_9 : decode cX5_steepness 9 = .ok (.iload_n 1, 1) := by decide +kernel
theorem dX5_steepness_10 : decode cX5_steepness 10 = .ok (.iconst 1, 1) := by decide +kernel
theorem dX5_steepness_11 : decode cX5_steepness 11 = .ok (.iadd, 1) := by decide +kernel
theorem dX5_steepness_12 : decode cX5_steepness 12 = .ok (.goto 7, 3) := by decide +kernel
theorem dX5_steepness_15 : decode cX5_steepness 15 = .ok (.bipush 12, 2) := by decide +kernel
theorem dX5_steepness_17 : decode cX5_steepness 17 = .ok (.iload_n 1, 1) := by decide +kernel
theorem dX5_steepness_18 : decode cX5_steepness 18 = .ok (.isub, 1) := by decide +kernel
theorem dX5_steepness_19 : decode cX5_steepness 19 = .ok (.imul, 1) := by decide +kernel
theorem dX5_steepness_20 : decode cX5_steepness 20 = .ok (.ireturn, 1) := by decide +kernel
theorem dX5_standingOn_0 : decode cX5_standingOn 0 = .ok (.aload_n 0, 1) := by decide +kernel
theorem dX5_standingOn_1 : decode cX5_standingOn 1 = .ok (.getfield 18, 3) := by decide +kernel
theorem dX5_standingOn_4 : decode cX5_standingOn 4 = .ok (.iload_n 1, 1) := by decide +kernel
theorem dX5_standingOn_5 : decode cX5_standingOn 5 = .ok (.iaload, 1) := by decide +kernel
theorem dX5_standingOn_6 : decode cX5_standingOn 6 = .ok (.ireturn, 1) := by decide +kernel
theorem dX5_build_0 : decode cX5_build 0 = .ok (.aload_n 0, 1) := by decide +kernel
theorem dX5_build_1 : decode cX5_build 1 = .ok (.getfield 18, 3) := by decide +kernel
theorem dX5_build_4 : decode cX5_build 4 = .ok (.iload_n 1, 1) := by decide +kernel
theorem dX5_build_5 : decode cX5_build 5 = .ok (.iaload, 1) := by decide +kernel
theorem dX5_build_6 : decode cX5_build 6 = .ok (.istore_n 3, 1) := by decide +kernel
theorem dX5_build_7 : decode cX5_build 7 = .ok (.aload_n 0, 1) := by decide +kernel
theorem dX5_build_8 : decode cX5_build 8 = .ok (.getfield 18, 3) := by decide +kernel
theorem dX5_build_11 : decode cX5_build 11 = .ok (.iload_n 1, 1) := by decide +kernel
theorem dX5_build_12 : decode cX5_build 12 = .ok (.iload_n 2, 1) := by decide +kernel
theorem dX5_build_13 : decode cX5_build 13 = .ok (.iastore, 1) := by decide +kernel
theorem dX5_build_14 : decode cX5_build 14 = .ok (.iload_n 3, 1) := by decide +kernel
theorem dX5_build_15 : decode cX5_build 15 = .ok (.ireturn, 1) := by decide +kernel
theorem dX5_daysOf_0 : decode cX5_daysOf 0 = .ok (.aload_n 0, 1) := by decide +kernel
theorem dX5_daysOf_1 : decode cX5_daysOf 1 = .ok (.getfield 22, 3) := by decide +kernel
theorem dX5_daysOf_4 : decode cX5_daysOf 4 = .ok (.iload_n 1, 1) := by decide +kernel
theorem dX5_daysOf_5 : decode cX5_daysOf 5 = .ok (.iaload, 1) := by decide +kernel
theorem dX5_daysOf_6 : decode cX5_daysOf 6 = .ok (.ireturn, 1) := by decide +kernel
theorem dX5_lengthen_0 : decode cX5_lengthen 0 = .ok (.aload_n 0, 1) := by decide +kernel
theorem dX5_lengthen_1 : decode cX5_lengthen 1 = .ok (.getfield 22, 3) := by decide +kernel
theorem dX5_lengthen_4 : decode cX5_lengthen 4 = .ok (.iload_n 1, 1) := by decide +kernel
theorem dX5_lengthen_5 : decode cX5_lengthen 5 = .ok (.iaload, 1) := by decide +kernel
theorem dX5_lengthen_6 : decode cX5_lengthen 6 = .ok (.istore_n 3, 1) := by decide +kernel
theorem dX5_lengthen_7 : decode cX5_lengthen 7 = .ok (.aload_n 0, 1) := by decide +kernel
theorem dX5_lengthen_8 : decode cX5_lengthen 8 = .ok (.getfield 22, 3) := by decide +kernel
theorem dX5_lengthen_11 : decode cX5_lengthen 11 = .ok (.iload_n 1, 1) := by decide +kernel
theorem dX5_lengthen_12 : decode cX5_lengthen 12 = .ok (.iload_n 2, 1) := by decide +kernel
theorem dX5_lengthen_13 : decode cX5_lengthen 13 = .ok (.iastore, 1) := by decide +kernel
theorem dX5_lengthen_14 : decode cX5_lengthen 14 = .ok (.iload_n 3, 1) := by decide +kernel
theorem dX5_lengthen_15 : decode cX5_lengthen 15 = .ok (.ireturn, 1) := by decide +kernel
theorem dX5_allDays_0 : decode cX5_allDays 0 = .ok (.iconst 0, 1) := by decide +kernel
theorem dX5_allDays_1 : decode cX5_allDays 1 = .ok (.istore_n 1, 1) := by decide +kernel
theorem dX5_allDays_2 : decode cX5_allDays 2 = .ok (.iconst 0, 1) := by decide +kernel
theorem dX5_allDays_3 : decode cX5_allDays 3 = .ok (.istore_n 2, 1) := by decide +kernel
theorem dX5_allDays_4 : decode cX5_allDays 4 = .ok (.iload_n 2, 1) := by decide +kernel
theorem dX5_allDays_5 : decode cX5_allDays 5 = .ok (.iconst 4, 1) := by decide +kernel
theorem dX5_allDays_6 : decode cX5_allDays 6 = .ok (.if_icmp .ge 18, 3) := by decide +kernel
theorem dX5_allDays_9 : decode cX5_allDays 9 = .ok (.iload_n 1, 1) := by decide +kernel
theorem dX5_allDays_10 : decode cX5_allDays 10 = .ok (.aload_n 0, 1) := by decide +kernel
theorem dX5_allDays_11 : decode cX5_allDays 11 = .ok (.getfield 22, 3) := by decide +kernel
theorem dX5_allDays_14 : decode cX5_allDays 14 = .ok (.iload_n 2, 1) := by decide +kernel
theorem dX5_allDays_15 : decode cX5_allDays 15 = .ok (.iaload, 1) := by decide +kernel
theorem dX5_allDays_16 : decode cX5_allDays 16 = .ok (.iadd, 1) := by decide +kernel
theorem dX5_allDays_17 : decode cX5_allDays 17 = .ok (.istore_n 1, 1) := by decide +kernel
theorem dX5_allDays_18 : decode cX5_allDays 18 = .ok (.iinc 2 1, 3) := by decide +kernel
theorem dX5_allDays_21 : decode cX5_allDays 21 = .ok (.goto (-17), 3) := by decide +kernel
theorem dX5_allDays_24 : decode cX5_allDays 24 = .ok (.iload_n 1, 1) := by decide +kernel
theorem dX5_allDays_25 : decode cX5_allDays 25 = .ok (.ireturn, 1) := by decide +kernel
theorem dX5_years_0 : decode cX5_years 0 = .ok (.aload_n 0, 1) := by decide +kernel
theorem dX5_years_1 : decode cX5_years 1 = .ok (.getfield 31, 3) := by decide +kernel
theorem dX5_years_4 : decode cX5_years 4 = .ok (.areturn, 1) := by decide +kernel
theorem dX5_yearOf_0 : decode cX5_yearOf 0 = .ok (.aload_n 0, 1) := by decide +kernel
theorem dX5_yearOf_1 : decode cX5_yearOf 1 = .ok (.getfield 31, 3) := by decide +kernel
theorem dX5_yearOf_4 : decode cX5_yearOf 4 = .ok (.iload_n 1, 1) := by decide +kernel
theorem dX5_yearOf_5 : decode cX5_yearOf 5 = .ok (.iaload, 1) := by decide +kernel
theorem dX5_yearOf_6 : decode cX5_yearOf 6 = .ok (.ireturn, 1) := by decide +kernel
theorem dX5_allYears_0 : decode cX5_allYears 0 = .ok (.iconst 0, 1) := by decide +kernel
theorem dX5_allYears_1 : decode cX5_allYears 1 = .ok (.istore_n 1, 1) := by decide +kernel
theorem dX5_allYears_2 : decode cX5_allYears 2 = .ok (.iconst 0, 1) := by decide +kernel
theorem dX5_allYears_3 : decode cX5_allYears 3 = .ok (.istore_n 2, 1) := by decide +kernel
theorem dX5_allYears_4 : decode cX5_allYears 4 = .ok (.iload_n 2, 1) := by decide +kernel
theorem dX5_allYears_5 : decode cX5_allYears 5 = .ok (.aload_n 0, 1) := by decide +kernel
theorem dX5_allYears_6 : decode cX5_allYears 6 = .ok (.getfield 12, 3) := by decide +kernel
theorem dX5_allYears_9 : decode cX5_allYears 9 = .ok (.invokevirtual 34, 3) := by decide +kernel
theorem dX5_allYears_12 : decode cX5_allYears 12 = .ok (.if_icmp .ge 18, 3) := by decide +kernel
theorem dX5_allYears_15 : decode cX5_allYears 15 = .ok (.iload_n 1, 1) := by decide +kernel
theorem dX5_allYears_16 : decode cX5_allYears 16 = .ok (.aload_n 0, 1) := by decide +kernel
theorem dX5_allYears_17 : decode cX5_allYears 17 = .ok (.getfield 31, 3) := by decide +kernel
theorem dX5_allYears_20 : decode cX5_allYears 20 = .ok (.iload_n 2, 1) := by decide +kernel
theorem dX5_allYears_21 : decode cX5_allYears 21 = .ok (.iaload, 1) := by decide +kernel
theorem dX5_allYears_22 : decode cX5_allYears 22 = .ok (.iadd, 1) := by decide +kernel
theorem dX5_allYears_23 : decode cX5_allYears 23 = .ok (.istore_n 1, 1) := by decide +kernel
theorem dX5_allYears_24 : decode cX5_allYears 24 = .ok (.iinc 2 1, 3) := by decide +kernel
theorem dX5_allYears_27 : decode cX5_allYears 27 = .ok (.goto (-23), 3) := by decide +kernel
theorem dX5_allYears_30 : decode cX5_allYears 30 = .ok (.iload_n 1, 1) := by decide +kernel
theorem dX5_allYears_31 : decode cX5_allYears 31 = .ok (.ireturn, 1) := by decide +kernel
theorem dX5_bitsOf_0 : decode cX5_bitsOf 0 = .ok (.aload_n 0, 1) := by decide +kernel
theorem dX5_bitsOf_1 : decode cX5_bitsOf 1 = .ok (.getfield 25, 3) := by decide +kernel
theorem dX5_bitsOf_4 : decode cX5_bitsOf 4 = .ok (.iload_n 1, 1) := by decide +kernel
theorem dX5_bitsOf_5 : decode cX5_bitsOf 5 = .ok (.iconst 4, 1) := by decide +kernel
theorem dX5_bitsOf_6 : decode cX5_bitsOf 6 = .ok (.imul, 1) := by decide +kernel
theorem dX5_bitsOf_7 : decode cX5_bitsOf 7 = .ok (.iload_n 2, 1) := by decide +kernel
theorem dX5_bitsOf_8 : decode cX5_bitsOf 8 = .ok (.iadd, 1) := by decide +kernel
theorem dX5_bitsOf_9 : decode cX5_bitsOf 9 = .ok (.iaload, 1) := by decide +kernel
theorem dX5_bitsOf_10 : decode cX5_bitsOf 10 = .ok (.ireturn, 1) := by decide +kernel
theorem dX5_hoursOf_0 : decode cX5_hoursOf 0 = .ok (.aload_n 0, 1) := by decide +kernel
theorem dX5_hoursOf_1 : decode cX5_hoursOf 1 = .ok (.getfield 28, 3) := by decide +kernel
theorem dX5_hoursOf_4 : decode cX5_hoursOf 4 = .ok (.iload_n 1, 1) := by decide +kernel
theorem dX5_hoursOf_5 : decode cX5_hoursOf 5 = .ok (.iconst 4, 1) := by decide +kernel
theorem dX5_hoursOf_6 : decode cX5_hoursOf 6 = .ok (.imul, 1) := by decide +kernel
theorem dX5_hoursOf_7 : decode cX5_hoursOf 7 = .ok (.iload_n 2, 1) := by decide +kernel
theorem dX5_hoursOf_8 : decode cX5_hoursOf 8 = .ok (.iadd, 1) := by decide +kernel
theorem dX5_hoursOf_9 : decode cX5_hoursOf 9 = .ok (.iaload, 1) := by decide +kernel
theorem dX5_hoursOf_10 : decode cX5_hoursOf 10 = .ok (.ireturn, 1) := by decide +kernel
theorem dX5_measure_0 : decode cX5_measure 0 = .ok (.iconst 0, 1) := by decide +kernel
theorem dX5_measure_1 : decode cX5_measure 1 = .ok (.istore_n 1, 1) := by decide +kernel
theorem dX5_measure_2 : decode cX5_measure 2 = .ok (.iload_n 1, 1) := by decide +kernel
theorem dX5_measure_3 : decode cX5_measure 3 = .ok (.aload_n 0, 1) := by decide +kernel
theorem dX5_measure_4 : decode cX5_measure 4 = .ok (.getfield 12, 3) := by decide +kernel
theorem dX5_measure_7 : decode cX5_measure 7 = .ok (.invokevirtual 34, 3) := by decide +kernel
theorem dX5_measure_10 : decode cX5_measure 10 = .ok (.if_icmp .ge 65, 3) := by decide +kernel
theorem dX5_measure_13 : decode cX5_measure 13 = .ok (.iconst 0, 1) := by decide +kernel
theorem dX5_measure_14 : decode cX5_measure 14 = .ok (.istore_n 2, 1) := by decide +kernel
theorem dX5_measure_15 : decode cX5_measure 15 = .ok (.iload_n 2, 1) := by decide +kernel
theorem dX5_measure_16 : decode cX5_measure 16 = .ok (.iconst 4, 1) := by decide +kernel
theorem dX5_measure_17 : decode cX5_measure 17 = .ok (.if_icmp .ge 41, 3) := by decide +kernel
theorem dX5_measure_20 : decode cX5_measure 20 = .ok (.aload_n 0, 1) := by decide +kernel
theorem dX5_measure_21 : decode cX5_measure 21 = .ok (.iload_n 1, 1) := by decide +kernel
theorem dX5_measure_22 : decode cX5_measure 22 = .ok (.iload_n 2, 1) := by decide +kernel
theorem dX5_measure_23 : decode cX5_measure 23 = .ok (.invokevirtual 38, 3) := by decide +kernel
theorem dX5_measure_26 : decode cX5_measure 26 = .ok (.istore_n 3, 1) := by decide +kernel
theorem dX5_measure_27 : decode cX5_measure 27 = .ok (.aload_n 0, 1) := by decide +kernel
theorem dX5_measure_28 : decode cX5_measure 28 = .ok (.getfield 25, 3) := by decide +kernel
theorem dX5_measure_31 : decode cX5_measure 31 = .ok (.iload_n 1, 1) := by decide +kernel
theorem dX5_measure_32 : decode cX5_measure 32 = .ok (.iconst 4, 1) := by decide +kernel
theorem dX5_measure_33 : decode cX5_measure 33 = .ok (.imul, 1) := by decide +kernel
theorem dX5_measure_34 : decode cX5_measure 34 = .ok (.iload_n 2, 1) := by decide +kernel
theorem dX5_measure_35 : decode cX5_measure 35 = .ok (.iadd, 1) := by decide +kernel
theorem dX5_measure_36 : decode cX5_measure 36 = .ok (.iload_n 3, 1) := by decide +kernel
theorem dX5_measure_37 : decode cX5_measure 37 = .ok (.iastore, 1) := by decide +kernel
theorem dX5_measure_38 : decode cX5_measure 38 = .ok (.aload_n 0, 1) := by decide +kernel
theorem dX5_measure_39 : decode cX5_measure 39 = .ok (.getfield 28, 3) := by decide +kernel
theorem dX5_measure_42 : decode cX5_measure 42 = .ok (.iload_n 1, 1) := by decide +kernel
theorem dX5_measure_43 : decode cX5_measure 43 = .ok (.iconst 4, 1) := by decide +kernel
theorem dX5_measure_44 : decode cX5_measure 44 = .ok (.imul, 1) := by decide +kernel
theorem dX5_measure_45 : decode cX5_measure 45 = .ok (.iload_n 2, 1) := by decide +kernel
theorem dX5_measure_46 : decode cX5_measure 46 = .ok (.iadd, 1) := by decide +kernel
theorem dX5_measure_47 : decode cX5_measure 47 = .ok (.iload_n 3, 1) := by decide +kernel
theorem dX5_measure_48 : decode cX5_measure 48 = .ok (.invokestatic 42, 3) := by decide +kernel
theorem dX5_measure_51 : decode cX5_measure 51 = .ok (.iastore, 1) := by decide +kernel
theorem dX5_measure_52 : decode cX5_measure 52 = .ok (.iinc 2 1, 3) := by decide +kernel
theorem dX5_measure_55 : decode cX5_measure 55 = .ok (.goto (-40), 3) := by decide +kernel
theorem dX5_measure_58 : decode cX5_measure 58 = .ok (.aload_n 0, 1) := by decide +kernel
theorem dX5_measure_59 : decode cX5_measure 59 = .ok (.getfield 31, 3) := by decide +kernel
theorem dX5_measure_62 : decode cX5_measure 62 = .ok (.iload_n 1, 1) := by decide +kernel
theorem dX5_measure_63 : decode cX5_measure 63 = .ok (.aload_n 0, 1) := by decide +kernel
theorem dX5_measure_64 : decode cX5_measure 64 = .ok (.iload_n 1, 1) := by decide +kernel
theorem dX5_measure_65 : decode cX5_measure 65 = .ok (.invokevirtual 48, 3) := by decide +kernel
theorem dX5_measure_68 : decode cX5_measure 68 = .ok (.iastore, 1) := by decide +kernel
theorem dX5_measure_69 : decode cX5_measure 69 = .ok (.iinc 1 1, 3) := by decide +kernel
theorem dX5_measure_72 : decode cX5_measure 72 = .ok (.goto (-70), 3) := by decide +kernel
theorem dX5_measure_75 : decode cX5_measure 75 = .ok (.return_, 1) := by decide +kernel
theorem dX5_yearAsBuilt_0 : decode cX5_yearAsBuilt 0 = .ok (.iconst 0, 1) := by decide +kernel
theorem dX5_yearAsBuilt_1 : decode cX5_yearAsBuilt 1 = .ok (.istore_n 2, 1) := by decide +kernel
theorem dX5_yearAsBuilt_2 : decode cX5_yearAsBuilt 2 = .ok (.iconst 0, 1) := by decide +kernel
theorem dX5_yearAsBuilt_3 : decode cX5_yearAsBuilt 3 = .ok (.istore_n 3, 1) := by decide +kernel
theorem dX5_yearAsBuilt_4 : decode cX5_yearAsBuilt 4 = .ok (.iload_n 3, 1) := by decide +kernel
theorem dX5_yearAsBuilt_5 : decode cX5_yearAsBuilt 5 = .ok (.iconst 4, 1) := by decide +kernel
theorem dX5_yearAsBuilt_6 : decode cX5_yearAsBuilt 6 = .ok (.if_icmp .ge 41, 3) := by decide +kernel
theorem dX5_yearAsBuilt_9 : decode cX5_yearAsBuilt 9 = .ok (.aload_n 0, 1) := by decide +kernel
theorem dX5_yearAsBuilt_10 : decode cX5_yearAsBuilt 10 = .ok (.iload_n 1, 1) := by decide +kernel
theorem dX5_yearAsBuilt_11 : decode cX5_yearAsBuilt 11 = .ok (.iload_n 3, 1) := by decide +kernel
theorem dX5_yearAsBuilt_12 : decode cX5_yearAsBuilt 12 = .ok (.iconst (-1), 1) := by decide +kernel
theorem dX5_yearAsBuilt_13 : decode cX5_yearAsBuilt 13 = .ok (.invokevirtual 51, 3) := by decide +kernel
theorem dX5_yearAsBuilt_16 : decode cX5_yearAsBuilt 16 = .ok (.aload_n 0, 1) := by decide +kernel
theorem dX5_yearAsBuilt_17 : decode cX5_yearAsBuilt 17 = .ok (.iload_n 1, 1) := by decide +kernel
theorem dX5_yearAsBuilt_18 : decode cX5_yearAsBuilt 18 = .ok (.iload_n 3, 1) := by decide +kernel
theorem dX5_yearAsBuilt_19 : decode cX5_yearAsBuilt 19 = .ok (.iconst 1, 1) := by decide +kernel
theorem dX5_yearAsBuilt_20 : decode cX5_yearAsBuilt 20 = .ok (.invokevirtual 51, 3) := by decide +kernel
theorem dX5_yearAsBuilt_23 : decode cX5_yearAsBuilt 23 = .ok (.iadd, 1) := by decide +kernel
theorem dX5_yearAsBuilt_24 : decode cX5_yearAsBuilt 24 = .ok (.istore 4, 2) := by decide +kernel
theorem dX5_yearAsBuilt_26 : decode cX5_yearAsBuilt 26 = .ok (.iload_n 2, 1) := by decide +kernel
theorem dX5_yearAsBuilt_27 : decode cX5_yearAsBuilt 27 = .ok (.bipush 12, 2) := by decide +kernel
theorem dX5_yearAsBuilt_29 : decode cX5_yearAsBuilt 29 = .ok (.iload 4, 2) := by decide +kernel
theorem dX5_yearAsBuilt_31 : decode cX5_yearAsBuilt 31 = .ok (.isub, 1) := by decide +kernel
theorem dX5_yearAsBuilt_32 : decode cX5_yearAsBuilt 32 = .ok (.aload_n 0, 1) := by decide +kernel
theorem dX5_yearAsBuilt_33 : decode cX5_yearAsBuilt 33 = .ok (.getfield 22, 3) := by decide +kernel
theorem dX5_yearAsBuilt_36 : decode cX5_yearAsBuilt 36 = .ok (.iload_n 3, 1) := by decide +kernel
theorem dX5_yearAsBuilt_37 : decode cX5_yearAsBuilt 37 = .ok (.iaload, 1) := by decide +kernel
theorem dX5_yearAsBuilt_38 : decode cX5_yearAsBuilt 38 = .ok (.imul, 1) := by decide +kernel
theorem dX5_yearAsBuilt_39 : decode cX5_yearAsBuilt 39 = .ok (.iadd, 1) := by decide +kernel
theorem dX5_yearAsBuilt_40 : decode cX5_yearAsBuilt 40 = .ok (.istore_n 2, 1) := by decide +kernel
theorem dX5_yearAsBuilt_41 : decode cX5_yearAsBuilt 41 = .ok (.iinc 3 1, 3) := by decide +kernel
theorem dX5_yearAsBuilt_44 : decode cX5_yearAsBuilt 44 = .ok (.goto (-40), 3) := by decide +kernel
theorem dX5_yearAsBuilt_47 : decode cX5_yearAsBuilt 47 = .ok (.iload_n 2, 1) := by decide +kernel
theorem dX5_yearAsBuilt_48 : decode cX5_yearAsBuilt 48 = .ok (.ireturn, 1) := by decide +kernel
end
section
theorem dX5_nearestShader_0 : decode cX5_nearestShader 0 = .ok (.iload_n 3, 1) := by decide +kernel
theorem dX5_nearestShader_1 : decode cX5_nearestShader 1 = .ok (.bipush 6, 2) := by decide +kernel
theorem dX5_nearestShader_3 : decode cX5_nearestShader 3 = .ok (.if_icmp .ge 7, 3) := by decide +kernel
theorem dX5_nearestShader_6 : decode cX5_nearestShader 6 = .ok (.iconst (-1), 1) := by decide +kernel
theorem dX5_nearestShader_7 : decode cX5_nearestShader 7 = .ok (.goto 4, 3) := by decide +kernel
theorem dX5_nearestShader_10 : decode cX5_nearestShader 10 = .ok (.iconst 1, 1) := by decide +kernel
theorem dX5_nearestShader_11 : decode cX5_nearestShader 11 = .ok (.istore 4, 2) := by decide +kernel
theorem dX5_nearestShader_13 : decode cX5_nearestShader 13 = .ok (.aload_n 0, 1) := by decide +kernel
theorem dX5_nearestShader_14 : decode cX5_nearestShader 14 = .ok (.iload_n 1, 1) := by decide +kernel
theorem dX5_nearestShader_15 : decode cX5_nearestShader 15 = .ok (.iload 4, 2) := by decide +kernel
theorem dX5_nearestShader_17 : decode cX5_nearestShader 17 = .ok (.invokevirtual 55, 3) := by decide +kernel
theorem dX5_nearestShader_20 : decode cX5_nearestShader 20 = .ok (.istore 5, 2) := by decide +kernel
theorem dX5_nearestShader_22 : decode cX5_nearestShader 22 = .ok (.iconst 1, 1) := by decide +kernel
theorem dX5_nearestShader_23 : decode cX5_nearestShader 23 = .ok (.istore 6, 2) := by decide +kernel
theorem dX5_nearestShader_25 : decode cX5_nearestShader 25 = .ok (.iload 6, 2) := by decide +kernel
theorem dX5_nearestShader_27 : decode cX5_nearestShader 27 = .ok (.iload 5, 2) := by decide +kernel
theorem dX5_nearestShader_29 : decode cX5_nearestShader 29 = .ok (.if_icmp .gt 38, 3) := by decide +kernel
theorem dX5_nearestShader_32 : decode cX5_nearestShader 32 = .ok (.aload_n 0, 1) := by decide +kernel
theorem dX5_nearestShader_33 : decode cX5_nearestShader 33 = .ok (.iload_n 1, 1) := by decide +kernel
theorem dX5_nearestShader_34 : decode cX5_nearestShader 34 = .ok (.iload 4, 2) := by decide +kernel
theorem dX5_nearestShader_36 : decode cX5_nearestShader 36 = .ok (.iload 6, 2) := by decide +kernel
theorem dX5_nearestShader_38 : decode cX5_nearestShader 38 = .ok (.imul, 1) := by decide +kernel
theorem dX5_nearestShader_39 : decode cX5_nearestShader 39 = .ok (.invokevirtual 58, 3) := by decide +kernel
theorem dX5_nearestShader_42 : decode cX5_nearestShader 42 = .ok (.iload 6, 2) := by decide +kernel
theorem dX5_nearestShader_44 : decode cX5_nearestShader 44 = .ok (.iload_n 2, 1) := by decide +kernel
theorem dX5_nearestShader_45 : decode cX5_nearestShader 45 = .ok (.iload_n 3, 1) := by decide +kernel
theorem dX5_nearestShader_46 : decode cX5_nearestShader 46 = .ok (.invokestatic 61, 3) := by decide +kernel
theorem dX5_nearestShader_49 : decode cX5_nearestShader 49 = .ok (.imul, 1) := by decide +kernel
theorem dX5_nearestShader_50 : decode cX5_nearestShader 50 = .ok (.if_icmp .le 11, 3) := by decide +kernel
theorem dX5_nearestShader_53 : decode cX5_nearestShader 53 = .ok (.iload_n 1, 1) := by decide +kernel
theorem dX5_nearestShader_54 : decode cX5_nearestShader 54 = .ok (.iload 4, 2) := by decide +kernel
theorem dX5_nearestShader_56 : decode cX5_nearestShader 56 = .ok (.iload 6, 2) := by decide +kernel
theorem dX5_nearestShader_58 : decode cX5_nearestShader 58 = .ok (.imul, 1) := by decide +kernel
theorem dX5_nearestShader_59 : decode cX5_nearestShader 59 = .ok (.iadd, 1) := by decide +kernel
theorem dX5_nearestShader_60 : decode cX5_nearestShader 60 = .ok (.ireturn, 1) := by decide +kernel
theorem dX5_nearestShader_61 : decode cX5_nearestShader 61 = .ok (.iinc 6 1, 3) := by decide +kernel
theorem dX5_nearestShader_64 : decode cX5_nearestShader 64 = .ok (.goto (-39), 3) := by decide +kernel
theorem dX5_nearestShader_67 : decode cX5_nearestShader 67 = .ok (.iconst (-1), 1) := by decide +kernel
theorem dX5_nearestShader_68 : decode cX5_nearestShader 68 = .ok (.ireturn, 1) := by decide +kernel
theorem dX5_bitsAsBuilt_0 : decode cX5_bitsAsBuilt 0 = .ok (.aload_n 0, 1) := by decide +kernel
theorem dX5_bitsAsBuilt_1 : decode cX5_bitsAsBuilt 1 = .ok (.iload_n 1, 1) := by decide +kernel
theorem dX5_bitsAsBuilt_2 : decode cX5_bitsAsBuilt 2 = .ok (.iload_n 2, 1) := by decide +kernel
theorem dX5_bitsAsBuilt_3 : decode cX5_bitsAsBuilt 3 = .ok (.iconst (-1), 1) := by decide +kernel
theorem dX5_bitsAsBuilt_4 : decode cX5_bitsAsBuilt 4 = .ok (.invokevirtual 51, 3) := by decide +kernel
theorem dX5_bitsAsBuilt_7 : decode cX5_bitsAsBuilt 7 = .ok (.istore_n 3, 1) := by decide +kernel
theorem dX5_bitsAsBuilt_8 : decode cX5_bitsAsBuilt 8 = .ok (.aload_n 0, 1) := by decide +kernel
theorem dX5_bitsAsBuilt_9 : decode cX5_bitsAsBuilt 9 = .ok (.iload_n 1, 1) := by decide +kernel
theorem dX5_bitsAsBuilt_10 : decode cX5_bitsAsBuilt 10 = .ok (.iload_n 2, 1) := by decide +kernel
theorem dX5_bitsAsBuilt_11 : decode cX5_bitsAsBuilt 11 = .ok (.iconst 1, 1) := by decide +kernel
theorem dX5_bitsAsBuilt_12 : decode cX5_bitsAsBuilt 12 = .ok (.invokevirtual 51, 3) := by decide +kernel
theorem dX5_bitsAsBuilt_15 : decode cX5_bitsAsBuilt 15 = .ok (.istore 4, 2) := by decide +kernel
theorem dX5_bitsAsBuilt_17 : decode cX5_bitsAsBuilt 17 = .ok (.bipush 63, 2) := by decide +kernel
theorem dX5_bitsAsBuilt_19 : decode cX5_bitsAsBuilt 19 = .ok (.iload_n 3, 1) := by decide +kernel
theorem dX5_bitsAsBuilt_20 : decode cX5_bitsAsBuilt 20 = .ok (.ishr, 1) := by decide +kernel
theorem dX5_bitsAsBuilt_21 : decode cX5_bitsAsBuilt 21 = .ok (.iload_n 3, 1) := by decide +kernel
theorem dX5_bitsAsBuilt_22 : decode cX5_bitsAsBuilt 22 = .ok (.ishl, 1) := by decide +kernel
theorem dX5_bitsAsBuilt_23 : decode cX5_bitsAsBuilt 23 = .ok (.bipush 63, 2) := by decide +kernel
theorem dX5_bitsAsBuilt_25 : decode cX5_bitsAsBuilt 25 = .ok (.iload 4, 2) := by decide +kernel
theorem dX5_bitsAsBuilt_27 : decode cX5_bitsAsBuilt 27 = .ok (.ishr, 1) := by decide +kernel
theorem dX5_bitsAsBuilt_28 : decode cX5_bitsAsBuilt 28 = .ok (.bipush 6, 2) := by decide +kernel
theorem dX5_bitsAsBuilt_30 : decode cX5_bitsAsBuilt 30 = .ok (.ishl, 1) := by decide +kernel
theorem dX5_bitsAsBuilt_31 : decode cX5_bitsAsBuilt 31 = .ok (.ior, 1) := by decide +kernel
theorem dX5_bitsAsBuilt_32 : decode cX5_bitsAsBuilt 32 = .ok (.ireturn, 1) := by decide +kernel
theorem dX5_darkHours_0 : decode cX5_darkHours 0 = .ok (.iconst 0, 1) := by decide +kernel
theorem dX5_darkHours_1 : decode cX5_darkHours 1 = .ok (.istore 4, 2) := by decide +kernel
theorem dX5_darkHours_3 : decode cX5_darkHours 3 = .ok (.aload_n 0, 1) := by decide +kernel
theorem dX5_darkHours_4 : decode cX5_darkHours 4 = .ok (.iload_n 1, 1) := by decide +kernel
theorem dX5_darkHours_5 : decode cX5_darkHours 5 = .ok (.iload_n 3, 1) := by decide +kernel
theorem dX5_darkHours_6 : decode cX5_darkHours 6 = .ok (.invokevirtual 55, 3) := by decide +kernel
theorem dX5_darkHours_9 : decode cX5_darkHours 9 = .ok (.istore 5, 2) := by decide +kernel
theorem dX5_darkHours_11 : decode cX5_darkHours 11 = .ok (.iconst 1, 1) := by decide +kernel
theorem dX5_darkHours_12 : decode cX5_darkHours 12 = .ok (.istore 6, 2) := by decide +kernel
theorem dX5_darkHours_14 : decode cX5_darkHours 14 = .ok (.iload 6, 2) := by decide +kernel
theorem dX5_darkHours_16 : decode cX5_darkHours 16 = .ok (.iload 5, 2) := by decide +kernel
theorem dX5_darkHours_18 : decode cX5_darkHours 18 = .ok (.if_icmp .gt 53, 3) := by decide +kernel
theorem dX5_darkHours_21 : decode cX5_darkHours 21 = .ok (.aload_n 0, 1) := by decide +kernel
theorem dX5_darkHours_22 : decode cX5_darkHours 22 = .ok (.iload_n 1, 1) := by decide +kernel
theorem dX5_darkHours_23 : decode cX5_darkHours 23 = .ok (.iload_n 3, 1) := by decide +kernel
theorem dX5_darkHours_24 : decode cX5_darkHours 24 = .ok (.iload 6, 2) := by decide +kernel
theorem dX5_darkHours_26 : decode cX5_darkHours 26 = .ok (.imul, 1) := by decide +kernel
theorem dX5_darkHours_27 : decode cX5_darkHours 27 = .ok (.invokevirtual 58, 3) := by decide +kernel
theorem dX5_darkHours_30 : decode cX5_darkHours 30 = .ok (.istore 7, 2) := by decide +kernel
theorem dX5_darkHours_32 : decode cX5_darkHours 32 = .ok (.iload 6, 2) := by decide +kernel
theorem dX5_darkHours_34 : decode cX5_darkHours 34 = .ok (.iload_n 2, 1) := by decide +kernel
theorem dX5_darkHours_35 : decode cX5_darkHours 35 = .ok (.iconst 1, 1) := by decide +kernel
theorem dX5_darkHours_36 : decode cX5_darkHours 36 = .ok (.iadd, 1) := by decide +kernel
theorem dX5_darkHours_37 : decode cX5_darkHours 37 = .ok (.imul, 1) := by decide +kernel
theorem dX5_darkHours_38 : decode cX5_darkHours 38 = .ok (.istore 8, 2) := by decide +kernel
theorem dX5_darkHours_40 : decode cX5_darkHours 40 = .ok (.iload 4, 2) := by decide +kernel
theorem dX5_darkHours_42 : decode cX5_darkHours 42 = .ok (.bipush 6, 2) := by decide +kernel
theorem dX5_darkHours_44 : decode cX5_darkHours 44 = .ok (.if_icmp .ge 21, 3) := by decide +kernel
theorem dX5_darkHours_47 : decode cX5_darkHours 47 = .ok (.iload 7, 2) := by decide +kernel
theorem dX5_darkHours_49 : decode cX5_darkHours 49 = .ok (.iload 8, 2) := by decide +kernel
theorem dX5_darkHours_51 : decode cX5_darkHours 51 = .ok (.iload 4, 2) := by decide +kernel
theorem dX5_darkHours_53 : decode cX5_darkHours 53 = .ok (.iconst 1, 1) := by decide +kernel
theorem dX5_darkHours_54 : decode cX5_darkHours 54 = .ok (.iadd, 1) := by decide +kernel
theorem dX5_darkHours_55 : decode cX5_darkHours 55 = .ok (.imul, 1) := by decide +kernel
theorem dX5_darkHours_56 : decode cX5_darkHours 56 = .ok (.if_icmp .le 9, 3) := by decide +kernel
theorem dX5_darkHours_59 : decode cX5_darkHours 59 = .ok (.iinc 4 1, 3) := by decide +kernel
theorem dX5_darkHours_62 : decode cX5_darkHours 62 = .ok (.goto (-22), 3) := by decide +kernel
theorem dX5_darkHours_65 : decode cX5_darkHours 65 = .ok (.iinc 6 1, 3) := by decide +kernel
theorem dX5_darkHours_68 : decode cX5_darkHours 68 = .ok (.goto (-54), 3) := by decide +kernel
theorem dX5_darkHours_71 : decode cX5_darkHours 71 = .ok (.iload 4, 2) := by decide +kernel
theorem dX5_darkHours_73 : decode cX5_darkHours 73 = .ok (.ireturn, 1) := by decide +kernel
theorem dX5_reachOf_0 : decode cX5_reachOf 0 = .ok (.aload_n 0, 1) := by decide +kernel
theorem dX5_reachOf_1 : decode cX5_reachOf 1 = .ok (.getfield 12, 3) := by decide +kernel
theorem dX5_reachOf_4 : decode cX5_reachOf 4 = .ok (.getfield 64, 3) := by decide +kernel
theorem dX5_reachOf_7 : decode cX5_reachOf 7 = .ok (.iload_n 1, 1) := by decide +kernel
theorem dX5_reachOf_8 : decode cX5_reachOf 8 = .ok (.iaload, 1) := by decide +kernel
theorem dX5_reachOf_9 : decode cX5_reachOf 9 = .ok (.istore_n 3, 1) := by decide +kernel
theorem dX5_reachOf_10 : decode cX5_reachOf 10 = .ok (.iload_n 2, 1) := by decide +kernel
theorem dX5_reachOf_11 : decode cX5_reachOf 11 = .ok (.iconst (-1), 1) := by decide +kernel
theorem dX5_reachOf_12 : decode cX5_reachOf 12 = .ok (.if_icmp .ne 7, 3) := by decide +kernel
theorem dX5_reachOf_15 : decode cX5_reachOf 15 = .ok (.iload_n 3, 1) := by decide +kernel
theorem dX5_reachOf_16 : decode cX5_reachOf 16 = .ok (.goto 14, 3) := by decide +kernel
theorem dX5_reachOf_19 : decode cX5_reachOf 19 = .ok (.aload_n 0, 1) := by decide +kernel
theorem dX5_reachOf_20 : decode cX5_reachOf 20 = .ok (.getfield 12, 3) := by decide +kernel
theorem dX5_reachOf_23 : decode cX5_reachOf 23 = .ok (.getfield 67, 3) := by decide +kernel
theorem dX5_reachOf_26 : decode cX5_reachOf 26 = .ok (.iconst 1, 1) := by decide +kernel
theorem dX5_reachOf_27 : decode cX5_reachOf 27 = .ok (.isub, 1) := by decide +kernel
theorem dX5_reachOf_28 : decode cX5_reachOf 28 = .ok (.iload_n 3, 1) := by decide +kernel
theorem dX5_reachOf_29 : decode cX5_reachOf 29 = .ok (.isub, 1) := by decide +kernel
theorem dX5_reachOf_30 : decode cX5_reachOf 30 = .ok (.ireturn, 1) := by decide +kernel
theorem dX5_rise_0 : decode cX5_rise 0 = .ok (.iload_n 1, 1) := by decide +kernel
theorem dX5_rise_1 : decode cX5_rise 1 = .ok (.iload_n 2, 1) := by decide +kernel
theorem dX5_rise_2 : decode cX5_rise 2 = .ok (.iadd, 1) := by decide +kernel
theorem dX5_rise_3 : decode cX5_rise 3 = .ok (.istore_n 3, 1) := by decide +kernel
theorem dX5_rise_4 : decode cX5_rise 4 = .ok (.aload_n 0, 1) := by decide +kernel
theorem dX5_rise_5 : decode cX5_rise 5 = .ok (.getfield 12, 3) := by decide +kernel
theorem dX5_rise_8 : decode cX5_rise 8 = .ok (.getfield 71, 3) := by decide +kernel
theorem dX5_rise_11 : decode cX5_rise 11 = .ok (.iload_n 3, 1) := by decide +kernel
theorem dX5_rise_12 : decode cX5_rise 12 = .ok (.iaload, 1) := by decide +kernel
theorem dX5_rise_13 : decode cX5_rise 13 = .ok (.aload_n 0, 1) := by decide +kernel
theorem dX5_rise_14 : decode cX5_rise 14 = .ok (.getfield 18, 3) := by decide +kernel
theorem dX5_rise_17 : decode cX5_rise 17 = .ok (.iload_n 3, 1) := by decide +kernel
theorem dX5_rise_18 : decode cX5_rise 18 = .ok (.iaload, 1) := by decide +kernel
theorem dX5_rise_19 : decode cX5_rise 19 = .ok (.iadd, 1) := by decide +kernel
theorem dX5_rise_20 : decode cX5_rise 20 = .ok (.aload_n 0, 1) := by decide +kernel
theorem dX5_rise_21 : decode cX5_rise 21 = .ok (.getfield 12, 3) := by decide +kernel
theorem dX5_rise_24 : decode cX5_rise 24 = .ok (.getfield 71, 3) := by decide +kernel
theorem dX5_rise_27 : decode cX5_rise 27 = .ok (.iload_n 1, 1) := by decide +kernel
theorem dX5_rise_28 : decode cX5_rise 28 = .ok (.iaload, 1) := by decide +kernel
theorem dX5_rise_29 : decode cX5_rise 29 = .ok (.isub, 1) := by decide +kernel
theorem dX5_rise_30 : decode cX5_rise 30 = .ok (.ireturn, 1) := by decide +kernel
theorem dX6_init_0 : decode cX6_init 0 = .ok (.aload_n 0, 1) := by decide +kernel
theorem dX6_init_1 : decode cX6_init 1 = .ok (.invokespecial 1, 3) := by decide +kernel
theorem dX6_init_4 : decode cX6_init 4 = .ok (.aload_n 0, 1) := by decide +kernel
theorem dX6_init_5 : decode cX6_init 5 = .ok (.new 7, 3) := by decide +kernel
theorem dX6_init_8 : decode cX6_init 8 = .ok (.dup, 1) := by decide +kernel
theorem dX6_init_9 : decode cX6_init 9 = .ok (.invokespecial 9, 3) := by decide +kernel
theorem dX6_init_12 : decode cX6_init 12 = .ok (.putfield 10, 3) := by decide +kernel
theorem dX6_init_15 : decode cX6_init 15 = .ok (.aload_n 0, 1) := by decide +kernel
theorem dX6_init_16 : decode cX6_init 16 = .ok (.aload_n 0, 1) := by decide +kernel
theorem dX6_init_17 : decode cX6_init 17 = .ok (.getfield 10, 3) := by decide +kernel
theorem dX6_init_20 : decode cX6_init 20 = .ok (.getfield 16, 3) := by decide +kernel
theorem dX6_init_23 : decode cX6_init 23 = .ok (.putfield 20, 3) := by decide +kernel
theorem dX6_init_26 : decode cX6_init 26 = .ok (.aload_n 0, 1) := by decide +kernel
theorem dX6_init_27 : decode cX6_init 27 = .ok (.new 21, 3) := by decide +kernel
theorem dX6_init_30 : decode cX6_init 30 = .ok (.dup, 1) := by decide +kernel
theorem dX6_init_31 : decode cX6_init 31 = .ok (.invokespecial 23, 3) := by decide +kernel
theorem dX6_init_34 : decode cX6_init 34 = .ok (.putfield 24, 3) := by decide +kernel
theorem dX6_init_37 : decode cX6_init 37 = .ok (.aload_n 0, 1) := by decide +kernel
theorem dX6_init_38 : decode cX6_init 38 = .ok (.new 28, 3) := by decide +kernel
theorem dX6_init_41 : decode cX6_init 41 = .ok (.dup, 1) := by decide +kernel
theorem dX6_init_42 : decode cX6_init 42 = .ok (.invokespecial 30, 3) := by decide +kernel
theorem dX6_init_45 : decode cX6_init 45 = .ok (.putfield 31, 3) := by decide +kernel
theorem dX6_init_48 : decode cX6_init 48 = .ok (.aload_n 0, 1) := by decide +kernel
theorem dX6_init_49 : decode cX6_init 49 = .ok (.new 35, 3) := by decide +kernel
theorem dX6_init_52 : decode cX6_init 52 = .ok (.dup, 1) := by decide +kernel
theorem dX6_init_53 : decode cX6_init 53 = .ok (.invokespecial 37, 3) := by decide +kernel
theorem dX6_init_56 : decode cX6_init 56 = .ok (.putfield 38, 3) := by decide +kernel
theorem dX6_init_59 : decode cX6_init 59 = .ok (.aload_n 0, 1) := by decide +kernel
theorem dX6_init_60 : decode cX6_init 60 = .ok (.new 42, 3) := by decide +kernel
theorem dX6_init_63 : decode cX6_init 63 = .ok (.dup, 1) := by decide +kernel
theorem dX6_init_64 : decode cX6_init 64 = .ok (.invokespecial 44, 3) := by decide +kernel
theorem dX6_init_67 : decode cX6_init 67 = .ok (.putfield 45, 3) := by decide +kernel
theorem dX6_init_70 : decode cX6_init 70 = .ok (.aload_n 0, 1) := by decide +kernel
theorem dX6_init_71 : decode cX6_init 71 = .ok (.bipush 12, 2) := by decide +kernel
theorem dX6_init_73 : decode cX6_init 73 = .ok (.newarray .int, 2) := by decide +kernel
theorem dX6_init_75 : decode cX6_init 75 = .ok (.putfield 49, 3) := by decide +kernel
theorem dX6_init_78 : decode cX6_init 78 = .ok (.aload_n 0, 1) := by decide +kernel
theorem dX6_init_79 : decode cX6_init 79 = .ok (.bipush 16, 2) := by decide +kernel
theorem dX6_init_81 : decode cX6_init 81 = .ok (.newarray .int, 2) := by decide +kernel
theorem dX6_init_83 : decode cX6_init 83 = .ok (.putfield 53, 3) := by decide +kernel
theorem dX6_init_86 : decode cX6_init 86 = .ok (.aload_n 0, 1) := by decide +kernel
theorem dX6_init_87 : decode cX6_init 87 = .ok (.iconst 4, 1) := by decide +kernel
theorem dX6_init_88 : decode cX6_init 88 = .ok (.newarray .int, 2) := by decide +kernel
theorem dX6_init_90 : decode cX6_init 90 = .ok (.putfield 56, 3) := by decide +kernel
theorem dX6_init_93 : decode cX6_init 93 = .ok (.aload_n 0, 1) := by decide +kernel
theorem dX6_init_94 : decode cX6_init 94 = .ok (.bipush 12, 2) := by decide +kernel
theorem dX6_init_96 : decode cX6_init 96 = .ok (.newarray .int, 2) := by decide +kernel
theorem dX6_init_98 : decode cX6_init 98 = .ok (.putfield 59, 3) := by decide +kernel
theorem dX6_init_101 : decode cX6_init 101 = .ok (.aload_n 0, 1) := by decide +kernel
theorem dX6_init_102 : decode cX6_init 102 = .ok (.bipush 8, 2) := by decide +kernel
theorem dX6_init_104 : decode cX6_init 104 = .ok (.newarray .int, 2) := by decide +kernel
theorem dX6_init_106 : decode cX6_init 106 = .ok (.putfield 62, 3) := by decide +kernel
theorem dX6_init_109 : decode cX6_init 109 = .ok (.aload_n 0, 1) := by decide +kernel
theorem dX6_init_110 : decode cX6_init 110 = .ok (.bipush 8, 2) := by decide +kernel
theorem dX6_init_112 : decode cX6_init 112 = .ok (.newarray .int, 2) := by decide +kernel
theorem dX6_init_114 : decode cX6_init 114 = .ok (.putfield 65, 3) := by decide +kernel
theorem dX6_init_117 : decode cX6_init 117 = .ok (.aload_n 0, 1) := by decide +kernel
theorem dX6_init_118 : decode cX6_init 118 = .ok (.iconst 4, 1) := by decide +kernel
theorem dX6_init_119 : decode cX6_init 119 = .ok (.newarray .int, 2) := by decide +kernel
theorem dX6_init_121 : decode cX6_init 121 = .ok (.dup, 1) := by decide +kernel
theorem dX6_init_122 : decode cX6_init 122 = .ok (.iconst 0, 1) := by decide +kernel
theorem dX6_init_123 : decode cX6_init 123 = .ok (.iconst 4, 1) := by decide +kernel
theorem dX6_init_124 : decode cX6_init 124 = .ok (.iastore, 1) := by decide +kernel
theorem dX6_init_125 : decode cX6_init 125 = .ok (.dup, 1) := by decide +kernel
theorem dX6_init_126 : decode cX6_init 126 = .ok (.iconst 1, 1) := by decide +kernel
theorem dX6_init_127 : decode cX6_init 127 = .ok (.iconst 4, 1) := by decide +kernel
theorem dX6_init_128 : decode cX6_init 128 = .ok (.iastore, 1) := by decide +kernel
theorem dX6_init_129 : decode cX6_init 129 = .ok (.dup, 1) := by decide +kernel
theorem dX6_init_130 : decode cX6_init 130 = .ok (.iconst 2, 1) := by decide +kernel
theorem dX6_init_131 : decode cX6_init 131 = .ok (.iconst 4, 1) := by decide +kernel
theorem dX6_init_132 : decode cX6_init 132 = .ok (.iastore, 1) := by decide +kernel
theorem dX6_init_133 : decode cX6_init 133 = .ok (.dup, 1) := by decide +kernel
theorem dX6_init_134 : decode cX6_init 134 = .ok (.iconst 3, 1) := by decide +kernel
theorem dX6_init_135 : decode cX6_init 135 = .ok (.iconst 4, 1) := by decide +kernel
theorem dX6_init_136 : decode cX6_init 136 = .ok (.iastore, 1) := by decide +kernel
theorem dX6_init_137 : decode cX6_init 137 = .ok (.putfield 68, 3) := by decide +kernel
theorem dX6_init_140 : decode cX6_init 140 = .ok (.aload_n 0, 1) := by decide +kernel
theorem dX6_init_141 : decode cX6_init 141 = .ok (.getfield 53, 3) := by decide +kernel
theorem dX6_init_144 : decode cX6_init 144 = .ok (.iconst 1, 1) := by decide +kernel
theorem dX6_init_145 : decode cX6_init 145 = .ok (.invokestatic 71, 3) := by decide +kernel
theorem dX6_init_148 : decode cX6_init 148 = .ok (.return_, 1) := by decide +kernel
theorem dX6_type_0 : decode cX6_type 0 = .ok (.iload_n 1, 1) := by decide +kernel
theorem dX6_type_1 : decode cX6_type 1 = .ok (.sipush 256, 3) := by decide +kernel
theorem dX6_type_4 : decode cX6_type 4 = .ok (.invokestatic 77, 3) := by decide +kernel
theorem dX6_type_7 : decode cX6_type 7 = .ok (.ifCond .ne 6, 3) := by decide +kernel
theorem dX6_type_10 : decode cX6_type 10 = .ok (.bipush (-2), 2) := by decide +kernel
theorem dX6_type_12 : decode cX6_type 12 = .ok (.ireturn, 1) := by decide +kernel
theorem dX6_type_13 : decode cX6_type 13 = .ok (.aload_n 0, 1) := by decide +kernel
theorem dX6_type_14 : decode cX6_type 14 = .ok (.getfield 20, 3) := by decide +kernel
theorem dX6_type_17 : decode cX6_type 17 = .ok (.invokevirtual 81, 3) := by decide +kernel
theorem dX6_type_20 : decode cX6_type 20 = .ok (.ifCond .eq 6, 3) := by decide +kernel
theorem dX6_type_23 : decode cX6_type 23 = .ok (.bipush (-4), 2) := by decide +kernel
theorem dX6_type_25 : decode cX6_type 25 = .ok (.ireturn, 1) := by decide +kernel
theorem dX6_type_26 : decode cX6_type 26 = .ok (.aload_n 0, 1) := by decide +kernel
theorem dX6_type_27 : decode cX6_type 27 = .ok (.getfield 20, 3) := by decide +kernel
theorem dX6_type_30 : decode cX6_type 30 = .ok (.iload_n 1, 1) := by decide +kernel
theorem dX6_type_31 : decode cX6_type 31 = .ok (.invokevirtual 87, 3) := by decide +kernel
theorem dX6_type_34 : decode cX6_type 34 = .ok (.aload_n 0, 1) := by decide +kernel
theorem dX6_type_35 : decode cX6_type 35 = .ok (.invokevirtual 91, 3) := by decide +kernel
theorem dX6_type_38 : decode cX6_type 38 = .ok (.aload_n 0, 1) := by decide +kernel
theorem dX6_type_39 : decode cX6_type 39 = .ok (.getfield 20, 3) := by decide +kernel
theorem dX6_type_42 : decode cX6_type 42 = .ok (.invokevirtual 94, 3) := by decide +kernel
theorem dX6_type_45 : decode cX6_type 45 = .ok (.ireturn, 1) := by decide +kernel
theorem dX6_wipe_0 : decode cX6_wipe 0 = .ok (.aload_n 0, 1) := by decide +kernel
theorem dX6_wipe_1 : decode cX6_wipe 1 = .ok (.getfield 20, 3) := by decide +kernel
theorem dX6_wipe_4 : decode cX6_wipe 4 = .ok (.invokevirtual 94, 3) := by decide +kernel
theorem dX6_wipe_7 : decode cX6_wipe 7 = .ok (.istore_n 1, 1) := by decide +kernel
theorem dX6_wipe_8 : decode cX6_wipe 8 = .ok (.aload_n 0, 1) := by decide +kernel
theorem dX6_wipe_9 : decode cX6_wipe 9 = .ok (.getfield 20, 3) := by decide +kernel
theorem dX6_wipe_12 : decode cX6_wipe 12 = .ok (.invokevirtual 98, 3) := by decide +kernel
theorem dX6_wipe_15 : decode cX6_wipe 15 = .ok (.aload_n 0, 1) := by decide +kernel
theorem dX6_wipe_16 : decode cX6_wipe 16 = .ok (.invokevirtual 91, 3) := by decide +kernel
theorem dX6_wipe_19 : decode cX6_wipe 19 = .ok (.iload_n 1, 1) := by decide +kernel
theorem dX6_wipe_20 : decode cX6_wipe 20 = .ok (.ireturn, 1) := by decide +kernel
theorem dX6_fault_0 : decode cX6_fault 0 = .ok (.aload_n 0, 1) := by decide +kernel
theorem dX6_fault_1 : decode cX6_fault 1 = .ok (.getfield 20, 3) := by decide +kernel
theorem dX6_fault_4 : decode cX6_fault 4 = .ok (.invokevirtual 101, 3) := by decide +kernel
theorem dX6_fault_7 : decode cX6_fault 7 = .ok (.ireturn, 1) := by decide +kernel
theorem dX6_cell_0 : decode cX6_cell 0 = .ok (.aload_n 0, 1) := by decide +kernel
theorem dX6_cell_1 : decode cX6_cell 1 = .ok (.iload_n 1, 1) := by decide +kernel
theorem dX6_cell_2 : decode cX6_cell 2 = .ok (.invokevirtual 104, 3) := by decide +kernel
theorem dX6_cell_5 : decode cX6_cell 5 = .ok (.ifCond .eq 11, 3) := by decide +kernel
theorem dX6_cell_8 : decode cX6_cell 8 = .ok (.iload_n 2, 1) := by decide +kernel
theorem dX6_cell_9 : decode cX6_cell 9 = .ok (.iconst 3, 1) := by decide +kernel
theorem dX6_cell_10 : decode cX6_cell 10 = .ok (.invokestatic 77, 3) := by decide +kernel
theorem dX6_cell_13 : decode cX6_cell 13 = .ok (.ifCond .ne 6, 3) := by decide +kernel
theorem dX6_cell_16 : decode cX6_cell 16 = .ok (.bipush (-2), 2) := by decide +kernel
theorem dX6_cell_18 : decode cX6_cell 18 = .ok (.ireturn, 1) := by decide +kernel
theorem dX6_cell_19 : decode cX6_cell 19 = .ok (.iload_n 2, 1) := by decide +kernel
theorem dX6_cell_20 : decode cX6_cell 20 = .ok (.ifCond .ne 12, 3) := by decide +kernel
theorem dX6_cell_23 : decode cX6_cell 23 = .ok (.aload_n 0, 1) := by decide +kernel
theorem dX6_cell_24 : decode cX6_cell 24 = .ok (.getfield 20, 3) := by decide +kernel
theorem dX6_cell_27 : decode cX6_cell 27 = .ok (.iload_n 1, 1) := by decide +kernel
theorem dX6_cell_28 : decode cX6_cell 28 = .ok (.invokevirtual 108, 3) := by decide +kernel
theorem dX6_cell_31 : decode cX6_cell 31 = .ok (.ireturn, 1) := by decide +kernel
theorem dX6_cell_32 : decode cX6_cell 32 = .ok (.iload_n 2, 1) := by decide +kernel
theorem dX6_cell_33 : decode cX6_cell 33 = .ok (.iconst 1, 1) := by decide +kernel
theorem dX6_cell_34 : decode cX6_cell 34 = .ok (.if_icmp .ne 14, 3) := by decide +kernel
theorem dX6_cell_37 : decode cX6_cell 37 = .ok (.aload_n 0, 1) := by decide +kernel
theorem dX6_cell_38 : decode cX6_cell 38 = .ok (.getfield 10, 3) := by decide +kernel
theorem dX6_cell_41 : decode cX6_cell 41 = .ok (.iload_n 1, 1) := by decide +kernel
theorem dX6_cell_42 : decode cX6_cell 42 = .ok (.invokevirtual 112, 3) := by decide +kernel
theorem dX6_cell_45 : decode cX6_cell 45 = .ok (.goto 9, 3) := by decide +kernel
theorem dX6_cell_48 : decode cX6_cell 48 = .ok (.aload_n 0, 1) := by decide +kernel
theorem dX6_cell_49 : decode cX6_cell 49 = .ok (.getfield 49, 3) := by decide +kernel
theorem dX6_cell_52 : decode cX6_cell 52 = .ok (.iload_n 1, 1) := by decide +kernel
theorem dX6_cell_53 : decode cX6_cell 53 = .ok (.iaload, 1) := by decide +kernel
theorem dX6_cell_54 : decode cX6_cell 54 = .ok (.ireturn, 1) := by decide +kernel
theorem dX6_stand_0 : decode cX6_stand 0 = .ok (.iload_n 1, 1) := by decide +kernel
theorem dX6_stand_1 : decode cX6_stand 1 = .ok (.bipush 12, 2) := by decide +kernel
theorem dX6_stand_3 : decode cX6_stand 3 = .ok (.invokestatic 77, 3) := by decide +kernel
theorem dX6_stand_6 : decode cX6_stand 6 = .ok (.ifCond .eq 12, 3) := by decide +kernel
theorem dX6_stand_9 : decode cX6_stand 9 = .ok (.iload_n 2, 1) := by decide +kernel
theorem dX6_stand_10 : decode cX6_stand 10 = .ok (.bipush 21, 2) := by decide +kernel
theorem dX6_stand_12 : decode cX6_stand 12 = .ok (.invokestatic 77, 3) := by decide +kernel
theorem dX6_stand_15 : decode cX6_stand 15 = .ok (.ifCond .ne 6, 3) := by decide +kernel
theorem dX6_stand_18 : decode cX6_stand 18 = .ok (.bipush (-2), 2) := by decide +kernel
theorem dX6_stand_20 : decode cX6_stand 20 = .ok (.ireturn, 1) := by decide +kernel
theorem dX6_stand_21 : decode cX6_stand 21 = .ok (.aload_n 0, 1) := by decide +kernel
theorem dX6_stand_22 : decode cX6_stand 22 = .ok (.getfield 10, 3) := by decide +kernel
theorem dX6_stand_25 : decode cX6_stand 25 = .ok (.iload_n 1, 1) := by decide +kernel
theorem dX6_stand_26 : decode cX6_stand 26 = .ok (.iload_n 2, 1) := by decide +kernel
theorem dX6_stand_27 : decode cX6_stand 27 = .ok (.invokevirtual 115, 3) := by decide +kernel
theorem dX6_stand_30 : decode cX6_stand 30 = .ok (.istore_n 3, 1) := by decide +kernel
theorem dX6_stand_31 : decode cX6_stand 31 = .ok (.aload_n 0, 1) := by decide +kernel
theorem dX6_stand_32 : decode cX6_stand 32 = .ok (.invokevirtual 91, 3) := by decide +kernel
theorem dX6_stand_35 : decode cX6_stand 35 = .ok (.iload_n 3, 1) := by decide +kernel
theorem dX6_stand_36 : decode cX6_stand 36 = .ok (.ireturn, 1) := by decide +kernel
theorem dX6_owner_0 : decode cX6_owner 0 = .ok (.iload_n 1, 1) := by decide +kernel
theorem dX6_owner_1 : decode cX6_owner 1 = .ok (.bipush 12, 2) := by decide +kernel
theorem dX6_owner_3 : decode cX6_owner 3 = .ok (.invokestatic 77, 3) := by decide +kernel
theorem dX6_owner_6 : decode cX6_owner 6 = .ok (.ifCond .eq 11, 3) := by decide +kernel
theorem dX6_owner_9 : decode cX6_owner 9 = .ok (.iload_n 2, 1) := by decide +kernel
theorem dX6_owner_10 : decode cX6_owner 10 = .ok (.iconst 4, 1) := by decide +kernel
theorem dX6_owner_11 : decode cX6_owner 11 = .ok (.invokestatic 77, 3) := by decide +kernel
theorem dX6_owner_14 : decode cX6_owner 14 = .ok (.ifCond .ne 6, 3) := by decide +kernel
theorem dX6_owner_17 : decode cX6_owner 17 = .ok (.bipush (-2), 2) := by decide +kernel
theorem dX6_owner_19 : decode cX6_owner 19 = .ok (.ireturn, 1) := by decide +kernel
theorem dX6_owner_20 : decode cX6_owner 20 = .ok (.aload_n 0, 1) := by decide +kernel
theorem dX6_owner_21 : decode cX6_owner 21 = .ok (.getfield 49, 3) := by decide +kernel
theorem dX6_owner_24 : decode cX6_owner 24 = .ok (.iload_n 1, 1) := by decide +kernel
theorem dX6_owner_25 : decode cX6_owner 25 = .ok (.iaload, 1) := by decide +kernel
theorem dX6_owner_26 : decode cX6_owner 26 = .ok (.istore_n 3, 1) := by decide +kernel
theorem dX6_owner_27 : decode cX6_owner 27 = .ok (.aload_n 0, 1) := by decide +kernel
theorem dX6_owner_28 : decode cX6_owner 28 = .ok (.getfield 49, 3) := by decide +kernel
theorem dX6_owner_31 : decode cX6_owner 31 = .ok (.iload_n 1, 1) := by decide +kernel
theorem dX6_owner_32 : decode cX6_owner 32 = .ok (.iload_n 2, 1) := by decide +kernel
theorem dX6_owner_33 : decode cX6_owner 33 = .ok (.iastore, 1) := by decide +kernel
theorem dX6_owner_34 : decode cX6_owner 34 = .ok (.iload_n 3, 1) := by decide +kernel
theorem dX6_owner_35 : decode cX6_owner 35 = .ok (.ireturn, 1) := by decide +kernel
theorem dX6_read_0 : decode cX6_read 0 = .ok (.iload_n 1, 1) := by decide +kernel
theorem dX6_read_1 : decode cX6_read 1 = .ok (.iconst 4, 1) := by decide +kernel
theorem dX6_read_2 : decode cX6_read 2 = .ok (.invokestatic 77, 3) := by decide +kernel
theorem dX6_read_5 : decode cX6_read 5 = .ok (.ifCond .ne 6, 3) := by decide +kernel
theorem dX6_read_8 : decode cX6_read 8 = .ok (.bipush (-2), 2) := by decide +kernel
theorem dX6_read_10 : decode cX6_read 10 = .ok (.ireturn, 1) := by decide +kernel
theorem dX6_read_11 : decode cX6_read 11 = .ok (.aload_n 0, 1) := by decide +kernel
theorem dX6_read_12 : decode cX6_read 12 = .ok (.getfield 45, 3) := by decide +kernel
theorem dX6_read_15 : decode cX6_read 15 = .ok (.iload_n 1, 1) := by decide +kernel
theorem dX6_read_16 : decode cX6_read 16 = .ok (.invokevirtual 119, 3) := by decide +kernel
theorem dX6_read_19 : decode cX6_read 19 = .ok (.ifCond .eq 9, 3) := by decide +kernel
theorem dX6_read_22 : decode cX6_read 22 = .ok (.aload_n 0, 1) := by decide +kernel
theorem dX6_read_23 : decode cX6_read 23 = .ok (.iconst 1, 1) := by decide +kernel
theorem dX6_read_24 : decode cX6_read 24 = .ok (.invokevirtual 122, 3) := by decide +kernel
theorem dX6_read_27 : decode cX6_read 27 = .ok (.ireturn, 1) := by decide +kernel
theorem dX6_read_28 : decode cX6_read 28 = .ok (.bipush 12, 2) := by decide +kernel
theorem dX6_read_30 : decode cX6_read 30 = .ok (.aload_n 0, 1) := by decide +kernel
theorem dX6_read_31 : decode cX6_read 31 = .ok (.getfield 45, 3) := by decide +kernel
theorem dX6_read_34 : decode cX6_read 34 = .ok (.iload_n 1, 1) := by decide +kernel
theorem dX6_read_35 : decode cX6_read 35 = .ok (.invokevirtual 125, 3) := by decide +kernel
theorem dX6_read_38 : decode cX6_read 38 = .ok (.invokestatic 128, 3) := by decide +kernel
theorem dX6_read_41 : decode cX6_read 41 = .ok (.istore_n 2, 1) := by decide +kernel
theorem dX6_read_42 : decode cX6_read 42 = .ok (.iconst 0, 1) := by decide +kernel
theorem dX6_read_43 : decode cX6_read 43 = .ok (.istore_n 3, 1) := by decide +kernel
theorem dX6_read_44 : decode cX6_read 44 = .ok (.iload_n 3, 1) := by decide +kernel
theorem dX6_read_45 : decode cX6_read 45 = .ok (.iload_n 2, 1) := by decide +kernel
theorem dX6_read_46 : decode cX6_read 46 = .ok (.if_icmp .ge 40, 3) := by decide +kernel
theorem dX6_read_49 : decode cX6_read 49 = .ok (.aload_n 0, 1) := by decide +kernel
theorem dX6_read_50 : decode cX6_read 50 = .ok (.getfield 45, 3) := by decide +kernel
theorem dX6_read_53 : decode cX6_read 53 = .ok (.iload_n 1, 1) := by decide +kernel
theorem dX6_read_54 : decode cX6_read 54 = .ok (.iload_n 3, 1) := by decide +kernel
theorem dX6_read_55 : decode cX6_read 55 = .ok (.invokevirtual 133, 3) := by decide +kernel
theorem dX6_read_58 : decode cX6_read 58 = .ok (.iconst 4, 1) := by decide +kernel
theorem dX6_read_59 : decode cX6_read 59 = .ok (.invokestatic 77, 3) := by decide +kernel
theorem dX6_read_62 : decode cX6_read 62 = .ok (.ifCond .eq 24, 3) := by decide +kernel
theorem dX6_read_65 : decode cX6_read 65 = .ok (.aload_n 0, 1) := by decide +kernel
theorem dX6_read_66 : decode cX6_read 66 = .ok (.getfield 49, 3) := by decide +kernel
theorem dX6_read_69 : decode cX6_read 69 = .ok (.iload_n 3, 1) := by decide +kernel
theorem dX6_read_70 : decode cX6_read 70 = .ok (.aload_n 0, 1) := by decide +kernel
theorem dX6_read_71 : decode cX6_read 71 = .ok (.getfield 45, 3) := by decide +kernel
theorem dX6_read_74 : decode cX6_read 74 = .ok (.iload_n 1, 1) := by decide +kernel
theorem dX6_read_75 : decode cX6_read 75 = .ok (.iload_n 3, 1) := by decide +kernel
theorem dX6_read_76 : decode cX6_read 76 = .ok (.invokevirtual 133, 3) := by decide +kernel
theorem dX6_read_79 : decode cX6_read 79 = .ok (.iastore, 1) := by decide +kernel
theorem dX6_read_80 : decode cX6_read 80 = .ok (.iinc 3 1, 3) := by decide +kernel
theorem dX6_read_83 : decode cX6_read 83 = .ok (.goto (-39), 3) := by decide +kernel
theorem dX6_read_86 : decode cX6_read 86 = .ok (.iload_n 3, 1) := by decide +kernel
theorem dX6_read_87 : decode cX6_read 87 = .ok (.ireturn, 1) := by decide +kernel
theorem dX6_days_0 : decode cX6_days 0 = .ok (.iload_n 1, 1) := by decide +kernel
theorem dX6_days_1 : decode cX6_days 1 = .ok (.iconst 4, 1) := by decide +kernel
theorem dX6_days_2 : decode cX6_days 2 = .ok (.invokestatic 77, 3) := by decide +kernel
theorem dX6_days_5 : decode cX6_days 5 = .ok (.ifCond .eq 12, 3) := by decide +kernel
theorem dX6_days_8 : decode cX6_days 8 = .ok (.iload_n 2, 1) := by decide +kernel
theorem dX6_days_9 : decode cX6_days 9 = .ok (.bipush 100, 2) := by decide +kernel
theorem dX6_days_11 : decode cX6_days 11 = .ok (.invokestatic 77, 3) := by decide +kernel
theorem dX6_days_14 : decode cX6_days 14 = .ok (.ifCond .ne 6, 3) := by decide +kernel
theorem dX6_days_17 : decode cX6_days 17 = .ok (.bipush (-2), 2) := by decide +kernel
theorem dX6_days_19 : decode cX6_days 19 = .ok (.ireturn, 1) := by decide +kernel
theorem dX6_days_20 : decode cX6_days 20 = .ok (.aload_n 0, 1) := by decide +kernel
theorem dX6_days_21 : decode cX6_days 21 = .ok (.getfield 10, 3) := by decide +kernel
theorem dX6_days_24 : decode cX6_days 24 = .ok (.iload_n 1, 1) := by decide +kernel
theorem dX6_days_25 : decode cX6_days 25 = .ok (.iload_n 2, 1) := by decide +kernel
theorem dX6_days_26 : decode cX6_days 26 = .ok (.invokevirtual 136, 3) := by decide +kernel
theorem dX6_days_29 : decode cX6_days 29 = .ok (.istore_n 3, 1) := by decide +kernel
theorem dX6_days_30 : decode cX6_days 30 = .ok (.aload_n 0, 1) := by decide +kernel
theorem dX6_days_31 : decode cX6_days 31 = .ok (.invokevirtual 91, 3) := by decide +kernel
theorem dX6_days_34 : decode cX6_days 34 = .ok (.iload_n 3, 1) := by decide +kernel
theorem dX6_days_35 : decode cX6_days 35 = .ok (.ireturn, 1) := by decide +kernel
theorem dX6_steep_0 : decode cX6_steep 0 = .ok (.iload_n 1, 1) := by decide +kernel
theorem dX6_steep_1 : decode cX6_steep 1 = .ok (.iconst 4, 1) := by decide +kernel
theorem dX6_steep_2 : decode cX6_steep 2 = .ok (.invokestatic 77, 3) := by decide +kernel
theorem dX6_steep_5 : decode cX6_steep 5 = .ok (.ifCond .eq 12, 3) := by decide +kernel
theorem dX6_steep_8 : decode cX6_steep 8 = .ok (.iload_n 2, 1) := by decide +kernel
theorem dX6_steep_9 : decode cX6_steep 9 = .ok (.bipush 12, 2) := by decide +kernel
theorem dX6_steep_11 : decode cX6_steep 11 = .ok (.invokestatic 77, 3) := by decide +kernel
theorem dX6_steep_14 : decode cX6_steep 14 = .ok (.ifCond .ne 6, 3) := by decide +kernel
theorem dX6_steep_17 : decode cX6_steep 17 = .ok (.bipush (-2), 2) := by decide +kernel
theorem dX6_steep_19 : decode cX6_steep 19 = .ok (.ireturn, 1) := by decide +kernel
theorem dX6_steep_20 : decode cX6_steep 20 = .ok (.iload_n 1, 1) := by decide +kernel
theorem dX6_steep_21 : decode cX6_steep 21 = .ok (.iload_n 2, 1) := by decide +kernel
theorem dX6_steep_22 : decode cX6_steep 22 = .ok (.invokestatic 139, 3) := by decide +kernel
theorem dX6_steep_25 : decode cX6_steep 25 = .ok (.ireturn, 1) := by decide +kernel
theorem dX6_shade_0 : decode cX6_shade 0 = .ok (.aload_n 0, 1) := by decide +kernel
theorem dX6_shade_1 : decode cX6_shade 1 = .ok (.iload_n 1, 1) := by decide +kernel
theorem dX6_shade_2 : decode cX6_shade 2 = .ok (.invokevirtual 104, 3) := by decide +kernel
theorem dX6_shade_5 : decode cX6_shade 5 = .ok (.ifCond .eq 20, 3) := by decide +kernel
theorem dX6_shade_8 : decode cX6_shade 8 = .ok (.iload_n 2, 1) := by decide +kernel
theorem dX6_shade_9 : decode cX6_shade 9 = .ok (.iconst 4, 1) := by decide +kernel
theorem dX6_shade_10 : decode cX6_shade 10 = .ok (.invokestatic 77, 3) := by decide +kernel
theorem dX6_shade_13 : decode cX6_shade 13 = .ok (.ifCond .eq 12, 3) := by decide +kernel
theorem dX6_shade_16 : decode cX6_shade 16 = .ok (.iload_n 3, 1) := by decide +kernel
theorem dX6_shade_17 : decode cX6_shade 17 = .ok (.bipush 12, 2) := by decide +kernel
theorem dX6_shade_19 : decode cX6_shade 19 = .ok (.invokestatic 77, 3) := by decide +kernel
theorem dX6_shade_22 : decode cX6_shade 22 = .ok (.ifCond .ne 6, 3) := by decide +kernel
theorem dX6_shade_25 : decode cX6_shade 25 = .ok (.bipush (-2), 2) := by decide +kernel
theorem dX6_shade_27 : decode cX6_shade 27 = .ok (.ireturn, 1) := by decide +kernel
theorem dX6_shade_28 : decode cX6_shade 28 = .ok (.aload_n 0, 1) := by decide +kernel
theorem dX6_shade_29 : decode cX6_shade 29 = .ok (.getfield 10, 3) := by decide +kernel
theorem dX6_shade_32 : decode cX6_shade 32 = .ok (.iload_n 1, 1) := by decide +kernel
theorem dX6_shade_33 : decode cX6_shade 33 = .ok (.iload_n 2, 1) := by decide +kernel
theorem dX6_shade_34 : decode cX6_shade 34 = .ok (.iload_n 3, 1) := by decide +kernel
theorem dX6_shade_35 : decode cX6_shade 35 = .ok (.invokevirtual 142, 3) := by decide +kernel
theorem dX6_shade_38 : decode cX6_shade 38 = .ok (.ireturn, 1) := by decide +kernel
theorem dX6_light_0 : decode cX6_light 0 = .ok (.aload_n 0, 1) := by decide +kernel
theorem dX6_light_1 : decode cX6_light 1 = .ok (.iload_n 1, 1) := by decide +kernel
theorem dX6_light_2 : decode cX6_light 2 = .ok (.invokevirtual 104, 3) := by decide +kernel
theorem dX6_light_5 : decode cX6_light 5 = .ok (.ifCond .eq 11, 3) := by decide +kernel
theorem dX6_light_8 : decode cX6_light 8 = .ok (.iload_n 2, 1) := by decide +kernel
theorem dX6_light_9 : decode cX6_light 9 = .ok (.iconst 4, 1) := by decide +kernel
theorem dX6_light_10 : decode cX6_light 10 = .ok (.invokestatic 77, 3) := by decide +kernel
theorem dX6_light_13 : decode cX6_light 13 = .ok (.ifCond .ne 6, 3) := by decide +kernel
theorem dX6_light_16 : decode cX6_light 16 = .ok (.bipush (-2), 2) := by decide +kernel
theorem dX6_light_18 : decode cX6_light 18 = .ok (.ireturn, 1) := by decide +kernel
theorem dX6_light_19 : decode cX6_light 19 = .ok (.aload_n 0, 1) := by decide +kernel
theorem dX6_light_20 : decode cX6_light 20 = .ok (.getfield 10, 3) := by decide +kernel
theorem dX6_light_23 : decode cX6_light 23 = .ok (.iload_n 1, 1) := by decide +kernel
theorem dX6_light_24 : decode cX6_light 24 = .ok (.iload_n 2, 1) := by decide +kernel
theorem dX6_light_25 : decode cX6_light 25 = .ok (.invokevirtual 146, 3) := by decide +kernel
theorem dX6_light_28 : decode cX6_light 28 = .ok (.ireturn, 1) := by decide +kernel
theorem dX6_hours_0 : decode cX6_hours 0 = .ok (.aload_n 0, 1) := by decide +kernel
theorem dX6_hours_1 : decode cX6_hours 1 = .ok (.iload_n 1, 1) := by decide +kernel
theorem dX6_hours_2 : decode cX6_hours 2 = .ok (.invokevirtual 104, 3) := by decide +kernel
theorem dX6_hours_5 : decode cX6_hours 5 = .ok (.ifCond .eq 16, 3) := by decide +kernel
theorem dX6_hours_8 : decode cX6_hours 8 = .ok (.iload_n 2, 1) := by decide +kernel
theorem dX6_hours_9 : decode cX6_hours 9 = .ok (.iconst (-1), 1) := by decide +kernel
theorem dX6_hours_10 : decode cX6_hours 10 = .ok (.if_icmp .eq 14, 3) := by decide +kernel
theorem dX6_hours_13 : decode cX6_hours 13 = .ok (.iload_n 2, 1) := by decide +kernel
theorem dX6_hours_14 : decode cX6_hours 14 = .ok (.iconst 4, 1) := by decide +kernel
theorem dX6_hours_15 : decode cX6_hours 15 = .ok (.invokestatic 77, 3) := by decide +kernel
theorem dX6_hours_18 : decode cX6_hours 18 = .ok (.ifCond .ne 6, 3) := by decide +kernel
theorem dX6_hours_21 : decode cX6_hours 21 = .ok (.bipush (-2), 2) := by decide +kernel
theorem dX6_hours_23 : decode cX6_hours 23 = .ok (.ireturn, 1) := by decide +kernel
theorem dX6_hours_24 : decode cX6_hours 24 = .ok (.iload_n 2, 1) := by decide +kernel
theorem dX6_hours_25 : decode cX6_hours 25 = .ok (.iconst (-1), 1) := by decide +kernel
theorem dX6_hours_26 : decode cX6_hours 26 = .ok (.if_icmp .ne 14, 3) := by decide +kernel
theorem dX6_hours_29 : decode cX6_hours 29 = .ok (.aload_n 0, 1) := by decide +kernel
theorem dX6_hours_30 : decode cX6_hours 30 = .ok (.getfield 10, 3) := by decide +kernel
theorem dX6_hours_33 : decode cX6_hours 33 = .ok (.iload_n 1, 1) := by decide +kernel
theorem dX6_hours_34 : decode cX6_hours 34 = .ok (.invokevirtual 149, 3) := by decide +kernel
theorem dX6_hours_37 : decode cX6_hours 37 = .ok (.goto 12, 3) := by decide +kernel
theorem dX6_hours_40 : decode cX6_hours 40 = .ok (.aload_n 0, 1) := by decide +kernel
theorem dX6_hours_41 : decode cX6_hours 41 = .ok (.getfield 10, 3) := by decide +kernel
theorem dX6_hours_44 : decode cX6_hours 44 = .ok (.iload_n 1, 1) := by decide +kernel
theorem dX6_hours_45 : decode cX6_hours 45 = .ok (.iload_n 2, 1) := by decide +kernel
theorem dX6_hours_46 : decode cX6_hours 46 = .ok (.invokevirtual 152, 3) := by decide +kernel
theorem dX6_hours_49 : decode cX6_hours 49 = .ok (.ireturn, 1) := by decide +kernel
theorem dX6_has_0 : decode cX6_has 0 = .ok (.iload_n 1, 1) := by decide +kernel
theorem dX6_has_1 : decode cX6_has 1 = .ok (.iconst 4, 1) := by decide +kernel
theorem dX6_has_2 : decode cX6_has 2 = .ok (.invokestatic 77, 3) := by decide +kernel
theorem dX6_has_5 : decode cX6_has 5 = .ok (.ifCond .eq 11, 3) := by decide +kernel
theorem dX6_has_8 : decode cX6_has 8 = .ok (.iload_n 2, 1) := by decide +kernel
theorem dX6_has_9 : decode cX6_has 9 = .ok (.iconst 2, 1) := by decide +kernel
theorem dX6_has_10 : decode cX6_has 10 = .ok (.invokestatic 77, 3) := by decide +kernel
theorem dX6_has_13 : decode cX6_has 13 = .ok (.ifCond .ne 6, 3) := by decide +kernel
theorem dX6_has_16 : decode cX6_has 16 = .ok (.bipush (-2), 2) := by decide +kernel
theorem dX6_has_18 : decode cX6_has 18 = .ok (.ireturn, 1) := by decide +kernel
theorem dX6_has_19 : decode cX6_has 19 = .ok (.iconst 0, 1) := by decide +kernel
theorem dX6_has_20 : decode cX6_has 20 = .ok (.istore_n 3, 1) := by decide +kernel
theorem dX6_has_21 : decode cX6_has 21 = .ok (.iconst 0, 1) := by decide +kernel
theorem dX6_has_22 : decode cX6_has 22 = .ok (.istore 4, 2) := by decide +kernel
theorem dX6_has_24 : decode cX6_has 24 = .ok (.iconst 0, 1) := by decide +kernel
theorem dX6_has_25 : decode cX6_has 25 = .ok (.istore 5, 2) := by decide +kernel
theorem dX6_has_27 : decode cX6_has 27 = .ok (.iload 5, 2) := by decide +kernel
theorem dX6_has_29 : decode cX6_has 29 = .ok (.aload_n 0, 1) := by decide +kernel
theorem dX6_has_30 : decode cX6_has 30 = .ok (.getfield 20, 3) := by decide +kernel
theorem dX6_has_33 : decode cX6_has 33 = .ok (.invokevirtual 155, 3) := by decide +kernel
theorem dX6_has_36 : decode cX6_has 36 = .ok (.if_icmp .ge 41, 3) := by decide +kernel
theorem dX6_has_39 : decode cX6_has 39 = .ok (.aload_n 0, 1) := by decide +kernel
theorem dX6_has_40 : decode cX6_has 40 = .ok (.getfield 49, 3) := by decide +kernel
theorem dX6_has_43 : decode cX6_has 43 = .ok (.iload 5, 2) := by decide +kernel
theorem dX6_has_45 : decode cX6_has 45 = .ok (.iaload, 1) := by decide +kernel
theorem dX6_has_46 : decode cX6_has 46 = .ok (.iload_n 1, 1) := by decide +kernel
theorem dX6_has_47 : decode cX6_has 47 = .ok (.if_icmp .ne 24, 3) := by decide +kernel
theorem dX6_has_50 : decode cX6_has 50 = .ok (.iload_n 3, 1) := by decide +kernel
theorem dX6_has_51 : decode cX6_has 51 = .ok (.iconst 1, 1) := by decide +kernel
theorem dX6_has_52 : decode cX6_has 52 = .ok (.iload 5, 2) := by decide +kernel
theorem dX6_has_54 : decode cX6_has 54 = .ok (.ishl, 1) := by decide +kernel
theorem dX6_has_55 : decode cX6_has 55 = .ok (.ior, 1) := by decide +kernel
theorem dX6_has_56 : decode cX6_has 56 = .ok (.istore_n 3, 1) := by decide +kernel
theorem dX6_has_57 : decode cX6_has 57 = .ok (.iload 4, 2) := by decide +kernel
theorem dX6_has_59 : decode cX6_has 59 = .ok (.aload_n 0, 1) := by decide +kernel
theorem dX6_has_60 : decode cX6_has 60 = .ok (.getfield 10, 3) := by decide +kernel
theorem dX6_has_63 : decode cX6_has 63 = .ok (.iload 5, 2) := by decide +kernel
theorem dX6_has_65 : decode cX6_has 65 = .ok (.invokevirtual 149, 3) := by decide +kernel
theorem dX6_has_68 : decode cX6_has 68 = .ok (.iadd, 1) := by decide +kernel
theorem dX6_has_69 : decode cX6_has 69 = .ok (.istore 4, 2) := by decide +kernel
theorem dX6_has_71 : decode cX6_has 71 = .ok (.iinc 5 1, 3) := by decide +kernel
theorem dX6_has_74 : decode cX6_has 74 = .ok (.goto (-47), 3) := by decide +kernel
theorem dX6_has_77 : decode cX6_has 77 = .ok (.iload_n 2, 1) := by decide +kernel
theorem dX6_has_78 : decode cX6_has 78 = .ok (.ifCond .ne 7, 3) := by decide +kernel
theorem dX6_has_81 : decode cX6_has 81 = .ok (.iload_n 3, 1) := by decide +kernel
theorem dX6_has_82 : decode cX6_has 82 = .ok (.goto 5, 3) := by decide +kernel
theorem dX6_has_85 : decode cX6_has 85 = .ok (.iload 4, 2) := by decide +kernel
theorem dX6_has_87 : decode cX6_has 87 = .ok (.ireturn, 1) := by decide +kernel
theorem dX6_parts_0 : decode cX6_parts 0 = .ok (.iload_n 1, 1) := by decide +kernel
theorem dX6_parts_1 : decode cX6_parts 1 = .ok (.iconst 2, 1) := by decide +kernel
theorem dX6_parts_2 : decode cX6_parts 2 = .ok (.invokestatic 77, 3) := by decide +kernel
theorem dX6_parts_5 : decode cX6_parts 5 = .ok (.ifCond .ne 6, 3) := by decide +kernel
theorem dX6_parts_8 : decode cX6_parts 8 = .ok (.bipush (-2), 2) := by decide +kernel
theorem dX6_parts_10 : decode cX6_parts 10 = .ok (.ireturn, 1) := by decide +kernel
theorem dX6_parts_11 : decode cX6_parts 11 = .ok (.aload_n 0, 1) := by decide +kernel
theorem dX6_parts_12 : decode cX6_parts 12 = .ok (.invokevirtual 158, 3) := by decide +kernel
theorem dX6_parts_15 : decode cX6_parts 15 = .ok (.iload_n 1, 1) := by decide +kernel
theorem dX6_parts_16 : decode cX6_parts 16 = .ok (.ifCond .ne 13, 3) := by decide +kernel
theorem dX6_parts_19 : decode cX6_parts 19 = .ok (.aload_n 0, 1) := by decide +kernel
theorem dX6_parts_20 : decode cX6_parts 20 = .ok (.getfield 24, 3) := by decide +kernel
theorem dX6_parts_23 : decode cX6_parts 23 = .ok (.invokevirtual 161, 3) := by decide +kernel
theorem dX6_parts_26 : decode cX6_parts 26 = .ok (.goto 10, 3) := by decide +kernel
theorem dX6_parts_29 : decode cX6_parts 29 = .ok (.aload_n 0, 1) := by decide +kernel
theorem dX6_parts_30 : decode cX6_parts 30 = .ok (.getfield 24, 3) := by decide +kernel
theorem dX6_parts_33 : decode cX6_parts 33 = .ok (.invokevirtual 164, 3) := by decide +kernel
theorem dX6_parts_36 : decode cX6_parts 36 = .ok (.ireturn, 1) := by decide +kernel
theorem dX6_taken_0 : decode cX6_taken 0 = .ok (.aload_n 0, 1) := by decide +kernel
theorem dX6_taken_1 : decode cX6_taken 1 = .ok (.iload_n 1, 1) := by decide +kernel
theorem dX6_taken_2 : decode cX6_taken 2 = .ok (.invokevirtual 104, 3) := by decide +kernel
theorem dX6_taken_5 : decode cX6_taken 5 = .ok (.ifCond .eq 20, 3) := by decide +kernel
theorem dX6_taken_8 : decode cX6_taken 8 = .ok (.iload_n 2, 1) := by decide +kernel
theorem dX6_taken_9 : decode cX6_taken 9 = .ok (.bipush 21, 2) := by decide +kernel
theorem dX6_taken_11 : decode cX6_taken 11 = .ok (.invokestatic 77, 3) := by decide +kernel
theorem dX6_taken_14 : decode cX6_taken 14 = .ok (.ifCond .eq 11, 3) := by decide +kernel
theorem dX6_taken_17 : decode cX6_taken 17 = .ok (.iload_n 3, 1) := by decide +kernel
theorem dX6_taken_18 : decode cX6_taken 18 = .ok (.iconst 4, 1) := by decide +kernel
theorem dX6_taken_19 : decode cX6_taken 19 = .ok (.invokestatic 77, 3) := by decide +kernel
theorem dX6_taken_22 : decode cX6_taken 22 = .ok (.ifCond .ne 6, 3) := by decide +kernel
theorem dX6_taken_25 : decode cX6_taken 25 = .ok (.ldc 167, 2) := by decide +kernel
theorem dX6_taken_27 : decode cX6_taken 27 = .ok (.ireturn, 1) := by decide +kernel
theorem dX6_taken_28 : decode cX6_taken 28 = .ok (.aload_n 0, 1) := by decide +kernel
theorem dX6_taken_29 : decode cX6_taken 29 = .ok (.iload_n 1, 1) := by decide +kernel
theorem dX6_taken_30 : decode cX6_taken 30 = .ok (.iload_n 2, 1) := by decide +kernel
theorem dX6_taken_31 : decode cX6_taken 31 = .ok (.invokevirtual 168, 3) := by decide +kernel
theorem dX6_taken_34 : decode cX6_taken 34 = .ok (.aload_n 0, 1) := by decide +kernel
theorem dX6_taken_35 : decode cX6_taken 35 = .ok (.getfield 56, 3) := by decide +kernel
theorem dX6_taken_38 : decode cX6_taken 38 = .ok (.iload_n 3, 1) := by decide +kernel
theorem dX6_taken_39 : decode cX6_taken 39 = .ok (.iaload, 1) := by decide +kernel
theorem dX6_taken_40 : decode cX6_taken 40 = .ok (.ireturn, 1) := by decide +kernel
theorem dX6_highest_0 : decode cX6_highest 0 = .ok (.aload_n 0, 1) := by decide +kernel
theorem dX6_highest_1 : decode cX6_highest 1 = .ok (.iload_n 1, 1) := by decide +kernel
theorem dX6_highest_2 : decode cX6_highest 2 = .ok (.invokevirtual 104, 3) := by decide +kernel
theorem dX6_highest_5 : decode cX6_highest 5 = .ok (.ifCond .eq 12, 3) := by decide +kernel
theorem dX6_highest_8 : decode cX6_highest 8 = .ok (.iload_n 2, 1) := by decide +kernel
theorem dX6_highest_9 : decode cX6_highest 9 = .ok (.ldc 172, 2) := by decide +kernel
theorem dX6_highest_11 : decode cX6_highest 11 = .ok (.invokestatic 77, 3) := by decide +kernel
theorem dX6_highest_14 : decode cX6_highest 14 = .ok (.ifCond .ne 6, 3) := by decide +kernel
theorem dX6_highest_17 : decode cX6_highest 17 = .ok (.bipush (-2), 2) := by decide +kernel
theorem dX6_highest_19 : decode cX6_highest 19 = .ok (.ireturn, 1) := by decide +kernel
theorem dX6_highest_20 : decode cX6_highest 20 = .ok (.iconst 0, 1) := by decide +kernel
theorem dX6_highest_21 : decode cX6_highest 21 = .ok (.istore_n 3, 1) := by decide +kernel
theorem dX6_highest_22 : decode cX6_highest 22 = .ok (.bipush 16, 2) := by decide +kernel
theorem dX6_highest_24 : decode cX6_highest 24 = .ok (.istore 4, 2) := by decide +kernel
theorem dX6_highest_26 : decode cX6_highest 26 = .ok (.iload 4, 2) := by decide +kernel
theorem dX6_highest_28 : decode cX6_highest 28 = .ok (.ifCond .le 47, 3) := by decide +kernel
theorem dX6_highest_31 : decode cX6_highest 31 = .ok (.iload_n 3, 1) := by decide +kernel
theorem dX6_highest_32 : decode cX6_highest 32 = .ok (.iload 4, 2) := by decide +kernel
theorem dX6_highest_34 : decode cX6_highest 34 = .ok (.iadd, 1) := by decide +kernel
theorem dX6_highest_35 : decode cX6_highest 35 = .ok (.bipush 20, 2) := by decide +kernel
theorem dX6_highest_37 : decode cX6_highest 37 = .ok (.if_icmp .gt 29, 3) := by decide +kernel
theorem dX6_highest_40 : decode cX6_highest 40 = .ok (.aload_n 0, 1) := by decide +kernel
theorem dX6_highest_41 : decode cX6_highest 41 = .ok (.iload_n 1, 1) := by decide +kernel
theorem dX6_highest_42 : decode cX6_highest 42 = .ok (.iload_n 3, 1) := by decide +kernel
theorem dX6_highest_43 : decode cX6_highest 43 = .ok (.iload 4, 2) := by decide +kernel
theorem dX6_highest_45 : decode cX6_highest 45 = .ok (.iadd, 1) := by decide +kernel
theorem dX6_highest_46 : decode cX6_highest 46 = .ok (.invokevirtual 168, 3) := by decide +kernel
theorem dX6_highest_49 : decode cX6_highest 49 = .ok (.iload_n 3, 1) := by decide +kernel
theorem dX6_highest_50 : decode cX6_highest 50 = .ok (.aload_n 0, 1) := by decide +kernel
theorem dX6_highest_51 : decode cX6_highest 51 = .ok (.invokevirtual 173, 3) := by decide +kernel
theorem dX6_highest_54 : decode cX6_highest 54 = .ok (.iload_n 2, 1) := by decide +kernel
theorem dX6_highest_55 : decode cX6_highest 55 = .ok (.if_icmp .gt 8, 3) := by decide +kernel
theorem dX6_highest_58 : decode cX6_highest 58 = .ok (.iload 4, 2) := by decide +kernel
theorem dX6_highest_60 : decode cX6_highest 60 = .ok (.goto 4, 3) := by decide +kernel
theorem dX6_highest_63 : decode cX6_highest 63 = .ok (.iconst 0, 1) := by decide +kernel
theorem dX6_highest_64 : decode cX6_highest 64 = .ok (.iadd, 1) := by decide +kernel
theorem dX6_highest_65 : decode cX6_highest 65 = .ok (.istore_n 3, 1) := by decide +kernel
theorem dX6_highest_66 : decode cX6_highest 66 = .ok (.iload 4, 2) := by decide +kernel
theorem dX6_highest_68 : decode cX6_highest 68 = .ok (.iconst 1, 1) := by decide +kernel
theorem dX6_highest_69 : decode cX6_highest 69 = .ok (.ishr, 1) := by decide +kernel
theorem dX6_highest_70 : decode cX6_highest 70 = .ok (.istore 4, 2) := by decide +kernel
theorem dX6_highest_72 : decode cX6_highest 72 = .ok (.goto (-46), 3) := by decide +kernel
theorem dX6_highest_75 : decode cX6_highest 75 = .ok (.iload_n 3, 1) := by decide +kernel
theorem dX6_highest_76 : decode cX6_highest 76 = .ok (.ireturn, 1) := by decide +kernel
theorem dX6_again_0 : decode cX6_again 0 = .ok (.aload_n 0, 1) := by decide +kernel
theorem dX6_again_1 : decode cX6_again 1 = .ok (.iload_n 1, 1) := by decide +kernel
theorem dX6_again_2 : decode cX6_again 2 = .ok (.invokevirtual 104, 3) := by decide +kernel
theorem dX6_again_5 : decode cX6_again 5 = .ok (.ifCond .eq 20, 3) := by decide +kernel
theorem dX6_again_8 : decode cX6_again 8 = .ok (.iload_n 2, 1) := by decide +kernel
theorem dX6_again_9 : decode cX6_again 9 = .ok (.ldc 172, 2) := by decide +kernel
theorem dX6_again_11 : decode cX6_again 11 = .ok (.invokestatic 77, 3) := by decide +kernel
theorem dX6_again_14 : decode cX6_again 14 = .ok (.ifCond .eq 11, 3) := by decide +kernel
theorem dX6_again_17 : decode cX6_again 17 = .ok (.iload_n 3, 1) := by decide +kernel
theorem dX6_again_18 : decode cX6_again 18 = .ok (.iconst 2, 1) := by decide +kernel
theorem dX6_again_19 : decode cX6_again 19 = .ok (.invokestatic 77, 3) := by decide +kernel
theorem dX6_again_22 : decode cX6_again 22 = .ok (.ifCond .ne 6, 3) := by decide +kernel
theorem dX6_again_25 : decode cX6_again 25 = .ok (.bipush (-2), 2) := by decide +kernel
theorem dX6_again_27 : decode cX6_again 27 = .ok (.ireturn, 1) := by decide +kernel
theorem dX6_again_28 : decode cX6_again 28 = .ok (.aload_n 0, 1) := by decide +kernel
theorem dX6_again_29 : decode cX6_again 29 = .ok (.invokevirtual 158, 3) := by decide +kernel
theorem dX6_again_32 : decode cX6_again 32 = .ok (.aload_n 0, 1) := by decide +kernel
theorem dX6_again_33 : decode cX6_again 33 = .ok (.getfield 10, 3) := by decide +kernel
theorem dX6_again_36 : decode cX6_again 36 = .ok (.iload_n 1, 1) := by decide +kernel
theorem dX6_again_37 : decode cX6_again 37 = .ok (.invokevirtual 112, 3) := by decide +kernel
theorem dX6_again_40 : decode cX6_again 40 = .ok (.ifCond .eq 14, 3) := by decide +kernel
theorem dX6_again_43 : decode cX6_again 43 = .ok (.aload_n 0, 1) := by decide +kernel
theorem dX6_again_44 : decode cX6_again 44 = .ok (.getfield 24, 3) := by decide +kernel
theorem dX6_again_47 : decode cX6_again 47 = .ok (.invokevirtual 164, 3) := by decide +kernel
theorem dX6_again_50 : decode cX6_again 50 = .ok (.iconst (-1), 1) := by decide +kernel
theorem dX6_again_51 : decode cX6_again 51 = .ok (.if_icmp .ne 6, 3) := by decide +kernel
theorem dX6_again_54 : decode cX6_again 54 = .ok (.bipush (-3), 2) := by decide +kernel
theorem dX6_again_56 : decode cX6_again 56 = .ok (.ireturn, 1) := by decide +kernel
theorem dX6_again_57 : decode cX6_again 57 = .ok (.aload_n 0, 1) := by decide +kernel
theorem dX6_again_58 : decode cX6_again 58 = .ok (.iload_n 1, 1) := by decide +kernel
theorem dX6_again_59 : decode cX6_again 59 = .ok (.invokevirtual 176, 3) := by decide +kernel
theorem dX6_again_62 : decode cX6_again 62 = .ok (.aload_n 0, 1) := by decide +kernel
theorem dX6_again_63 : decode cX6_again 63 = .ok (.getfield 24, 3) := by decide +kernel
theorem dX6_again_66 : decode cX6_again 66 = .ok (.aload_n 0, 1) := by decide +kernel
theorem dX6_again_67 : decode cX6_again 67 = .ok (.getfield 20, 3) := by decide +kernel
theorem dX6_again_70 : decode cX6_again 70 = .ok (.aload_n 0, 1) := by decide +kernel
theorem dX6_again_71 : decode cX6_again 71 = .ok (.getfield 59, 3) := by decide +kernel
theorem dX6_again_74 : decode cX6_again 74 = .ok (.iload_n 2, 1) := by decide +kernel
theorem dX6_again_75 : decode cX6_again 75 = .ok (.invokevirtual 179, 3) := by decide +kernel
theorem dX6_again_78 : decode cX6_again 78 = .ok (.iload_n 3, 1) := by decide +kernel
theorem dX6_again_79 : decode cX6_again 79 = .ok (.ifCond .ne 13, 3) := by decide +kernel
theorem dX6_again_82 : decode cX6_again 82 = .ok (.aload_n 0, 1) := by decide +kernel
theorem dX6_again_83 : decode cX6_again 83 = .ok (.getfield 24, 3) := by decide +kernel
theorem dX6_again_86 : decode cX6_again 86 = .ok (.invokevirtual 183, 3) := by decide +kernel
theorem dX6_again_89 : decode cX6_again 89 = .ok (.goto 10, 3) := by decide +kernel
theorem dX6_again_92 : decode cX6_again 92 = .ok (.aload_n 0, 1) := by decide +kernel
theorem dX6_again_93 : decode cX6_again 93 = .ok (.getfield 24, 3) := by decide +kernel
theorem dX6_again_96 : decode cX6_again 96 = .ok (.invokevirtual 186, 3) := by decide +kernel
theorem dX6_again_99 : decode cX6_again 99 = .ok (.ireturn, 1) := by decide +kernel
theorem dX6_worth_0 : decode cX6_worth 0 = .ok (.iload_n 1, 1) := by decide +kernel
theorem dX6_worth_1 : decode cX6_worth 1 = .ok (.iconst 4, 1) := by decide +kernel
theorem dX6_worth_2 : decode cX6_worth 2 = .ok (.invokestatic 77, 3) := by decide +kernel
theorem dX6_worth_5 : decode cX6_worth 5 = .ok (.ifCond .eq 20, 3) := by decide +kernel
theorem dX6_worth_8 : decode cX6_worth 8 = .ok (.iload_n 2, 1) := by decide +kernel
theorem dX6_worth_9 : decode cX6_worth 9 = .ok (.iconst 4, 1) := by decide +kernel
theorem dX6_worth_10 : decode cX6_worth 10 = .ok (.invokestatic 77, 3) := by decide +kernel
theorem dX6_worth_13 : decode cX6_worth 13 = .ok (.ifCond .eq 12, 3) := by decide +kernel
theorem dX6_worth_16 : decode cX6_worth 16 = .ok (.iload_n 3, 1) := by decide +kernel
theorem dX6_worth_17 : decode cX6_worth 17 = .ok (.bipush 10, 2) := by decide +kernel
theorem dX6_worth_19 : decode cX6_worth 19 = .ok (.invokestatic 77, 3) := by decide +kernel
theorem dX6_worth_22 : decode cX6_worth 22 = .ok (.ifCond .ne 6, 3) := by decide +kernel
theorem dX6_worth_25 : decode cX6_worth 25 = .ok (.bipush (-2), 2) := by decide +kernel
theorem dX6_worth_27 : decode cX6_worth 27 = .ok (.ireturn, 1) := by decide +kernel
theorem dX6_worth_28 : decode cX6_worth 28 = .ok (.iload_n 1, 1) := by decide +kernel
theorem dX6_worth_29 : decode cX6_worth 29 = .ok (.iconst 4, 1) := by decide +kernel
theorem dX6_worth_30 : decode cX6_worth 30 = .ok (.imul, 1) := by decide +kernel
theorem dX6_worth_31 : decode cX6_worth 31 = .ok (.iload_n 2, 1) := by decide +kernel
theorem dX6_worth_32 : decode cX6_worth 32 = .ok (.iadd, 1) := by decide +kernel
theorem dX6_worth_33 : decode cX6_worth 33 = .ok (.istore 4, 2) := by decide +kernel
theorem dX6_worth_35 : decode cX6_worth 35 = .ok (.aload_n 0, 1) := by decide +kernel
theorem dX6_worth_36 : decode cX6_worth 36 = .ok (.getfield 53, 3) := by decide +kernel
theorem dX6_worth_39 : decode cX6_worth 39 = .ok (.iload 4, 2) := by decide +kernel
theorem dX6_worth_41 : decode cX6_worth 41 = .ok (.iaload, 1) := by decide +kernel
theorem dX6_worth_42 : decode cX6_worth 42 = .ok (.istore 5, 2) := by decide +kernel
theorem dX6_worth_44 : decode cX6_worth 44 = .ok (.aload_n 0, 1) := by decide +kernel
theorem dX6_worth_45 : decode cX6_worth 45 = .ok (.getfield 53, 3) := by decide +kernel
theorem dX6_worth_48 : decode cX6_worth 48 = .ok (.iload 4, 2) := by decide +kernel
theorem dX6_worth_50 : decode cX6_worth 50 = .ok (.iload_n 3, 1) := by decide +kernel
theorem dX6_worth_51 : decode cX6_worth 51 = .ok (.iastore, 1) := by decide +kernel
theorem dX6_worth_52 : decode cX6_worth 52 = .ok (.iload 5, 2) := by decide +kernel
theorem dX6_worth_54 : decode cX6_worth 54 = .ok (.ireturn, 1) := by decide +kernel
theorem dX6_value_0 : decode cX6_value 0 = .ok (.aload_n 0, 1) := by decide +kernel
theorem dX6_value_1 : decode cX6_value 1 = .ok (.iload_n 1, 1) := by decide +kernel
theorem dX6_value_2 : decode cX6_value 2 = .ok (.invokevirtual 104, 3) := by decide +kernel
theorem dX6_value_5 : decode cX6_value 5 = .ok (.ifCond .eq 11, 3) := by decide +kernel
theorem dX6_value_8 : decode cX6_value 8 = .ok (.iload_n 2, 1) := by decide +kernel
theorem dX6_value_9 : decode cX6_value 9 = .ok (.iconst 4, 1) := by decide +kernel
theorem dX6_value_10 : decode cX6_value 10 = .ok (.invokestatic 77, 3) := by decide +kernel
theorem dX6_value_13 : decode cX6_value 13 = .ok (.ifCond .ne 6, 3) := by decide +kernel
theorem dX6_value_16 : decode cX6_value 16 = .ok (.bipush (-2), 2) := by decide +kernel
theorem dX6_value_18 : decode cX6_value 18 = .ok (.ireturn, 1) := by decide +kernel
theorem dX6_value_19 : decode cX6_value 19 = .ok (.aload_n 0, 1) := by decide +kernel
theorem dX6_value_20 : decode cX6_value 20 = .ok (.iload_n 2, 1) := by decide +kernel
theorem dX6_value_21 : decode cX6_value 21 = .ok (.iload_n 1, 1) := by decide +kernel
theorem dX6_value_22 : decode cX6_value 22 = .ok (.invokevirtual 189, 3) := by decide +kernel
theorem dX6_value_25 : decode cX6_value 25 = .ok (.ireturn, 1) := by decide +kernel
theorem dX6_change_0 : decode cX6_change 0 = .ok (.aload_n 0, 1) := by decide +kernel
theorem dX6_change_1 : decode cX6_change 1 = .ok (.iload_n 1, 1) := by decide +kernel
theorem dX6_change_2 : decode cX6_change 2 = .ok (.invokevirtual 104, 3) := by decide +kernel
theorem dX6_change_5 : decode cX6_change 5 = .ok (.ifCond .eq 16, 3) := by decide +kernel
theorem dX6_change_8 : decode cX6_change 8 = .ok (.aload_n 0, 1) := by decide +kernel
theorem dX6_change_9 : decode cX6_change 9 = .ok (.iload_n 2, 1) := by decide +kernel
theorem dX6_change_10 : decode cX6_change 10 = .ok (.invokevirtual 104, 3) := by decide +kernel
theorem dX6_change_13 : decode cX6_change 13 = .ok (.ifCond .eq 8, 3) := by decide +kernel
theorem dX6_change_16 : decode cX6_change 16 = .ok (.iload_n 1, 1) := by decide +kernel
theorem dX6_change_17 : decode cX6_change 17 = .ok (.iload_n 2, 1) := by decide +kernel
theorem dX6_change_18 : decode cX6_change 18 = .ok (.if_icmp .ne 6, 3) := by decide +kernel
theorem dX6_change_21 : decode cX6_change 21 = .ok (.bipush (-2), 2) := by decide +kernel
theorem dX6_change_23 : decode cX6_change 23 = .ok (.ireturn, 1) := by decide +kernel
theorem dX6_change_24 : decode cX6_change 24 = .ok (.aload_n 0, 1) := by decide +kernel
theorem dX6_change_25 : decode cX6_change 25 = .ok (.iload_n 1, 1) := by decide +kernel
theorem dX6_change_26 : decode cX6_change 26 = .ok (.iload_n 2, 1) := by decide +kernel
theorem dX6_change_27 : decode cX6_change 27 = .ok (.invokevirtual 192, 3) := by decide +kernel
theorem dX6_change_30 : decode cX6_change 30 = .ok (.ifCond .eq 7, 3) := by decide +kernel
theorem dX6_change_33 : decode cX6_change 33 = .ok (.iconst 1, 1) := by decide +kernel
theorem dX6_change_34 : decode cX6_change 34 = .ok (.goto 4, 3) := by decide +kernel
theorem dX6_change_37 : decode cX6_change 37 = .ok (.iconst 0, 1) := by decide +kernel
theorem dX6_change_38 : decode cX6_change 38 = .ok (.ireturn, 1) := by decide +kernel
theorem dX6_changes_0 : decode cX6_changes 0 = .ok (.iload_n 1, 1) := by decide +kernel
theorem dX6_changes_1 : decode cX6_changes 1 = .ok (.iconst 2, 1) := by decide +kernel
theorem dX6_changes_2 : decode cX6_changes 2 = .ok (.invokestatic 77, 3) := by decide +kernel
theorem dX6_changes_5 : decode cX6_changes 5 = .ok (.ifCond .ne 6, 3) := by decide +kernel
theorem dX6_changes_8 : decode cX6_changes 8 = .ok (.bipush (-2), 2) := by decide +kernel
theorem dX6_changes_10 : decode cX6_changes 10 = .ok (.ireturn, 1) := by decide +kernel
theorem dX6_changes_11 : decode cX6_changes 11 = .ok (.iload_n 1, 1) := by decide +kernel
theorem dX6_changes_12 : decode cX6_changes 12 = .ok (.ifCond .ne 10, 3) := by decide +kernel
theorem dX6_changes_15 : decode cX6_changes 15 = .ok (.aload_n 0, 1) := by decide +kernel
theorem dX6_changes_16 : decode cX6_changes 16 = .ok (.invokevirtual 195, 3) := by decide +kernel
theorem dX6_changes_19 : decode cX6_changes 19 = .ok (.goto 7, 3) := by decide +kernel
theorem dX6_changes_22 : decode cX6_changes 22 = .ok (.aload_n 0, 1) := by decide +kernel
theorem dX6_changes_23 : decode cX6_changes 23 = .ok (.invokevirtual 198, 3) := by decide +kernel
theorem dX6_changes_26 : decode cX6_changes 26 = .ok (.ireturn, 1) := by decide +kernel
theorem dX6_sort_0 : decode cX6_sort 0 = .ok (.iload_n 1, 1) := by decide +kernel
theorem dX6_sort_1 : decode cX6_sort 1 = .ok (.iconst 3, 1) := by decide +kernel
theorem dX6_sort_2 : decode cX6_sort 2 = .ok (.invokestatic 77, 3) := by decide +kernel
theorem dX6_sort_5 : decode cX6_sort 5 = .ok (.ifCond .eq 11, 3) := by decide +kernel
theorem dX6_sort_8 : decode cX6_sort 8 = .ok (.iload_n 2, 1) := by decide +kernel
theorem dX6_sort_9 : decode cX6_sort 9 = .ok (.iconst 2, 1) := by decide +kernel
theorem dX6_sort_10 : decode cX6_sort 10 = .ok (.invokestatic 77, 3) := by decide +kernel
theorem dX6_sort_13 : decode cX6_sort 13 = .ok (.ifCond .ne 6, 3) := by decide +kernel
theorem dX6_sort_16 : decode cX6_sort 16 = .ok (.bipush (-2), 2) := by decide +kernel
theorem dX6_sort_18 : decode cX6_sort 18 = .ok (.ireturn, 1) := by decide +kernel
theorem dX6_sort_19 : decode cX6_sort 19 = .ok (.iload_n 3, 1) := by decide +kernel
theorem dX6_sort_20 : decode cX6_sort 20 = .ok (.iload_n 2, 1) := by decide +kernel
theorem dX6_sort_21 : decode cX6_sort 21 = .ok (.ifCond .ne 9, 3) := by decide +kernel
theorem dX6_sort_24 : decode cX6_sort 24 = .ok (.sipush 9999, 3) := by decide +kernel
theorem dX6_sort_27 : decode cX6_sort 27 = .ok (.goto 5, 3) := by decide +kernel
theorem dX6_sort_30 : decode cX6_sort 30 = .ok (.bipush 99, 2) := by decide +kernel
theorem dX6_sort_32 : decode cX6_sort 32 = .ok (.iconst 1, 1) := by decide +kernel
theorem dX6_sort_33 : decode cX6_sort 33 = .ok (.iadd, 1) := by decide +kernel
theorem dX6_sort_34 : decode cX6_sort 34 = .ok (.invokestatic 77, 3) := by decide +kernel
theorem dX6_sort_37 : decode cX6_sort 37 = .ok (.ifCond .ne 6, 3) := by decide +kernel
theorem dX6_sort_40 : decode cX6_sort 40 = .ok (.bipush (-2), 2) := by decide +kernel
theorem dX6_sort_42 : decode cX6_sort 42 = .ok (.ireturn, 1) := by decide +kernel
theorem dX6_sort_43 : decode cX6_sort 43 = .ok (.aload_n 0, 1) := by decide +kernel
theorem dX6_sort_44 : decode cX6_sort 44 = .ok (.iconst 0, 1) := by decide +kernel
theorem dX6_sort_45 : decode cX6_sort 45 = .ok (.putfield 201, 3) := by decide +kernel
theorem dX6_sort_48 : decode cX6_sort 48 = .ok (.iload_n 2, 1) := by decide +kernel
theorem dX6_sort_49 : decode cX6_sort 49 = .ok (.ifCond .ne 15, 3) := by decide +kernel
theorem dX6_sort_52 : decode cX6_sort 52 = .ok (.aload_n 0, 1) := by decide +kernel
theorem dX6_sort_53 : decode cX6_sort 53 = .ok (.getfield 31, 3) := by decide +kernel
theorem dX6_sort_56 : decode cX6_sort 56 = .ok (.iload_n 1, 1) := by decide +kernel
theorem dX6_sort_57 : decode cX6_sort 57 = .ok (.iload_n 3, 1) := by decide +kernel
theorem dX6_sort_58 : decode cX6_sort 58 = .ok (.invokevirtual 205, 3) := by decide +kernel
theorem dX6_sort_61 : decode cX6_sort 61 = .ok (.goto 12, 3) := by decide +kernel
theorem dX6_sort_64 : decode cX6_sort 64 = .ok (.aload_n 0, 1) := by decide +kernel
theorem dX6_sort_65 : decode cX6_sort 65 = .ok (.getfield 31, 3) := by decide +kernel
theorem dX6_sort_68 : decode cX6_sort 68 = .ok (.iload_n 1, 1) := by decide +kernel
theorem dX6_sort_69 : decode cX6_sort 69 = .ok (.iload_n 3, 1) := by decide +kernel
theorem dX6_sort_70 : decode cX6_sort 70 = .ok (.invokevirtual 208, 3) := by decide +kernel
theorem dX6_sort_73 : decode cX6_sort 73 = .ok (.ireturn, 1) := by decide +kernel
theorem dX6_set_0 : decode cX6_set 0 = .ok (.iload_n 1, 1) := by decide +kernel
theorem dX6_set_1 : decode cX6_set 1 = .ok (.iconst (-1), 1) := by decide +kernel
theorem dX6_set_2 : decode cX6_set 2 = .ok (.if_icmp .eq 14, 3) := by decide +kernel
theorem dX6_set_5 : decode cX6_set 5 = .ok (.aload_n 0, 1) := by decide +kernel
theorem dX6_set_6 : decode cX6_set 6 = .ok (.iload_n 1, 1) := by decide +kernel
theorem dX6_set_7 : decode cX6_set 7 = .ok (.invokevirtual 104, 3) := by decide +kernel
theorem dX6_set_10 : decode cX6_set 10 = .ok (.ifCond .ne 6, 3) := by decide +kernel
theorem dX6_set_13 : decode cX6_set 13 = .ok (.bipush (-2), 2) := by decide +kernel
theorem dX6_set_15 : decode cX6_set 15 = .ok (.ireturn, 1) := by decide +kernel
theorem dX6_set_16 : decode cX6_set 16 = .ok (.aload_n 0, 1) := by decide +kernel
theorem dX6_set_17 : decode cX6_set 17 = .ok (.getfield 201, 3) := by decide +kernel
theorem dX6_set_20 : decode cX6_set 20 = .ok (.ifCond .ne 29, 3) := by decide +kernel
theorem dX6_set_23 : decode cX6_set 23 = .ok (.aload_n 0, 1) := by decide +kernel
theorem dX6_set_24 : decode cX6_set 24 = .ok (.getfield 31, 3) := by decide +kernel
theorem dX6_set_27 : decode cX6_set 27 = .ok (.aload_n 0, 1) := by decide +kernel
theorem dX6_set_28 : decode cX6_set 28 = .ok (.getfield 10, 3) := by decide +kernel
theorem dX6_set_31 : decode cX6_set 31 = .ok (.invokevirtual 211, 3) := by decide +kernel
theorem dX6_set_34 : decode cX6_set 34 = .ok (.aload_n 0, 1) := by decide +kernel
theorem dX6_set_35 : decode cX6_set 35 = .ok (.getfield 20, 3) := by decide +kernel
theorem dX6_set_38 : decode cX6_set 38 = .ok (.invokevirtual 155, 3) := by decide +kernel
theorem dX6_set_41 : decode cX6_set 41 = .ok (.invokevirtual 215, 3) := by decide +kernel
theorem dX6_set_44 : decode cX6_set 44 = .ok (.aload_n 0, 1) := by decide +kernel
theorem dX6_set_45 : decode cX6_set 45 = .ok (.iconst 1, 1) := by decide +kernel
theorem dX6_set_46 : decode cX6_set 46 = .ok (.putfield 201, 3) := by decide +kernel
theorem dX6_set_49 : decode cX6_set 49 = .ok (.iload_n 1, 1) := by decide +kernel
theorem dX6_set_50 : decode cX6_set 50 = .ok (.iconst (-1), 1) := by decide +kernel
theorem dX6_set_51 : decode cX6_set 51 = .ok (.if_icmp .ne 13, 3) := by decide +kernel
theorem dX6_set_54 : decode cX6_set 54 = .ok (.aload_n 0, 1) := by decide +kernel
theorem dX6_set_55 : decode cX6_set 55 = .ok (.getfield 31, 3) := by decide +kernel
theorem dX6_set_58 : decode cX6_set 58 = .ok (.invokevirtual 218, 3) := by decide +kernel
theorem dX6_set_61 : decode cX6_set 61 = .ok (.goto 11, 3) := by decide +kernel
theorem dX6_set_64 : decode cX6_set 64 = .ok (.aload_n 0, 1) := by decide +kernel
theorem dX6_set_65 : decode cX6_set 65 = .ok (.getfield 31, 3) := by decide +kernel
theorem dX6_set_68 : decode cX6_set 68 = .ok (.iload_n 1, 1) := by decide +kernel
theorem dX6_set_69 : decode cX6_set 69 = .ok (.invokevirtual 221, 3) := by decide +kernel
theorem dX6_set_72 : decode cX6_set 72 = .ok (.ireturn, 1) := by decide +kernel
theorem dX6_seen_0 : decode cX6_seen 0 = .ok (.iload_n 1, 1) := by decide +kernel
theorem dX6_seen_1 : decode cX6_seen 1 = .ok (.iconst 4, 1) := by decide +kernel
theorem dX6_seen_2 : decode cX6_seen 2 = .ok (.invokestatic 77, 3) := by decide +kernel
theorem dX6_seen_5 : decode cX6_seen 5 = .ok (.ifCond .eq 12, 3) := by decide +kernel
theorem dX6_seen_8 : decode cX6_seen 8 = .ok (.iload_n 2, 1) := by decide +kernel
theorem dX6_seen_9 : decode cX6_seen 9 = .ok (.bipush 12, 2) := by decide +kernel
theorem dX6_seen_11 : decode cX6_seen 11 = .ok (.invokestatic 77, 3) := by decide +kernel
theorem dX6_seen_14 : decode cX6_seen 14 = .ok (.ifCond .ne 6, 3) := by decide +kernel
theorem dX6_seen_17 : decode cX6_seen 17 = .ok (.bipush (-2), 2) := by decide +kernel
theorem dX6_seen_19 : decode cX6_seen 19 = .ok (.ireturn, 1) := by decide +kernel
theorem dX6_seen_20 : decode cX6_seen 20 = .ok (.aload_n 0, 1) := by decide +kernel
theorem dX6_seen_21 : decode cX6_seen 21 = .ok (.getfield 224, 3) := by decide +kernel
theorem dX6_seen_24 : decode cX6_seen 24 = .ok (.bipush 8, 2) := by decide +kernel
theorem dX6_seen_26 : decode cX6_seen 26 = .ok (.if_icmp .lt 6, 3) := by decide +kernel
theorem dX6_seen_29 : decode cX6_seen 29 = .ok (.bipush (-4), 2) := by decide +kernel
theorem dX6_seen_31 : decode cX6_seen 31 = .ok (.ireturn, 1) := by decide +kernel
theorem dX6_seen_32 : decode cX6_seen 32 = .ok (.aload_n 0, 1) := by decide +kernel
theorem dX6_seen_33 : decode cX6_seen 33 = .ok (.getfield 62, 3) := by decide +kernel
theorem dX6_seen_36 : decode cX6_seen 36 = .ok (.aload_n 0, 1) := by decide +kernel
theorem dX6_seen_37 : decode cX6_seen 37 = .ok (.getfield 224, 3) := by decide +kernel
theorem dX6_seen_40 : decode cX6_seen 40 = .ok (.iload_n 1, 1) := by decide +kernel
theorem dX6_seen_41 : decode cX6_seen 41 = .ok (.iastore, 1) := by decide +kernel
theorem dX6_seen_42 : decode cX6_seen 42 = .ok (.aload_n 0, 1) := by decide +kernel
theorem dX6_seen_43 : decode cX6_seen 43 = .ok (.getfield 65, 3) := by decide +kernel
theorem dX6_seen_46 : decode cX6_seen 46 = .ok (.aload_n 0, 1) := by decide +kernel
theorem dX6_seen_47 : decode cX6_seen 47 = .ok (.getfield 224, 3) := by decide +kernel
theorem dX6_seen_50 : decode cX6_seen 50 = .ok (.iload_n 2, 1) := by decide +kernel
theorem dX6_seen_51 : decode cX6_seen 51 = .ok (.iastore, 1) := by decide +kernel
theorem dX6_seen_52 : decode cX6_seen 52 = .ok (.aload_n 0, 1) := by decide +kernel
theorem dX6_seen_53 : decode cX6_seen 53 = .ok (.dup, 1) := by decide +kernel
theorem dX6_seen_54 : decode cX6_seen 54 = .ok (.getfield 224, 3) := by decide +kernel
theorem dX6_seen_57 : decode cX6_seen 57 = .ok (.iconst 1, 1) := by decide +kernel
theorem dX6_seen_58 : decode cX6_seen 58 = .ok (.iadd, 1) := by decide +kernel
theorem dX6_seen_59 : decode cX6_seen 59 = .ok (.putfield 224, 3) := by decide +kernel
theorem dX6_seen_62 : decode cX6_seen 62 = .ok (.aload_n 0, 1) := by decide +kernel
theorem dX6_seen_63 : decode cX6_seen 63 = .ok (.getfield 224, 3) := by decide +kernel
theorem dX6_seen_66 : decode cX6_seen 66 = .ok (.ireturn, 1) := by decide +kernel
theorem dX6_forget_0 : decode cX6_forget 0 = .ok (.aload_n 0, 1) := by decide +kernel
theorem dX6_forget_1 : decode cX6_forget 1 = .ok (.getfield 224, 3) := by decide +kernel
theorem dX6_forget_4 : decode cX6_forget 4 = .ok (.istore_n 1, 1) := by decide +kernel
theorem dX6_forget_5 : decode cX6_forget 5 = .ok (.aload_n 0, 1) := by decide +kernel
theorem dX6_forget_6 : decode cX6_forget 6 = .ok (.iconst 0, 1) := by decide +kernel
theorem dX6_forget_7 : decode cX6_forget 7 = .ok (.putfield 224, 3) := by decide +kernel
theorem dX6_forget_10 : decode cX6_forget 10 = .ok (.iload_n 1, 1) := by decide +kernel
theorem dX6_forget_11 : decode cX6_forget 11 = .ok (.ireturn, 1) := by decide +kernel
theorem dX6_whose_0 : decode cX6_whose 0 = .ok (.iload_n 1, 1) := by decide +kernel
theorem dX6_whose_1 : decode cX6_whose 1 = .ok (.iconst 2, 1) := by decide +kernel
theorem dX6_whose_2 : decode cX6_whose 2 = .ok (.invokestatic 77, 3) := by decide +kernel
theorem dX6_whose_5 : decode cX6_whose 5 = .ok (.ifCond .ne 6, 3) := by decide +kernel
theorem dX6_whose_8 : decode cX6_whose 8 = .ok (.bipush (-2), 2) := by decide +kernel
theorem dX6_whose_10 : decode cX6_whose 10 = .ok (.ireturn, 1) := by decide +kernel
theorem dX6_whose_11 : decode cX6_whose 11 = .ok (.iconst 0, 1) := by decide +kernel
theorem dX6_whose_12 : decode cX6_whose 12 = .ok (.istore_n 2, 1) := by decide +kernel
theorem dX6_whose_13 : decode cX6_whose 13 = .ok (.iconst 0, 1) := by decide +kernel
theorem dX6_whose_14 : decode cX6_whose 14 = .ok (.istore_n 3, 1) := by decide +kernel
theorem dX6_whose_15 : decode cX6_whose 15 = .ok (.iconst 0, 1) := by decide +kernel
theorem dX6_whose_16 : decode cX6_whose 16 = .ok (.istore 4, 2) := by decide +kernel
theorem dX6_whose_18 : decode cX6_whose 18 = .ok (.iload 4, 2) := by decide +kernel
theorem dX6_whose_20 : decode cX6_whose 20 = .ok (.aload_n 0, 1) := by decide +kernel
theorem dX6_whose_21 : decode cX6_whose 21 = .ok (.getfield 20, 3) := by decide +kernel
theorem dX6_whose_24 : decode cX6_whose 24 = .ok (.invokevirtual 155, 3) := by decide +kernel
theorem dX6_whose_27 : decode cX6_whose 27 = .ok (.if_icmp .ge 37, 3) := by decide +kernel
theorem dX6_whose_30 : decode cX6_whose 30 = .ok (.aload_n 0, 1) := by decide +kernel
theorem dX6_whose_31 : decode cX6_whose 31 = .ok (.iload 4, 2) := by decide +kernel
theorem dX6_whose_33 : decode cX6_whose 33 = .ok (.invokevirtual 228, 3) := by decide +kernel
theorem dX6_whose_36 : decode cX6_whose 36 = .ok (.ifCond .eq 22, 3) := by decide +kernel
theorem dX6_whose_39 : decode cX6_whose 39 = .ok (.iload_n 2, 1) := by decide +kernel
theorem dX6_whose_40 : decode cX6_whose 40 = .ok (.iconst 1, 1) := by decide +kernel
theorem dX6_whose_41 : decode cX6_whose 41 = .ok (.iload 4, 2) := by decide +kernel
theorem dX6_whose_43 : decode cX6_whose 43 = .ok (.ishl, 1) := by decide +kernel
theorem dX6_whose_44 : decode cX6_whose 44 = .ok (.ior, 1) := by decide +kernel
theorem dX6_whose_45 : decode cX6_whose 45 = .ok (.istore_n 2, 1) := by decide +kernel
theorem dX6_whose_46 : decode cX6_whose 46 = .ok (.iload_n 3, 1) := by decide +kernel
theorem dX6_whose_47 : decode cX6_whose 47 = .ok (.iconst 1, 1) := by decide +kernel
theorem dX6_whose_48 : decode cX6_whose 48 = .ok (.aload_n 0, 1) := by decide +kernel
theorem dX6_whose_49 : decode cX6_whose 49 = .ok (.getfield 49, 3) := by decide +kernel
theorem dX6_whose_52 : decode cX6_whose 52 = .ok (.iload 4, 2) := by decide +kernel
theorem dX6_whose_54 : decode cX6_whose 54 = .ok (.iaload, 1) := by decide +kernel
theorem dX6_whose_55 : decode cX6_whose 55 = .ok (.ishl, 1) := by decide +kernel
theorem dX6_whose_56 : decode cX6_whose 56 = .ok (.ior, 1) := by decide +kernel
theorem dX6_whose_57 : decode cX6_whose 57 = .ok (.istore_n 3, 1) := by decide +kernel
theorem dX6_whose_58 : decode cX6_whose 58 = .ok (.iinc 4 1, 3) := by decide +kernel
theorem dX6_whose_61 : decode cX6_whose 61 = .ok (.goto (-43), 3) := by decide +kernel
theorem dX6_whose_64 : decode cX6_whose 64 = .ok (.iload_n 1, 1) := by decide +kernel
theorem dX6_whose_65 : decode cX6_whose 65 = .ok (.ifCond .ne 7, 3) := by decide +kernel
theorem dX6_whose_68 : decode cX6_whose 68 = .ok (.iload_n 2, 1) := by decide +kernel
theorem dX6_whose_69 : decode cX6_whose 69 = .ok (.goto 7, 3) := by decide +kernel
theorem dX6_whose_72 : decode cX6_whose 72 = .ok (.iload_n 3, 1) := by decide +kernel
theorem dX6_whose_73 : decode cX6_whose 73 = .ok (.invokestatic 231, 3) := by decide +kernel
theorem dX6_whose_76 : decode cX6_whose 76 = .ok (.ireturn, 1) := by decide +kernel
theorem dX6_clouds_0 : decode cX6_clouds 0 = .ok (.iload_n 1, 1) := by decide +kernel
theorem dX6_clouds_1 : decode cX6_clouds 1 = .ok (.iconst 4, 1) := by decide +kernel
theorem dX6_clouds_2 : decode cX6_clouds 2 = .ok (.invokestatic 77, 3) := by decide +kernel
theorem dX6_clouds_5 : decode cX6_clouds 5 = .ok (.ifCond .eq 12, 3) := by decide +kernel
theorem dX6_clouds_8 : decode cX6_clouds 8 = .ok (.iload_n 2, 1) := by decide +kernel
theorem dX6_clouds_9 : decode cX6_clouds 9 = .ok (.bipush 17, 2) := by decide +kernel
theorem dX6_clouds_11 : decode cX6_clouds 11 = .ok (.invokestatic 77, 3) := by decide +kernel
theorem dX6_clouds_14 : decode cX6_clouds 14 = .ok (.ifCond .ne 6, 3) := by decide +kernel
theorem dX6_clouds_17 : decode cX6_clouds 17 = .ok (.bipush (-2), 2) := by decide +kernel
theorem dX6_clouds_19 : decode cX6_clouds 19 = .ok (.ireturn, 1) := by decide +kernel
theorem dX6_clouds_20 : decode cX6_clouds 20 = .ok (.aload_n 0, 1) := by decide +kernel
theorem dX6_clouds_21 : decode cX6_clouds 21 = .ok (.getfield 68, 3) := by decide +kernel
theorem dX6_clouds_24 : decode cX6_clouds 24 = .ok (.iload_n 1, 1) := by decide +kernel
theorem dX6_clouds_25 : decode cX6_clouds 25 = .ok (.iaload, 1) := by decide +kernel
theorem dX6_clouds_26 : decode cX6_clouds 26 = .ok (.istore_n 3, 1) := by decide +kernel
theorem dX6_clouds_27 : decode cX6_clouds 27 = .ok (.aload_n 0, 1) := by decide +kernel
theorem dX6_clouds_28 : decode cX6_clouds 28 = .ok (.getfield 68, 3) := by decide +kernel
theorem dX6_clouds_31 : decode cX6_clouds 31 = .ok (.iload_n 1, 1) := by decide +kernel
theorem dX6_clouds_32 : decode cX6_clouds 32 = .ok (.iload_n 2, 1) := by decide +kernel
theorem dX6_clouds_33 : decode cX6_clouds 33 = .ok (.iastore, 1) := by decide +kernel
theorem dX6_clouds_34 : decode cX6_clouds 34 = .ok (.iload_n 3, 1) := by decide +kernel
theorem dX6_clouds_35 : decode cX6_clouds 35 = .ok (.ireturn, 1) := by decide +kernel
theorem dX6_clear_0 : decode cX6_clear 0 = .ok (.aload_n 0, 1) := by decide +kernel
theorem dX6_clear_1 : decode cX6_clear 1 = .ok (.iload_n 1, 1) := by decide +kernel
theorem dX6_clear_2 : decode cX6_clear 2 = .ok (.invokevirtual 104, 3) := by decide +kernel
theorem dX6_clear_5 : decode cX6_clear 5 = .ok (.ifCond .eq 11, 3) := by decide +kernel
theorem dX6_clear_8 : decode cX6_clear 8 = .ok (.iload_n 2, 1) := by decide +kernel
theorem dX6_clear_9 : decode cX6_clear 9 = .ok (.iconst 4, 1) := by decide +kernel
theorem dX6_clear_10 : decode cX6_clear 10 = .ok (.invokestatic 77, 3) := by decide +kernel
theorem dX6_clear_13 : decode cX6_clear 13 = .ok (.ifCond .ne 7, 3) := by decide +kernel
theorem dX6_clear_16 : decode cX6_clear 16 = .ok (.ldc2_w 236, 3) := by decide +kernel
theorem dX6_clear_19 : decode cX6_clear 19 = .ok (.lreturn, 1) := by decide +kernel
theorem dX6_clear_20 : decode cX6_clear 20 = .ok (.iload_n 3, 1) := by decide +kernel
theorem dX6_clear_21 : decode cX6_clear 21 = .ok (.iconst (-1), 1) := by decide +kernel
theorem dX6_clear_22 : decode cX6_clear 22 = .ok (.if_icmp .eq 12, 3) := by decide +kernel
theorem dX6_clear_25 : decode cX6_clear 25 = .ok (.iload_n 3, 1) := by decide +kernel
theorem dX6_clear_26 : decode cX6_clear 26 = .ok (.bipush 13, 2) := by decide +kernel
theorem dX6_clear_28 : decode cX6_clear 28 = .ok (.invokestatic 77, 3) := by decide +kernel
theorem dX6_clear_31 : decode cX6_clear 31 = .ok (.ifCond .eq 12, 3) := by decide +kernel
theorem dX6_clear_34 : decode cX6_clear 34 = .ok (.iload 4, 2) := by decide +kernel
theorem dX6_clear_36 : decode cX6_clear 36 = .ok (.iconst 2, 1) := by decide +kernel
theorem dX6_clear_37 : decode cX6_clear 37 = .ok (.invokestatic 77, 3) := by decide +kernel
theorem dX6_clear_40 : decode cX6_clear 40 = .ok (.ifCond .ne 7, 3) := by decide +kernel
theorem dX6_clear_43 : decode cX6_clear 43 = .ok (.ldc2_w 236, 3) := by decide +kernel
theorem dX6_clear_46 : decode cX6_clear 46 = .ok (.lreturn, 1) := by decide +kernel
theorem dX6_clear_47 : decode cX6_clear 47 = .ok (.aload_n 0, 1) := by decide +kernel
theorem dX6_clear_48 : decode cX6_clear 48 = .ok (.getfield 10, 3) := by decide +kernel
theorem dX6_clear_51 : decode cX6_clear 51 = .ok (.iload_n 1, 1) := by decide +kernel
theorem dX6_clear_52 : decode cX6_clear 52 = .ok (.iload_n 2, 1) := by decide +kernel
theorem dX6_clear_53 : decode cX6_clear 53 = .ok (.invokevirtual 152, 3) := by decide +kernel
theorem dX6_clear_56 : decode cX6_clear 56 = .ok (.istore 5, 2) := by decide +kernel
theorem dX6_clear_58 : decode cX6_clear 58 = .ok (.iload_n 3, 1) := by decide +kernel
theorem dX6_clear_59 : decode cX6_clear 59 = .ok (.iconst (-1), 1) := by decide +kernel
theorem dX6_clear_60 : decode cX6_clear 60 = .ok (.if_icmp .ne 21, 3) := by decide +kernel
theorem dX6_clear_63 : decode cX6_clear 63 = .ok (.aload_n 0, 1) := by decide +kernel
theorem dX6_clear_64 : decode cX6_clear 64 = .ok (.getfield 38, 3) := by decide +kernel
theorem dX6_clear_67 : decode cX6_clear 67 = .ok (.iload 5, 2) := by decide +kernel
theorem dX6_clear_69 : decode cX6_clear 69 = .ok (.aload_n 0, 1) := by decide +kernel
theorem dX6_clear_70 : decode cX6_clear 70 = .ok (.getfield 68, 3) := by decide +kernel
theorem dX6_clear_73 : decode cX6_clear 73 = .ok (.iload_n 2, 1) := by decide +kernel
theorem dX6_clear_74 : decode cX6_clear 74 = .ok (.iaload, 1) := by decide +kernel
theorem dX6_clear_75 : decode cX6_clear 75 = .ok (.invokevirtual 238, 3) := by decide +kernel
theorem dX6_clear_78 : decode cX6_clear 78 = .ok (.goto 19, 3) := by decide +kernel
theorem dX6_clear_81 : decode cX6_clear 81 = .ok (.aload_n 0, 1) := by decide +kernel
theorem dX6_clear_82 : decode cX6_clear 82 = .ok (.getfield 38, 3) := by decide +kernel
theorem dX6_clear_85 : decode cX6_clear 85 = .ok (.iload 5, 2) := by decide +kernel
theorem dX6_clear_87 : decode cX6_clear 87 = .ok (.aload_n 0, 1) := by decide +kernel
theorem dX6_clear_88 : decode cX6_clear 88 = .ok (.getfield 68, 3) := by decide +kernel
theorem dX6_clear_91 : decode cX6_clear 91 = .ok (.iload_n 2, 1) := by decide +kernel
theorem dX6_clear_92 : decode cX6_clear 92 = .ok (.iaload, 1) := by decide +kernel
theorem dX6_clear_93 : decode cX6_clear 93 = .ok (.iload_n 3, 1) := by decide +kernel
theorem dX6_clear_94 : decode cX6_clear 94 = .ok (.invokevirtual 241, 3) := by decide +kernel
theorem dX6_clear_97 : decode cX6_clear 97 = .ok (.iload 4, 2) := by decide +kernel
theorem dX6_clear_99 : decode cX6_clear 99 = .ok (.ifCond .ne 13, 3) := by decide +kernel
theorem dX6_clear_102 : decode cX6_clear 102 = .ok (.aload_n 0, 1) := by decide +kernel
theorem dX6_clear_103 : decode cX6_clear 103 = .ok (.getfield 38, 3) := by decide +kernel
theorem dX6_clear_106 : decode cX6_clear 106 = .ok (.invokevirtual 245, 3) := by decide +kernel
theorem dX6_clear_109 : decode cX6_clear 109 = .ok (.goto 10, 3) := by decide +kernel
theorem dX6_clear_112 : decode cX6_clear 112 = .ok (.aload_n 0, 1) := by decide +kernel
theorem dX6_clear_113 : decode cX6_clear 113 = .ok (.getfield 38, 3) := by decide +kernel
theorem dX6_clear_116 : decode cX6_clear 116 = .ok (.invokevirtual 249, 3) := by decide +kernel
theorem dX6_clear_119 : decode cX6_clear 119 = .ok (.lreturn, 1) := by decide +kernel
theorem dX6_sheet_0 : decode cX6_sheet 0 = .ok (.iload_n 1, 1) := by decide +kernel
theorem dX6_sheet_1 : decode cX6_sheet 1 = .ok (.iconst 4, 1) := by decide +kernel
theorem dX6_sheet_2 : decode cX6_sheet 2 = .ok (.invokestatic 77, 3) := by decide +kernel
theorem dX6_sheet_5 : decode cX6_sheet 5 = .ok (.ifCond .eq 17, 3) := by decide +kernel
theorem dX6_sheet_8 : decode cX6_sheet 8 = .ok (.iload_n 2, 1) := by decide +kernel
theorem dX6_sheet_9 : decode cX6_sheet 9 = .ok (.iconst 3, 1) := by decide +kernel
theorem dX6_sheet_10 : decode cX6_sheet 10 = .ok (.invokestatic 77, 3) := by decide +kernel
theorem dX6_sheet_13 : decode cX6_sheet 13 = .ok (.ifCond .eq 9, 3) := by decide +kernel
theorem dX6_sheet_16 : decode cX6_sheet 16 = .ok (.iload_n 3, 1) := by decide +kernel
theorem dX6_sheet_17 : decode cX6_sheet 17 = .ok (.bipush 48, 2) := by decide +kernel
theorem dX6_sheet_19 : decode cX6_sheet 19 = .ok (.if_icmp .le 6, 3) := by decide +kernel
theorem dX6_sheet_22 : decode cX6_sheet 22 = .ok (.bipush (-2), 2) := by decide +kernel
theorem dX6_sheet_24 : decode cX6_sheet 24 = .ok (.ireturn, 1) := by decide +kernel
theorem dX6_sheet_25 : decode cX6_sheet 25 = .ok (.iload_n 3, 1) := by decide +kernel
theorem dX6_sheet_26 : decode cX6_sheet 26 = .ok (.ifCond .ge 9, 3) := by decide +kernel
theorem dX6_sheet_29 : decode cX6_sheet 29 = .ok (.aload_n 0, 1) := by decide +kernel
theorem dX6_sheet_30 : decode cX6_sheet 30 = .ok (.iconst 5, 1) := by decide +kernel
theorem dX6_sheet_31 : decode cX6_sheet 31 = .ok (.invokevirtual 122, 3) := by decide +kernel
theorem dX6_sheet_34 : decode cX6_sheet 34 = .ok (.ireturn, 1) := by decide +kernel
theorem dX6_sheet_35 : decode cX6_sheet 35 = .ok (.aload_n 0, 1) := by decide +kernel
theorem dX6_sheet_36 : decode cX6_sheet 36 = .ok (.getfield 45, 3) := by decide +kernel
theorem dX6_sheet_39 : decode cX6_sheet 39 = .ok (.iload_n 1, 1) := by decide +kernel
theorem dX6_sheet_40 : decode cX6_sheet 40 = .ok (.iload_n 2, 1) := by decide +kernel
theorem dX6_sheet_41 : decode cX6_sheet 41 = .ok (.iload_n 3, 1) := by decide +kernel
theorem dX6_sheet_42 : decode cX6_sheet 42 = .ok (.invokevirtual 252, 3) := by decide +kernel
theorem dX6_sheet_45 : decode cX6_sheet 45 = .ok (.iload_n 3, 1) := by decide +kernel
theorem dX6_sheet_46 : decode cX6_sheet 46 = .ok (.ireturn, 1) := by decide +kernel
theorem dX6_lose_0 : decode cX6_lose 0 = .ok (.iload_n 1, 1) := by decide +kernel
theorem dX6_lose_1 : decode cX6_lose 1 = .ok (.iconst 4, 1) := by decide +kernel
theorem dX6_lose_2 : decode cX6_lose 2 = .ok (.invokestatic 77, 3) := by decide +kernel
theorem dX6_lose_5 : decode cX6_lose 5 = .ok (.ifCond .ne 6, 3) := by decide +kernel
theorem dX6_lose_8 : decode cX6_lose 8 = .ok (.bipush (-2), 2) := by decide +kernel
theorem dX6_lose_10 : decode cX6_lose 10 = .ok (.ireturn, 1) := by decide +kernel
theorem dX6_lose_11 : decode cX6_lose 11 = .ok (.aload_n 0, 1) := by decide +kernel
theorem dX6_lose_12 : decode cX6_lose 12 = .ok (.getfield 45, 3) := by decide +kernel
theorem dX6_lose_15 : decode cX6_lose 15 = .ok (.iload_n 1, 1) := by decide +kernel
theorem dX6_lose_16 : decode cX6_lose 16 = .ok (.invokevirtual 119, 3) := by decide +kernel
theorem dX6_lose_19 : decode cX6_lose 19 = .ok (.ifCond .eq 9, 3) := by decide +kernel
theorem dX6_lose_22 : decode cX6_lose 22 = .ok (.aload_n 0, 1) := by decide +kernel
theorem dX6_lose_23 : decode cX6_lose 23 = .ok (.iconst 1, 1) := by decide +kernel
theorem dX6_lose_24 : decode cX6_lose 24 = .ok (.invokevirtual 122, 3) := by decide +kernel
theorem dX6_lose_27 : decode cX6_lose 27 = .ok (.ireturn, 1) := by decide +kernel
theorem dX6_lose_28 : decode cX6_lose 28 = .ok (.aload_n 0, 1) := by decide +kernel
theorem dX6_lose_29 : decode cX6_lose 29 = .ok (.getfield 45, 3) := by decide +kernel
theorem dX6_lose_32 : decode cX6_lose 32 = .ok (.iload_n 1, 1) := by decide +kernel
theorem dX6_lose_33 : decode cX6_lose 33 = .ok (.invokevirtual 125, 3) := by decide +kernel
theorem dX6_lose_36 : decode cX6_lose 36 = .ok (.istore_n 2, 1) := by decide +kernel
theorem dX6_lose_37 : decode cX6_lose 37 = .ok (.aload_n 0, 1) := by decide +kernel
theorem dX6_lose_38 : decode cX6_lose 38 = .ok (.getfield 45, 3) := by decide +kernel
theorem dX6_lose_41 : decode cX6_lose 41 = .ok (.iload_n 1, 1) := by decide +kernel
theorem dX6_lose_42 : decode cX6_lose 42 = .ok (.invokevirtual 255, 3) := by decide +kernel
theorem dX6_lose_45 : decode cX6_lose 45 = .ok (.iload_n 2, 1) := by decide +kernel
theorem dX6_lose_46 : decode cX6_lose 46 = .ok (.ireturn, 1) := by decide +kernel
theorem dX6_put_0 : decode cX6_put 0 = .ok (.aload_n 0, 1) := by decide +kernel
theorem dX6_put_1 : decode cX6_put 1 = .ok (.iload_n 1, 1) := by decide +kernel
theorem dX6_put_2 : decode cX6_put 2 = .ok (.iload_n 2, 1) := by decide +kernel
theorem dX6_put_3 : decode cX6_put 3 = .ok (.iload_n 3, 1) := by decide +kernel
theorem dX6_put_4 : decode cX6_put 4 = .ok (.invokevirtual 258, 3) := by decide +kernel
theorem dX6_put_7 : decode cX6_put 7 = .ok (.istore 5, 2) := by decide +kernel
theorem dX6_put_9 : decode cX6_put 9 = .ok (.iload 5, 2) := by decide +kernel
theorem dX6_put_11 : decode cX6_put 11 = .ok (.ifCond .eq 6, 3) := by decide +kernel
theorem dX6_put_14 : decode cX6_put 14 = .ok (.iload 5, 2) := by decide +kernel
theorem dX6_put_16 : decode cX6_put 16 = .ok (.ireturn, 1) := by decide +kernel
theorem dX6_put_17 : decode cX6_put 17 = .ok (.aload_n 0, 1) := by decide +kernel
theorem dX6_put_18 : decode cX6_put 18 = .ok (.getfield 45, 3) := by decide +kernel
theorem dX6_put_21 : decode cX6_put 21 = .ok (.iload_n 1, 1) := by decide +kernel
theorem dX6_put_22 : decode cX6_put 22 = .ok (.iload_n 3, 1) := by decide +kernel
theorem dX6_put_23 : decode cX6_put 23 = .ok (.iload 4, 2) := by decide +kernel
theorem dX6_put_25 : decode cX6_put 25 = .ok (.invokevirtual 261, 3) := by decide +kernel
theorem dX6_put_28 : decode cX6_put 28 = .ok (.iconst 1, 1) := by decide +kernel
theorem dX6_put_29 : decode cX6_put 29 = .ok (.ireturn, 1) := by decide +kernel
theorem dX6_get_0 : decode cX6_get 0 = .ok (.aload_n 0, 1) := by decide +kernel
theorem dX6_get_1 : decode cX6_get 1 = .ok (.iload_n 1, 1) := by decide +kernel
theorem dX6_get_2 : decode cX6_get 2 = .ok (.iload_n 2, 1) := by decide +kernel
theorem dX6_get_3 : decode cX6_get 3 = .ok (.iload_n 3, 1) := by decide +kernel
theorem dX6_get_4 : decode cX6_get 4 = .ok (.invokevirtual 258, 3) := by decide +kernel
theorem dX6_get_7 : decode cX6_get 7 = .ok (.ifCond .eq 9, 3) := by decide +kernel
theorem dX6_get_10 : decode cX6_get 10 = .ok (.ldc_w 264, 3) := by decide +kernel
theorem dX6_get_13 : decode cX6_get 13 = .ok (.goto 12, 3) := by decide +kernel
theorem dX6_get_16 : decode cX6_get 16 = .ok (.aload_n 0, 1) := by decide +kernel
theorem dX6_get_17 : decode cX6_get 17 = .ok (.getfield 45, 3) := by decide +kernel
theorem dX6_get_20 : decode cX6_get 20 = .ok (.iload_n 1, 1) := by decide +kernel
theorem dX6_get_21 : decode cX6_get 21 = .ok (.iload_n 3, 1) := by decide +kernel
theorem dX6_get_22 : decode cX6_get 22 = .ok (.invokevirtual 133, 3) := by decide +kernel
theorem dX6_get_25 : decode cX6_get 25 = .ok (.ireturn, 1) := by decide +kernel
theorem dX6_copy_0 : decode cX6_copy 0 = .ok (.iload_n 1, 1) := by decide +kernel
theorem dX6_copy_1 : decode cX6_copy 1 = .ok (.iconst 4, 1) := by decide +kernel
theorem dX6_copy_2 : decode cX6_copy 2 = .ok (.invokestatic 77, 3) := by decide +kernel
theorem dX6_copy_5 : decode cX6_copy 5 = .ok (.ifCond .eq 11, 3) := by decide +kernel
theorem dX6_copy_8 : decode cX6_copy 8 = .ok (.iload_n 3, 1) := by decide +kernel
theorem dX6_copy_9 : decode cX6_copy 9 = .ok (.iconst 4, 1) := by decide +kernel
theorem dX6_copy_10 : decode cX6_copy 10 = .ok (.invokestatic 77, 3) := by decide +kernel
theorem dX6_copy_13 : decode cX6_copy 13 = .ok (.ifCond .ne 6, 3) := by decide +kernel
theorem dX6_copy_16 : decode cX6_copy 16 = .ok (.bipush (-2), 2) := by decide +kernel
theorem dX6_copy_18 : decode cX6_copy 18 = .ok (.ireturn, 1) := by decide +kernel
theorem dX6_copy_19 : decode cX6_copy 19 = .ok (.aload_n 0, 1) := by decide +kernel
theorem dX6_copy_20 : decode cX6_copy 20 = .ok (.getfield 45, 3) := by decide +kernel
theorem dX6_copy_23 : decode cX6_copy 23 = .ok (.iload_n 1, 1) := by decide +kernel
theorem dX6_copy_24 : decode cX6_copy 24 = .ok (.invokevirtual 119, 3) := by decide +kernel
theorem dX6_copy_27 : decode cX6_copy 27 = .ok (.ifCond .ne 14, 3) := by decide +kernel
theorem dX6_copy_30 : decode cX6_copy 30 = .ok (.aload_n 0, 1) := by decide +kernel
theorem dX6_copy_31 : decode cX6_copy 31 = .ok (.getfield 45, 3) := by decide +kernel
theorem dX6_copy_34 : decode cX6_copy 34 = .ok (.iload_n 3, 1) := by decide +kernel
theorem dX6_copy_35 : decode cX6_copy 35 = .ok (.invokevirtual 119, 3) := by decide +kernel
theorem dX6_copy_38 : decode cX6_copy 38 = .ok (.ifCond .eq 9, 3) := by decide +kernel
theorem dX6_copy_41 : decode cX6_copy 41 = .ok (.aload_n 0, 1) := by decide +kernel
theorem dX6_copy_42 : decode cX6_copy 42 = .ok (.iconst 1, 1) := by decide +kernel
theorem dX6_copy_43 : decode cX6_copy 43 = .ok (.invokevirtual 122, 3) := by decide +kernel
theorem dX6_copy_46 : decode cX6_copy 46 = .ok (.ireturn, 1) := by decide +kernel
theorem dX6_copy_47 : decode cX6_copy 47 = .ok (.aload_n 0, 1) := by decide +kernel
theorem dX6_copy_48 : decode cX6_copy 48 = .ok (.getfield 45, 3) := by decide +kernel
theorem dX6_copy_51 : decode cX6_copy 51 = .ok (.iload_n 1, 1) := by decide +kernel
theorem dX6_copy_52 : decode cX6_copy 52 = .ok (.invokevirtual 265, 3) := by decide +kernel
theorem dX6_copy_55 : decode cX6_copy 55 = .ok (.aload_n 0, 1) := by decide +kernel
theorem dX6_copy_56 : decode cX6_copy 56 = .ok (.getfield 45, 3) := by decide +kernel
theorem dX6_copy_59 : decode cX6_copy 59 = .ok (.iload_n 3, 1) := by decide +kernel
theorem dX6_copy_60 : decode cX6_copy 60 = .ok (.invokevirtual 265, 3) := by decide +kernel
theorem dX6_copy_63 : decode cX6_copy 63 = .ok (.if_icmp .eq 9, 3) := by decide +kernel
theorem dX6_copy_66 : decode cX6_copy 66 = .ok (.aload_n 0, 1) := by decide +kernel
theorem dX6_copy_67 : decode cX6_copy 67 = .ok (.iconst 4, 1) := by decide +kernel
theorem dX6_copy_68 : decode cX6_copy 68 = .ok (.invokevirtual 122, 3) := by decide +kernel
theorem dX6_copy_71 : decode cX6_copy 71 = .ok (.ireturn, 1) := by decide +kernel
theorem dX6_copy_72 : decode cX6_copy 72 = .ok (.aload_n 0, 1) := by decide +kernel
theorem dX6_copy_73 : decode cX6_copy 73 = .ok (.getfield 45, 3) := by decide +kernel
theorem dX6_copy_76 : decode cX6_copy 76 = .ok (.iload_n 1, 1) := by decide +kernel
theorem dX6_copy_77 : decode cX6_copy 77 = .ok (.iload_n 2, 1) := by decide +kernel
theorem dX6_copy_78 : decode cX6_copy 78 = .ok (.iload 5, 2) := by decide +kernel
theorem dX6_copy_80 : decode cX6_copy 80 = .ok (.invokevirtual 268, 3) := by decide +kernel
theorem dX6_copy_83 : decode cX6_copy 83 = .ok (.ifCond .eq 18, 3) := by decide +kernel
theorem dX6_copy_86 : decode cX6_copy 86 = .ok (.aload_n 0, 1) := by decide +kernel
theorem dX6_copy_87 : decode cX6_copy 87 = .ok (.getfield 45, 3) := by decide +kernel
theorem dX6_copy_90 : decode cX6_copy 90 = .ok (.iload_n 3, 1) := by decide +kernel
theorem dX6_copy_91 : decode cX6_copy 91 = .ok (.iload 4, 2) := by decide +kernel
theorem dX6_copy_93 : decode cX6_copy 93 = .ok (.iload 5, 2) := by decide +kernel
theorem dX6_copy_95 : decode cX6_copy 95 = .ok (.invokevirtual 268, 3) := by decide +kernel
theorem dX6_copy_98 : decode cX6_copy 98 = .ok (.ifCond .ne 9, 3) := by decide +kernel
theorem dX6_copy_101 : decode cX6_copy 101 = .ok (.aload_n 0, 1) := by decide +kernel
theorem dX6_copy_102 : decode cX6_copy 102 = .ok (.iconst 2, 1) := by decide +kernel
theorem dX6_copy_103 : decode cX6_copy 103 = .ok (.invokevirtual 122, 3) := by decide +kernel
theorem dX6_copy_106 : decode cX6_copy 106 = .ok (.ireturn, 1) := by decide +kernel
theorem dX6_copy_107 : decode cX6_copy 107 = .ok (.aload_n 0, 1) := by decide +kernel
theorem dX6_copy_108 : decode cX6_copy 108 = .ok (.getfield 45, 3) := by decide +kernel
theorem dX6_copy_111 : decode cX6_copy 111 = .ok (.iload_n 1, 1) := by decide +kernel
theorem dX6_copy_112 : decode cX6_copy 112 = .ok (.iload_n 2, 1) := by decide +kernel
theorem dX6_copy_113 : decode cX6_copy 113 = .ok (.iload_n 3, 1) := by decide +kernel
theorem dX6_copy_114 : decode cX6_copy 114 = .ok (.iload 4, 2) := by decide +kernel
theorem dX6_copy_116 : decode cX6_copy 116 = .ok (.iload 5, 2) := by decide +kernel
theorem dX6_copy_118 : decode cX6_copy 118 = .ok (.invokevirtual 272, 3) := by decide +kernel
theorem dX6_copy_121 : decode cX6_copy 121 = .ok (.iconst 1, 1) := by decide +kernel
theorem dX6_copy_122 : decode cX6_copy 122 = .ok (.ireturn, 1) := by decide +kernel
theorem dX6_write_0 : decode cX6_write 0 = .ok (.iload_n 1, 1) := by decide +kernel
theorem dX6_write_1 : decode cX6_write 1 = .ok (.iconst 4, 1) := by decide +kernel
theorem dX6_write_2 : decode cX6_write 2 = .ok (.invokestatic 77, 3) := by decide +kernel
theorem dX6_write_5 : decode cX6_write 5 = .ok (.ifCond .eq 11, 3) := by decide +kernel
theorem dX6_write_8 : decode cX6_write 8 = .ok (.iload_n 2, 1) := by decide +kernel
theorem dX6_write_9 : decode cX6_write 9 = .ok (.iconst 4, 1) := by decide +kernel
theorem dX6_write_10 : decode cX6_write 10 = .ok (.invokestatic 77, 3) := by decide +kernel
theorem dX6_write_13 : decode cX6_write 13 = .ok (.ifCond .ne 6, 3) := by decide +kernel
theorem dX6_write_16 : decode cX6_write 16 = .ok (.bipush (-2), 2) := by decide +kernel
theorem dX6_write_18 : decode cX6_write 18 = .ok (.ireturn, 1) := by decide +kernel
theorem dX6_write_19 : decode cX6_write 19 = .ok (.aload_n 0, 1) := by decide +kernel
theorem dX6_write_20 : decode cX6_write 20 = .ok (.getfield 45, 3) := by decide +kernel
theorem dX6_write_23 : decode cX6_write 23 = .ok (.iload_n 2, 1) := by decide +kernel
theorem dX6_write_24 : decode cX6_write 24 = .ok (.invokevirtual 119, 3) := by decide +kernel
theorem dX6_write_27 : decode cX6_write 27 = .ok (.ifCond .eq 9, 3) := by decide +kernel
theorem dX6_write_30 : decode cX6_write 30 = .ok (.aload_n 0, 1) := by decide +kernel
theorem dX6_write_31 : decode cX6_write 31 = .ok (.iconst 1, 1) := by decide +kernel
theorem dX6_write_32 : decode cX6_write 32 = .ok (.invokevirtual 122, 3) := by decide +kernel
theorem dX6_write_35 : decode cX6_write 35 = .ok (.ireturn, 1) := by decide +kernel
theorem dX6_write_36 : decode cX6_write 36 = .ok (.aload_n 0, 1) := by decide +kernel
theorem dX6_write_37 : decode cX6_write 37 = .ok (.getfield 45, 3) := by decide +kernel
theorem dX6_write_40 : decode cX6_write 40 = .ok (.iload_n 2, 1) := by decide +kernel
theorem dX6_write_41 : decode cX6_write 41 = .ok (.invokevirtual 125, 3) := by decide +kernel
theorem dX6_write_44 : decode cX6_write 44 = .ok (.aload_n 0, 1) := by decide +kernel
theorem dX6_write_45 : decode cX6_write 45 = .ok (.getfield 20, 3) := by decide +kernel
theorem dX6_write_48 : decode cX6_write 48 = .ok (.invokevirtual 155, 3) := by decide +kernel
theorem dX6_write_51 : decode cX6_write 51 = .ok (.invokestatic 128, 3) := by decide +kernel
theorem dX6_write_54 : decode cX6_write 54 = .ok (.istore_n 3, 1) := by decide +kernel
theorem dX6_write_55 : decode cX6_write 55 = .ok (.iconst 0, 1) := by decide +kernel
theorem dX6_write_56 : decode cX6_write 56 = .ok (.istore 4, 2) := by decide +kernel
theorem dX6_write_58 : decode cX6_write 58 = .ok (.iload 4, 2) := by decide +kernel
theorem dX6_write_60 : decode cX6_write 60 = .ok (.iload_n 3, 1) := by decide +kernel
theorem dX6_write_61 : decode cX6_write 61 = .ok (.if_icmp .ge 29, 3) := by decide +kernel
theorem dX6_write_64 : decode cX6_write 64 = .ok (.aload_n 0, 1) := by decide +kernel
theorem dX6_write_65 : decode cX6_write 65 = .ok (.getfield 45, 3) := by decide +kernel
theorem dX6_write_68 : decode cX6_write 68 = .ok (.iload_n 2, 1) := by decide +kernel
theorem dX6_write_69 : decode cX6_write 69 = .ok (.iload 4, 2) := by decide +kernel
theorem dX6_write_71 : decode cX6_write 71 = .ok (.aload_n 0, 1) := by decide +kernel
theorem dX6_write_72 : decode cX6_write 72 = .ok (.getfield 10, 3) := by decide +kernel
theorem dX6_write_75 : decode cX6_write 75 = .ok (.iload 4, 2) := by decide +kernel
theorem dX6_write_77 : decode cX6_write 77 = .ok (.iload_n 1, 1) := by decide +kernel
theorem dX6_write_78 : decode cX6_write 78 = .ok (.invokevirtual 152, 3) := by decide +kernel
theorem dX6_write_81 : decode cX6_write 81 = .ok (.invokevirtual 261, 3) := by decide +kernel
theorem dX6_write_84 : decode cX6_write 84 = .ok (.iinc 4 1, 3) := by decide +kernel
theorem dX6_write_87 : decode cX6_write 87 = .ok (.goto (-29), 3) := by decide +kernel
theorem dX6_write_90 : decode cX6_write 90 = .ok (.iload_n 3, 1) := by decide +kernel
theorem dX6_write_91 : decode cX6_write 91 = .ok (.ireturn, 1) := by decide +kernel
theorem dX6_count_0 : decode cX6_count 0 = .ok (.iload_n 1, 1) := by decide +kernel
theorem dX6_count_1 : decode cX6_count 1 = .ok (.tableswitch 111 0 8 #[51, 59, 67, 75, 80, 85, 90, 98, 106], 51) := by decide +kernel
theorem dX6_count_52 : decode cX6_count 52 = .ok (.aload_n 0, 1) := by decide +kernel
theorem dX6_count_53 : decode cX6_count 53 = .ok (.getfield 20, 3) := by decide +kernel
theorem dX6_count_56 : decode cX6_count 56 = .ok (.invokevirtual 155, 3) := by decide +kernel
theorem dX6_count_59 : decode cX6_count 59 = .ok (.ireturn, 1) := by decide +kernel
theorem dX6_count_60 : decode cX6_count 60 = .ok (.aload_n 0, 1) := by decide +kernel
theorem dX6_count_61 : decode cX6_count 61 = .ok (.getfield 20, 3) := by decide +kernel
theorem dX6_count_64 : decode cX6_count 64 = .ok (.invokevirtual 94, 3) := by decide +kernel
theorem dX6_count_67 : decode cX6_count 67 = .ok (.ireturn, 1) := by decide +kernel
theorem dX6_count_68 : decode cX6_count 68 = .ok (.aload_n 0, 1) := by decide +kernel
theorem dX6_count_69 : decode cX6_count 69 = .ok (.getfield 20, 3) := by decide +kernel
theorem dX6_count_72 : decode cX6_count 72 = .ok (.invokevirtual 276, 3) := by decide +kernel
theorem dX6_count_75 : decode cX6_count 75 = .ok (.ireturn, 1) := by decide +kernel
theorem dX6_count_76 : decode cX6_count 76 = .ok (.aload_n 0, 1) := by decide +kernel
theorem dX6_count_77 : decode cX6_count 77 = .ok (.invokevirtual 279, 3) := by decide +kernel
theorem dX6_count_80 : decode cX6_count 80 = .ok (.ireturn, 1) := by decide +kernel
theorem dX6_count_81 : decode cX6_count 81 = .ok (.aload_n 0, 1) := by decide +kernel
theorem dX6_count_82 : decode cX6_count 82 = .ok (.invokevirtual 282, 3) := by decide +kernel
theorem dX6_count_85 : decode cX6_count 85 = .ok (.ireturn, 1) := by decide +kernel
theorem dX6_count_86 : decode cX6_count 86 = .ok (.aload_n 0, 1) := by decide +kernel
theorem dX6_count_87 : decode cX6_count 87 = .ok (.getfield 224, 3) := by decide +kernel
theorem dX6_count_90 : decode cX6_count 90 = .ok (.ireturn, 1) := by decide +kernel
theorem dX6_count_91 : decode cX6_count 91 = .ok (.aload_n 0, 1) := by decide +kernel
theorem dX6_count_92 : decode cX6_count 92 = .ok (.getfield 10, 3) := by decide +kernel
theorem dX6_count_95 : decode cX6_count 95 = .ok (.invokevirtual 285, 3) := by decide +kernel
theorem dX6_count_98 : decode cX6_count 98 = .ok (.ireturn, 1) := by decide +kernel
theorem dX6_count_99 : decode cX6_count 99 = .ok (.aload_n 0, 1) := by decide +kernel
theorem dX6_count_100 : decode cX6_count 100 = .ok (.getfield 10, 3) := by decide +kernel
theorem dX6_count_103 : decode cX6_count 103 = .ok (.invokevirtual 288, 3) := by decide +kernel
theorem dX6_count_106 : decode cX6_count 106 = .ok (.ireturn, 1) := by decide +kernel
theorem dX6_count_107 : decode cX6_count 107 = .ok (.aload_n 0, 1) := by decide +kernel
theorem dX6_count_108 : decode cX6_count 108 = .ok (.getfield 291, 3) := by decide +kernel
theorem dX6_count_111 : decode cX6_count 111 = .ok (.ireturn, 1) := by decide +kernel
theorem dX6_count_112 : decode cX6_count 112 = .ok (.bipush (-2), 2) := by decide +kernel
theorem dX6_count_114 : decode cX6_count 114 = .ok (.ireturn, 1) := by decide +kernel
theorem dX6_digest_0 : decode cX6_digest 0 = .ok (.ldc2_w 294, 3) := by decide +kernel
theorem dX6_digest_3 : decode cX6_digest 3 = .ok (.lstore_n 1, 1) := by decide +kernel
theorem dX6_digest_4 : decode cX6_digest 4 = .ok (.iconst 0, 1) := by decide +kernel
theorem dX6_digest_5 : decode cX6_digest 5 = .ok (.istore_n 3, 1) := by decide +kernel
theorem dX6_digest_6 : decode cX6_digest 6 = .ok (.iload_n 3, 1) := by decide +kernel
theorem dX6_digest_7 : decode cX6_digest 7 = .ok (.bipush 7, 2) := by decide +kernel
theorem dX6_digest_9 : decode cX6_digest 9 = .ok (.if_icmp .gt 20, 3) := by decide +kernel
theorem dX6_digest_12 : decode cX6_digest 12 = .ok (.lload_n 1, 1) := by decide +kernel
theorem dX6_digest_13 : decode cX6_digest 13 = .ok (.aload_n 0, 1) := by decide +kernel
theorem dX6_digest_14 : decode cX6_digest 14 = .ok (.iload_n 3, 1) := by decide +kernel
theorem dX6_digest_15 : decode cX6_digest 15 = .ok (.invokevirtual 296, 3) := by decide +kernel
theorem dX6_digest_18 : decode cX6_digest 18 = .ok (.i2l, 1) := by decide +kernel
theorem dX6_digest_19 : decode cX6_digest 19 = .ok (.invokestatic 299, 3) := by decide +kernel
theorem dX6_digest_22 : decode cX6_digest 22 = .ok (.lstore_n 1, 1) := by decide +kernel
theorem dX6_digest_23 : decode cX6_digest 23 = .ok (.iinc 3 1, 3) := by decide +kernel
theorem dX6_digest_26 : decode cX6_digest 26 = .ok (.goto (-20), 3) := by decide +kernel
theorem dX6_digest_29 : decode cX6_digest 29 = .ok (.lload_n 1, 1) := by decide +kernel
theorem dX6_digest_30 : decode cX6_digest 30 = .ok (.aload_n 0, 1) := by decide +kernel
theorem dX6_digest_31 : decode cX6_digest 31 = .ok (.invokevirtual 303, 3) := by decide +kernel
theorem dX6_digest_34 : decode cX6_digest 34 = .ok (.i2l, 1) := by decide +kernel
theorem dX6_digest_35 : decode cX6_digest 35 = .ok (.invokestatic 299, 3) := by decide +kernel
theorem dX6_digest_38 : decode cX6_digest 38 = .ok (.lstore_n 1, 1) := by decide +kernel
theorem dX6_digest_39 : decode cX6_digest 39 = .ok (.iconst 0, 1) := by decide +kernel
theorem dX6_digest_40 : decode cX6_digest 40 = .ok (.istore_n 3, 1) := by decide +kernel
theorem dX6_digest_41 : decode cX6_digest 41 = .ok (.iload_n 3, 1) := by decide +kernel
theorem dX6_digest_42 : decode cX6_digest 42 = .ok (.aload_n 0, 1) := by decide +kernel
theorem dX6_digest_43 : decode cX6_digest 43 = .ok (.getfield 20, 3) := by decide +kernel
theorem dX6_digest_46 : decode cX6_digest 46 = .ok (.invokevirtual 155, 3) := by decide +kernel
theorem dX6_digest_49 : decode cX6_digest 49 = .ok (.if_icmp .ge 21, 3) := by decide +kernel
theorem dX6_digest_52 : decode cX6_digest 52 = .ok (.aload_n 0, 1) := by decide +kernel
theorem dX6_digest_53 : decode cX6_digest 53 = .ok (.aload_n 0, 1) := by decide +kernel
theorem dX6_digest_54 : decode cX6_digest 54 = .ok (.lload_n 1, 1) := by decide +kernel
theorem dX6_digest_55 : decode cX6_digest 55 = .ok (.iload_n 3, 1) := by decide +kernel
theorem dX6_digest_56 : decode cX6_digest 56 = .ok (.invokevirtual 306, 3) := by decide +kernel
theorem dX6_digest_59 : decode cX6_digest 59 = .ok (.iload_n 3, 1) := by decide +kernel
theorem dX6_digest_60 : decode cX6_digest 60 = .ok (.invokevirtual 310, 3) := by decide +kernel
theorem dX6_digest_63 : decode cX6_digest 63 = .ok (.lstore_n 1, 1) := by decide +kernel
theorem dX6_digest_64 : decode cX6_digest 64 = .ok (.iinc 3 1, 3) := by decide +kernel
theorem dX6_digest_67 : decode cX6_digest 67 = .ok (.goto (-26), 3) := by decide +kernel
theorem dX6_digest_70 : decode cX6_digest 70 = .ok (.iconst 0, 1) := by decide +kernel
theorem dX6_digest_71 : decode cX6_digest 71 = .ok (.istore_n 3, 1) := by decide +kernel
theorem dX6_digest_72 : decode cX6_digest 72 = .ok (.iload_n 3, 1) := by decide +kernel
theorem dX6_digest_73 : decode cX6_digest 73 = .ok (.iconst 4, 1) := by decide +kernel
theorem dX6_digest_74 : decode cX6_digest 74 = .ok (.if_icmp .ge 31, 3) := by decide +kernel
theorem dX6_digest_77 : decode cX6_digest 77 = .ok (.lload_n 1, 1) := by decide +kernel
theorem dX6_digest_78 : decode cX6_digest 78 = .ok (.aload_n 0, 1) := by decide +kernel
theorem dX6_digest_79 : decode cX6_digest 79 = .ok (.iload_n 3, 1) := by decide +kernel
theorem dX6_digest_80 : decode cX6_digest 80 = .ok (.iconst 0, 1) := by decide +kernel
theorem dX6_digest_81 : decode cX6_digest 81 = .ok (.invokevirtual 313, 3) := by decide +kernel
theorem dX6_digest_84 : decode cX6_digest 84 = .ok (.i2l, 1) := by decide +kernel
theorem dX6_digest_85 : decode cX6_digest 85 = .ok (.invokestatic 299, 3) := by decide +kernel
theorem dX6_digest_88 : decode cX6_digest 88 = .ok (.aload_n 0, 1) := by decide +kernel
theorem dX6_digest_89 : decode cX6_digest 89 = .ok (.iload_n 3, 1) := by decide +kernel
theorem dX6_digest_90 : decode cX6_digest 90 = .ok (.iconst 1, 1) := by decide +kernel
theorem dX6_digest_91 : decode cX6_digest 91 = .ok (.invokevirtual 313, 3) := by decide +kernel
theorem dX6_digest_94 : decode cX6_digest 94 = .ok (.i2l, 1) := by decide +kernel
theorem dX6_digest_95 : decode cX6_digest 95 = .ok (.invokestatic 299, 3) := by decide +kernel
theorem dX6_digest_98 : decode cX6_digest 98 = .ok (.lstore_n 1, 1) := by decide +kernel
theorem dX6_digest_99 : decode cX6_digest 99 = .ok (.iinc 3 1, 3) := by decide +kernel
theorem dX6_digest_102 : decode cX6_digest 102 = .ok (.goto (-30), 3) := by decide +kernel
theorem dX6_digest_105 : decode cX6_digest 105 = .ok (.lload_n 1, 1) := by decide +kernel
theorem dX6_digest_106 : decode cX6_digest 106 = .ok (.aload_n 0, 1) := by decide +kernel
theorem dX6_digest_107 : decode cX6_digest 107 = .ok (.iconst 0, 1) := by decide +kernel
theorem dX6_digest_108 : decode cX6_digest 108 = .ok (.invokevirtual 316, 3) := by decide +kernel
theorem dX6_digest_111 : decode cX6_digest 111 = .ok (.i2l, 1) := by decide +kernel
theorem dX6_digest_112 : decode cX6_digest 112 = .ok (.invokestatic 299, 3) := by decide +kernel
theorem dX6_digest_115 : decode cX6_digest 115 = .ok (.aload_n 0, 1) := by decide +kernel
theorem dX6_digest_116 : decode cX6_digest 116 = .ok (.iconst 1, 1) := by decide +kernel
theorem dX6_digest_117 : decode cX6_digest 117 = .ok (.invokevirtual 316, 3) := by decide +kernel
theorem dX6_digest_120 : decode cX6_digest 120 = .ok (.i2l, 1) := by decide +kernel
theorem dX6_digest_121 : decode cX6_digest 121 = .ok (.invokestatic 299, 3) := by decide +kernel
theorem dX6_digest_124 : decode cX6_digest 124 = .ok (.lstore_n 1, 1) := by decide +kernel
theorem dX6_digest_125 : decode cX6_digest 125 = .ok (.lload_n 1, 1) := by decide +kernel
theorem dX6_digest_126 : decode cX6_digest 126 = .ok (.aload_n 0, 1) := by decide +kernel
theorem dX6_digest_127 : decode cX6_digest 127 = .ok (.iconst 0, 1) := by decide +kernel
theorem dX6_digest_128 : decode cX6_digest 128 = .ok (.sipush 900, 3) := by decide +kernel
theorem dX6_digest_131 : decode cX6_digest 131 = .ok (.iconst 0, 1) := by decide +kernel
theorem dX6_digest_132 : decode cX6_digest 132 = .ok (.invokevirtual 319, 3) := by decide +kernel
theorem dX6_digest_135 : decode cX6_digest 135 = .ok (.i2l, 1) := by decide +kernel
theorem dX6_digest_136 : decode cX6_digest 136 = .ok (.invokestatic 299, 3) := by decide +kernel
theorem dX6_digest_139 : decode cX6_digest 139 = .ok (.lstore_n 1, 1) := by decide +kernel
theorem dX6_digest_140 : decode cX6_digest 140 = .ok (.lload_n 1, 1) := by decide +kernel
theorem dX6_digest_141 : decode cX6_digest 141 = .ok (.aload_n 0, 1) := by decide +kernel
theorem dX6_digest_142 : decode cX6_digest 142 = .ok (.iconst 0, 1) := by decide +kernel
theorem dX6_digest_143 : decode cX6_digest 143 = .ok (.invokevirtual 322, 3) := by decide +kernel
theorem dX6_digest_146 : decode cX6_digest 146 = .ok (.i2l, 1) := by decide +kernel
theorem dX6_digest_147 : decode cX6_digest 147 = .ok (.invokestatic 299, 3) := by decide +kernel
theorem dX6_digest_150 : decode cX6_digest 150 = .ok (.aload_n 0, 1) := by decide +kernel
theorem dX6_digest_151 : decode cX6_digest 151 = .ok (.iconst 1, 1) := by decide +kernel
theorem dX6_digest_152 : decode cX6_digest 152 = .ok (.invokevirtual 322, 3) := by decide +kernel
theorem dX6_digest_155 : decode cX6_digest 155 = .ok (.i2l, 1) := by decide +kernel
theorem dX6_digest_156 : decode cX6_digest 156 = .ok (.invokestatic 299, 3) := by decide +kernel
theorem dX6_digest_159 : decode cX6_digest 159 = .ok (.lstore_n 1, 1) := by decide +kernel
theorem dX6_digest_160 : decode cX6_digest 160 = .ok (.lload_n 1, 1) := by decide +kernel
theorem dX6_digest_161 : decode cX6_digest 161 = .ok (.aload_n 0, 1) := by decide +kernel
theorem dX6_digest_162 : decode cX6_digest 162 = .ok (.iconst (-1), 1) := by decide +kernel
theorem dX6_digest_163 : decode cX6_digest 163 = .ok (.invokevirtual 325, 3) := by decide +kernel
theorem dX6_digest_166 : decode cX6_digest 166 = .ok (.i2l, 1) := by decide +kernel
theorem dX6_digest_167 : decode cX6_digest 167 = .ok (.invokestatic 299, 3) := by decide +kernel
theorem dX6_digest_170 : decode cX6_digest 170 = .ok (.lstore_n 1, 1) := by decide +kernel
theorem dX6_digest_171 : decode cX6_digest 171 = .ok (.lload_n 1, 1) := by decide +kernel
theorem dX6_digest_172 : decode cX6_digest 172 = .ok (.aload_n 0, 1) := by decide +kernel
theorem dX6_digest_173 : decode cX6_digest 173 = .ok (.iconst 0, 1) := by decide +kernel
theorem dX6_digest_174 : decode cX6_digest 174 = .ok (.invokevirtual 328, 3) := by decide +kernel
theorem dX6_digest_177 : decode cX6_digest 177 = .ok (.i2l, 1) := by decide +kernel
theorem dX6_digest_178 : decode cX6_digest 178 = .ok (.invokestatic 299, 3) := by decide +kernel
theorem dX6_digest_181 : decode cX6_digest 181 = .ok (.aload_n 0, 1) := by decide +kernel
theorem dX6_digest_182 : decode cX6_digest 182 = .ok (.iconst 1, 1) := by decide +kernel
theorem dX6_digest_183 : decode cX6_digest 183 = .ok (.invokevirtual 328, 3) := by decide +kernel
theorem dX6_digest_186 : decode cX6_digest 186 = .ok (.i2l, 1) := by decide +kernel
theorem dX6_digest_187 : decode cX6_digest 187 = .ok (.invokestatic 299, 3) := by decide +kernel
theorem dX6_digest_190 : decode cX6_digest 190 = .ok (.lreturn, 1) := by decide +kernel
theorem dX6_mix_0 : decode cX6_mix 0 = .ok (.ldc2_w 331, 3) := by decide +kernel
theorem dX6_mix_3 : decode cX6_mix 3 = .ok (.lload_n 0, 1) := by decide +kernel
theorem dX6_mix_4 : decode cX6_mix 4 = .ok (.lmul, 1) := by decide +kernel
theorem dX6_mix_5 : decode cX6_mix 5 = .ok (.lload_n 2, 1) := by decide +kernel
theorem dX6_mix_6 : decode cX6_mix 6 = .ok (.ladd, 1) := by decide +kernel
theorem dX6_mix_7 : decode cX6_mix 7 = .ok (.lreturn, 1) := by decide +kernel
theorem dX6_mixCell_0 : decode cX6_mixCell 0 = .ok (.lload_n 1, 1) := by decide +kernel
theorem dX6_mixCell_1 : decode cX6_mixCell 1 = .ok (.lstore 4, 2) := by decide +kernel
theorem dX6_mixCell_3 : decode cX6_mixCell 3 = .ok (.iconst 0, 1) := by decide +kernel
theorem dX6_mixCell_4 : decode cX6_mixCell 4 = .ok (.istore 6, 2) := by decide +kernel
theorem dX6_mixCell_6 : decode cX6_mixCell 6 = .ok (.iload 6, 2) := by decide +kernel
theorem dX6_mixCell_8 : decode cX6_mixCell 8 = .ok (.iconst 3, 1) := by decide +kernel
theorem dX6_mixCell_9 : decode cX6_mixCell 9 = .ok (.if_icmp .ge 24, 3) := by decide +kernel
theorem dX6_mixCell_12 : decode cX6_mixCell 12 = .ok (.lload 4, 2) := by decide +kernel
theorem dX6_mixCell_14 : decode cX6_mixCell 14 = .ok (.aload_n 0, 1) := by decide +kernel
theorem dX6_mixCell_15 : decode cX6_mixCell 15 = .ok (.iload_n 3, 1) := by decide +kernel
theorem dX6_mixCell_16 : decode cX6_mixCell 16 = .ok (.iload 6, 2) := by decide +kernel
theorem dX6_mixCell_18 : decode cX6_mixCell 18 = .ok (.invokevirtual 333, 3) := by decide +kernel
theorem dX6_mixCell_21 : decode cX6_mixCell 21 = .ok (.i2l, 1) := by decide +kernel
theorem dX6_mixCell_22 : decode cX6_mixCell 22 = .ok (.invokestatic 299, 3) := by decide +kernel
theorem dX6_mixCell_25 : decode cX6_mixCell 25 = .ok (.lstore 4, 2) := by decide +kernel
theorem dX6_mixCell_27 : decode cX6_mixCell 27 = .ok (.iinc 6 1, 3) := by decide +kernel
theorem dX6_mixCell_30 : decode cX6_mixCell 30 = .ok (.goto (-24), 3) := by decide +kernel
theorem dX6_mixCell_33 : decode cX6_mixCell 33 = .ok (.iconst 0, 1) := by decide +kernel
theorem dX6_mixCell_34 : decode cX6_mixCell 34 = .ok (.istore 6, 2) := by decide +kernel
theorem dX6_mixCell_36 : decode cX6_mixCell 36 = .ok (.iload 6, 2) := by decide +kernel
theorem dX6_mixCell_38 : decode cX6_mixCell 38 = .ok (.iconst 4, 1) := by decide +kernel
theorem dX6_mixCell_39 : decode cX6_mixCell 39 = .ok (.if_icmp .ge 24, 3) := by decide +kernel
theorem dX6_mixCell_42 : decode cX6_mixCell 42 = .ok (.lload 4, 2) := by decide +kernel
theorem dX6_mixCell_44 : decode cX6_mixCell 44 = .ok (.aload_n 0, 1) := by decide +kernel
theorem dX6_mixCell_45 : decode cX6_mixCell 45 = .ok (.iload_n 3, 1) := by decide +kernel
theorem dX6_mixCell_46 : decode cX6_mixCell 46 = .ok (.iload 6, 2) := by decide +kernel
theorem dX6_mixCell_48 : decode cX6_mixCell 48 = .ok (.invokevirtual 336, 3) := by decide +kernel
theorem dX6_mixCell_51 : decode cX6_mixCell 51 = .ok (.i2l, 1) := by decide +kernel
theorem dX6_mixCell_52 : decode cX6_mixCell 52 = .ok (.invokestatic 299, 3) := by decide +kernel
theorem dX6_mixCell_55 : decode cX6_mixCell 55 = .ok (.lstore 4, 2) := by decide +kernel
theorem dX6_mixCell_57 : decode cX6_mixCell 57 = .ok (.iinc 6 1, 3) := by decide +kernel
theorem dX6_mixCell_60 : decode cX6_mixCell 60 = .ok (.goto (-24), 3) := by decide +kernel
theorem dX6_mixCell_63 : decode cX6_mixCell 63 = .ok (.lload 4, 2) := by decide +kernel
theorem dX6_mixCell_65 : decode cX6_mixCell 65 = .ok (.aload_n 0, 1) := by decide +kernel
theorem dX6_mixCell_66 : decode cX6_mixCell 66 = .ok (.iload_n 3, 1) := by decide +kernel
theorem dX6_mixCell_67 : decode cX6_mixCell 67 = .ok (.iconst (-1), 1) := by decide +kernel
theorem dX6_mixCell_68 : decode cX6_mixCell 68 = .ok (.invokevirtual 339, 3) := by decide +kernel
theorem dX6_mixCell_71 : decode cX6_mixCell 71 = .ok (.i2l, 1) := by decide +kernel
theorem dX6_mixCell_72 : decode cX6_mixCell 72 = .ok (.invokestatic 299, 3) := by decide +kernel
theorem dX6_mixCell_75 : decode cX6_mixCell 75 = .ok (.lstore 4, 2) := by decide +kernel
theorem dX6_mixCell_77 : decode cX6_mixCell 77 = .ok (.lload 4, 2) := by decide +kernel
theorem dX6_mixCell_79 : decode cX6_mixCell 79 = .ok (.aload_n 0, 1) := by decide +kernel
theorem dX6_mixCell_80 : decode cX6_mixCell 80 = .ok (.iload_n 3, 1) := by decide +kernel
theorem dX6_mixCell_81 : decode cX6_mixCell 81 = .ok (.iconst 0, 1) := by decide +kernel
theorem dX6_mixCell_82 : decode cX6_mixCell 82 = .ok (.iconst 3, 1) := by decide +kernel
theorem dX6_mixCell_83 : decode cX6_mixCell 83 = .ok (.invokevirtual 342, 3) := by decide +kernel
theorem dX6_mixCell_86 : decode cX6_mixCell 86 = .ok (.i2l, 1) := by decide +kernel
theorem dX6_mixCell_87 : decode cX6_mixCell 87 = .ok (.invokestatic 299, 3) := by decide +kernel
theorem dX6_mixCell_90 : decode cX6_mixCell 90 = .ok (.lstore 4, 2) := by decide +kernel
theorem dX6_mixCell_92 : decode cX6_mixCell 92 = .ok (.lload 4, 2) := by decide +kernel
theorem dX6_mixCell_94 : decode cX6_mixCell 94 = .ok (.aload_n 0, 1) := by decide +kernel
theorem dX6_mixCell_95 : decode cX6_mixCell 95 = .ok (.iload_n 3, 1) := by decide +kernel
theorem dX6_mixCell_96 : decode cX6_mixCell 96 = .ok (.iconst 1, 1) := by decide +kernel
theorem dX6_mixCell_97 : decode cX6_mixCell 97 = .ok (.invokevirtual 345, 3) := by decide +kernel
theorem dX6_mixCell_100 : decode cX6_mixCell 100 = .ok (.i2l, 1) := by decide +kernel
theorem dX6_mixCell_101 : decode cX6_mixCell 101 = .ok (.invokestatic 299, 3) := by decide +kernel
theorem dX6_mixCell_104 : decode cX6_mixCell 104 = .ok (.lstore 4, 2) := by decide +kernel
theorem dX6_mixCell_106 : decode cX6_mixCell 106 = .ok (.lload 4, 2) := by decide +kernel
theorem dX6_mixCell_108 : decode cX6_mixCell 108 = .ok (.aload_n 0, 1) := by decide +kernel
theorem dX6_mixCell_109 : decode cX6_mixCell 109 = .ok (.iload_n 3, 1) := by decide +kernel
theorem dX6_mixCell_110 : decode cX6_mixCell 110 = .ok (.sipush 500, 3) := by decide +kernel
theorem dX6_mixCell_113 : decode cX6_mixCell 113 = .ok (.invokevirtual 348, 3) := by decide +kernel
theorem dX6_mixCell_116 : decode cX6_mixCell 116 = .ok (.i2l, 1) := by decide +kernel
theorem dX6_mixCell_117 : decode cX6_mixCell 117 = .ok (.invokestatic 299, 3) := by decide +kernel
theorem dX6_mixCell_120 : decode cX6_mixCell 120 = .ok (.lstore 4, 2) := by decide +kernel
theorem dX6_mixCell_122 : decode cX6_mixCell 122 = .ok (.lload 4, 2) := by decide +kernel
theorem dX6_mixCell_124 : decode cX6_mixCell 124 = .ok (.aload_n 0, 1) := by decide +kernel
theorem dX6_mixCell_125 : decode cX6_mixCell 125 = .ok (.iload_n 3, 1) := by decide +kernel
theorem dX6_mixCell_126 : decode cX6_mixCell 126 = .ok (.invokevirtual 325, 3) := by decide +kernel
theorem dX6_mixCell_129 : decode cX6_mixCell 129 = .ok (.i2l, 1) := by decide +kernel
theorem dX6_mixCell_130 : decode cX6_mixCell 130 = .ok (.invokestatic 299, 3) := by decide +kernel
theorem dX6_mixCell_133 : decode cX6_mixCell 133 = .ok (.lreturn, 1) := by decide +kernel
theorem dX6_mixChances_0 : decode cX6_mixChances 0 = .ok (.lload_n 1, 1) := by decide +kernel
theorem dX6_mixChances_1 : decode cX6_mixChances 1 = .ok (.aload_n 0, 1) := by decide +kernel
theorem dX6_mixChances_2 : decode cX6_mixChances 2 = .ok (.iload_n 3, 1) := by decide +kernel
theorem dX6_mixChances_3 : decode cX6_mixChances 3 = .ok (.iconst 2, 1) := by decide +kernel
theorem dX6_mixChances_4 : decode cX6_mixChances 4 = .ok (.iconst (-1), 1) := by decide +kernel
theorem dX6_mixChances_5 : decode cX6_mixChances 5 = .ok (.iconst 0, 1) := by decide +kernel
theorem dX6_mixChances_6 : decode cX6_mixChances 6 = .ok (.invokevirtual 351, 3) := by decide +kernel
theorem dX6_mixChances_9 : decode cX6_mixChances 9 = .ok (.invokestatic 299, 3) := by decide +kernel
theorem dX6_mixChances_12 : decode cX6_mixChances 12 = .ok (.lstore 4, 2) := by decide +kernel
theorem dX6_mixChances_14 : decode cX6_mixChances 14 = .ok (.lload 4, 2) := by decide +kernel
theorem dX6_mixChances_16 : decode cX6_mixChances 16 = .ok (.aload_n 0, 1) := by decide +kernel
theorem dX6_mixChances_17 : decode cX6_mixChances 17 = .ok (.iload_n 3, 1) := by decide +kernel
theorem dX6_mixChances_18 : decode cX6_mixChances 18 = .ok (.iconst 2, 1) := by decide +kernel
theorem dX6_mixChances_19 : decode cX6_mixChances 19 = .ok (.iconst (-1), 1) := by decide +kernel
theorem dX6_mixChances_20 : decode cX6_mixChances 20 = .ok (.iconst 1, 1) := by decide +kernel
theorem dX6_mixChances_21 : decode cX6_mixChances 21 = .ok (.invokevirtual 351, 3) := by decide +kernel
theorem dX6_mixChances_24 : decode cX6_mixChances 24 = .ok (.invokestatic 299, 3) := by decide +kernel
theorem dX6_mixChances_27 : decode cX6_mixChances 27 = .ok (.lstore 4, 2) := by decide +kernel
theorem dX6_mixChances_29 : decode cX6_mixChances 29 = .ok (.lload 4, 2) := by decide +kernel
theorem dX6_mixChances_31 : decode cX6_mixChances 31 = .ok (.aload_n 0, 1) := by decide +kernel
theorem dX6_mixChances_32 : decode cX6_mixChances 32 = .ok (.iload_n 3, 1) := by decide +kernel
theorem dX6_mixChances_33 : decode cX6_mixChances 33 = .ok (.iconst 2, 1) := by decide +kernel
theorem dX6_mixChances_34 : decode cX6_mixChances 34 = .ok (.iconst 3, 1) := by decide +kernel
theorem dX6_mixChances_35 : decode cX6_mixChances 35 = .ok (.iconst 0, 1) := by decide +kernel
theorem dX6_mixChances_36 : decode cX6_mixChances 36 = .ok (.invokevirtual 351, 3) := by decide +kernel
theorem dX6_mixChances_39 : decode cX6_mixChances 39 = .ok (.invokestatic 299, 3) := by decide +kernel
theorem dX6_mixChances_42 : decode cX6_mixChances 42 = .ok (.lstore 4, 2) := by decide +kernel
theorem dX6_mixChances_44 : decode cX6_mixChances 44 = .ok (.lload 4, 2) := by decide +kernel
theorem dX6_mixChances_46 : decode cX6_mixChances 46 = .ok (.aload_n 0, 1) := by decide +kernel
theorem dX6_mixChances_47 : decode cX6_mixChances 47 = .ok (.iload_n 3, 1) := by decide +kernel
theorem dX6_mixChances_48 : decode cX6_mixChances 48 = .ok (.iconst 2, 1) := by decide +kernel
theorem dX6_mixChances_49 : decode cX6_mixChances 49 = .ok (.iconst 3, 1) := by decide +kernel
theorem dX6_mixChances_50 : decode cX6_mixChances 50 = .ok (.iconst 1, 1) := by decide +kernel
theorem dX6_mixChances_51 : decode cX6_mixChances 51 = .ok (.invokevirtual 351, 3) := by decide +kernel
theorem dX6_mixChances_54 : decode cX6_mixChances 54 = .ok (.invokestatic 299, 3) := by decide +kernel
theorem dX6_mixChances_57 : decode cX6_mixChances 57 = .ok (.lreturn, 1) := by decide +kernel
theorem dX6_isBelow_0 : decode cX6_isBelow 0 = .ok (.iload_n 0, 1) := by decide +kernel
theorem dX6_isBelow_1 : decode cX6_isBelow 1 = .ok (.ifCond .lt 12, 3) := by decide +kernel
theorem dX6_isBelow_4 : decode cX6_isBelow 4 = .ok (.iload_n 0, 1) := by decide +kernel
theorem dX6_isBelow_5 : decode cX6_isBelow 5 = .ok (.iload_n 1, 1) := by decide +kernel
theorem dX6_isBelow_6 : decode cX6_isBelow 6 = .ok (.if_icmp .ge 7, 3) := by decide +kernel
theorem dX6_isBelow_9 : decode cX6_isBelow 9 = .ok (.iconst 1, 1) := by decide +kernel
theorem dX6_isBelow_10 : decode cX6_isBelow 10 = .ok (.goto 4, 3) := by decide +kernel
theorem dX6_isBelow_13 : decode cX6_isBelow 13 = .ok (.iconst 0, 1) := by decide +kernel
theorem dX6_isBelow_14 : decode cX6_isBelow 14 = .ok (.ireturn, 1) := by decide +kernel
theorem dX6_isCell_0 : decode cX6_isCell 0 = .ok (.iload_n 1, 1) := by decide +kernel
theorem dX6_isCell_1 : decode cX6_isCell 1 = .ok (.aload_n 0, 1) := by decide +kernel
theorem dX6_isCell_2 : decode cX6_isCell 2 = .ok (.getfield 20, 3) := by decide +kernel
theorem dX6_isCell_5 : decode cX6_isCell 5 = .ok (.invokevirtual 155, 3) := by decide +kernel
theorem dX6_isCell_8 : decode cX6_isCell 8 = .ok (.invokestatic 77, 3) := by decide +kernel
theorem dX6_isCell_11 : decode cX6_isCell 11 = .ok (.ireturn, 1) := by decide +kernel
theorem dX6_found_0 : decode cX6_found 0 = .ok (.aload_n 0, 1) := by decide +kernel
theorem dX6_found_1 : decode cX6_found 1 = .ok (.iload_n 1, 1) := by decide +kernel
theorem dX6_found_2 : decode cX6_found 2 = .ok (.putfield 291, 3) := by decide +kernel
end
section
theorem dX6_found_5 : decode cX6_found 5 = .ok (.bipush (-10), 2) := by decide +kernel
theorem dX6_found_7 : decode cX6_found 7 = .ok (.iload_n 1, 1) := by decide +kernel
theorem dX6_found_8 : decode cX6_found 8 = .ok (.isub, 1) := by decide +kernel
theorem dX6_found_9 : decode cX6_found 9 = .ok (.ireturn, 1) := by decide +kernel
theorem dX6_refuseItem_0 : decode cX6_refuseItem 0 = .ok (.iload_n 1, 1) := by decide +kernel
theorem dX6_refuseItem_1 : decode cX6_refuseItem 1 = .ok (.iconst 4, 1) := by decide +kernel
theorem dX6_refuseItem_2 : decode cX6_refuseItem 2 = .ok (.invokestatic 77, 3) := by decide +kernel
theorem dX6_refuseItem_5 : decode cX6_refuseItem 5 = .ok (.ifCond .eq 11, 3) := by decide +kernel
theorem dX6_refuseItem_8 : decode cX6_refuseItem 8 = .ok (.iload_n 2, 1) := by decide +kernel
theorem dX6_refuseItem_9 : decode cX6_refuseItem 9 = .ok (.iconst 3, 1) := by decide +kernel
theorem dX6_refuseItem_10 : decode cX6_refuseItem 10 = .ok (.invokestatic 77, 3) := by decide +kernel
theorem dX6_refuseItem_13 : decode cX6_refuseItem 13 = .ok (.ifCond .ne 6, 3) := by decide +kernel
theorem dX6_refuseItem_16 : decode cX6_refuseItem 16 = .ok (.bipush (-2), 2) := by decide +kernel
theorem dX6_refuseItem_18 : decode cX6_refuseItem 18 = .ok (.ireturn, 1) := by decide +kernel
theorem dX6_refuseItem_19 : decode cX6_refuseItem 19 = .ok (.aload_n 0, 1) := by decide +kernel
theorem dX6_refuseItem_20 : decode cX6_refuseItem 20 = .ok (.getfield 45, 3) := by decide +kernel
theorem dX6_refuseItem_23 : decode cX6_refuseItem 23 = .ok (.iload_n 1, 1) := by decide +kernel
theorem dX6_refuseItem_24 : decode cX6_refuseItem 24 = .ok (.invokevirtual 119, 3) := by decide +kernel
theorem dX6_refuseItem_27 : decode cX6_refuseItem 27 = .ok (.ifCond .eq 9, 3) := by decide +kernel
theorem dX6_refuseItem_30 : decode cX6_refuseItem 30 = .ok (.aload_n 0, 1) := by decide +kernel
theorem dX6_refuseItem_31 : decode cX6_refuseItem 31 = .ok (.iconst 1, 1) := by decide +kernel
theorem dX6_refuseItem_32 : decode cX6_refuseItem 32 = .ok (.invokevirtual 122, 3) := by decide +kernel
theorem dX6_refuseItem_35 : decode cX6_refuseItem 35 = .ok (.ireturn, 1) := by decide +kernel
theorem dX6_refuseItem_36 : decode cX6_refuseItem 36 = .ok (.aload_n 0, 1) := by decide +kernel
theorem dX6_refuseItem_37 : decode cX6_refuseItem 37 = .ok (.getfield 45, 3) := by decide +kernel
theorem dX6_refuseItem_40 : decode cX6_refuseItem 40 = .ok (.iload_n 1, 1) := by decide +kernel
theorem dX6_refuseItem_41 : decode cX6_refuseItem 41 = .ok (.invokevirtual 265, 3) := by decide +kernel
theorem dX6_refuseItem_44 : decode cX6_refuseItem 44 = .ok (.iload_n 2, 1) := by decide +kernel
theorem dX6_refuseItem_45 : decode cX6_refuseItem 45 = .ok (.if_icmp .eq 9, 3) := by decide +kernel
theorem dX6_refuseItem_48 : decode cX6_refuseItem 48 = .ok (.aload_n 0, 1) := by decide +kernel
theorem dX6_refuseItem_49 : decode cX6_refuseItem 49 = .ok (.iconst 3, 1) := by decide +kernel
theorem dX6_refuseItem_50 : decode cX6_refuseItem 50 = .ok (.invokevirtual 122, 3) := by decide +kernel
theorem dX6_refuseItem_53 : decode cX6_refuseItem 53 = .ok (.ireturn, 1) := by decide +kernel
theorem dX6_refuseItem_54 : decode cX6_refuseItem 54 = .ok (.iload_n 3, 1) := by decide +kernel
theorem dX6_refuseItem_55 : decode cX6_refuseItem 55 = .ok (.aload_n 0, 1) := by decide +kernel
theorem dX6_refuseItem_56 : decode cX6_refuseItem 56 = .ok (.getfield 45, 3) := by decide +kernel
theorem dX6_refuseItem_59 : decode cX6_refuseItem 59 = .ok (.iload_n 1, 1) := by decide +kernel
theorem dX6_refuseItem_60 : decode cX6_refuseItem 60 = .ok (.invokevirtual 125, 3) := by decide +kernel
theorem dX6_refuseItem_63 : decode cX6_refuseItem 63 = .ok (.invokestatic 77, 3) := by decide +kernel
theorem dX6_refuseItem_66 : decode cX6_refuseItem 66 = .ok (.ifCond .eq 7, 3) := by decide +kernel
theorem dX6_refuseItem_69 : decode cX6_refuseItem 69 = .ok (.iconst 0, 1) := by decide +kernel
theorem dX6_refuseItem_70 : decode cX6_refuseItem 70 = .ok (.goto 8, 3) := by decide +kernel
theorem dX6_refuseItem_73 : decode cX6_refuseItem 73 = .ok (.aload_n 0, 1) := by decide +kernel
theorem dX6_refuseItem_74 : decode cX6_refuseItem 74 = .ok (.iconst 2, 1) := by decide +kernel
theorem dX6_refuseItem_75 : decode cX6_refuseItem 75 = .ok (.invokevirtual 122, 3) := by decide +kernel
theorem dX6_refuseItem_78 : decode cX6_refuseItem 78 = .ok (.ireturn, 1) := by decide +kernel
theorem dX6_measureAnew_0 : decode cX6_measureAnew 0 = .ok (.aload_n 0, 1) := by decide +kernel
theorem dX6_measureAnew_1 : decode cX6_measureAnew 1 = .ok (.getfield 10, 3) := by decide +kernel
theorem dX6_measureAnew_4 : decode cX6_measureAnew 4 = .ok (.invokevirtual 355, 3) := by decide +kernel
theorem dX6_measureAnew_7 : decode cX6_measureAnew 7 = .ok (.aload_n 0, 1) := by decide +kernel
theorem dX6_measureAnew_8 : decode cX6_measureAnew 8 = .ok (.iconst 0, 1) := by decide +kernel
theorem dX6_measureAnew_9 : decode cX6_measureAnew 9 = .ok (.putfield 358, 3) := by decide +kernel
theorem dX6_measureAnew_12 : decode cX6_measureAnew 12 = .ok (.aload_n 0, 1) := by decide +kernel
theorem dX6_measureAnew_13 : decode cX6_measureAnew 13 = .ok (.iconst 0, 1) := by decide +kernel
theorem dX6_measureAnew_14 : decode cX6_measureAnew 14 = .ok (.putfield 201, 3) := by decide +kernel
theorem dX6_measureAnew_17 : decode cX6_measureAnew 17 = .ok (.return_, 1) := by decide +kernel
theorem dX6_knowParts_0 : decode cX6_knowParts 0 = .ok (.aload_n 0, 1) := by decide +kernel
theorem dX6_knowParts_1 : decode cX6_knowParts 1 = .ok (.getfield 358, 3) := by decide +kernel
theorem dX6_knowParts_4 : decode cX6_knowParts 4 = .ok (.ifCond .ne 26, 3) := by decide +kernel
theorem dX6_knowParts_7 : decode cX6_knowParts 7 = .ok (.aload_n 0, 1) := by decide +kernel
theorem dX6_knowParts_8 : decode cX6_knowParts 8 = .ok (.getfield 24, 3) := by decide +kernel
theorem dX6_knowParts_11 : decode cX6_knowParts 11 = .ok (.aload_n 0, 1) := by decide +kernel
theorem dX6_knowParts_12 : decode cX6_knowParts 12 = .ok (.getfield 20, 3) := by decide +kernel
theorem dX6_knowParts_15 : decode cX6_knowParts 15 = .ok (.aload_n 0, 1) := by decide +kernel
theorem dX6_knowParts_16 : decode cX6_knowParts 16 = .ok (.getfield 10, 3) := by decide +kernel
theorem dX6_knowParts_19 : decode cX6_knowParts 19 = .ok (.invokevirtual 211, 3) := by decide +kernel
theorem dX6_knowParts_22 : decode cX6_knowParts 22 = .ok (.invokevirtual 361, 3) := by decide +kernel
theorem dX6_knowParts_25 : decode cX6_knowParts 25 = .ok (.aload_n 0, 1) := by decide +kernel
theorem dX6_knowParts_26 : decode cX6_knowParts 26 = .ok (.iconst 1, 1) := by decide +kernel
theorem dX6_knowParts_27 : decode cX6_knowParts 27 = .ok (.putfield 358, 3) := by decide +kernel
theorem dX6_knowParts_30 : decode cX6_knowParts 30 = .ok (.return_, 1) := by decide +kernel
theorem dX6_weighLosses_0 : decode cX6_weighLosses 0 = .ok (.aload_n 0, 1) := by decide +kernel
theorem dX6_weighLosses_1 : decode cX6_weighLosses 1 = .ok (.getfield 56, 3) := by decide +kernel
theorem dX6_weighLosses_4 : decode cX6_weighLosses 4 = .ok (.iconst 0, 1) := by decide +kernel
theorem dX6_weighLosses_5 : decode cX6_weighLosses 5 = .ok (.invokestatic 71, 3) := by decide +kernel
theorem dX6_weighLosses_8 : decode cX6_weighLosses 8 = .ok (.aload_n 0, 1) := by decide +kernel
theorem dX6_weighLosses_9 : decode cX6_weighLosses 9 = .ok (.getfield 20, 3) := by decide +kernel
theorem dX6_weighLosses_12 : decode cX6_weighLosses 12 = .ok (.iload_n 1, 1) := by decide +kernel
theorem dX6_weighLosses_13 : decode cX6_weighLosses 13 = .ok (.invokevirtual 365, 3) := by decide +kernel
theorem dX6_weighLosses_16 : decode cX6_weighLosses 16 = .ok (.istore_n 3, 1) := by decide +kernel
theorem dX6_weighLosses_17 : decode cX6_weighLosses 17 = .ok (.aload_n 0, 1) := by decide +kernel
theorem dX6_weighLosses_18 : decode cX6_weighLosses 18 = .ok (.getfield 10, 3) := by decide +kernel
theorem dX6_weighLosses_21 : decode cX6_weighLosses 21 = .ok (.iload_n 1, 1) := by decide +kernel
theorem dX6_weighLosses_22 : decode cX6_weighLosses 22 = .ok (.iload_n 2, 1) := by decide +kernel
theorem dX6_weighLosses_23 : decode cX6_weighLosses 23 = .ok (.invokevirtual 115, 3) := by decide +kernel
theorem dX6_weighLosses_26 : decode cX6_weighLosses 26 = .ok (.istore 4, 2) := by decide +kernel
theorem dX6_weighLosses_28 : decode cX6_weighLosses 28 = .ok (.iload_n 3, 1) := by decide +kernel
theorem dX6_weighLosses_29 : decode cX6_weighLosses 29 = .ok (.istore 5, 2) := by decide +kernel
theorem dX6_weighLosses_31 : decode cX6_weighLosses 31 = .ok (.iload 5, 2) := by decide +kernel
theorem dX6_weighLosses_33 : decode cX6_weighLosses 33 = .ok (.iload_n 3, 1) := by decide +kernel
theorem dX6_weighLosses_34 : decode cX6_weighLosses 34 = .ok (.aload_n 0, 1) := by decide +kernel
theorem dX6_weighLosses_35 : decode cX6_weighLosses 35 = .ok (.getfield 20, 3) := by decide +kernel
theorem dX6_weighLosses_38 : decode cX6_weighLosses 38 = .ok (.invokevirtual 368, 3) := by decide +kernel
theorem dX6_weighLosses_41 : decode cX6_weighLosses 41 = .ok (.iadd, 1) := by decide +kernel
theorem dX6_weighLosses_42 : decode cX6_weighLosses 42 = .ok (.if_icmp .ge 43, 3) := by decide +kernel
theorem dX6_weighLosses_45 : decode cX6_weighLosses 45 = .ok (.aload_n 0, 1) := by decide +kernel
theorem dX6_weighLosses_46 : decode cX6_weighLosses 46 = .ok (.getfield 56, 3) := by decide +kernel
theorem dX6_weighLosses_49 : decode cX6_weighLosses 49 = .ok (.aload_n 0, 1) := by decide +kernel
theorem dX6_weighLosses_50 : decode cX6_weighLosses 50 = .ok (.getfield 49, 3) := by decide +kernel
theorem dX6_weighLosses_53 : decode cX6_weighLosses 53 = .ok (.iload 5, 2) := by decide +kernel
theorem dX6_weighLosses_55 : decode cX6_weighLosses 55 = .ok (.iaload, 1) := by decide +kernel
theorem dX6_weighLosses_56 : decode cX6_weighLosses 56 = .ok (.dup2, 1) := by decide +kernel
theorem dX6_weighLosses_57 : decode cX6_weighLosses 57 = .ok (.iaload, 1) := by decide +kernel
theorem dX6_weighLosses_58 : decode cX6_weighLosses 58 = .ok (.aload_n 0, 1) := by decide +kernel
theorem dX6_weighLosses_59 : decode cX6_weighLosses 59 = .ok (.getfield 10, 3) := by decide +kernel
theorem dX6_weighLosses_62 : decode cX6_weighLosses 62 = .ok (.iload 5, 2) := by decide +kernel
theorem dX6_weighLosses_64 : decode cX6_weighLosses 64 = .ok (.invokevirtual 149, 3) := by decide +kernel
theorem dX6_weighLosses_67 : decode cX6_weighLosses 67 = .ok (.aload_n 0, 1) := by decide +kernel
theorem dX6_weighLosses_68 : decode cX6_weighLosses 68 = .ok (.getfield 10, 3) := by decide +kernel
theorem dX6_weighLosses_71 : decode cX6_weighLosses 71 = .ok (.iload 5, 2) := by decide +kernel
theorem dX6_weighLosses_73 : decode cX6_weighLosses 73 = .ok (.invokevirtual 371, 3) := by decide +kernel
theorem dX6_weighLosses_76 : decode cX6_weighLosses 76 = .ok (.isub, 1) := by decide +kernel
theorem dX6_weighLosses_77 : decode cX6_weighLosses 77 = .ok (.iadd, 1) := by decide +kernel
theorem dX6_weighLosses_78 : decode cX6_weighLosses 78 = .ok (.iastore, 1) := by decide +kernel
theorem dX6_weighLosses_79 : decode cX6_weighLosses 79 = .ok (.iinc 5 1, 3) := by decide +kernel
theorem dX6_weighLosses_82 : decode cX6_weighLosses 82 = .ok (.goto (-51), 3) := by decide +kernel
theorem dX6_weighLosses_85 : decode cX6_weighLosses 85 = .ok (.aload_n 0, 1) := by decide +kernel
theorem dX6_weighLosses_86 : decode cX6_weighLosses 86 = .ok (.getfield 10, 3) := by decide +kernel
theorem dX6_weighLosses_89 : decode cX6_weighLosses 89 = .ok (.iload_n 1, 1) := by decide +kernel
theorem dX6_weighLosses_90 : decode cX6_weighLosses 90 = .ok (.iload 4, 2) := by decide +kernel
theorem dX6_weighLosses_92 : decode cX6_weighLosses 92 = .ok (.invokevirtual 115, 3) := by decide +kernel
theorem dX6_weighLosses_95 : decode cX6_weighLosses 95 = .ok (.pop, 1) := by decide +kernel
theorem dX6_weighLosses_96 : decode cX6_weighLosses 96 = .ok (.return_, 1) := by decide +kernel
theorem dX6_mostLost_0 : decode cX6_mostLost 0 = .ok (.aload_n 0, 1) := by decide +kernel
theorem dX6_mostLost_1 : decode cX6_mostLost 1 = .ok (.getfield 56, 3) := by decide +kernel
theorem dX6_mostLost_4 : decode cX6_mostLost 4 = .ok (.iconst 0, 1) := by decide +kernel
theorem dX6_mostLost_5 : decode cX6_mostLost 5 = .ok (.iaload, 1) := by decide +kernel
theorem dX6_mostLost_6 : decode cX6_mostLost 6 = .ok (.istore_n 1, 1) := by decide +kernel
theorem dX6_mostLost_7 : decode cX6_mostLost 7 = .ok (.iconst 1, 1) := by decide +kernel
theorem dX6_mostLost_8 : decode cX6_mostLost 8 = .ok (.istore_n 2, 1) := by decide +kernel
theorem dX6_mostLost_9 : decode cX6_mostLost 9 = .ok (.iload_n 2, 1) := by decide +kernel
theorem dX6_mostLost_10 : decode cX6_mostLost 10 = .ok (.iconst 4, 1) := by decide +kernel
theorem dX6_mostLost_11 : decode cX6_mostLost 11 = .ok (.if_icmp .ge 20, 3) := by decide +kernel
theorem dX6_mostLost_14 : decode cX6_mostLost 14 = .ok (.iload_n 1, 1) := by decide +kernel
theorem dX6_mostLost_15 : decode cX6_mostLost 15 = .ok (.aload_n 0, 1) := by decide +kernel
theorem dX6_mostLost_16 : decode cX6_mostLost 16 = .ok (.getfield 56, 3) := by decide +kernel
theorem dX6_mostLost_19 : decode cX6_mostLost 19 = .ok (.iload_n 2, 1) := by decide +kernel
theorem dX6_mostLost_20 : decode cX6_mostLost 20 = .ok (.iaload, 1) := by decide +kernel
theorem dX6_mostLost_21 : decode cX6_mostLost 21 = .ok (.invokestatic 374, 3) := by decide +kernel
theorem dX6_mostLost_24 : decode cX6_mostLost 24 = .ok (.istore_n 1, 1) := by decide +kernel
theorem dX6_mostLost_25 : decode cX6_mostLost 25 = .ok (.iinc 2 1, 3) := by decide +kernel
theorem dX6_mostLost_28 : decode cX6_mostLost 28 = .ok (.goto (-19), 3) := by decide +kernel
theorem dX6_mostLost_31 : decode cX6_mostLost 31 = .ok (.iload_n 1, 1) := by decide +kernel
theorem dX6_mostLost_32 : decode cX6_mostLost 32 = .ok (.ireturn, 1) := by decide +kernel
theorem dX6_weighFall_0 : decode cX6_weighFall 0 = .ok (.aload_n 0, 1) := by decide +kernel
theorem dX6_weighFall_1 : decode cX6_weighFall 1 = .ok (.getfield 10, 3) := by decide +kernel
theorem dX6_weighFall_4 : decode cX6_weighFall 4 = .ok (.iload_n 1, 1) := by decide +kernel
theorem dX6_weighFall_5 : decode cX6_weighFall 5 = .ok (.iconst 0, 1) := by decide +kernel
theorem dX6_weighFall_6 : decode cX6_weighFall 6 = .ok (.invokevirtual 115, 3) := by decide +kernel
theorem dX6_weighFall_9 : decode cX6_weighFall 9 = .ok (.istore_n 2, 1) := by decide +kernel
theorem dX6_weighFall_10 : decode cX6_weighFall 10 = .ok (.iconst 0, 1) := by decide +kernel
theorem dX6_weighFall_11 : decode cX6_weighFall 11 = .ok (.istore_n 3, 1) := by decide +kernel
theorem dX6_weighFall_12 : decode cX6_weighFall 12 = .ok (.iload_n 3, 1) := by decide +kernel
theorem dX6_weighFall_13 : decode cX6_weighFall 13 = .ok (.aload_n 0, 1) := by decide +kernel
theorem dX6_weighFall_14 : decode cX6_weighFall 14 = .ok (.getfield 20, 3) := by decide +kernel
theorem dX6_weighFall_17 : decode cX6_weighFall 17 = .ok (.invokevirtual 155, 3) := by decide +kernel
theorem dX6_weighFall_20 : decode cX6_weighFall 20 = .ok (.if_icmp .ge 23, 3) := by decide +kernel
theorem dX6_weighFall_23 : decode cX6_weighFall 23 = .ok (.aload_n 0, 1) := by decide +kernel
theorem dX6_weighFall_24 : decode cX6_weighFall 24 = .ok (.getfield 59, 3) := by decide +kernel
theorem dX6_weighFall_27 : decode cX6_weighFall 27 = .ok (.iload_n 3, 1) := by decide +kernel
theorem dX6_weighFall_28 : decode cX6_weighFall 28 = .ok (.aload_n 0, 1) := by decide +kernel
theorem dX6_weighFall_29 : decode cX6_weighFall 29 = .ok (.getfield 10, 3) := by decide +kernel
theorem dX6_weighFall_32 : decode cX6_weighFall 32 = .ok (.iload_n 3, 1) := by decide +kernel
theorem dX6_weighFall_33 : decode cX6_weighFall 33 = .ok (.invokevirtual 371, 3) := by decide +kernel
theorem dX6_weighFall_36 : decode cX6_weighFall 36 = .ok (.iastore, 1) := by decide +kernel
theorem dX6_weighFall_37 : decode cX6_weighFall 37 = .ok (.iinc 3 1, 3) := by decide +kernel
theorem dX6_weighFall_40 : decode cX6_weighFall 40 = .ok (.goto (-28), 3) := by decide +kernel
theorem dX6_weighFall_43 : decode cX6_weighFall 43 = .ok (.aload_n 0, 1) := by decide +kernel
theorem dX6_weighFall_44 : decode cX6_weighFall 44 = .ok (.getfield 10, 3) := by decide +kernel
theorem dX6_weighFall_47 : decode cX6_weighFall 47 = .ok (.iload_n 1, 1) := by decide +kernel
theorem dX6_weighFall_48 : decode cX6_weighFall 48 = .ok (.iload_n 2, 1) := by decide +kernel
theorem dX6_weighFall_49 : decode cX6_weighFall 49 = .ok (.invokevirtual 115, 3) := by decide +kernel
theorem dX6_weighFall_52 : decode cX6_weighFall 52 = .ok (.pop, 1) := by decide +kernel
theorem dX6_weighFall_53 : decode cX6_weighFall 53 = .ok (.return_, 1) := by decide +kernel
theorem dX6_worthTo_0 : decode cX6_worthTo 0 = .ok (.iconst 0, 1) := by decide +kernel
theorem dX6_worthTo_1 : decode cX6_worthTo 1 = .ok (.istore_n 3, 1) := by decide +kernel
theorem dX6_worthTo_2 : decode cX6_worthTo 2 = .ok (.iconst 0, 1) := by decide +kernel
theorem dX6_worthTo_3 : decode cX6_worthTo 3 = .ok (.istore 4, 2) := by decide +kernel
theorem dX6_worthTo_5 : decode cX6_worthTo 5 = .ok (.iload 4, 2) := by decide +kernel
theorem dX6_worthTo_7 : decode cX6_worthTo 7 = .ok (.iconst 4, 1) := by decide +kernel
theorem dX6_worthTo_8 : decode cX6_worthTo 8 = .ok (.if_icmp .ge 44, 3) := by decide +kernel
theorem dX6_worthTo_11 : decode cX6_worthTo 11 = .ok (.iload_n 3, 1) := by decide +kernel
theorem dX6_worthTo_12 : decode cX6_worthTo 12 = .ok (.aload_n 0, 1) := by decide +kernel
theorem dX6_worthTo_13 : decode cX6_worthTo 13 = .ok (.getfield 10, 3) := by decide +kernel
theorem dX6_worthTo_16 : decode cX6_worthTo 16 = .ok (.iload_n 2, 1) := by decide +kernel
theorem dX6_worthTo_17 : decode cX6_worthTo 17 = .ok (.iload 4, 2) := by decide +kernel
theorem dX6_worthTo_19 : decode cX6_worthTo 19 = .ok (.invokevirtual 152, 3) := by decide +kernel
theorem dX6_worthTo_22 : decode cX6_worthTo 22 = .ok (.aload_n 0, 1) := by decide +kernel
theorem dX6_worthTo_23 : decode cX6_worthTo 23 = .ok (.getfield 10, 3) := by decide +kernel
theorem dX6_worthTo_26 : decode cX6_worthTo 26 = .ok (.iload 4, 2) := by decide +kernel
theorem dX6_worthTo_28 : decode cX6_worthTo 28 = .ok (.invokevirtual 377, 3) := by decide +kernel
theorem dX6_worthTo_31 : decode cX6_worthTo 31 = .ok (.imul, 1) := by decide +kernel
theorem dX6_worthTo_32 : decode cX6_worthTo 32 = .ok (.aload_n 0, 1) := by decide +kernel
theorem dX6_worthTo_33 : decode cX6_worthTo 33 = .ok (.getfield 53, 3) := by decide +kernel
theorem dX6_worthTo_36 : decode cX6_worthTo 36 = .ok (.iload_n 1, 1) := by decide +kernel
theorem dX6_worthTo_37 : decode cX6_worthTo 37 = .ok (.iconst 4, 1) := by decide +kernel
theorem dX6_worthTo_38 : decode cX6_worthTo 38 = .ok (.imul, 1) := by decide +kernel
theorem dX6_worthTo_39 : decode cX6_worthTo 39 = .ok (.iload 4, 2) := by decide +kernel
theorem dX6_worthTo_41 : decode cX6_worthTo 41 = .ok (.iadd, 1) := by decide +kernel
theorem dX6_worthTo_42 : decode cX6_worthTo 42 = .ok (.iaload, 1) := by decide +kernel
theorem dX6_worthTo_43 : decode cX6_worthTo 43 = .ok (.imul, 1) := by decide +kernel
theorem dX6_worthTo_44 : decode cX6_worthTo 44 = .ok (.iadd, 1) := by decide +kernel
theorem dX6_worthTo_45 : decode cX6_worthTo 45 = .ok (.istore_n 3, 1) := by decide +kernel
theorem dX6_worthTo_46 : decode cX6_worthTo 46 = .ok (.iinc 4 1, 3) := by decide +kernel
theorem dX6_worthTo_49 : decode cX6_worthTo 49 = .ok (.goto (-44), 3) := by decide +kernel
theorem dX6_worthTo_52 : decode cX6_worthTo 52 = .ok (.iload_n 3, 1) := by decide +kernel
theorem dX6_worthTo_53 : decode cX6_worthTo 53 = .ok (.ireturn, 1) := by decide +kernel
theorem dX6_wouldRather_0 : decode cX6_wouldRather 0 = .ok (.aload_n 0, 1) := by decide +kernel
theorem dX6_wouldRather_1 : decode cX6_wouldRather 1 = .ok (.aload_n 0, 1) := by decide +kernel
theorem dX6_wouldRather_2 : decode cX6_wouldRather 2 = .ok (.getfield 49, 3) := by decide +kernel
theorem dX6_wouldRather_5 : decode cX6_wouldRather 5 = .ok (.iload_n 1, 1) := by decide +kernel
theorem dX6_wouldRather_6 : decode cX6_wouldRather 6 = .ok (.iaload, 1) := by decide +kernel
theorem dX6_wouldRather_7 : decode cX6_wouldRather 7 = .ok (.iload_n 2, 1) := by decide +kernel
theorem dX6_wouldRather_8 : decode cX6_wouldRather 8 = .ok (.invokevirtual 189, 3) := by decide +kernel
theorem dX6_wouldRather_11 : decode cX6_wouldRather 11 = .ok (.aload_n 0, 1) := by decide +kernel
theorem dX6_wouldRather_12 : decode cX6_wouldRather 12 = .ok (.aload_n 0, 1) := by decide +kernel
theorem dX6_wouldRather_13 : decode cX6_wouldRather 13 = .ok (.getfield 49, 3) := by decide +kernel
theorem dX6_wouldRather_16 : decode cX6_wouldRather 16 = .ok (.iload_n 1, 1) := by decide +kernel
theorem dX6_wouldRather_17 : decode cX6_wouldRather 17 = .ok (.iaload, 1) := by decide +kernel
theorem dX6_wouldRather_18 : decode cX6_wouldRather 18 = .ok (.iload_n 1, 1) := by decide +kernel
theorem dX6_wouldRather_19 : decode cX6_wouldRather 19 = .ok (.invokevirtual 189, 3) := by decide +kernel
theorem dX6_wouldRather_22 : decode cX6_wouldRather 22 = .ok (.if_icmp .le 7, 3) := by decide +kernel
theorem dX6_wouldRather_25 : decode cX6_wouldRather 25 = .ok (.iconst 1, 1) := by decide +kernel
theorem dX6_wouldRather_26 : decode cX6_wouldRather 26 = .ok (.goto 4, 3) := by decide +kernel
theorem dX6_wouldRather_29 : decode cX6_wouldRather 29 = .ok (.iconst 0, 1) := by decide +kernel
theorem dX6_wouldRather_30 : decode cX6_wouldRather 30 = .ok (.ireturn, 1) := by decide +kernel
theorem dX6_wouldSwap_0 : decode cX6_wouldSwap 0 = .ok (.aload_n 0, 1) := by decide +kernel
theorem dX6_wouldSwap_1 : decode cX6_wouldSwap 1 = .ok (.getfield 49, 3) := by decide +kernel
theorem dX6_wouldSwap_4 : decode cX6_wouldSwap 4 = .ok (.iload_n 1, 1) := by decide +kernel
theorem dX6_wouldSwap_5 : decode cX6_wouldSwap 5 = .ok (.iaload, 1) := by decide +kernel
theorem dX6_wouldSwap_6 : decode cX6_wouldSwap 6 = .ok (.aload_n 0, 1) := by decide +kernel
theorem dX6_wouldSwap_7 : decode cX6_wouldSwap 7 = .ok (.getfield 49, 3) := by decide +kernel
theorem dX6_wouldSwap_10 : decode cX6_wouldSwap 10 = .ok (.iload_n 2, 1) := by decide +kernel
theorem dX6_wouldSwap_11 : decode cX6_wouldSwap 11 = .ok (.iaload, 1) := by decide +kernel
theorem dX6_wouldSwap_12 : decode cX6_wouldSwap 12 = .ok (.if_icmp .eq 25, 3) := by decide +kernel
theorem dX6_wouldSwap_15 : decode cX6_wouldSwap 15 = .ok (.aload_n 0, 1) := by decide +kernel
theorem dX6_wouldSwap_16 : decode cX6_wouldSwap 16 = .ok (.iload_n 1, 1) := by decide +kernel
theorem dX6_wouldSwap_17 : decode cX6_wouldSwap 17 = .ok (.iload_n 2, 1) := by decide +kernel
theorem dX6_wouldSwap_18 : decode cX6_wouldSwap 18 = .ok (.invokevirtual 380, 3) := by decide +kernel
theorem dX6_wouldSwap_21 : decode cX6_wouldSwap 21 = .ok (.ifCond .eq 16, 3) := by decide +kernel
theorem dX6_wouldSwap_24 : decode cX6_wouldSwap 24 = .ok (.aload_n 0, 1) := by decide +kernel
theorem dX6_wouldSwap_25 : decode cX6_wouldSwap 25 = .ok (.iload_n 2, 1) := by decide +kernel
theorem dX6_wouldSwap_26 : decode cX6_wouldSwap 26 = .ok (.iload_n 1, 1) := by decide +kernel
theorem dX6_wouldSwap_27 : decode cX6_wouldSwap 27 = .ok (.invokevirtual 380, 3) := by decide +kernel
theorem dX6_wouldSwap_30 : decode cX6_wouldSwap 30 = .ok (.ifCond .eq 7, 3) := by decide +kernel
theorem dX6_wouldSwap_33 : decode cX6_wouldSwap 33 = .ok (.iconst 1, 1) := by decide +kernel
theorem dX6_wouldSwap_34 : decode cX6_wouldSwap 34 = .ok (.goto 4, 3) := by decide +kernel
theorem dX6_wouldSwap_37 : decode cX6_wouldSwap 37 = .ok (.iconst 0, 1) := by decide +kernel
theorem dX6_wouldSwap_38 : decode cX6_wouldSwap 38 = .ok (.ireturn, 1) := by decide +kernel
theorem dX6_countPairs_0 : decode cX6_countPairs 0 = .ok (.iconst 0, 1) := by decide +kernel
theorem dX6_countPairs_1 : decode cX6_countPairs 1 = .ok (.istore_n 1, 1) := by decide +kernel
theorem dX6_countPairs_2 : decode cX6_countPairs 2 = .ok (.iconst 0, 1) := by decide +kernel
theorem dX6_countPairs_3 : decode cX6_countPairs 3 = .ok (.istore_n 2, 1) := by decide +kernel
theorem dX6_countPairs_4 : decode cX6_countPairs 4 = .ok (.iload_n 2, 1) := by decide +kernel
theorem dX6_countPairs_5 : decode cX6_countPairs 5 = .ok (.aload_n 0, 1) := by decide +kernel
theorem dX6_countPairs_6 : decode cX6_countPairs 6 = .ok (.getfield 20, 3) := by decide +kernel
theorem dX6_countPairs_9 : decode cX6_countPairs 9 = .ok (.invokevirtual 155, 3) := by decide +kernel
theorem dX6_countPairs_12 : decode cX6_countPairs 12 = .ok (.if_icmp .ge 42, 3) := by decide +kernel
theorem dX6_countPairs_15 : decode cX6_countPairs 15 = .ok (.iload_n 2, 1) := by decide +kernel
theorem dX6_countPairs_16 : decode cX6_countPairs 16 = .ok (.iconst 1, 1) := by decide +kernel
theorem dX6_countPairs_17 : decode cX6_countPairs 17 = .ok (.iadd, 1) := by decide +kernel
theorem dX6_countPairs_18 : decode cX6_countPairs 18 = .ok (.istore_n 3, 1) := by decide +kernel
theorem dX6_countPairs_19 : decode cX6_countPairs 19 = .ok (.iload_n 3, 1) := by decide +kernel
theorem dX6_countPairs_20 : decode cX6_countPairs 20 = .ok (.aload_n 0, 1) := by decide +kernel
theorem dX6_countPairs_21 : decode cX6_countPairs 21 = .ok (.getfield 20, 3) := by decide +kernel
theorem dX6_countPairs_24 : decode cX6_countPairs 24 = .ok (.invokevirtual 155, 3) := by decide +kernel
theorem dX6_countPairs_27 : decode cX6_countPairs 27 = .ok (.if_icmp .ge 21, 3) := by decide +kernel
theorem dX6_countPairs_30 : decode cX6_countPairs 30 = .ok (.aload_n 0, 1) := by decide +kernel
theorem dX6_countPairs_31 : decode cX6_countPairs 31 = .ok (.iload_n 2, 1) := by decide +kernel
theorem dX6_countPairs_32 : decode cX6_countPairs 32 = .ok (.iload_n 3, 1) := by decide +kernel
theorem dX6_countPairs_33 : decode cX6_countPairs 33 = .ok (.invokevirtual 192, 3) := by decide +kernel
theorem dX6_countPairs_36 : decode cX6_countPairs 36 = .ok (.ifCond .eq 6, 3) := by decide +kernel
theorem dX6_countPairs_39 : decode cX6_countPairs 39 = .ok (.iinc 1 1, 3) := by decide +kernel
theorem dX6_countPairs_42 : decode cX6_countPairs 42 = .ok (.iinc 3 1, 3) := by decide +kernel
theorem dX6_countPairs_45 : decode cX6_countPairs 45 = .ok (.goto (-26), 3) := by decide +kernel
theorem dX6_countPairs_48 : decode cX6_countPairs 48 = .ok (.iinc 2 1, 3) := by decide +kernel
theorem dX6_countPairs_51 : decode cX6_countPairs 51 = .ok (.goto (-47), 3) := by decide +kernel
theorem dX6_countPairs_54 : decode cX6_countPairs 54 = .ok (.iload_n 1, 1) := by decide +kernel
theorem dX6_countPairs_55 : decode cX6_countPairs 55 = .ok (.ireturn, 1) := by decide +kernel
theorem dX6_countRings_0 : decode cX6_countRings 0 = .ok (.iconst 0, 1) := by decide +kernel
theorem dX6_countRings_1 : decode cX6_countRings 1 = .ok (.istore_n 1, 1) := by decide +kernel
theorem dX6_countRings_2 : decode cX6_countRings 2 = .ok (.iconst 0, 1) := by decide +kernel
theorem dX6_countRings_3 : decode cX6_countRings 3 = .ok (.istore_n 2, 1) := by decide +kernel
theorem dX6_countRings_4 : decode cX6_countRings 4 = .ok (.iload_n 2, 1) := by decide +kernel
theorem dX6_countRings_5 : decode cX6_countRings 5 = .ok (.aload_n 0, 1) := by decide +kernel
theorem dX6_countRings_6 : decode cX6_countRings 6 = .ok (.getfield 20, 3) := by decide +kernel
theorem dX6_countRings_9 : decode cX6_countRings 9 = .ok (.invokevirtual 155, 3) := by decide +kernel
theorem dX6_countRings_12 : decode cX6_countRings 12 = .ok (.if_icmp .ge 67, 3) := by decide +kernel
theorem dX6_countRings_15 : decode cX6_countRings 15 = .ok (.iload_n 2, 1) := by decide +kernel
theorem dX6_countRings_16 : decode cX6_countRings 16 = .ok (.iconst 1, 1) := by decide +kernel
theorem dX6_countRings_17 : decode cX6_countRings 17 = .ok (.iadd, 1) := by decide +kernel
theorem dX6_countRings_18 : decode cX6_countRings 18 = .ok (.istore_n 3, 1) := by decide +kernel
theorem dX6_countRings_19 : decode cX6_countRings 19 = .ok (.iload_n 3, 1) := by decide +kernel
theorem dX6_countRings_20 : decode cX6_countRings 20 = .ok (.aload_n 0, 1) := by decide +kernel
theorem dX6_countRings_21 : decode cX6_countRings 21 = .ok (.getfield 20, 3) := by decide +kernel
theorem dX6_countRings_24 : decode cX6_countRings 24 = .ok (.invokevirtual 155, 3) := by decide +kernel
theorem dX6_countRings_27 : decode cX6_countRings 27 = .ok (.if_icmp .ge 46, 3) := by decide +kernel
theorem dX6_countRings_30 : decode cX6_countRings 30 = .ok (.iload_n 2, 1) := by decide +kernel
theorem dX6_countRings_31 : decode cX6_countRings 31 = .ok (.iconst 1, 1) := by decide +kernel
theorem dX6_countRings_32 : decode cX6_countRings 32 = .ok (.iadd, 1) := by decide +kernel
theorem dX6_countRings_33 : decode cX6_countRings 33 = .ok (.istore 4, 2) := by decide +kernel
theorem dX6_countRings_35 : decode cX6_countRings 35 = .ok (.iload 4, 2) := by decide +kernel
theorem dX6_countRings_37 : decode cX6_countRings 37 = .ok (.aload_n 0, 1) := by decide +kernel
theorem dX6_countRings_38 : decode cX6_countRings 38 = .ok (.getfield 20, 3) := by decide +kernel
theorem dX6_countRings_41 : decode cX6_countRings 41 = .ok (.invokevirtual 155, 3) := by decide +kernel
theorem dX6_countRings_44 : decode cX6_countRings 44 = .ok (.if_icmp .ge 23, 3) := by decide +kernel
theorem dX6_countRings_47 : decode cX6_countRings 47 = .ok (.aload_n 0, 1) := by decide +kernel
theorem dX6_countRings_48 : decode cX6_countRings 48 = .ok (.iload_n 2, 1) := by decide +kernel
theorem dX6_countRings_49 : decode cX6_countRings 49 = .ok (.iload_n 3, 1) := by decide +kernel
theorem dX6_countRings_50 : decode cX6_countRings 50 = .ok (.iload 4, 2) := by decide +kernel
theorem dX6_countRings_52 : decode cX6_countRings 52 = .ok (.invokevirtual 383, 3) := by decide +kernel
theorem dX6_countRings_55 : decode cX6_countRings 55 = .ok (.ifCond .eq 6, 3) := by decide +kernel
theorem dX6_countRings_58 : decode cX6_countRings 58 = .ok (.iinc 1 1, 3) := by decide +kernel
theorem dX6_countRings_61 : decode cX6_countRings 61 = .ok (.iinc 4 1, 3) := by decide +kernel
theorem dX6_countRings_64 : decode cX6_countRings 64 = .ok (.goto (-29), 3) := by decide +kernel
theorem dX6_countRings_67 : decode cX6_countRings 67 = .ok (.iinc 3 1, 3) := by decide +kernel
theorem dX6_countRings_70 : decode cX6_countRings 70 = .ok (.goto (-51), 3) := by decide +kernel
theorem dX6_countRings_73 : decode cX6_countRings 73 = .ok (.iinc 2 1, 3) := by decide +kernel
theorem dX6_countRings_76 : decode cX6_countRings 76 = .ok (.goto (-72), 3) := by decide +kernel
theorem dX6_countRings_79 : decode cX6_countRings 79 = .ok (.iload_n 1, 1) := by decide +kernel
theorem dX6_countRings_80 : decode cX6_countRings 80 = .ok (.ireturn, 1) := by decide +kernel
theorem dX6_isRing_0 : decode cX6_isRing 0 = .ok (.aload_n 0, 1) := by decide +kernel
theorem dX6_isRing_1 : decode cX6_isRing 1 = .ok (.getfield 49, 3) := by decide +kernel
theorem dX6_isRing_4 : decode cX6_isRing 4 = .ok (.iload_n 1, 1) := by decide +kernel
theorem dX6_isRing_5 : decode cX6_isRing 5 = .ok (.iaload, 1) := by decide +kernel
theorem dX6_isRing_6 : decode cX6_isRing 6 = .ok (.aload_n 0, 1) := by decide +kernel
theorem dX6_isRing_7 : decode cX6_isRing 7 = .ok (.getfield 49, 3) := by decide +kernel
theorem dX6_isRing_10 : decode cX6_isRing 10 = .ok (.iload_n 2, 1) := by decide +kernel
theorem dX6_isRing_11 : decode cX6_isRing 11 = .ok (.iaload, 1) := by decide +kernel
theorem dX6_isRing_12 : decode cX6_isRing 12 = .ok (.if_icmp .eq 37, 3) := by decide +kernel
theorem dX6_isRing_15 : decode cX6_isRing 15 = .ok (.aload_n 0, 1) := by decide +kernel
theorem dX6_isRing_16 : decode cX6_isRing 16 = .ok (.getfield 49, 3) := by decide +kernel
theorem dX6_isRing_19 : decode cX6_isRing 19 = .ok (.iload_n 2, 1) := by decide +kernel
theorem dX6_isRing_20 : decode cX6_isRing 20 = .ok (.iaload, 1) := by decide +kernel
theorem dX6_isRing_21 : decode cX6_isRing 21 = .ok (.aload_n 0, 1) := by decide +kernel
theorem dX6_isRing_22 : decode cX6_isRing 22 = .ok (.getfield 49, 3) := by decide +kernel
theorem dX6_isRing_25 : decode cX6_isRing 25 = .ok (.iload_n 3, 1) := by decide +kernel
theorem dX6_isRing_26 : decode cX6_isRing 26 = .ok (.iaload, 1) := by decide +kernel
theorem dX6_isRing_27 : decode cX6_isRing 27 = .ok (.if_icmp .eq 22, 3) := by decide +kernel
theorem dX6_isRing_30 : decode cX6_isRing 30 = .ok (.aload_n 0, 1) := by decide +kernel
theorem dX6_isRing_31 : decode cX6_isRing 31 = .ok (.getfield 49, 3) := by decide +kernel
theorem dX6_isRing_34 : decode cX6_isRing 34 = .ok (.iload_n 3, 1) := by decide +kernel
theorem dX6_isRing_35 : decode cX6_isRing 35 = .ok (.iaload, 1) := by decide +kernel
theorem dX6_isRing_36 : decode cX6_isRing 36 = .ok (.aload_n 0, 1) := by decide +kernel
theorem dX6_isRing_37 : decode cX6_isRing 37 = .ok (.getfield 49, 3) := by decide +kernel
theorem dX6_isRing_40 : decode cX6_isRing 40 = .ok (.iload_n 1, 1) := by decide +kernel
theorem dX6_isRing_41 : decode cX6_isRing 41 = .ok (.iaload, 1) := by decide +kernel
theorem dX6_isRing_42 : decode cX6_isRing 42 = .ok (.if_icmp .eq 7, 3) := by decide +kernel
theorem dX6_isRing_45 : decode cX6_isRing 45 = .ok (.iconst 1, 1) := by decide +kernel
theorem dX6_isRing_46 : decode cX6_isRing 46 = .ok (.goto 4, 3) := by decide +kernel
theorem dX6_isRing_49 : decode cX6_isRing 49 = .ok (.iconst 0, 1) := by decide +kernel
theorem dX6_isRing_50 : decode cX6_isRing 50 = .ok (.istore 4, 2) := by decide +kernel
theorem dX6_isRing_52 : decode cX6_isRing 52 = .ok (.iload 4, 2) := by decide +kernel
theorem dX6_isRing_54 : decode cX6_isRing 54 = .ok (.ifCond .eq 34, 3) := by decide +kernel
theorem dX6_isRing_57 : decode cX6_isRing 57 = .ok (.aload_n 0, 1) := by decide +kernel
theorem dX6_isRing_58 : decode cX6_isRing 58 = .ok (.iload_n 1, 1) := by decide +kernel
theorem dX6_isRing_59 : decode cX6_isRing 59 = .ok (.iload_n 2, 1) := by decide +kernel
theorem dX6_isRing_60 : decode cX6_isRing 60 = .ok (.invokevirtual 380, 3) := by decide +kernel
theorem dX6_isRing_63 : decode cX6_isRing 63 = .ok (.ifCond .eq 25, 3) := by decide +kernel
theorem dX6_isRing_66 : decode cX6_isRing 66 = .ok (.aload_n 0, 1) := by decide +kernel
theorem dX6_isRing_67 : decode cX6_isRing 67 = .ok (.iload_n 2, 1) := by decide +kernel
theorem dX6_isRing_68 : decode cX6_isRing 68 = .ok (.iload_n 3, 1) := by decide +kernel
theorem dX6_isRing_69 : decode cX6_isRing 69 = .ok (.invokevirtual 380, 3) := by decide +kernel
theorem dX6_isRing_72 : decode cX6_isRing 72 = .ok (.ifCond .eq 16, 3) := by decide +kernel
theorem dX6_isRing_75 : decode cX6_isRing 75 = .ok (.aload_n 0, 1) := by decide +kernel
theorem dX6_isRing_76 : decode cX6_isRing 76 = .ok (.iload_n 3, 1) := by decide +kernel
theorem dX6_isRing_77 : decode cX6_isRing 77 = .ok (.iload_n 1, 1) := by decide +kernel
theorem dX6_isRing_78 : decode cX6_isRing 78 = .ok (.invokevirtual 380, 3) := by decide +kernel
theorem dX6_isRing_81 : decode cX6_isRing 81 = .ok (.ifCond .eq 7, 3) := by decide +kernel
theorem dX6_isRing_84 : decode cX6_isRing 84 = .ok (.iconst 1, 1) := by decide +kernel
theorem dX6_isRing_85 : decode cX6_isRing 85 = .ok (.goto 4, 3) := by decide +kernel
theorem dX6_isRing_88 : decode cX6_isRing 88 = .ok (.iconst 0, 1) := by decide +kernel
theorem dX6_isRing_89 : decode cX6_isRing 89 = .ok (.ireturn, 1) := by decide +kernel
theorem dX6_fitsAllSeen_0 : decode cX6_fitsAllSeen 0 = .ok (.iconst 0, 1) := by decide +kernel
theorem dX6_fitsAllSeen_1 : decode cX6_fitsAllSeen 1 = .ok (.istore_n 2, 1) := by decide +kernel
theorem dX6_fitsAllSeen_2 : decode cX6_fitsAllSeen 2 = .ok (.iload_n 2, 1) := by decide +kernel
theorem dX6_fitsAllSeen_3 : decode cX6_fitsAllSeen 3 = .ok (.aload_n 0, 1) := by decide +kernel
theorem dX6_fitsAllSeen_4 : decode cX6_fitsAllSeen 4 = .ok (.getfield 224, 3) := by decide +kernel
theorem dX6_fitsAllSeen_7 : decode cX6_fitsAllSeen 7 = .ok (.if_icmp .ge 37, 3) := by decide +kernel
theorem dX6_fitsAllSeen_10 : decode cX6_fitsAllSeen 10 = .ok (.aload_n 0, 1) := by decide +kernel
theorem dX6_fitsAllSeen_11 : decode cX6_fitsAllSeen 11 = .ok (.getfield 10, 3) := by decide +kernel
theorem dX6_fitsAllSeen_14 : decode cX6_fitsAllSeen 14 = .ok (.iload_n 1, 1) := by decide +kernel
theorem dX6_fitsAllSeen_15 : decode cX6_fitsAllSeen 15 = .ok (.aload_n 0, 1) := by decide +kernel
theorem dX6_fitsAllSeen_16 : decode cX6_fitsAllSeen 16 = .ok (.getfield 62, 3) := by decide +kernel
theorem dX6_fitsAllSeen_19 : decode cX6_fitsAllSeen 19 = .ok (.iload_n 2, 1) := by decide +kernel
theorem dX6_fitsAllSeen_20 : decode cX6_fitsAllSeen 20 = .ok (.iaload, 1) := by decide +kernel
theorem dX6_fitsAllSeen_21 : decode cX6_fitsAllSeen 21 = .ok (.invokevirtual 146, 3) := by decide +kernel
theorem dX6_fitsAllSeen_24 : decode cX6_fitsAllSeen 24 = .ok (.aload_n 0, 1) := by decide +kernel
theorem dX6_fitsAllSeen_25 : decode cX6_fitsAllSeen 25 = .ok (.getfield 65, 3) := by decide +kernel
theorem dX6_fitsAllSeen_28 : decode cX6_fitsAllSeen 28 = .ok (.iload_n 2, 1) := by decide +kernel
theorem dX6_fitsAllSeen_29 : decode cX6_fitsAllSeen 29 = .ok (.iaload, 1) := by decide +kernel
theorem dX6_fitsAllSeen_30 : decode cX6_fitsAllSeen 30 = .ok (.ishr, 1) := by decide +kernel
theorem dX6_fitsAllSeen_31 : decode cX6_fitsAllSeen 31 = .ok (.iconst 1, 1) := by decide +kernel
theorem dX6_fitsAllSeen_32 : decode cX6_fitsAllSeen 32 = .ok (.iand, 1) := by decide +kernel
theorem dX6_fitsAllSeen_33 : decode cX6_fitsAllSeen 33 = .ok (.ifCond .ne 5, 3) := by decide +kernel
theorem dX6_fitsAllSeen_36 : decode cX6_fitsAllSeen 36 = .ok (.iconst 0, 1) := by decide +kernel
theorem dX6_fitsAllSeen_37 : decode cX6_fitsAllSeen 37 = .ok (.ireturn, 1) := by decide +kernel
theorem dX6_fitsAllSeen_38 : decode cX6_fitsAllSeen 38 = .ok (.iinc 2 1, 3) := by decide +kernel
theorem dX6_fitsAllSeen_41 : decode cX6_fitsAllSeen 41 = .ok (.goto (-39), 3) := by decide +kernel
theorem dX6_fitsAllSeen_44 : decode cX6_fitsAllSeen 44 = .ok (.iconst 1, 1) := by decide +kernel
theorem dX6_fitsAllSeen_45 : decode cX6_fitsAllSeen 45 = .ok (.ireturn, 1) := by decide +kernel
theorem dX6_countStanding_0 : decode cX6_countStanding 0 = .ok (.iconst 0, 1) := by decide +kernel
theorem dX6_countStanding_1 : decode cX6_countStanding 1 = .ok (.istore_n 1, 1) := by decide +kernel
theorem dX6_countStanding_2 : decode cX6_countStanding 2 = .ok (.iconst 0, 1) := by decide +kernel
theorem dX6_countStanding_3 : decode cX6_countStanding 3 = .ok (.istore_n 2, 1) := by decide +kernel
theorem dX6_countStanding_4 : decode cX6_countStanding 4 = .ok (.iload_n 2, 1) := by decide +kernel
theorem dX6_countStanding_5 : decode cX6_countStanding 5 = .ok (.aload_n 0, 1) := by decide +kernel
theorem dX6_countStanding_6 : decode cX6_countStanding 6 = .ok (.getfield 20, 3) := by decide +kernel
theorem dX6_countStanding_9 : decode cX6_countStanding 9 = .ok (.invokevirtual 155, 3) := by decide +kernel
theorem dX6_countStanding_12 : decode cX6_countStanding 12 = .ok (.if_icmp .ge 23, 3) := by decide +kernel
theorem dX6_countStanding_15 : decode cX6_countStanding 15 = .ok (.aload_n 0, 1) := by decide +kernel
theorem dX6_countStanding_16 : decode cX6_countStanding 16 = .ok (.getfield 10, 3) := by decide +kernel
theorem dX6_countStanding_19 : decode cX6_countStanding 19 = .ok (.iload_n 2, 1) := by decide +kernel
theorem dX6_countStanding_20 : decode cX6_countStanding 20 = .ok (.invokevirtual 112, 3) := by decide +kernel
theorem dX6_countStanding_23 : decode cX6_countStanding 23 = .ok (.ifCond .le 6, 3) := by decide +kernel
theorem dX6_countStanding_26 : decode cX6_countStanding 26 = .ok (.iinc 1 1, 3) := by decide +kernel
theorem dX6_countStanding_29 : decode cX6_countStanding 29 = .ok (.iinc 2 1, 3) := by decide +kernel
theorem dX6_countStanding_32 : decode cX6_countStanding 32 = .ok (.goto (-28), 3) := by decide +kernel
theorem dX6_countStanding_35 : decode cX6_countStanding 35 = .ok (.iload_n 1, 1) := by decide +kernel
theorem dX6_countStanding_36 : decode cX6_countStanding 36 = .ok (.ireturn, 1) := by decide +kernel
theorem dX6_countOwners_0 : decode cX6_countOwners 0 = .ok (.iconst 0, 1) := by decide +kernel
theorem dX6_countOwners_1 : decode cX6_countOwners 1 = .ok (.istore_n 1, 1) := by decide +kernel
theorem dX6_countOwners_2 : decode cX6_countOwners 2 = .ok (.iconst 0, 1) := by decide +kernel
theorem dX6_countOwners_3 : decode cX6_countOwners 3 = .ok (.istore_n 2, 1) := by decide +kernel
theorem dX6_countOwners_4 : decode cX6_countOwners 4 = .ok (.iload_n 2, 1) := by decide +kernel
theorem dX6_countOwners_5 : decode cX6_countOwners 5 = .ok (.aload_n 0, 1) := by decide +kernel
theorem dX6_countOwners_6 : decode cX6_countOwners 6 = .ok (.getfield 20, 3) := by decide +kernel
theorem dX6_countOwners_9 : decode cX6_countOwners 9 = .ok (.invokevirtual 155, 3) := by decide +kernel
theorem dX6_countOwners_12 : decode cX6_countOwners 12 = .ok (.if_icmp .ge 20, 3) := by decide +kernel
theorem dX6_countOwners_15 : decode cX6_countOwners 15 = .ok (.iload_n 1, 1) := by decide +kernel
theorem dX6_countOwners_16 : decode cX6_countOwners 16 = .ok (.iconst 1, 1) := by decide +kernel
theorem dX6_countOwners_17 : decode cX6_countOwners 17 = .ok (.aload_n 0, 1) := by decide +kernel
theorem dX6_countOwners_18 : decode cX6_countOwners 18 = .ok (.getfield 49, 3) := by decide +kernel
theorem dX6_countOwners_21 : decode cX6_countOwners 21 = .ok (.iload_n 2, 1) := by decide +kernel
theorem dX6_countOwners_22 : decode cX6_countOwners 22 = .ok (.iaload, 1) := by decide +kernel
theorem dX6_countOwners_23 : decode cX6_countOwners 23 = .ok (.ishl, 1) := by decide +kernel
theorem dX6_countOwners_24 : decode cX6_countOwners 24 = .ok (.ior, 1) := by decide +kernel
theorem dX6_countOwners_25 : decode cX6_countOwners 25 = .ok (.istore_n 1, 1) := by decide +kernel
theorem dX6_countOwners_26 : decode cX6_countOwners 26 = .ok (.iinc 2 1, 3) := by decide +kernel
theorem dX6_countOwners_29 : decode cX6_countOwners 29 = .ok (.goto (-25), 3) := by decide +kernel
theorem dX6_countOwners_32 : decode cX6_countOwners 32 = .ok (.iload_n 1, 1) := by decide +kernel
theorem dX6_countOwners_33 : decode cX6_countOwners 33 = .ok (.invokestatic 231, 3) := by decide +kernel
theorem dX6_countOwners_36 : decode cX6_countOwners 36 = .ok (.ireturn, 1) := by decide +kernel
theorem dX7_init_0 : decode cX7_init 0 = .ok (.aload_n 0, 1) := by decide +kernel
theorem dX7_init_1 : decode cX7_init 1 = .ok (.invokespecial 1, 3) := by decide +kernel
theorem dX7_init_4 : decode cX7_init 4 = .ok (.aload_n 0, 1) := by decide +kernel
theorem dX7_init_5 : decode cX7_init 5 = .ok (.bipush 20, 2) := by decide +kernel
theorem dX7_init_7 : decode cX7_init 7 = .ok (.newarray .int, 2) := by decide +kernel
theorem dX7_init_9 : decode cX7_init 9 = .ok (.putfield 7, 3) := by decide +kernel
theorem dX7_init_12 : decode cX7_init 12 = .ok (.aload_n 0, 1) := by decide +kernel
theorem dX7_init_13 : decode cX7_init 13 = .ok (.bipush 16, 2) := by decide +kernel
theorem dX7_init_15 : decode cX7_init 15 = .ok (.newarray .int, 2) := by decide +kernel
theorem dX7_init_17 : decode cX7_init 17 = .ok (.putfield 13, 3) := by decide +kernel
theorem dX7_init_20 : decode cX7_init 20 = .ok (.aload_n 0, 1) := by decide +kernel
theorem dX7_init_21 : decode cX7_init 21 = .ok (.bipush 12, 2) := by decide +kernel
theorem dX7_init_23 : decode cX7_init 23 = .ok (.newarray .int, 2) := by decide +kernel
theorem dX7_init_25 : decode cX7_init 25 = .ok (.putfield 16, 3) := by decide +kernel
theorem dX7_init_28 : decode cX7_init 28 = .ok (.aload_n 0, 1) := by decide +kernel
theorem dX7_init_29 : decode cX7_init 29 = .ok (.bipush 12, 2) := by decide +kernel
theorem dX7_init_31 : decode cX7_init 31 = .ok (.newarray .int, 2) := by decide +kernel
theorem dX7_init_33 : decode cX7_init 33 = .ok (.putfield 19, 3) := by decide +kernel
theorem dX7_init_36 : decode cX7_init 36 = .ok (.aload_n 0, 1) := by decide +kernel
theorem dX7_init_37 : decode cX7_init 37 = .ok (.iconst 4, 1) := by decide +kernel
theorem dX7_init_38 : decode cX7_init 38 = .ok (.newarray .int, 2) := by decide +kernel
theorem dX7_init_40 : decode cX7_init 40 = .ok (.putfield 22, 3) := by decide +kernel
theorem dX7_init_43 : decode cX7_init 43 = .ok (.aload_n 0, 1) := by decide +kernel
theorem dX7_init_44 : decode cX7_init 44 = .ok (.iconst 4, 1) := by decide +kernel
theorem dX7_init_45 : decode cX7_init 45 = .ok (.newarray .int, 2) := by decide +kernel
theorem dX7_init_47 : decode cX7_init 47 = .ok (.putfield 25, 3) := by decide +kernel
theorem dX7_init_50 : decode cX7_init 50 = .ok (.aload_n 0, 1) := by decide +kernel
theorem dX7_init_51 : decode cX7_init 51 = .ok (.bipush 16, 2) := by decide +kernel
theorem dX7_init_53 : decode cX7_init 53 = .ok (.newarray .int, 2) := by decide +kernel
theorem dX7_init_55 : decode cX7_init 55 = .ok (.putfield 28, 3) := by decide +kernel
theorem dX7_init_58 : decode cX7_init 58 = .ok (.aload_n 0, 1) := by decide +kernel
theorem dX7_init_59 : decode cX7_init 59 = .ok (.iconst 3, 1) := by decide +kernel
theorem dX7_init_60 : decode cX7_init 60 = .ok (.newarray .int, 2) := by decide +kernel
theorem dX7_init_62 : decode cX7_init 62 = .ok (.putfield 31, 3) := by decide +kernel
theorem dX7_init_65 : decode cX7_init 65 = .ok (.aload_n 0, 1) := by decide +kernel
theorem dX7_init_66 : decode cX7_init 66 = .ok (.iconst 3, 1) := by decide +kernel
theorem dX7_init_67 : decode cX7_init 67 = .ok (.newarray .int, 2) := by decide +kernel
theorem dX7_init_69 : decode cX7_init 69 = .ok (.putfield 34, 3) := by decide +kernel
theorem dX7_init_72 : decode cX7_init 72 = .ok (.aload_n 0, 1) := by decide +kernel
theorem dX7_init_73 : decode cX7_init 73 = .ok (.bipush 12, 2) := by decide +kernel
theorem dX7_init_75 : decode cX7_init 75 = .ok (.newarray .int, 2) := by decide +kernel
theorem dX7_init_77 : decode cX7_init 77 = .ok (.putfield 37, 3) := by decide +kernel
theorem dX7_init_80 : decode cX7_init 80 = .ok (.aload_n 0, 1) := by decide +kernel
theorem dX7_init_81 : decode cX7_init 81 = .ok (.bipush 12, 2) := by decide +kernel
theorem dX7_init_83 : decode cX7_init 83 = .ok (.newarray .int, 2) := by decide +kernel
theorem dX7_init_85 : decode cX7_init 85 = .ok (.putfield 40, 3) := by decide +kernel
theorem dX7_init_88 : decode cX7_init 88 = .ok (.aload_n 0, 1) := by decide +kernel
theorem dX7_init_89 : decode cX7_init 89 = .ok (.sipush 1625, 3) := by decide +kernel
theorem dX7_init_92 : decode cX7_init 92 = .ok (.newarray .int, 2) := by decide +kernel
theorem dX7_init_94 : decode cX7_init 94 = .ok (.putfield 43, 3) := by decide +kernel
theorem dX7_init_97 : decode cX7_init 97 = .ok (.aload_n 0, 1) := by decide +kernel
theorem dX7_init_98 : decode cX7_init 98 = .ok (.bipush 12, 2) := by decide +kernel
theorem dX7_init_100 : decode cX7_init 100 = .ok (.newarray .int, 2) := by decide +kernel
theorem dX7_init_102 : decode cX7_init 102 = .ok (.putfield 46, 3) := by decide +kernel
theorem dX7_init_105 : decode cX7_init 105 = .ok (.aload_n 0, 1) := by decide +kernel
theorem dX7_init_106 : decode cX7_init 106 = .ok (.bipush 8, 2) := by decide +kernel
theorem dX7_init_108 : decode cX7_init 108 = .ok (.newarray .int, 2) := by decide +kernel
theorem dX7_init_110 : decode cX7_init 110 = .ok (.putfield 49, 3) := by decide +kernel
theorem dX7_init_113 : decode cX7_init 113 = .ok (.aload_n 0, 1) := by decide +kernel
theorem dX7_init_114 : decode cX7_init 114 = .ok (.bipush 8, 2) := by decide +kernel
theorem dX7_init_116 : decode cX7_init 116 = .ok (.newarray .int, 2) := by decide +kernel
theorem dX7_init_118 : decode cX7_init 118 = .ok (.putfield 52, 3) := by decide +kernel
theorem dX7_init_121 : decode cX7_init 121 = .ok (.aload_n 0, 1) := by decide +kernel
theorem dX7_init_122 : decode cX7_init 122 = .ok (.bipush 14, 2) := by decide +kernel
theorem dX7_init_124 : decode cX7_init 124 = .ok (.newarray .long, 2) := by decide +kernel
theorem dX7_init_126 : decode cX7_init 126 = .ok (.putfield 55, 3) := by decide +kernel
theorem dX7_init_129 : decode cX7_init 129 = .ok (.aload_n 0, 1) := by decide +kernel
theorem dX7_init_130 : decode cX7_init 130 = .ok (.iconst 4, 1) := by decide +kernel
theorem dX7_init_131 : decode cX7_init 131 = .ok (.newarray .boolean, 2) := by decide +kernel
theorem dX7_init_133 : decode cX7_init 133 = .ok (.putfield 59, 3) := by decide +kernel
theorem dX7_init_136 : decode cX7_init 136 = .ok (.aload_n 0, 1) := by decide +kernel
theorem dX7_init_137 : decode cX7_init 137 = .ok (.iconst 4, 1) := by decide +kernel
theorem dX7_init_138 : decode cX7_init 138 = .ok (.newarray .int, 2) := by decide +kernel
theorem dX7_init_140 : decode cX7_init 140 = .ok (.putfield 63, 3) := by decide +kernel
theorem dX7_init_143 : decode cX7_init 143 = .ok (.aload_n 0, 1) := by decide +kernel
theorem dX7_init_144 : decode cX7_init 144 = .ok (.iconst 4, 1) := by decide +kernel
theorem dX7_init_145 : decode cX7_init 145 = .ok (.newarray .int, 2) := by decide +kernel
theorem dX7_init_147 : decode cX7_init 147 = .ok (.putfield 66, 3) := by decide +kernel
theorem dX7_init_150 : decode cX7_init 150 = .ok (.aload_n 0, 1) := by decide +kernel
theorem dX7_init_151 : decode cX7_init 151 = .ok (.sipush 192, 3) := by decide +kernel
theorem dX7_init_154 : decode cX7_init 154 = .ok (.newarray .int, 2) := by decide +kernel
theorem dX7_init_156 : decode cX7_init 156 = .ok (.putfield 69, 3) := by decide +kernel
theorem dX7_init_159 : decode cX7_init 159 = .ok (.aload_n 0, 1) := by decide +kernel
theorem dX7_init_160 : decode cX7_init 160 = .ok (.bipush 48, 2) := by decide +kernel
theorem dX7_init_162 : decode cX7_init 162 = .ok (.newarray .int, 2) := by decide +kernel
theorem dX7_init_164 : decode cX7_init 164 = .ok (.putfield 72, 3) := by decide +kernel
theorem dX7_init_167 : decode cX7_init 167 = .ok (.iconst 0, 1) := by decide +kernel
theorem dX7_init_168 : decode cX7_init 168 = .ok (.istore_n 1, 1) := by decide +kernel
theorem dX7_init_169 : decode cX7_init 169 = .ok (.iload_n 1, 1) := by decide +kernel
theorem dX7_init_170 : decode cX7_init 170 = .ok (.iconst 4, 1) := by decide +kernel
theorem dX7_init_171 : decode cX7_init 171 = .ok (.if_icmp .ge 24, 3) := by decide +kernel
theorem dX7_init_174 : decode cX7_init 174 = .ok (.aload_n 0, 1) := by decide +kernel
theorem dX7_init_175 : decode cX7_init 175 = .ok (.getfield 22, 3) := by decide +kernel
theorem dX7_init_178 : decode cX7_init 178 = .ok (.iload_n 1, 1) := by decide +kernel
theorem dX7_init_179 : decode cX7_init 179 = .ok (.bipush 90, 2) := by decide +kernel
theorem dX7_init_181 : decode cX7_init 181 = .ok (.iastore, 1) := by decide +kernel
theorem dX7_init_182 : decode cX7_init 182 = .ok (.aload_n 0, 1) := by decide +kernel
theorem dX7_init_183 : decode cX7_init 183 = .ok (.getfield 25, 3) := by decide +kernel
theorem dX7_init_186 : decode cX7_init 186 = .ok (.iload_n 1, 1) := by decide +kernel
theorem dX7_init_187 : decode cX7_init 187 = .ok (.iconst 4, 1) := by decide +kernel
theorem dX7_init_188 : decode cX7_init 188 = .ok (.iastore, 1) := by decide +kernel
theorem dX7_init_189 : decode cX7_init 189 = .ok (.iinc 1 1, 3) := by decide +kernel
theorem dX7_init_192 : decode cX7_init 192 = .ok (.goto (-23), 3) := by decide +kernel
theorem dX7_init_195 : decode cX7_init 195 = .ok (.iconst 0, 1) := by decide +kernel
theorem dX7_init_196 : decode cX7_init 196 = .ok (.istore_n 1, 1) := by decide +kernel
theorem dX7_init_197 : decode cX7_init 197 = .ok (.iload_n 1, 1) := by decide +kernel
theorem dX7_init_198 : decode cX7_init 198 = .ok (.bipush 16, 2) := by decide +kernel
theorem dX7_init_200 : decode cX7_init 200 = .ok (.if_icmp .ge 16, 3) := by decide +kernel
theorem dX7_init_203 : decode cX7_init 203 = .ok (.aload_n 0, 1) := by decide +kernel
theorem dX7_init_204 : decode cX7_init 204 = .ok (.getfield 28, 3) := by decide +kernel
theorem dX7_init_207 : decode cX7_init 207 = .ok (.iload_n 1, 1) := by decide +kernel
theorem dX7_init_208 : decode cX7_init 208 = .ok (.iconst 1, 1) := by decide +kernel
theorem dX7_init_209 : decode cX7_init 209 = .ok (.iastore, 1) := by decide +kernel
theorem dX7_init_210 : decode cX7_init 210 = .ok (.iinc 1 1, 3) := by decide +kernel
theorem dX7_init_213 : decode cX7_init 213 = .ok (.goto (-16), 3) := by decide +kernel
theorem dX7_init_216 : decode cX7_init 216 = .ok (.iconst 0, 1) := by decide +kernel
theorem dX7_init_217 : decode cX7_init 217 = .ok (.istore_n 1, 1) := by decide +kernel
theorem dX7_init_218 : decode cX7_init 218 = .ok (.iload_n 1, 1) := by decide +kernel
theorem dX7_init_219 : decode cX7_init 219 = .ok (.iconst 3, 1) := by decide +kernel
theorem dX7_init_220 : decode cX7_init 220 = .ok (.if_icmp .ge 31, 3) := by decide +kernel
theorem dX7_init_223 : decode cX7_init 223 = .ok (.aload_n 0, 1) := by decide +kernel
theorem dX7_init_224 : decode cX7_init 224 = .ok (.getfield 31, 3) := by decide +kernel
theorem dX7_init_227 : decode cX7_init 227 = .ok (.iload_n 1, 1) := by decide +kernel
theorem dX7_init_228 : decode cX7_init 228 = .ok (.sipush 1000, 3) := by decide +kernel
theorem dX7_init_231 : decode cX7_init 231 = .ok (.iastore, 1) := by decide +kernel
theorem dX7_init_232 : decode cX7_init 232 = .ok (.aload_n 0, 1) := by decide +kernel
theorem dX7_init_233 : decode cX7_init 233 = .ok (.getfield 34, 3) := by decide +kernel
theorem dX7_init_236 : decode cX7_init 236 = .ok (.iload_n 1, 1) := by decide +kernel
theorem dX7_init_237 : decode cX7_init 237 = .ok (.bipush 10, 2) := by decide +kernel
theorem dX7_init_239 : decode cX7_init 239 = .ok (.iload_n 1, 1) := by decide +kernel
theorem dX7_init_240 : decode cX7_init 240 = .ok (.imul, 1) := by decide +kernel
theorem dX7_init_241 : decode cX7_init 241 = .ok (.bipush 10, 2) := by decide +kernel
theorem dX7_init_243 : decode cX7_init 243 = .ok (.iadd, 1) := by decide +kernel
theorem dX7_init_244 : decode cX7_init 244 = .ok (.iastore, 1) := by decide +kernel
theorem dX7_init_245 : decode cX7_init 245 = .ok (.iinc 1 1, 3) := by decide +kernel
theorem dX7_init_248 : decode cX7_init 248 = .ok (.goto (-30), 3) := by decide +kernel
theorem dX7_init_251 : decode cX7_init 251 = .ok (.return_, 1) := by decide +kernel
theorem dX7_in_0 : decode cX7_in 0 = .ok (.iload_n 0, 1) := by decide +kernel
theorem dX7_in_1 : decode cX7_in 1 = .ok (.iload_n 1, 1) := by decide +kernel
theorem dX7_in_2 : decode cX7_in 2 = .ok (.if_icmp .lt 12, 3) := by decide +kernel
theorem dX7_in_5 : decode cX7_in 5 = .ok (.iload_n 0, 1) := by decide +kernel
theorem dX7_in_6 : decode cX7_in 6 = .ok (.iload_n 2, 1) := by decide +kernel
theorem dX7_in_7 : decode cX7_in 7 = .ok (.if_icmp .gt 7, 3) := by decide +kernel
theorem dX7_in_10 : decode cX7_in 10 = .ok (.iconst 1, 1) := by decide +kernel
theorem dX7_in_11 : decode cX7_in 11 = .ok (.goto 4, 3) := by decide +kernel
theorem dX7_in_14 : decode cX7_in 14 = .ok (.iconst 0, 1) := by decide +kernel
theorem dX7_in_15 : decode cX7_in 15 = .ok (.ireturn, 1) := by decide +kernel
theorem dX7_isIn_0 : decode cX7_isIn 0 = .ok (.iload_n 0, 1) := by decide +kernel
theorem dX7_isIn_1 : decode cX7_isIn 1 = .ok (.iload_n 1, 1) := by decide +kernel
theorem dX7_isIn_2 : decode cX7_isIn 2 = .ok (.ishr, 1) := by decide +kernel
theorem dX7_isIn_3 : decode cX7_isIn 3 = .ok (.iconst 1, 1) := by decide +kernel
theorem dX7_isIn_4 : decode cX7_isIn 4 = .ok (.iand, 1) := by decide +kernel
theorem dX7_isIn_5 : decode cX7_isIn 5 = .ok (.iconst 1, 1) := by decide +kernel
theorem dX7_isIn_6 : decode cX7_isIn 6 = .ok (.if_icmp .ne 7, 3) := by decide +kernel
theorem dX7_isIn_9 : decode cX7_isIn 9 = .ok (.iconst 1, 1) := by decide +kernel
theorem dX7_isIn_10 : decode cX7_isIn 10 = .ok (.goto 4, 3) := by decide +kernel
theorem dX7_isIn_13 : decode cX7_isIn 13 = .ok (.iconst 0, 1) := by decide +kernel
theorem dX7_isIn_14 : decode cX7_isIn 14 = .ok (.ireturn, 1) := by decide +kernel
theorem dX7_ones_0 : decode cX7_ones 0 = .ok (.iconst 0, 1) := by decide +kernel
theorem dX7_ones_1 : decode cX7_ones 1 = .ok (.istore_n 1, 1) := by decide +kernel
theorem dX7_ones_2 : decode cX7_ones 2 = .ok (.iconst 0, 1) := by decide +kernel
theorem dX7_ones_3 : decode cX7_ones 3 = .ok (.istore_n 2, 1) := by decide +kernel
theorem dX7_ones_4 : decode cX7_ones 4 = .ok (.iload_n 2, 1) := by decide +kernel
theorem dX7_ones_5 : decode cX7_ones 5 = .ok (.bipush 12, 2) := by decide +kernel
theorem dX7_ones_7 : decode cX7_ones 7 = .ok (.if_icmp .ge 17, 3) := by decide +kernel
theorem dX7_ones_10 : decode cX7_ones 10 = .ok (.iload_n 1, 1) := by decide +kernel
theorem dX7_ones_11 : decode cX7_ones 11 = .ok (.iload_n 0, 1) := by decide +kernel
theorem dX7_ones_12 : decode cX7_ones 12 = .ok (.iload_n 2, 1) := by decide +kernel
theorem dX7_ones_13 : decode cX7_ones 13 = .ok (.ishr, 1) := by decide +kernel
theorem dX7_ones_14 : decode cX7_ones 14 = .ok (.iconst 1, 1) := by decide +kernel
theorem dX7_ones_15 : decode cX7_ones 15 = .ok (.iand, 1) := by decide +kernel
theorem dX7_ones_16 : decode cX7_ones 16 = .ok (.iadd, 1) := by decide +kernel
theorem dX7_ones_17 : decode cX7_ones 17 = .ok (.istore_n 1, 1) := by decide +kernel
theorem dX7_ones_18 : decode cX7_ones 18 = .ok (.iinc 2 1, 3) := by decide +kernel
theorem dX7_ones_21 : decode cX7_ones 21 = .ok (.goto (-17), 3) := by decide +kernel
theorem dX7_ones_24 : decode cX7_ones 24 = .ok (.iload_n 1, 1) := by decide +kernel
theorem dX7_ones_25 : decode cX7_ones 25 = .ok (.ireturn, 1) := by decide +kernel
theorem dX7_no_0 : decode cX7_no 0 = .ok (.ldc2_w 75, 3) := by decide +kernel
theorem dX7_no_3 : decode cX7_no 3 = .ok (.iload_n 0, 1) := by decide +kernel
theorem dX7_no_4 : decode cX7_no 4 = .ok (.i2l, 1) := by decide +kernel
theorem dX7_no_5 : decode cX7_no 5 = .ok (.lsub, 1) := by decide +kernel
theorem dX7_no_6 : decode cX7_no 6 = .ok (.lreturn, 1) := by decide +kernel
theorem dX7_lowest_0 : decode cX7_lowest 0 = .ok (.lload_n 0, 1) := by decide +kernel
theorem dX7_lowest_1 : decode cX7_lowest 1 = .ok (.lstore 5, 2) := by decide +kernel
theorem dX7_lowest_3 : decode cX7_lowest 3 = .ok (.lload_n 2, 1) := by decide +kernel
theorem dX7_lowest_4 : decode cX7_lowest 4 = .ok (.lstore 7, 2) := by decide +kernel
theorem dX7_lowest_6 : decode cX7_lowest 6 = .ok (.lload 7, 2) := by decide +kernel
theorem dX7_lowest_8 : decode cX7_lowest 8 = .ok (.lconst 0, 1) := by decide +kernel
theorem dX7_lowest_9 : decode cX7_lowest 9 = .ok (.lcmp, 1) := by decide +kernel
theorem dX7_lowest_10 : decode cX7_lowest 10 = .ok (.ifCond .eq 21, 3) := by decide +kernel
theorem dX7_lowest_13 : decode cX7_lowest 13 = .ok (.lload 5, 2) := by decide +kernel
theorem dX7_lowest_15 : decode cX7_lowest 15 = .ok (.lload 7, 2) := by decide +kernel
theorem dX7_lowest_17 : decode cX7_lowest 17 = .ok (.lrem, 1) := by decide +kernel
theorem dX7_lowest_18 : decode cX7_lowest 18 = .ok (.lstore 9, 2) := by decide +kernel
theorem dX7_lowest_20 : decode cX7_lowest 20 = .ok (.lload 7, 2) := by decide +kernel
theorem dX7_lowest_22 : decode cX7_lowest 22 = .ok (.lstore 5, 2) := by decide +kernel
theorem dX7_lowest_24 : decode cX7_lowest 24 = .ok (.lload 9, 2) := by decide +kernel
theorem dX7_lowest_26 : decode cX7_lowest 26 = .ok (.lstore 7, 2) := by decide +kernel
theorem dX7_lowest_28 : decode cX7_lowest 28 = .ok (.goto (-22), 3) := by decide +kernel
theorem dX7_lowest_31 : decode cX7_lowest 31 = .ok (.iload 4, 2) := by decide +kernel
theorem dX7_lowest_33 : decode cX7_lowest 33 = .ok (.ifCond .ne 10, 3) := by decide +kernel
theorem dX7_lowest_36 : decode cX7_lowest 36 = .ok (.lload_n 0, 1) := by decide +kernel
theorem dX7_lowest_37 : decode cX7_lowest 37 = .ok (.lload 5, 2) := by decide +kernel
theorem dX7_lowest_39 : decode cX7_lowest 39 = .ok (.ldiv, 1) := by decide +kernel
theorem dX7_lowest_40 : decode cX7_lowest 40 = .ok (.goto 7, 3) := by decide +kernel
theorem dX7_lowest_43 : decode cX7_lowest 43 = .ok (.lload_n 2, 1) := by decide +kernel
theorem dX7_lowest_44 : decode cX7_lowest 44 = .ok (.lload 5, 2) := by decide +kernel
theorem dX7_lowest_46 : decode cX7_lowest 46 = .ok (.ldiv, 1) := by decide +kernel
theorem dX7_lowest_47 : decode cX7_lowest 47 = .ok (.lreturn, 1) := by decide +kernel
theorem dX7_type_0 : decode cX7_type 0 = .ok (.iload_n 1, 1) := by decide +kernel
theorem dX7_type_1 : decode cX7_type 1 = .ok (.iconst 0, 1) := by decide +kernel
theorem dX7_type_2 : decode cX7_type 2 = .ok (.sipush 255, 3) := by decide +kernel
theorem dX7_type_5 : decode cX7_type 5 = .ok (.invokestatic 77, 3) := by decide +kernel
theorem dX7_type_8 : decode cX7_type 8 = .ok (.ifCond .ne 6, 3) := by decide +kernel
theorem dX7_type_11 : decode cX7_type 11 = .ok (.bipush (-2), 2) := by decide +kernel
theorem dX7_type_13 : decode cX7_type 13 = .ok (.ireturn, 1) := by decide +kernel
theorem dX7_type_14 : decode cX7_type 14 = .ok (.aload_n 0, 1) := by decide +kernel
theorem dX7_type_15 : decode cX7_type 15 = .ok (.getfield 81, 3) := by decide +kernel
theorem dX7_type_18 : decode cX7_type 18 = .ok (.bipush 20, 2) := by decide +kernel
theorem dX7_type_20 : decode cX7_type 20 = .ok (.if_icmp .ne 6, 3) := by decide +kernel
theorem dX7_type_23 : decode cX7_type 23 = .ok (.bipush (-4), 2) := by decide +kernel
theorem dX7_type_25 : decode cX7_type 25 = .ok (.ireturn, 1) := by decide +kernel
theorem dX7_type_26 : decode cX7_type 26 = .ok (.aload_n 0, 1) := by decide +kernel
theorem dX7_type_27 : decode cX7_type 27 = .ok (.getfield 7, 3) := by decide +kernel
theorem dX7_type_30 : decode cX7_type 30 = .ok (.aload_n 0, 1) := by decide +kernel
theorem dX7_type_31 : decode cX7_type 31 = .ok (.getfield 81, 3) := by decide +kernel
theorem dX7_type_34 : decode cX7_type 34 = .ok (.iload_n 1, 1) := by decide +kernel
theorem dX7_type_35 : decode cX7_type 35 = .ok (.iastore, 1) := by decide +kernel
theorem dX7_type_36 : decode cX7_type 36 = .ok (.aload_n 0, 1) := by decide +kernel
theorem dX7_type_37 : decode cX7_type 37 = .ok (.dup, 1) := by decide +kernel
theorem dX7_type_38 : decode cX7_type 38 = .ok (.getfield 81, 3) := by decide +kernel
theorem dX7_type_41 : decode cX7_type 41 = .ok (.iconst 1, 1) := by decide +kernel
theorem dX7_type_42 : decode cX7_type 42 = .ok (.iadd, 1) := by decide +kernel
theorem dX7_type_43 : decode cX7_type 43 = .ok (.putfield 81, 3) := by decide +kernel
theorem dX7_type_46 : decode cX7_type 46 = .ok (.aload_n 0, 1) := by decide +kernel
theorem dX7_type_47 : decode cX7_type 47 = .ok (.getfield 81, 3) := by decide +kernel
theorem dX7_type_50 : decode cX7_type 50 = .ok (.ireturn, 1) := by decide +kernel
theorem dX7_wipe_0 : decode cX7_wipe 0 = .ok (.aload_n 0, 1) := by decide +kernel
theorem dX7_wipe_1 : decode cX7_wipe 1 = .ok (.getfield 81, 3) := by decide +kernel
theorem dX7_wipe_4 : decode cX7_wipe 4 = .ok (.istore_n 1, 1) := by decide +kernel
theorem dX7_wipe_5 : decode cX7_wipe 5 = .ok (.aload_n 0, 1) := by decide +kernel
theorem dX7_wipe_6 : decode cX7_wipe 6 = .ok (.iconst 0, 1) := by decide +kernel
theorem dX7_wipe_7 : decode cX7_wipe 7 = .ok (.putfield 81, 3) := by decide +kernel
theorem dX7_wipe_10 : decode cX7_wipe 10 = .ok (.iload_n 1, 1) := by decide +kernel
theorem dX7_wipe_11 : decode cX7_wipe 11 = .ok (.ireturn, 1) := by decide +kernel
theorem dX7_figureAt_0 : decode cX7_figureAt 0 = .ok (.iload_n 1, 1) := by decide +kernel
theorem dX7_figureAt_1 : decode cX7_figureAt 1 = .ok (.aload_n 0, 1) := by decide +kernel
theorem dX7_figureAt_2 : decode cX7_figureAt 2 = .ok (.getfield 81, 3) := by decide +kernel
theorem dX7_figureAt_5 : decode cX7_figureAt 5 = .ok (.if_icmp .ge 15, 3) := by decide +kernel
theorem dX7_figureAt_8 : decode cX7_figureAt 8 = .ok (.aload_n 0, 1) := by decide +kernel
theorem dX7_figureAt_9 : decode cX7_figureAt 9 = .ok (.getfield 7, 3) := by decide +kernel
theorem dX7_figureAt_12 : decode cX7_figureAt 12 = .ok (.iload_n 1, 1) := by decide +kernel
theorem dX7_figureAt_13 : decode cX7_figureAt 13 = .ok (.iaload, 1) := by decide +kernel
theorem dX7_figureAt_14 : decode cX7_figureAt 14 = .ok (.bipush 48, 2) := by decide +kernel
theorem dX7_figureAt_16 : decode cX7_figureAt 16 = .ok (.isub, 1) := by decide +kernel
theorem dX7_figureAt_17 : decode cX7_figureAt 17 = .ok (.goto 4, 3) := by decide +kernel
theorem dX7_figureAt_20 : decode cX7_figureAt 20 = .ok (.iconst (-1), 1) := by decide +kernel
theorem dX7_figureAt_21 : decode cX7_figureAt 21 = .ok (.istore_n 2, 1) := by decide +kernel
theorem dX7_figureAt_22 : decode cX7_figureAt 22 = .ok (.iload_n 2, 1) := by decide +kernel
theorem dX7_figureAt_23 : decode cX7_figureAt 23 = .ok (.iconst 0, 1) := by decide +kernel
theorem dX7_figureAt_24 : decode cX7_figureAt 24 = .ok (.bipush 9, 2) := by decide +kernel
theorem dX7_figureAt_26 : decode cX7_figureAt 26 = .ok (.invokestatic 77, 3) := by decide +kernel
theorem dX7_figureAt_29 : decode cX7_figureAt 29 = .ok (.ifCond .eq 7, 3) := by decide +kernel
theorem dX7_figureAt_32 : decode cX7_figureAt 32 = .ok (.iload_n 2, 1) := by decide +kernel
theorem dX7_figureAt_33 : decode cX7_figureAt 33 = .ok (.goto 4, 3) := by decide +kernel
theorem dX7_figureAt_36 : decode cX7_figureAt 36 = .ok (.iconst (-1), 1) := by decide +kernel
theorem dX7_figureAt_37 : decode cX7_figureAt 37 = .ok (.ireturn, 1) := by decide +kernel
theorem dX7_faultNow_0 : decode cX7_faultNow 0 = .ok (.aload_n 0, 1) := by decide +kernel
theorem dX7_faultNow_1 : decode cX7_faultNow 1 = .ok (.iconst 0, 1) := by decide +kernel
theorem dX7_faultNow_2 : decode cX7_faultNow 2 = .ok (.putfield 85, 3) := by decide +kernel
theorem dX7_faultNow_5 : decode cX7_faultNow 5 = .ok (.aload_n 0, 1) := by decide +kernel
theorem dX7_faultNow_6 : decode cX7_faultNow 6 = .ok (.iconst 0, 1) := by decide +kernel
theorem dX7_faultNow_7 : decode cX7_faultNow 7 = .ok (.putfield 88, 3) := by decide +kernel
theorem dX7_faultNow_10 : decode cX7_faultNow 10 = .ok (.aload_n 0, 1) := by decide +kernel
theorem dX7_faultNow_11 : decode cX7_faultNow 11 = .ok (.iconst 0, 1) := by decide +kernel
theorem dX7_faultNow_12 : decode cX7_faultNow 12 = .ok (.putfield 91, 3) := by decide +kernel
theorem dX7_faultNow_15 : decode cX7_faultNow 15 = .ok (.aload_n 0, 1) := by decide +kernel
theorem dX7_faultNow_16 : decode cX7_faultNow 16 = .ok (.getfield 81, 3) := by decide +kernel
theorem dX7_faultNow_19 : decode cX7_faultNow 19 = .ok (.ifCond .ne 5, 3) := by decide +kernel
theorem dX7_faultNow_22 : decode cX7_faultNow 22 = .ok (.iconst (-1), 1) := by decide +kernel
theorem dX7_faultNow_23 : decode cX7_faultNow 23 = .ok (.ireturn, 1) := by decide +kernel
theorem dX7_faultNow_24 : decode cX7_faultNow 24 = .ok (.iconst 0, 1) := by decide +kernel
theorem dX7_faultNow_25 : decode cX7_faultNow 25 = .ok (.istore_n 1, 1) := by decide +kernel
theorem dX7_faultNow_26 : decode cX7_faultNow 26 = .ok (.iconst 0, 1) := by decide +kernel
theorem dX7_faultNow_27 : decode cX7_faultNow 27 = .ok (.istore_n 2, 1) := by decide +kernel
theorem dX7_faultNow_28 : decode cX7_faultNow 28 = .ok (.iconst 0, 1) := by decide +kernel
theorem dX7_faultNow_29 : decode cX7_faultNow 29 = .ok (.istore_n 3, 1) := by decide +kernel
theorem dX7_faultNow_30 : decode cX7_faultNow 30 = .ok (.iconst 0, 1) := by decide +kernel
theorem dX7_faultNow_31 : decode cX7_faultNow 31 = .ok (.istore 4, 2) := by decide +kernel
theorem dX7_faultNow_33 : decode cX7_faultNow 33 = .ok (.iload 4, 2) := by decide +kernel
theorem dX7_faultNow_35 : decode cX7_faultNow 35 = .ok (.iconst 4, 1) := by decide +kernel
theorem dX7_faultNow_36 : decode cX7_faultNow 36 = .ok (.if_icmp .ge 136, 3) := by decide +kernel
theorem dX7_faultNow_39 : decode cX7_faultNow 39 = .ok (.iload 4, 2) := by decide +kernel
theorem dX7_faultNow_41 : decode cX7_faultNow 41 = .ok (.iconst 3, 1) := by decide +kernel
theorem dX7_faultNow_42 : decode cX7_faultNow 42 = .ok (.if_icmp .ne 5, 3) := by decide +kernel
theorem dX7_faultNow_45 : decode cX7_faultNow 45 = .ok (.iload_n 1, 1) := by decide +kernel
theorem dX7_faultNow_46 : decode cX7_faultNow 46 = .ok (.ireturn, 1) := by decide +kernel
theorem dX7_faultNow_47 : decode cX7_faultNow 47 = .ok (.iconst 0, 1) := by decide +kernel
theorem dX7_faultNow_48 : decode cX7_faultNow 48 = .ok (.istore 5, 2) := by decide +kernel
theorem dX7_faultNow_50 : decode cX7_faultNow 50 = .ok (.aload_n 0, 1) := by decide +kernel
theorem dX7_faultNow_51 : decode cX7_faultNow 51 = .ok (.iload_n 1, 1) := by decide +kernel
theorem dX7_faultNow_52 : decode cX7_faultNow 52 = .ok (.invokevirtual 94, 3) := by decide +kernel
theorem dX7_faultNow_55 : decode cX7_faultNow 55 = .ok (.iconst (-1), 1) := by decide +kernel
theorem dX7_faultNow_56 : decode cX7_faultNow 56 = .ok (.if_icmp .eq 41, 3) := by decide +kernel
theorem dX7_faultNow_59 : decode cX7_faultNow 59 = .ok (.iload 5, 2) := by decide +kernel
theorem dX7_faultNow_61 : decode cX7_faultNow 61 = .ok (.iload 4, 2) := by decide +kernel
theorem dX7_faultNow_63 : decode cX7_faultNow 63 = .ok (.ifCond .ne 7, 3) := by decide +kernel
theorem dX7_faultNow_66 : decode cX7_faultNow 66 = .ok (.iconst 4, 1) := by decide +kernel
theorem dX7_faultNow_67 : decode cX7_faultNow 67 = .ok (.goto 4, 3) := by decide +kernel
theorem dX7_faultNow_70 : decode cX7_faultNow 70 = .ok (.iload_n 3, 1) := by decide +kernel
theorem dX7_faultNow_71 : decode cX7_faultNow 71 = .ok (.if_icmp .ge 26, 3) := by decide +kernel
theorem dX7_faultNow_74 : decode cX7_faultNow 74 = .ok (.aload_n 0, 1) := by decide +kernel
theorem dX7_faultNow_75 : decode cX7_faultNow 75 = .ok (.getfield 13, 3) := by decide +kernel
theorem dX7_faultNow_78 : decode cX7_faultNow 78 = .ok (.iload_n 2, 1) := by decide +kernel
theorem dX7_faultNow_79 : decode cX7_faultNow 79 = .ok (.aload_n 0, 1) := by decide +kernel
theorem dX7_faultNow_80 : decode cX7_faultNow 80 = .ok (.iload_n 1, 1) := by decide +kernel
theorem dX7_faultNow_81 : decode cX7_faultNow 81 = .ok (.invokevirtual 94, 3) := by decide +kernel
theorem dX7_faultNow_84 : decode cX7_faultNow 84 = .ok (.iastore, 1) := by decide +kernel
theorem dX7_faultNow_85 : decode cX7_faultNow 85 = .ok (.iinc 2 1, 3) := by decide +kernel
theorem dX7_faultNow_88 : decode cX7_faultNow 88 = .ok (.iinc 5 1, 3) := by decide +kernel
theorem dX7_faultNow_91 : decode cX7_faultNow 91 = .ok (.iinc 1 1, 3) := by decide +kernel
theorem dX7_faultNow_94 : decode cX7_faultNow 94 = .ok (.goto (-44), 3) := by decide +kernel
theorem dX7_faultNow_97 : decode cX7_faultNow 97 = .ok (.iload 4, 2) := by decide +kernel
theorem dX7_faultNow_99 : decode cX7_faultNow 99 = .ok (.ifCond .ne 8, 3) := by decide +kernel
theorem dX7_faultNow_102 : decode cX7_faultNow 102 = .ok (.iload 5, 2) := by decide +kernel
theorem dX7_faultNow_104 : decode cX7_faultNow 104 = .ok (.goto 4, 3) := by decide +kernel
theorem dX7_faultNow_107 : decode cX7_faultNow 107 = .ok (.iload_n 3, 1) := by decide +kernel
theorem dX7_faultNow_108 : decode cX7_faultNow 108 = .ok (.istore_n 3, 1) := by decide +kernel
theorem dX7_faultNow_109 : decode cX7_faultNow 109 = .ok (.iload 5, 2) := by decide +kernel
theorem dX7_faultNow_111 : decode cX7_faultNow 111 = .ok (.ifCond .eq 9, 3) := by decide +kernel
theorem dX7_faultNow_114 : decode cX7_faultNow 114 = .ok (.iload 5, 2) := by decide +kernel
theorem dX7_faultNow_116 : decode cX7_faultNow 116 = .ok (.iload_n 3, 1) := by decide +kernel
theorem dX7_faultNow_117 : decode cX7_faultNow 117 = .ok (.if_icmp .ge 5, 3) := by decide +kernel
theorem dX7_faultNow_120 : decode cX7_faultNow 120 = .ok (.iload_n 1, 1) := by decide +kernel
theorem dX7_faultNow_121 : decode cX7_faultNow 121 = .ok (.ireturn, 1) := by decide +kernel
theorem dX7_faultNow_122 : decode cX7_faultNow 122 = .ok (.iload_n 1, 1) := by decide +kernel
theorem dX7_faultNow_123 : decode cX7_faultNow 123 = .ok (.aload_n 0, 1) := by decide +kernel
theorem dX7_faultNow_124 : decode cX7_faultNow 124 = .ok (.getfield 81, 3) := by decide +kernel
theorem dX7_faultNow_127 : decode cX7_faultNow 127 = .ok (.if_icmp .ne 23, 3) := by decide +kernel
theorem dX7_faultNow_130 : decode cX7_faultNow 130 = .ok (.aload_n 0, 1) := by decide +kernel
theorem dX7_faultNow_131 : decode cX7_faultNow 131 = .ok (.iload_n 2, 1) := by decide +kernel
theorem dX7_faultNow_132 : decode cX7_faultNow 132 = .ok (.putfield 85, 3) := by decide +kernel
theorem dX7_faultNow_135 : decode cX7_faultNow 135 = .ok (.aload_n 0, 1) := by decide +kernel
theorem dX7_faultNow_136 : decode cX7_faultNow 136 = .ok (.iload_n 3, 1) := by decide +kernel
theorem dX7_faultNow_137 : decode cX7_faultNow 137 = .ok (.putfield 88, 3) := by decide +kernel
theorem dX7_faultNow_140 : decode cX7_faultNow 140 = .ok (.aload_n 0, 1) := by decide +kernel
theorem dX7_faultNow_141 : decode cX7_faultNow 141 = .ok (.iload 4, 2) := by decide +kernel
theorem dX7_faultNow_143 : decode cX7_faultNow 143 = .ok (.iconst 1, 1) := by decide +kernel
theorem dX7_faultNow_144 : decode cX7_faultNow 144 = .ok (.iadd, 1) := by decide +kernel
theorem dX7_faultNow_145 : decode cX7_faultNow 145 = .ok (.putfield 91, 3) := by decide +kernel
theorem dX7_faultNow_148 : decode cX7_faultNow 148 = .ok (.iconst (-1), 1) := by decide +kernel
theorem dX7_faultNow_149 : decode cX7_faultNow 149 = .ok (.ireturn, 1) := by decide +kernel
theorem dX7_faultNow_150 : decode cX7_faultNow 150 = .ok (.aload_n 0, 1) := by decide +kernel
theorem dX7_faultNow_151 : decode cX7_faultNow 151 = .ok (.getfield 7, 3) := by decide +kernel
theorem dX7_faultNow_154 : decode cX7_faultNow 154 = .ok (.iload_n 1, 1) := by decide +kernel
theorem dX7_faultNow_155 : decode cX7_faultNow 155 = .ok (.iaload, 1) := by decide +kernel
theorem dX7_faultNow_156 : decode cX7_faultNow 156 = .ok (.bipush 59, 2) := by decide +kernel
theorem dX7_faultNow_158 : decode cX7_faultNow 158 = .ok (.if_icmp .eq 5, 3) := by decide +kernel
theorem dX7_faultNow_161 : decode cX7_faultNow 161 = .ok (.iload_n 1, 1) := by decide +kernel
theorem dX7_faultNow_162 : decode cX7_faultNow 162 = .ok (.ireturn, 1) := by decide +kernel
theorem dX7_faultNow_163 : decode cX7_faultNow 163 = .ok (.iinc 1 1, 3) := by decide +kernel
theorem dX7_faultNow_166 : decode cX7_faultNow 166 = .ok (.iinc 4 1, 3) := by decide +kernel
theorem dX7_faultNow_169 : decode cX7_faultNow 169 = .ok (.goto (-136), 3) := by decide +kernel
theorem dX7_faultNow_172 : decode cX7_faultNow 172 = .ok (.iconst (-1), 1) := by decide +kernel
theorem dX7_faultNow_173 : decode cX7_faultNow 173 = .ok (.ireturn, 1) := by decide +kernel
theorem dX7_fault_0 : decode cX7_fault 0 = .ok (.aload_n 0, 1) := by decide +kernel
theorem dX7_fault_1 : decode cX7_fault 1 = .ok (.invokevirtual 98, 3) := by decide +kernel
theorem dX7_fault_4 : decode cX7_fault 4 = .ok (.ireturn, 1) := by decide +kernel
theorem dX7_isCell_0 : decode cX7_isCell 0 = .ok (.aload_n 0, 1) := by decide +kernel
theorem dX7_isCell_1 : decode cX7_isCell 1 = .ok (.invokevirtual 98, 3) := by decide +kernel
theorem dX7_isCell_4 : decode cX7_isCell 4 = .ok (.istore_n 2, 1) := by decide +kernel
theorem dX7_isCell_5 : decode cX7_isCell 5 = .ok (.iload_n 1, 1) := by decide +kernel
theorem dX7_isCell_6 : decode cX7_isCell 6 = .ok (.iconst 0, 1) := by decide +kernel
theorem dX7_isCell_7 : decode cX7_isCell 7 = .ok (.aload_n 0, 1) := by decide +kernel
theorem dX7_isCell_8 : decode cX7_isCell 8 = .ok (.getfield 85, 3) := by decide +kernel
theorem dX7_isCell_11 : decode cX7_isCell 11 = .ok (.iconst 1, 1) := by decide +kernel
theorem dX7_isCell_12 : decode cX7_isCell 12 = .ok (.isub, 1) := by decide +kernel
theorem dX7_isCell_13 : decode cX7_isCell 13 = .ok (.invokestatic 77, 3) := by decide +kernel
theorem dX7_isCell_16 : decode cX7_isCell 16 = .ok (.ireturn, 1) := by decide +kernel
theorem dX7_isTwelve_0 : decode cX7_isTwelve 0 = .ok (.iload_n 0, 1) := by decide +kernel
theorem dX7_isTwelve_1 : decode cX7_isTwelve 1 = .ok (.iconst 0, 1) := by decide +kernel
theorem dX7_isTwelve_2 : decode cX7_isTwelve 2 = .ok (.bipush 11, 2) := by decide +kernel
theorem dX7_isTwelve_4 : decode cX7_isTwelve 4 = .ok (.invokestatic 77, 3) := by decide +kernel
theorem dX7_isTwelve_7 : decode cX7_isTwelve 7 = .ok (.ireturn, 1) := by decide +kernel
theorem dX7_isFour_0 : decode cX7_isFour 0 = .ok (.iload_n 0, 1) := by decide +kernel
theorem dX7_isFour_1 : decode cX7_isFour 1 = .ok (.iconst 0, 1) := by decide +kernel
theorem dX7_isFour_2 : decode cX7_isFour 2 = .ok (.iconst 3, 1) := by decide +kernel
theorem dX7_isFour_3 : decode cX7_isFour 3 = .ok (.invokestatic 77, 3) := by decide +kernel
theorem dX7_isFour_6 : decode cX7_isFour 6 = .ok (.ireturn, 1) := by decide +kernel
theorem dX7_cellOf_0 : decode cX7_cellOf 0 = .ok (.iload_n 2, 1) := by decide +kernel
theorem dX7_cellOf_1 : decode cX7_cellOf 1 = .ok (.ifCond .ne 12, 3) := by decide +kernel
theorem dX7_cellOf_4 : decode cX7_cellOf 4 = .ok (.aload_n 0, 1) := by decide +kernel
theorem dX7_cellOf_5 : decode cX7_cellOf 5 = .ok (.getfield 13, 3) := by decide +kernel
theorem dX7_cellOf_8 : decode cX7_cellOf 8 = .ok (.iload_n 1, 1) := by decide +kernel
theorem dX7_cellOf_9 : decode cX7_cellOf 9 = .ok (.iaload, 1) := by decide +kernel
theorem dX7_cellOf_10 : decode cX7_cellOf 10 = .ok (.goto 23, 3) := by decide +kernel
theorem dX7_cellOf_13 : decode cX7_cellOf 13 = .ok (.iload_n 2, 1) := by decide +kernel
theorem dX7_cellOf_14 : decode cX7_cellOf 14 = .ok (.iconst 1, 1) := by decide +kernel
theorem dX7_cellOf_15 : decode cX7_cellOf 15 = .ok (.if_icmp .ne 12, 3) := by decide +kernel
theorem dX7_cellOf_18 : decode cX7_cellOf 18 = .ok (.aload_n 0, 1) := by decide +kernel
theorem dX7_cellOf_19 : decode cX7_cellOf 19 = .ok (.getfield 16, 3) := by decide +kernel
theorem dX7_cellOf_22 : decode cX7_cellOf 22 = .ok (.iload_n 1, 1) := by decide +kernel
theorem dX7_cellOf_23 : decode cX7_cellOf 23 = .ok (.iaload, 1) := by decide +kernel
theorem dX7_cellOf_24 : decode cX7_cellOf 24 = .ok (.goto 9, 3) := by decide +kernel
theorem dX7_cellOf_27 : decode cX7_cellOf 27 = .ok (.aload_n 0, 1) := by decide +kernel
theorem dX7_cellOf_28 : decode cX7_cellOf 28 = .ok (.getfield 19, 3) := by decide +kernel
theorem dX7_cellOf_31 : decode cX7_cellOf 31 = .ok (.iload_n 1, 1) := by decide +kernel
theorem dX7_cellOf_32 : decode cX7_cellOf 32 = .ok (.iaload, 1) := by decide +kernel
theorem dX7_cellOf_33 : decode cX7_cellOf 33 = .ok (.ireturn, 1) := by decide +kernel
theorem dX7_cell_0 : decode cX7_cell 0 = .ok (.aload_n 0, 1) := by decide +kernel
theorem dX7_cell_1 : decode cX7_cell 1 = .ok (.iload_n 1, 1) := by decide +kernel
theorem dX7_cell_2 : decode cX7_cell 2 = .ok (.invokevirtual 102, 3) := by decide +kernel
theorem dX7_cell_5 : decode cX7_cell 5 = .ok (.ifCond .eq 21, 3) := by decide +kernel
theorem dX7_cell_8 : decode cX7_cell 8 = .ok (.iload_n 2, 1) := by decide +kernel
theorem dX7_cell_9 : decode cX7_cell 9 = .ok (.iconst 0, 1) := by decide +kernel
theorem dX7_cell_10 : decode cX7_cell 10 = .ok (.iconst 2, 1) := by decide +kernel
theorem dX7_cell_11 : decode cX7_cell 11 = .ok (.invokestatic 77, 3) := by decide +kernel
theorem dX7_cell_14 : decode cX7_cell 14 = .ok (.ifCond .eq 12, 3) := by decide +kernel
theorem dX7_cell_17 : decode cX7_cell 17 = .ok (.aload_n 0, 1) := by decide +kernel
theorem dX7_cell_18 : decode cX7_cell 18 = .ok (.iload_n 1, 1) := by decide +kernel
theorem dX7_cell_19 : decode cX7_cell 19 = .ok (.iload_n 2, 1) := by decide +kernel
theorem dX7_cell_20 : decode cX7_cell 20 = .ok (.invokevirtual 106, 3) := by decide +kernel
theorem dX7_cell_23 : decode cX7_cell 23 = .ok (.goto 5, 3) := by decide +kernel
theorem dX7_cell_26 : decode cX7_cell 26 = .ok (.bipush (-2), 2) := by decide +kernel
theorem dX7_cell_28 : decode cX7_cell 28 = .ok (.ireturn, 1) := by decide +kernel
theorem dX7_stand_0 : decode cX7_stand 0 = .ok (.iload_n 1, 1) := by decide +kernel
theorem dX7_stand_1 : decode cX7_stand 1 = .ok (.invokestatic 110, 3) := by decide +kernel
theorem dX7_stand_4 : decode cX7_stand 4 = .ok (.ifCond .eq 13, 3) := by decide +kernel
theorem dX7_stand_7 : decode cX7_stand 7 = .ok (.iload_n 2, 1) := by decide +kernel
theorem dX7_stand_8 : decode cX7_stand 8 = .ok (.iconst 0, 1) := by decide +kernel
theorem dX7_stand_9 : decode cX7_stand 9 = .ok (.bipush 20, 2) := by decide +kernel
theorem dX7_stand_11 : decode cX7_stand 11 = .ok (.invokestatic 77, 3) := by decide +kernel
theorem dX7_stand_14 : decode cX7_stand 14 = .ok (.ifCond .ne 6, 3) := by decide +kernel
theorem dX7_stand_17 : decode cX7_stand 17 = .ok (.bipush (-2), 2) := by decide +kernel
theorem dX7_stand_19 : decode cX7_stand 19 = .ok (.ireturn, 1) := by decide +kernel
theorem dX7_stand_20 : decode cX7_stand 20 = .ok (.aload_n 0, 1) := by decide +kernel
theorem dX7_stand_21 : decode cX7_stand 21 = .ok (.getfield 16, 3) := by decide +kernel
theorem dX7_stand_24 : decode cX7_stand 24 = .ok (.iload_n 1, 1) := by decide +kernel
theorem dX7_stand_25 : decode cX7_stand 25 = .ok (.iaload, 1) := by decide +kernel
theorem dX7_stand_26 : decode cX7_stand 26 = .ok (.istore_n 3, 1) := by decide +kernel
theorem dX7_stand_27 : decode cX7_stand 27 = .ok (.aload_n 0, 1) := by decide +kernel
theorem dX7_stand_28 : decode cX7_stand 28 = .ok (.getfield 16, 3) := by decide +kernel
theorem dX7_stand_31 : decode cX7_stand 31 = .ok (.iload_n 1, 1) := by decide +kernel
theorem dX7_stand_32 : decode cX7_stand 32 = .ok (.iload_n 2, 1) := by decide +kernel
theorem dX7_stand_33 : decode cX7_stand 33 = .ok (.iastore, 1) := by decide +kernel
theorem dX7_stand_34 : decode cX7_stand 34 = .ok (.iload_n 3, 1) := by decide +kernel
theorem dX7_stand_35 : decode cX7_stand 35 = .ok (.ireturn, 1) := by decide +kernel
theorem dX7_owner_0 : decode cX7_owner 0 = .ok (.iload_n 1, 1) := by decide +kernel
theorem dX7_owner_1 : decode cX7_owner 1 = .ok (.invokestatic 110, 3) := by decide +kernel
theorem dX7_owner_4 : decode cX7_owner 4 = .ok (.ifCond .eq 10, 3) := by decide +kernel
theorem dX7_owner_7 : decode cX7_owner 7 = .ok (.iload_n 2, 1) := by decide +kernel
theorem dX7_owner_8 : decode cX7_owner 8 = .ok (.invokestatic 113, 3) := by decide +kernel
theorem dX7_owner_11 : decode cX7_owner 11 = .ok (.ifCond .ne 6, 3) := by decide +kernel
theorem dX7_owner_14 : decode cX7_owner 14 = .ok (.bipush (-2), 2) := by decide +kernel
theorem dX7_owner_16 : decode cX7_owner 16 = .ok (.ireturn, 1) := by decide +kernel
theorem dX7_owner_17 : decode cX7_owner 17 = .ok (.aload_n 0, 1) := by decide +kernel
theorem dX7_owner_18 : decode cX7_owner 18 = .ok (.getfield 19, 3) := by decide +kernel
theorem dX7_owner_21 : decode cX7_owner 21 = .ok (.iload_n 1, 1) := by decide +kernel
theorem dX7_owner_22 : decode cX7_owner 22 = .ok (.iaload, 1) := by decide +kernel
theorem dX7_owner_23 : decode cX7_owner 23 = .ok (.istore_n 3, 1) := by decide +kernel
theorem dX7_owner_24 : decode cX7_owner 24 = .ok (.aload_n 0, 1) := by decide +kernel
theorem dX7_owner_25 : decode cX7_owner 25 = .ok (.getfield 19, 3) := by decide +kernel
theorem dX7_owner_28 : decode cX7_owner 28 = .ok (.iload_n 1, 1) := by decide +kernel
theorem dX7_owner_29 : decode cX7_owner 29 = .ok (.iload_n 2, 1) := by decide +kernel
theorem dX7_owner_30 : decode cX7_owner 30 = .ok (.iastore, 1) := by decide +kernel
theorem dX7_owner_31 : decode cX7_owner 31 = .ok (.iload_n 3, 1) := by decide +kernel
theorem dX7_owner_32 : decode cX7_owner 32 = .ok (.ireturn, 1) := by decide +kernel
theorem dX7_read_0 : decode cX7_read 0 = .ok (.iload_n 1, 1) := by decide +kernel
theorem dX7_read_1 : decode cX7_read 1 = .ok (.invokestatic 116, 3) := by decide +kernel
theorem dX7_read_4 : decode cX7_read 4 = .ok (.ifCond .ne 6, 3) := by decide +kernel
theorem dX7_read_7 : decode cX7_read 7 = .ok (.bipush (-2), 2) := by decide +kernel
theorem dX7_read_9 : decode cX7_read 9 = .ok (.ireturn, 1) := by decide +kernel
theorem dX7_read_10 : decode cX7_read 10 = .ok (.aload_n 0, 1) := by decide +kernel
theorem dX7_read_11 : decode cX7_read 11 = .ok (.getfield 59, 3) := by decide +kernel
theorem dX7_read_14 : decode cX7_read 14 = .ok (.iload_n 1, 1) := by decide +kernel
theorem dX7_read_15 : decode cX7_read 15 = .ok (.baload, 1) := by decide +kernel
theorem dX7_read_16 : decode cX7_read 16 = .ok (.ifCond .ne 9, 3) := by decide +kernel
theorem dX7_read_19 : decode cX7_read 19 = .ok (.aload_n 0, 1) := by decide +kernel
theorem dX7_read_20 : decode cX7_read 20 = .ok (.iconst 1, 1) := by decide +kernel
theorem dX7_read_21 : decode cX7_read 21 = .ok (.invokevirtual 119, 3) := by decide +kernel
theorem dX7_read_24 : decode cX7_read 24 = .ok (.ireturn, 1) := by decide +kernel
theorem dX7_read_25 : decode cX7_read 25 = .ok (.iconst 0, 1) := by decide +kernel
theorem dX7_read_26 : decode cX7_read 26 = .ok (.istore_n 2, 1) := by decide +kernel
theorem dX7_read_27 : decode cX7_read 27 = .ok (.iload_n 2, 1) := by decide +kernel
theorem dX7_read_28 : decode cX7_read 28 = .ok (.aload_n 0, 1) := by decide +kernel
theorem dX7_read_29 : decode cX7_read 29 = .ok (.getfield 66, 3) := by decide +kernel
theorem dX7_read_32 : decode cX7_read 32 = .ok (.iload_n 1, 1) := by decide +kernel
theorem dX7_read_33 : decode cX7_read 33 = .ok (.iaload, 1) := by decide +kernel
theorem dX7_read_34 : decode cX7_read 34 = .ok (.if_icmp .ge 49, 3) := by decide +kernel
theorem dX7_read_37 : decode cX7_read 37 = .ok (.iload_n 2, 1) := by decide +kernel
theorem dX7_read_38 : decode cX7_read 38 = .ok (.bipush 12, 2) := by decide +kernel
theorem dX7_read_40 : decode cX7_read 40 = .ok (.if_icmp .ge 43, 3) := by decide +kernel
theorem dX7_read_43 : decode cX7_read 43 = .ok (.aload_n 0, 1) := by decide +kernel
theorem dX7_read_44 : decode cX7_read 44 = .ok (.getfield 69, 3) := by decide +kernel
theorem dX7_read_47 : decode cX7_read 47 = .ok (.bipush 48, 2) := by decide +kernel
theorem dX7_read_49 : decode cX7_read 49 = .ok (.iload_n 1, 1) := by decide +kernel
theorem dX7_read_50 : decode cX7_read 50 = .ok (.imul, 1) := by decide +kernel
theorem dX7_read_51 : decode cX7_read 51 = .ok (.iload_n 2, 1) := by decide +kernel
theorem dX7_read_52 : decode cX7_read 52 = .ok (.iadd, 1) := by decide +kernel
theorem dX7_read_53 : decode cX7_read 53 = .ok (.iaload, 1) := by decide +kernel
theorem dX7_read_54 : decode cX7_read 54 = .ok (.invokestatic 113, 3) := by decide +kernel
theorem dX7_read_57 : decode cX7_read 57 = .ok (.ifCond .eq 26, 3) := by decide +kernel
theorem dX7_read_60 : decode cX7_read 60 = .ok (.aload_n 0, 1) := by decide +kernel
theorem dX7_read_61 : decode cX7_read 61 = .ok (.getfield 19, 3) := by decide +kernel
theorem dX7_read_64 : decode cX7_read 64 = .ok (.iload_n 2, 1) := by decide +kernel
theorem dX7_read_65 : decode cX7_read 65 = .ok (.aload_n 0, 1) := by decide +kernel
theorem dX7_read_66 : decode cX7_read 66 = .ok (.getfield 69, 3) := by decide +kernel
theorem dX7_read_69 : decode cX7_read 69 = .ok (.bipush 48, 2) := by decide +kernel
theorem dX7_read_71 : decode cX7_read 71 = .ok (.iload_n 1, 1) := by decide +kernel
theorem dX7_read_72 : decode cX7_read 72 = .ok (.imul, 1) := by decide +kernel
theorem dX7_read_73 : decode cX7_read 73 = .ok (.iload_n 2, 1) := by decide +kernel
theorem dX7_read_74 : decode cX7_read 74 = .ok (.iadd, 1) := by decide +kernel
theorem dX7_read_75 : decode cX7_read 75 = .ok (.iaload, 1) := by decide +kernel
theorem dX7_read_76 : decode cX7_read 76 = .ok (.iastore, 1) := by decide +kernel
theorem dX7_read_77 : decode cX7_read 77 = .ok (.iinc 2 1, 3) := by decide +kernel
theorem dX7_read_80 : decode cX7_read 80 = .ok (.goto (-53), 3) := by decide +kernel
theorem dX7_read_83 : decode cX7_read 83 = .ok (.iload_n 2, 1) := by decide +kernel
theorem dX7_read_84 : decode cX7_read 84 = .ok (.ireturn, 1) := by decide +kernel
theorem dX7_days_0 : decode cX7_days 0 = .ok (.iload_n 1, 1) := by decide +kernel
theorem dX7_days_1 : decode cX7_days 1 = .ok (.invokestatic 113, 3) := by decide +kernel
theorem dX7_days_4 : decode cX7_days 4 = .ok (.ifCond .eq 13, 3) := by decide +kernel
theorem dX7_days_7 : decode cX7_days 7 = .ok (.iload_n 2, 1) := by decide +kernel
theorem dX7_days_8 : decode cX7_days 8 = .ok (.iconst 0, 1) := by decide +kernel
theorem dX7_days_9 : decode cX7_days 9 = .ok (.bipush 99, 2) := by decide +kernel
theorem dX7_days_11 : decode cX7_days 11 = .ok (.invokestatic 77, 3) := by decide +kernel
theorem dX7_days_14 : decode cX7_days 14 = .ok (.ifCond .ne 6, 3) := by decide +kernel
theorem dX7_days_17 : decode cX7_days 17 = .ok (.bipush (-2), 2) := by decide +kernel
theorem dX7_days_19 : decode cX7_days 19 = .ok (.ireturn, 1) := by decide +kernel
theorem dX7_days_20 : decode cX7_days 20 = .ok (.aload_n 0, 1) := by decide +kernel
theorem dX7_days_21 : decode cX7_days 21 = .ok (.getfield 22, 3) := by decide +kernel
theorem dX7_days_24 : decode cX7_days 24 = .ok (.iload_n 1, 1) := by decide +kernel
theorem dX7_days_25 : decode cX7_days 25 = .ok (.iaload, 1) := by decide +kernel
theorem dX7_days_26 : decode cX7_days 26 = .ok (.istore_n 3, 1) := by decide +kernel
theorem dX7_days_27 : decode cX7_days 27 = .ok (.aload_n 0, 1) := by decide +kernel
theorem dX7_days_28 : decode cX7_days 28 = .ok (.getfield 22, 3) := by decide +kernel
theorem dX7_days_31 : decode cX7_days 31 = .ok (.iload_n 1, 1) := by decide +kernel
theorem dX7_days_32 : decode cX7_days 32 = .ok (.iload_n 2, 1) := by decide +kernel
theorem dX7_days_33 : decode cX7_days 33 = .ok (.iastore, 1) := by decide +kernel
theorem dX7_days_34 : decode cX7_days 34 = .ok (.iload_n 3, 1) := by decide +kernel
theorem dX7_days_35 : decode cX7_days 35 = .ok (.ireturn, 1) := by decide +kernel
theorem dX7_steepOf_0 : decode cX7_steepOf 0 = .ok (.iload_n 0, 1) := by decide +kernel
theorem dX7_steepOf_1 : decode cX7_steepOf 1 = .ok (.iconst 1, 1) := by decide +kernel
theorem dX7_steepOf_2 : decode cX7_steepOf 2 = .ok (.iadd, 1) := by decide +kernel
theorem dX7_steepOf_3 : decode cX7_steepOf 3 = .ok (.iload_n 1, 1) := by decide +kernel
theorem dX7_steepOf_4 : decode cX7_steepOf 4 = .ok (.bipush 6, 2) := by decide +kernel
theorem dX7_steepOf_6 : decode cX7_steepOf 6 = .ok (.if_icmp .ge 9, 3) := by decide +kernel
theorem dX7_steepOf_9 : decode cX7_steepOf 9 = .ok (.iload_n 1, 1) := by decide +kernel
theorem dX7_steepOf_10 : decode cX7_steepOf 10 = .ok (.iconst 1, 1) := by decide +kernel
theorem dX7_steepOf_11 : decode cX7_steepOf 11 = .ok (.iadd, 1) := by decide +kernel
theorem dX7_steepOf_12 : decode cX7_steepOf 12 = .ok (.goto 7, 3) := by decide +kernel
theorem dX7_steepOf_15 : decode cX7_steepOf 15 = .ok (.bipush 12, 2) := by decide +kernel
theorem dX7_steepOf_17 : decode cX7_steepOf 17 = .ok (.iload_n 1, 1) := by decide +kernel
theorem dX7_steepOf_18 : decode cX7_steepOf 18 = .ok (.isub, 1) := by decide +kernel
theorem dX7_steepOf_19 : decode cX7_steepOf 19 = .ok (.imul, 1) := by decide +kernel
theorem dX7_steepOf_20 : decode cX7_steepOf 20 = .ok (.ireturn, 1) := by decide +kernel
theorem dX7_steep_0 : decode cX7_steep 0 = .ok (.iload_n 1, 1) := by decide +kernel
theorem dX7_steep_1 : decode cX7_steep 1 = .ok (.invokestatic 113, 3) := by decide +kernel
theorem dX7_steep_4 : decode cX7_steep 4 = .ok (.ifCond .eq 18, 3) := by decide +kernel
theorem dX7_steep_7 : decode cX7_steep 7 = .ok (.iload_n 2, 1) := by decide +kernel
theorem dX7_steep_8 : decode cX7_steep 8 = .ok (.invokestatic 110, 3) := by decide +kernel
theorem dX7_steep_11 : decode cX7_steep 11 = .ok (.ifCond .eq 11, 3) := by decide +kernel
theorem dX7_steep_14 : decode cX7_steep 14 = .ok (.iload_n 1, 1) := by decide +kernel
theorem dX7_steep_15 : decode cX7_steep 15 = .ok (.iload_n 2, 1) := by decide +kernel
theorem dX7_steep_16 : decode cX7_steep 16 = .ok (.invokestatic 122, 3) := by decide +kernel
theorem dX7_steep_19 : decode cX7_steep 19 = .ok (.goto 5, 3) := by decide +kernel
theorem dX7_steep_22 : decode cX7_steep 22 = .ok (.bipush (-2), 2) := by decide +kernel
theorem dX7_steep_24 : decode cX7_steep 24 = .ok (.ireturn, 1) := by decide +kernel
theorem dX7_shadeOf_0 : decode cX7_shadeOf 0 = .ok (.iload_n 3, 1) := by decide +kernel
theorem dX7_shadeOf_1 : decode cX7_shadeOf 1 = .ok (.bipush 6, 2) := by decide +kernel
theorem dX7_shadeOf_3 : decode cX7_shadeOf 3 = .ok (.if_icmp .ge 7, 3) := by decide +kernel
theorem dX7_shadeOf_6 : decode cX7_shadeOf 6 = .ok (.iconst (-1), 1) := by decide +kernel
theorem dX7_shadeOf_7 : decode cX7_shadeOf 7 = .ok (.goto 4, 3) := by decide +kernel
theorem dX7_shadeOf_10 : decode cX7_shadeOf 10 = .ok (.iconst 1, 1) := by decide +kernel
theorem dX7_shadeOf_11 : decode cX7_shadeOf 11 = .ok (.istore 4, 2) := by decide +kernel
theorem dX7_shadeOf_13 : decode cX7_shadeOf 13 = .ok (.iload_n 1, 1) := by decide +kernel
theorem dX7_shadeOf_14 : decode cX7_shadeOf 14 = .ok (.aload_n 0, 1) := by decide +kernel
theorem dX7_shadeOf_15 : decode cX7_shadeOf 15 = .ok (.getfield 88, 3) := by decide +kernel
theorem dX7_shadeOf_18 : decode cX7_shadeOf 18 = .ok (.idiv, 1) := by decide +kernel
theorem dX7_shadeOf_19 : decode cX7_shadeOf 19 = .ok (.istore 5, 2) := by decide +kernel
theorem dX7_shadeOf_21 : decode cX7_shadeOf 21 = .ok (.iconst 1, 1) := by decide +kernel
theorem dX7_shadeOf_22 : decode cX7_shadeOf 22 = .ok (.istore 6, 2) := by decide +kernel
theorem dX7_shadeOf_24 : decode cX7_shadeOf 24 = .ok (.iload_n 1, 1) := by decide +kernel
theorem dX7_shadeOf_25 : decode cX7_shadeOf 25 = .ok (.iload 4, 2) := by decide +kernel
theorem dX7_shadeOf_27 : decode cX7_shadeOf 27 = .ok (.iadd, 1) := by decide +kernel
theorem dX7_shadeOf_28 : decode cX7_shadeOf 28 = .ok (.istore 7, 2) := by decide +kernel
theorem dX7_shadeOf_30 : decode cX7_shadeOf 30 = .ok (.iload 7, 2) := by decide +kernel
theorem dX7_shadeOf_32 : decode cX7_shadeOf 32 = .ok (.iload 5, 2) := by decide +kernel
theorem dX7_shadeOf_34 : decode cX7_shadeOf 34 = .ok (.aload_n 0, 1) := by decide +kernel
theorem dX7_shadeOf_35 : decode cX7_shadeOf 35 = .ok (.getfield 88, 3) := by decide +kernel
theorem dX7_shadeOf_38 : decode cX7_shadeOf 38 = .ok (.imul, 1) := by decide +kernel
theorem dX7_shadeOf_39 : decode cX7_shadeOf 39 = .ok (.if_icmp .lt 66, 3) := by decide +kernel
theorem dX7_shadeOf_42 : decode cX7_shadeOf 42 = .ok (.iload 7, 2) := by decide +kernel
theorem dX7_shadeOf_44 : decode cX7_shadeOf 44 = .ok (.iload 5, 2) := by decide +kernel
theorem dX7_shadeOf_46 : decode cX7_shadeOf 46 = .ok (.iconst 1, 1) := by decide +kernel
theorem dX7_shadeOf_47 : decode cX7_shadeOf 47 = .ok (.iadd, 1) := by decide +kernel
theorem dX7_shadeOf_48 : decode cX7_shadeOf 48 = .ok (.aload_n 0, 1) := by decide +kernel
theorem dX7_shadeOf_49 : decode cX7_shadeOf 49 = .ok (.getfield 88, 3) := by decide +kernel
theorem dX7_shadeOf_52 : decode cX7_shadeOf 52 = .ok (.imul, 1) := by decide +kernel
theorem dX7_shadeOf_53 : decode cX7_shadeOf 53 = .ok (.if_icmp .ge 52, 3) := by decide +kernel
theorem dX7_shadeOf_56 : decode cX7_shadeOf 56 = .ok (.aload_n 0, 1) := by decide +kernel
theorem dX7_shadeOf_57 : decode cX7_shadeOf 57 = .ok (.getfield 13, 3) := by decide +kernel
theorem dX7_shadeOf_60 : decode cX7_shadeOf 60 = .ok (.iload 7, 2) := by decide +kernel
theorem dX7_shadeOf_62 : decode cX7_shadeOf 62 = .ok (.iaload, 1) := by decide +kernel
theorem dX7_shadeOf_63 : decode cX7_shadeOf 63 = .ok (.aload_n 0, 1) := by decide +kernel
theorem dX7_shadeOf_64 : decode cX7_shadeOf 64 = .ok (.getfield 16, 3) := by decide +kernel
theorem dX7_shadeOf_67 : decode cX7_shadeOf 67 = .ok (.iload 7, 2) := by decide +kernel
theorem dX7_shadeOf_69 : decode cX7_shadeOf 69 = .ok (.iaload, 1) := by decide +kernel
theorem dX7_shadeOf_70 : decode cX7_shadeOf 70 = .ok (.iadd, 1) := by decide +kernel
theorem dX7_shadeOf_71 : decode cX7_shadeOf 71 = .ok (.aload_n 0, 1) := by decide +kernel
theorem dX7_shadeOf_72 : decode cX7_shadeOf 72 = .ok (.getfield 13, 3) := by decide +kernel
theorem dX7_shadeOf_75 : decode cX7_shadeOf 75 = .ok (.iload_n 1, 1) := by decide +kernel
theorem dX7_shadeOf_76 : decode cX7_shadeOf 76 = .ok (.iaload, 1) := by decide +kernel
theorem dX7_shadeOf_77 : decode cX7_shadeOf 77 = .ok (.isub, 1) := by decide +kernel
theorem dX7_shadeOf_78 : decode cX7_shadeOf 78 = .ok (.iload 6, 2) := by decide +kernel
theorem dX7_shadeOf_80 : decode cX7_shadeOf 80 = .ok (.iload_n 2, 1) := by decide +kernel
theorem dX7_shadeOf_81 : decode cX7_shadeOf 81 = .ok (.iload_n 3, 1) := by decide +kernel
theorem dX7_shadeOf_82 : decode cX7_shadeOf 82 = .ok (.invokestatic 122, 3) := by decide +kernel
theorem dX7_shadeOf_85 : decode cX7_shadeOf 85 = .ok (.imul, 1) := by decide +kernel
theorem dX7_shadeOf_86 : decode cX7_shadeOf 86 = .ok (.if_icmp .le 6, 3) := by decide +kernel
theorem dX7_shadeOf_89 : decode cX7_shadeOf 89 = .ok (.iload 7, 2) := by decide +kernel
theorem dX7_shadeOf_91 : decode cX7_shadeOf 91 = .ok (.ireturn, 1) := by decide +kernel
theorem dX7_shadeOf_92 : decode cX7_shadeOf 92 = .ok (.iinc 6 1, 3) := by decide +kernel
theorem dX7_shadeOf_95 : decode cX7_shadeOf 95 = .ok (.iload 7, 2) := by decide +kernel
theorem dX7_shadeOf_97 : decode cX7_shadeOf 97 = .ok (.iload 4, 2) := by decide +kernel
theorem dX7_shadeOf_99 : decode cX7_shadeOf 99 = .ok (.iadd, 1) := by decide +kernel
theorem dX7_shadeOf_100 : decode cX7_shadeOf 100 = .ok (.istore 7, 2) := by decide +kernel
theorem dX7_shadeOf_102 : decode cX7_shadeOf 102 = .ok (.goto (-72), 3) := by decide +kernel
theorem dX7_shadeOf_105 : decode cX7_shadeOf 105 = .ok (.iconst (-1), 1) := by decide +kernel
theorem dX7_shadeOf_106 : decode cX7_shadeOf 106 = .ok (.ireturn, 1) := by decide +kernel
theorem dX7_shade_0 : decode cX7_shade 0 = .ok (.aload_n 0, 1) := by decide +kernel
theorem dX7_shade_1 : decode cX7_shade 1 = .ok (.iload_n 1, 1) := by decide +kernel
theorem dX7_shade_2 : decode cX7_shade 2 = .ok (.invokevirtual 102, 3) := by decide +kernel
theorem dX7_shade_5 : decode cX7_shade 5 = .ok (.ifCond .eq 27, 3) := by decide +kernel
theorem dX7_shade_8 : decode cX7_shade 8 = .ok (.iload_n 2, 1) := by decide +kernel
theorem dX7_shade_9 : decode cX7_shade 9 = .ok (.invokestatic 113, 3) := by decide +kernel
theorem dX7_shade_12 : decode cX7_shade 12 = .ok (.ifCond .eq 20, 3) := by decide +kernel
theorem dX7_shade_15 : decode cX7_shade 15 = .ok (.iload_n 3, 1) := by decide +kernel
theorem dX7_shade_16 : decode cX7_shade 16 = .ok (.invokestatic 110, 3) := by decide +kernel
theorem dX7_shade_19 : decode cX7_shade 19 = .ok (.ifCond .eq 13, 3) := by decide +kernel
theorem dX7_shade_22 : decode cX7_shade 22 = .ok (.aload_n 0, 1) := by decide +kernel
theorem dX7_shade_23 : decode cX7_shade 23 = .ok (.iload_n 1, 1) := by decide +kernel
theorem dX7_shade_24 : decode cX7_shade 24 = .ok (.iload_n 2, 1) := by decide +kernel
theorem dX7_shade_25 : decode cX7_shade 25 = .ok (.iload_n 3, 1) := by decide +kernel
theorem dX7_shade_26 : decode cX7_shade 26 = .ok (.invokevirtual 125, 3) := by decide +kernel
theorem dX7_shade_29 : decode cX7_shade 29 = .ok (.goto 5, 3) := by decide +kernel
theorem dX7_shade_32 : decode cX7_shade 32 = .ok (.bipush (-2), 2) := by decide +kernel
theorem dX7_shade_34 : decode cX7_shade 34 = .ok (.ireturn, 1) := by decide +kernel
theorem dX7_lightOf_0 : decode cX7_lightOf 0 = .ok (.iconst 0, 1) := by decide +kernel
theorem dX7_lightOf_1 : decode cX7_lightOf 1 = .ok (.istore_n 3, 1) := by decide +kernel
theorem dX7_lightOf_2 : decode cX7_lightOf 2 = .ok (.iconst 0, 1) := by decide +kernel
theorem dX7_lightOf_3 : decode cX7_lightOf 3 = .ok (.istore 4, 2) := by decide +kernel
theorem dX7_lightOf_5 : decode cX7_lightOf 5 = .ok (.iload 4, 2) := by decide +kernel
theorem dX7_lightOf_7 : decode cX7_lightOf 7 = .ok (.bipush 12, 2) := by decide +kernel
theorem dX7_lightOf_9 : decode cX7_lightOf 9 = .ok (.if_icmp .ge 32, 3) := by decide +kernel
theorem dX7_lightOf_12 : decode cX7_lightOf 12 = .ok (.iload_n 3, 1) := by decide +kernel
theorem dX7_lightOf_13 : decode cX7_lightOf 13 = .ok (.aload_n 0, 1) := by decide +kernel
theorem dX7_lightOf_14 : decode cX7_lightOf 14 = .ok (.iload_n 1, 1) := by decide +kernel
theorem dX7_lightOf_15 : decode cX7_lightOf 15 = .ok (.iload_n 2, 1) := by decide +kernel
theorem dX7_lightOf_16 : decode cX7_lightOf 16 = .ok (.iload 4, 2) := by decide +kernel
theorem dX7_lightOf_18 : decode cX7_lightOf 18 = .ok (.invokevirtual 125, 3) := by decide +kernel
theorem dX7_lightOf_21 : decode cX7_lightOf 21 = .ok (.iconst (-1), 1) := by decide +kernel
theorem dX7_lightOf_22 : decode cX7_lightOf 22 = .ok (.if_icmp .ne 10, 3) := by decide +kernel
theorem dX7_lightOf_25 : decode cX7_lightOf 25 = .ok (.iconst 1, 1) := by decide +kernel
theorem dX7_lightOf_26 : decode cX7_lightOf 26 = .ok (.iload 4, 2) := by decide +kernel
theorem dX7_lightOf_28 : decode cX7_lightOf 28 = .ok (.ishl, 1) := by decide +kernel
theorem dX7_lightOf_29 : decode cX7_lightOf 29 = .ok (.goto 4, 3) := by decide +kernel
theorem dX7_lightOf_32 : decode cX7_lightOf 32 = .ok (.iconst 0, 1) := by decide +kernel
theorem dX7_lightOf_33 : decode cX7_lightOf 33 = .ok (.ior, 1) := by decide +kernel
theorem dX7_lightOf_34 : decode cX7_lightOf 34 = .ok (.istore_n 3, 1) := by decide +kernel
theorem dX7_lightOf_35 : decode cX7_lightOf 35 = .ok (.iinc 4 1, 3) := by decide +kernel
theorem dX7_lightOf_38 : decode cX7_lightOf 38 = .ok (.goto (-33), 3) := by decide +kernel
theorem dX7_lightOf_41 : decode cX7_lightOf 41 = .ok (.iload_n 3, 1) := by decide +kernel
theorem dX7_lightOf_42 : decode cX7_lightOf 42 = .ok (.ireturn, 1) := by decide +kernel
theorem dX7_light_0 : decode cX7_light 0 = .ok (.aload_n 0, 1) := by decide +kernel
theorem dX7_light_1 : decode cX7_light 1 = .ok (.iload_n 1, 1) := by decide +kernel
theorem dX7_light_2 : decode cX7_light 2 = .ok (.invokevirtual 102, 3) := by decide +kernel
theorem dX7_light_5 : decode cX7_light 5 = .ok (.ifCond .eq 19, 3) := by decide +kernel
theorem dX7_light_8 : decode cX7_light 8 = .ok (.iload_n 2, 1) := by decide +kernel
theorem dX7_light_9 : decode cX7_light 9 = .ok (.invokestatic 113, 3) := by decide +kernel
theorem dX7_light_12 : decode cX7_light 12 = .ok (.ifCond .eq 12, 3) := by decide +kernel
theorem dX7_light_15 : decode cX7_light 15 = .ok (.aload_n 0, 1) := by decide +kernel
theorem dX7_light_16 : decode cX7_light 16 = .ok (.iload_n 1, 1) := by decide +kernel
theorem dX7_light_17 : decode cX7_light 17 = .ok (.iload_n 2, 1) := by decide +kernel
theorem dX7_light_18 : decode cX7_light 18 = .ok (.invokevirtual 129, 3) := by decide +kernel
theorem dX7_light_21 : decode cX7_light 21 = .ok (.goto 5, 3) := by decide +kernel
theorem dX7_light_24 : decode cX7_light 24 = .ok (.bipush (-2), 2) := by decide +kernel
theorem dX7_light_26 : decode cX7_light 26 = .ok (.ireturn, 1) := by decide +kernel
theorem dX7_yearOf_0 : decode cX7_yearOf 0 = .ok (.iconst 0, 1) := by decide +kernel
theorem dX7_yearOf_1 : decode cX7_yearOf 1 = .ok (.istore_n 2, 1) := by decide +kernel
theorem dX7_yearOf_2 : decode cX7_yearOf 2 = .ok (.iconst 0, 1) := by decide +kernel
theorem dX7_yearOf_3 : decode cX7_yearOf 3 = .ok (.istore_n 3, 1) := by decide +kernel
theorem dX7_yearOf_4 : decode cX7_yearOf 4 = .ok (.iload_n 3, 1) := by decide +kernel
theorem dX7_yearOf_5 : decode cX7_yearOf 5 = .ok (.iconst 4, 1) := by decide +kernel
theorem dX7_yearOf_6 : decode cX7_yearOf 6 = .ok (.if_icmp .ge 28, 3) := by decide +kernel
theorem dX7_yearOf_9 : decode cX7_yearOf 9 = .ok (.iload_n 2, 1) := by decide +kernel
theorem dX7_yearOf_10 : decode cX7_yearOf 10 = .ok (.aload_n 0, 1) := by decide +kernel
theorem dX7_yearOf_11 : decode cX7_yearOf 11 = .ok (.iload_n 1, 1) := by decide +kernel
theorem dX7_yearOf_12 : decode cX7_yearOf 12 = .ok (.iload_n 3, 1) := by decide +kernel
theorem dX7_yearOf_13 : decode cX7_yearOf 13 = .ok (.invokevirtual 129, 3) := by decide +kernel
theorem dX7_yearOf_16 : decode cX7_yearOf 16 = .ok (.invokestatic 132, 3) := by decide +kernel
theorem dX7_yearOf_19 : decode cX7_yearOf 19 = .ok (.aload_n 0, 1) := by decide +kernel
theorem dX7_yearOf_20 : decode cX7_yearOf 20 = .ok (.getfield 22, 3) := by decide +kernel
theorem dX7_yearOf_23 : decode cX7_yearOf 23 = .ok (.iload_n 3, 1) := by decide +kernel
theorem dX7_yearOf_24 : decode cX7_yearOf 24 = .ok (.iaload, 1) := by decide +kernel
theorem dX7_yearOf_25 : decode cX7_yearOf 25 = .ok (.imul, 1) := by decide +kernel
theorem dX7_yearOf_26 : decode cX7_yearOf 26 = .ok (.iadd, 1) := by decide +kernel
theorem dX7_yearOf_27 : decode cX7_yearOf 27 = .ok (.istore_n 2, 1) := by decide +kernel
theorem dX7_yearOf_28 : decode cX7_yearOf 28 = .ok (.iinc 3 1, 3) := by decide +kernel
theorem dX7_yearOf_31 : decode cX7_yearOf 31 = .ok (.goto (-27), 3) := by decide +kernel
theorem dX7_yearOf_34 : decode cX7_yearOf 34 = .ok (.iload_n 2, 1) := by decide +kernel
theorem dX7_yearOf_35 : decode cX7_yearOf 35 = .ok (.ireturn, 1) := by decide +kernel
theorem dX7_hoursOf_0 : decode cX7_hoursOf 0 = .ok (.iload_n 2, 1) := by decide +kernel
theorem dX7_hoursOf_1 : decode cX7_hoursOf 1 = .ok (.iconst (-1), 1) := by decide +kernel
theorem dX7_hoursOf_2 : decode cX7_hoursOf 2 = .ok (.if_icmp .ne 11, 3) := by decide +kernel
theorem dX7_hoursOf_5 : decode cX7_hoursOf 5 = .ok (.aload_n 0, 1) := by decide +kernel
theorem dX7_hoursOf_6 : decode cX7_hoursOf 6 = .ok (.iload_n 1, 1) := by decide +kernel
theorem dX7_hoursOf_7 : decode cX7_hoursOf 7 = .ok (.invokevirtual 135, 3) := by decide +kernel
theorem dX7_hoursOf_10 : decode cX7_hoursOf 10 = .ok (.goto 12, 3) := by decide +kernel
theorem dX7_hoursOf_13 : decode cX7_hoursOf 13 = .ok (.aload_n 0, 1) := by decide +kernel
theorem dX7_hoursOf_14 : decode cX7_hoursOf 14 = .ok (.iload_n 1, 1) := by decide +kernel
theorem dX7_hoursOf_15 : decode cX7_hoursOf 15 = .ok (.iload_n 2, 1) := by decide +kernel
theorem dX7_hoursOf_16 : decode cX7_hoursOf 16 = .ok (.invokevirtual 129, 3) := by decide +kernel
theorem dX7_hoursOf_19 : decode cX7_hoursOf 19 = .ok (.invokestatic 132, 3) := by decide +kernel
theorem dX7_hoursOf_22 : decode cX7_hoursOf 22 = .ok (.ireturn, 1) := by decide +kernel
theorem dX7_hours_0 : decode cX7_hours 0 = .ok (.aload_n 0, 1) := by decide +kernel
theorem dX7_hours_1 : decode cX7_hours 1 = .ok (.iload_n 1, 1) := by decide +kernel
theorem dX7_hours_2 : decode cX7_hours 2 = .ok (.invokevirtual 102, 3) := by decide +kernel
theorem dX7_hours_5 : decode cX7_hours 5 = .ok (.ifCond .eq 24, 3) := by decide +kernel
theorem dX7_hours_8 : decode cX7_hours 8 = .ok (.iload_n 2, 1) := by decide +kernel
theorem dX7_hours_9 : decode cX7_hours 9 = .ok (.iconst (-1), 1) := by decide +kernel
theorem dX7_hours_10 : decode cX7_hours 10 = .ok (.if_icmp .eq 10, 3) := by decide +kernel
theorem dX7_hours_13 : decode cX7_hours 13 = .ok (.iload_n 2, 1) := by decide +kernel
theorem dX7_hours_14 : decode cX7_hours 14 = .ok (.invokestatic 113, 3) := by decide +kernel
theorem dX7_hours_17 : decode cX7_hours 17 = .ok (.ifCond .eq 12, 3) := by decide +kernel
theorem dX7_hours_20 : decode cX7_hours 20 = .ok (.aload_n 0, 1) := by decide +kernel
theorem dX7_hours_21 : decode cX7_hours 21 = .ok (.iload_n 1, 1) := by decide +kernel
theorem dX7_hours_22 : decode cX7_hours 22 = .ok (.iload_n 2, 1) := by decide +kernel
theorem dX7_hours_23 : decode cX7_hours 23 = .ok (.invokevirtual 138, 3) := by decide +kernel
theorem dX7_hours_26 : decode cX7_hours 26 = .ok (.goto 5, 3) := by decide +kernel
theorem dX7_hours_29 : decode cX7_hours 29 = .ok (.bipush (-2), 2) := by decide +kernel
theorem dX7_hours_31 : decode cX7_hours 31 = .ok (.ireturn, 1) := by decide +kernel
theorem dX7_hasOf_0 : decode cX7_hasOf 0 = .ok (.aload_n 0, 1) := by decide +kernel
theorem dX7_hasOf_1 : decode cX7_hasOf 1 = .ok (.invokevirtual 98, 3) := by decide +kernel
theorem dX7_hasOf_4 : decode cX7_hasOf 4 = .ok (.istore_n 3, 1) := by decide +kernel
theorem dX7_hasOf_5 : decode cX7_hasOf 5 = .ok (.iconst 0, 1) := by decide +kernel
theorem dX7_hasOf_6 : decode cX7_hasOf 6 = .ok (.istore 4, 2) := by decide +kernel
theorem dX7_hasOf_8 : decode cX7_hasOf 8 = .ok (.iconst 0, 1) := by decide +kernel
theorem dX7_hasOf_9 : decode cX7_hasOf 9 = .ok (.istore 5, 2) := by decide +kernel
theorem dX7_hasOf_11 : decode cX7_hasOf 11 = .ok (.iconst 0, 1) := by decide +kernel
theorem dX7_hasOf_12 : decode cX7_hasOf 12 = .ok (.istore 6, 2) := by decide +kernel
theorem dX7_hasOf_14 : decode cX7_hasOf 14 = .ok (.iload 6, 2) := by decide +kernel
theorem dX7_hasOf_16 : decode cX7_hasOf 16 = .ok (.aload_n 0, 1) := by decide +kernel
theorem dX7_hasOf_17 : decode cX7_hasOf 17 = .ok (.getfield 85, 3) := by decide +kernel
theorem dX7_hasOf_20 : decode cX7_hasOf 20 = .ok (.if_icmp .ge 59, 3) := by decide +kernel
theorem dX7_hasOf_23 : decode cX7_hasOf 23 = .ok (.iload 4, 2) := by decide +kernel
theorem dX7_hasOf_25 : decode cX7_hasOf 25 = .ok (.aload_n 0, 1) := by decide +kernel
theorem dX7_hasOf_26 : decode cX7_hasOf 26 = .ok (.getfield 19, 3) := by decide +kernel
theorem dX7_hasOf_29 : decode cX7_hasOf 29 = .ok (.iload 6, 2) := by decide +kernel
theorem dX7_hasOf_31 : decode cX7_hasOf 31 = .ok (.iaload, 1) := by decide +kernel
theorem dX7_hasOf_32 : decode cX7_hasOf 32 = .ok (.iload_n 1, 1) := by decide +kernel
theorem dX7_hasOf_33 : decode cX7_hasOf 33 = .ok (.if_icmp .ne 10, 3) := by decide +kernel
theorem dX7_hasOf_36 : decode cX7_hasOf 36 = .ok (.iconst 1, 1) := by decide +kernel
theorem dX7_hasOf_37 : decode cX7_hasOf 37 = .ok (.iload 6, 2) := by decide +kernel
theorem dX7_hasOf_39 : decode cX7_hasOf 39 = .ok (.ishl, 1) := by decide +kernel
theorem dX7_hasOf_40 : decode cX7_hasOf 40 = .ok (.goto 4, 3) := by decide +kernel
theorem dX7_hasOf_43 : decode cX7_hasOf 43 = .ok (.iconst 0, 1) := by decide +kernel
theorem dX7_hasOf_44 : decode cX7_hasOf 44 = .ok (.ior, 1) := by decide +kernel
theorem dX7_hasOf_45 : decode cX7_hasOf 45 = .ok (.istore 4, 2) := by decide +kernel
theorem dX7_hasOf_47 : decode cX7_hasOf 47 = .ok (.iload 5, 2) := by decide +kernel
theorem dX7_hasOf_49 : decode cX7_hasOf 49 = .ok (.aload_n 0, 1) := by decide +kernel
theorem dX7_hasOf_50 : decode cX7_hasOf 50 = .ok (.getfield 19, 3) := by decide +kernel
theorem dX7_hasOf_53 : decode cX7_hasOf 53 = .ok (.iload 6, 2) := by decide +kernel
theorem dX7_hasOf_55 : decode cX7_hasOf 55 = .ok (.iaload, 1) := by decide +kernel
theorem dX7_hasOf_56 : decode cX7_hasOf 56 = .ok (.iload_n 1, 1) := by decide +kernel
theorem dX7_hasOf_57 : decode cX7_hasOf 57 = .ok (.if_icmp .ne 12, 3) := by decide +kernel
theorem dX7_hasOf_60 : decode cX7_hasOf 60 = .ok (.aload_n 0, 1) := by decide +kernel
theorem dX7_hasOf_61 : decode cX7_hasOf 61 = .ok (.iload 6, 2) := by decide +kernel
theorem dX7_hasOf_63 : decode cX7_hasOf 63 = .ok (.invokevirtual 135, 3) := by decide +kernel
theorem dX7_hasOf_66 : decode cX7_hasOf 66 = .ok (.goto 4, 3) := by decide +kernel
theorem dX7_hasOf_69 : decode cX7_hasOf 69 = .ok (.iconst 0, 1) := by decide +kernel
theorem dX7_hasOf_70 : decode cX7_hasOf 70 = .ok (.iadd, 1) := by decide +kernel
theorem dX7_hasOf_71 : decode cX7_hasOf 71 = .ok (.istore 5, 2) := by decide +kernel
theorem dX7_hasOf_73 : decode cX7_hasOf 73 = .ok (.iinc 6 1, 3) := by decide +kernel
theorem dX7_hasOf_76 : decode cX7_hasOf 76 = .ok (.goto (-62), 3) := by decide +kernel
theorem dX7_hasOf_79 : decode cX7_hasOf 79 = .ok (.iload_n 2, 1) := by decide +kernel
theorem dX7_hasOf_80 : decode cX7_hasOf 80 = .ok (.ifCond .ne 8, 3) := by decide +kernel
theorem dX7_hasOf_83 : decode cX7_hasOf 83 = .ok (.iload 4, 2) := by decide +kernel
theorem dX7_hasOf_85 : decode cX7_hasOf 85 = .ok (.goto 5, 3) := by decide +kernel
theorem dX7_hasOf_88 : decode cX7_hasOf 88 = .ok (.iload 5, 2) := by decide +kernel
theorem dX7_hasOf_90 : decode cX7_hasOf 90 = .ok (.ireturn, 1) := by decide +kernel
theorem dX7_has_0 : decode cX7_has 0 = .ok (.iload_n 1, 1) := by decide +kernel
theorem dX7_has_1 : decode cX7_has 1 = .ok (.invokestatic 113, 3) := by decide +kernel
theorem dX7_has_4 : decode cX7_has 4 = .ok (.ifCond .eq 21, 3) := by decide +kernel
theorem dX7_has_7 : decode cX7_has 7 = .ok (.iload_n 2, 1) := by decide +kernel
theorem dX7_has_8 : decode cX7_has 8 = .ok (.iconst 0, 1) := by decide +kernel
theorem dX7_has_9 : decode cX7_has 9 = .ok (.iconst 1, 1) := by decide +kernel
theorem dX7_has_10 : decode cX7_has 10 = .ok (.invokestatic 77, 3) := by decide +kernel
theorem dX7_has_13 : decode cX7_has 13 = .ok (.ifCond .eq 12, 3) := by decide +kernel
theorem dX7_has_16 : decode cX7_has 16 = .ok (.aload_n 0, 1) := by decide +kernel
theorem dX7_has_17 : decode cX7_has 17 = .ok (.iload_n 1, 1) := by decide +kernel
theorem dX7_has_18 : decode cX7_has 18 = .ok (.iload_n 2, 1) := by decide +kernel
theorem dX7_has_19 : decode cX7_has 19 = .ok (.invokevirtual 141, 3) := by decide +kernel
theorem dX7_has_22 : decode cX7_has 22 = .ok (.goto 5, 3) := by decide +kernel
theorem dX7_has_25 : decode cX7_has 25 = .ok (.bipush (-2), 2) := by decide +kernel
theorem dX7_has_27 : decode cX7_has 27 = .ok (.ireturn, 1) := by decide +kernel
theorem dX7_laysYears_0 : decode cX7_laysYears 0 = .ok (.iconst 0, 1) := by decide +kernel
theorem dX7_laysYears_1 : decode cX7_laysYears 1 = .ok (.istore_n 1, 1) := by decide +kernel
theorem dX7_laysYears_2 : decode cX7_laysYears 2 = .ok (.iload_n 1, 1) := by decide +kernel
theorem dX7_laysYears_3 : decode cX7_laysYears 3 = .ok (.aload_n 0, 1) := by decide +kernel
theorem dX7_laysYears_4 : decode cX7_laysYears 4 = .ok (.getfield 85, 3) := by decide +kernel
theorem dX7_laysYears_7 : decode cX7_laysYears 7 = .ok (.if_icmp .ge 20, 3) := by decide +kernel
theorem dX7_laysYears_10 : decode cX7_laysYears 10 = .ok (.aload_n 0, 1) := by decide +kernel
theorem dX7_laysYears_11 : decode cX7_laysYears 11 = .ok (.getfield 37, 3) := by decide +kernel
theorem dX7_laysYears_14 : decode cX7_laysYears 14 = .ok (.iload_n 1, 1) := by decide +kernel
theorem dX7_laysYears_15 : decode cX7_laysYears 15 = .ok (.aload_n 0, 1) := by decide +kernel
theorem dX7_laysYears_16 : decode cX7_laysYears 16 = .ok (.iload_n 1, 1) := by decide +kernel
theorem dX7_laysYears_17 : decode cX7_laysYears 17 = .ok (.invokevirtual 135, 3) := by decide +kernel
theorem dX7_laysYears_20 : decode cX7_laysYears 20 = .ok (.iastore, 1) := by decide +kernel
theorem dX7_laysYears_21 : decode cX7_laysYears 21 = .ok (.iinc 1 1, 3) := by decide +kernel
theorem dX7_laysYears_24 : decode cX7_laysYears 24 = .ok (.goto (-22), 3) := by decide +kernel
theorem dX7_laysYears_27 : decode cX7_laysYears 27 = .ok (.return_, 1) := by decide +kernel
theorem dX7_isNext_0 : decode cX7_isNext 0 = .ok (.iload_n 1, 1) := by decide +kernel
theorem dX7_isNext_1 : decode cX7_isNext 1 = .ok (.iload_n 2, 1) := by decide +kernel
theorem dX7_isNext_2 : decode cX7_isNext 2 = .ok (.if_icmp .ge 9, 3) := by decide +kernel
theorem dX7_isNext_5 : decode cX7_isNext 5 = .ok (.iload_n 2, 1) := by decide +kernel
theorem dX7_isNext_6 : decode cX7_isNext 6 = .ok (.iload_n 1, 1) := by decide +kernel
theorem dX7_isNext_7 : decode cX7_isNext 7 = .ok (.isub, 1) := by decide +kernel
theorem dX7_isNext_8 : decode cX7_isNext 8 = .ok (.goto 6, 3) := by decide +kernel
theorem dX7_isNext_11 : decode cX7_isNext 11 = .ok (.iload_n 1, 1) := by decide +kernel
theorem dX7_isNext_12 : decode cX7_isNext 12 = .ok (.iload_n 2, 1) := by decide +kernel
theorem dX7_isNext_13 : decode cX7_isNext 13 = .ok (.isub, 1) := by decide +kernel
theorem dX7_isNext_14 : decode cX7_isNext 14 = .ok (.istore_n 3, 1) := by decide +kernel
theorem dX7_isNext_15 : decode cX7_isNext 15 = .ok (.iload_n 3, 1) := by decide +kernel
theorem dX7_isNext_16 : decode cX7_isNext 16 = .ok (.aload_n 0, 1) := by decide +kernel
theorem dX7_isNext_17 : decode cX7_isNext 17 = .ok (.getfield 88, 3) := by decide +kernel
theorem dX7_isNext_20 : decode cX7_isNext 20 = .ok (.if_icmp .eq 23, 3) := by decide +kernel
theorem dX7_isNext_23 : decode cX7_isNext 23 = .ok (.iload_n 3, 1) := by decide +kernel
theorem dX7_isNext_24 : decode cX7_isNext 24 = .ok (.iconst 1, 1) := by decide +kernel
theorem dX7_isNext_25 : decode cX7_isNext 25 = .ok (.if_icmp .ne 22, 3) := by decide +kernel
theorem dX7_isNext_28 : decode cX7_isNext 28 = .ok (.iload_n 1, 1) := by decide +kernel
theorem dX7_isNext_29 : decode cX7_isNext 29 = .ok (.aload_n 0, 1) := by decide +kernel
theorem dX7_isNext_30 : decode cX7_isNext 30 = .ok (.getfield 88, 3) := by decide +kernel
theorem dX7_isNext_33 : decode cX7_isNext 33 = .ok (.idiv, 1) := by decide +kernel
theorem dX7_isNext_34 : decode cX7_isNext 34 = .ok (.iload_n 2, 1) := by decide +kernel
theorem dX7_isNext_35 : decode cX7_isNext 35 = .ok (.aload_n 0, 1) := by decide +kernel
theorem dX7_isNext_36 : decode cX7_isNext 36 = .ok (.getfield 88, 3) := by decide +kernel
theorem dX7_isNext_39 : decode cX7_isNext 39 = .ok (.idiv, 1) := by decide +kernel
theorem dX7_isNext_40 : decode cX7_isNext 40 = .ok (.if_icmp .ne 7, 3) := by decide +kernel
theorem dX7_isNext_43 : decode cX7_isNext 43 = .ok (.iconst 1, 1) := by decide +kernel
theorem dX7_isNext_44 : decode cX7_isNext 44 = .ok (.goto 4, 3) := by decide +kernel
theorem dX7_isNext_47 : decode cX7_isNext 47 = .ok (.iconst 0, 1) := by decide +kernel
theorem dX7_isNext_48 : decode cX7_isNext 48 = .ok (.ireturn, 1) := by decide +kernel
theorem dX7_hangs_0 : decode cX7_hangs 0 = .ok (.iload_n 1, 1) := by decide +kernel
theorem dX7_hangs_1 : decode cX7_hangs 1 = .ok (.ifCond .ne 5, 3) := by decide +kernel
theorem dX7_hangs_4 : decode cX7_hangs 4 = .ok (.iconst 0, 1) := by decide +kernel
theorem dX7_hangs_5 : decode cX7_hangs 5 = .ok (.ireturn, 1) := by decide +kernel
theorem dX7_hangs_6 : decode cX7_hangs 6 = .ok (.iload_n 1, 1) := by decide +kernel
theorem dX7_hangs_7 : decode cX7_hangs 7 = .ok (.iload_n 1, 1) := by decide +kernel
theorem dX7_hangs_8 : decode cX7_hangs 8 = .ok (.ineg, 1) := by decide +kernel
theorem dX7_hangs_9 : decode cX7_hangs 9 = .ok (.iand, 1) := by decide +kernel
theorem dX7_hangs_10 : decode cX7_hangs 10 = .ok (.istore_n 2, 1) := by decide +kernel
theorem dX7_hangs_11 : decode cX7_hangs 11 = .ok (.iconst 0, 1) := by decide +kernel
theorem dX7_hangs_12 : decode cX7_hangs 12 = .ok (.istore_n 3, 1) := by decide +kernel
theorem dX7_hangs_13 : decode cX7_hangs 13 = .ok (.iload_n 3, 1) := by decide +kernel
theorem dX7_hangs_14 : decode cX7_hangs 14 = .ok (.bipush 12, 2) := by decide +kernel
theorem dX7_hangs_16 : decode cX7_hangs 16 = .ok (.if_icmp .ge 85, 3) := by decide +kernel
theorem dX7_hangs_19 : decode cX7_hangs 19 = .ok (.iconst 0, 1) := by decide +kernel
theorem dX7_hangs_20 : decode cX7_hangs 20 = .ok (.istore 4, 2) := by decide +kernel
theorem dX7_hangs_22 : decode cX7_hangs 22 = .ok (.iload 4, 2) := by decide +kernel
theorem dX7_hangs_24 : decode cX7_hangs 24 = .ok (.aload_n 0, 1) := by decide +kernel
theorem dX7_hangs_25 : decode cX7_hangs 25 = .ok (.getfield 85, 3) := by decide +kernel
theorem dX7_hangs_28 : decode cX7_hangs 28 = .ok (.if_icmp .ge 67, 3) := by decide +kernel
theorem dX7_hangs_31 : decode cX7_hangs 31 = .ok (.iconst 0, 1) := by decide +kernel
theorem dX7_hangs_32 : decode cX7_hangs 32 = .ok (.istore 5, 2) := by decide +kernel
theorem dX7_hangs_34 : decode cX7_hangs 34 = .ok (.iload 5, 2) := by decide +kernel
theorem dX7_hangs_36 : decode cX7_hangs 36 = .ok (.aload_n 0, 1) := by decide +kernel
theorem dX7_hangs_37 : decode cX7_hangs 37 = .ok (.getfield 85, 3) := by decide +kernel
theorem dX7_hangs_40 : decode cX7_hangs 40 = .ok (.if_icmp .ge 49, 3) := by decide +kernel
theorem dX7_hangs_43 : decode cX7_hangs 43 = .ok (.iload_n 2, 1) := by decide +kernel
theorem dX7_hangs_44 : decode cX7_hangs 44 = .ok (.iload_n 2, 1) := by decide +kernel
theorem dX7_hangs_45 : decode cX7_hangs 45 = .ok (.iload 4, 2) := by decide +kernel
theorem dX7_hangs_47 : decode cX7_hangs 47 = .ok (.invokestatic 144, 3) := by decide +kernel
theorem dX7_hangs_50 : decode cX7_hangs 50 = .ok (.ifCond .eq 30, 3) := by decide +kernel
theorem dX7_hangs_53 : decode cX7_hangs 53 = .ok (.iload_n 1, 1) := by decide +kernel
theorem dX7_hangs_54 : decode cX7_hangs 54 = .ok (.iload 5, 2) := by decide +kernel
theorem dX7_hangs_56 : decode cX7_hangs 56 = .ok (.invokestatic 144, 3) := by decide +kernel
theorem dX7_hangs_59 : decode cX7_hangs 59 = .ok (.ifCond .eq 21, 3) := by decide +kernel
theorem dX7_hangs_62 : decode cX7_hangs 62 = .ok (.aload_n 0, 1) := by decide +kernel
theorem dX7_hangs_63 : decode cX7_hangs 63 = .ok (.iload 4, 2) := by decide +kernel
theorem dX7_hangs_65 : decode cX7_hangs 65 = .ok (.iload 5, 2) := by decide +kernel
theorem dX7_hangs_67 : decode cX7_hangs 67 = .ok (.invokevirtual 148, 3) := by decide +kernel
theorem dX7_hangs_70 : decode cX7_hangs 70 = .ok (.ifCond .eq 10, 3) := by decide +kernel
theorem dX7_hangs_73 : decode cX7_hangs 73 = .ok (.iconst 1, 1) := by decide +kernel
theorem dX7_hangs_74 : decode cX7_hangs 74 = .ok (.iload 5, 2) := by decide +kernel
theorem dX7_hangs_76 : decode cX7_hangs 76 = .ok (.ishl, 1) := by decide +kernel
theorem dX7_hangs_77 : decode cX7_hangs 77 = .ok (.goto 4, 3) := by decide +kernel
theorem dX7_hangs_80 : decode cX7_hangs 80 = .ok (.iconst 0, 1) := by decide +kernel
theorem dX7_hangs_81 : decode cX7_hangs 81 = .ok (.ior, 1) := by decide +kernel
theorem dX7_hangs_82 : decode cX7_hangs 82 = .ok (.istore_n 2, 1) := by decide +kernel
theorem dX7_hangs_83 : decode cX7_hangs 83 = .ok (.iinc 5 1, 3) := by decide +kernel
theorem dX7_hangs_86 : decode cX7_hangs 86 = .ok (.goto (-52), 3) := by decide +kernel
theorem dX7_hangs_89 : decode cX7_hangs 89 = .ok (.iinc 4 1, 3) := by decide +kernel
theorem dX7_hangs_92 : decode cX7_hangs 92 = .ok (.goto (-70), 3) := by decide +kernel
theorem dX7_hangs_95 : decode cX7_hangs 95 = .ok (.iinc 3 1, 3) := by decide +kernel
theorem dX7_hangs_98 : decode cX7_hangs 98 = .ok (.goto (-85), 3) := by decide +kernel
theorem dX7_hangs_101 : decode cX7_hangs 101 = .ok (.iload_n 2, 1) := by decide +kernel
theorem dX7_hangs_102 : decode cX7_hangs 102 = .ok (.iload_n 1, 1) := by decide +kernel
theorem dX7_hangs_103 : decode cX7_hangs 103 = .ok (.if_icmp .ne 7, 3) := by decide +kernel
theorem dX7_hangs_106 : decode cX7_hangs 106 = .ok (.iconst 1, 1) := by decide +kernel
theorem dX7_hangs_107 : decode cX7_hangs 107 = .ok (.goto 4, 3) := by decide +kernel
theorem dX7_hangs_110 : decode cX7_hangs 110 = .ok (.iconst 0, 1) := by decide +kernel
theorem dX7_hangs_111 : decode cX7_hangs 111 = .ok (.ireturn, 1) := by decide +kernel
theorem dX7_all_0 : decode cX7_all 0 = .ok (.iconst 1, 1) := by decide +kernel
theorem dX7_all_1 : decode cX7_all 1 = .ok (.aload_n 0, 1) := by decide +kernel
theorem dX7_all_2 : decode cX7_all 2 = .ok (.getfield 85, 3) := by decide +kernel
theorem dX7_all_5 : decode cX7_all 5 = .ok (.ishl, 1) := by decide +kernel
theorem dX7_all_6 : decode cX7_all 6 = .ok (.iconst 1, 1) := by decide +kernel
theorem dX7_all_7 : decode cX7_all 7 = .ok (.isub, 1) := by decide +kernel
theorem dX7_all_8 : decode cX7_all 8 = .ok (.ireturn, 1) := by decide +kernel
theorem dX7_isParting_0 : decode cX7_isParting 0 = .ok (.iload_n 1, 1) := by decide +kernel
theorem dX7_isParting_1 : decode cX7_isParting 1 = .ok (.iconst 0, 1) := by decide +kernel
theorem dX7_isParting_2 : decode cX7_isParting 2 = .ok (.invokestatic 144, 3) := by decide +kernel
theorem dX7_isParting_5 : decode cX7_isParting 5 = .ok (.ifCond .eq 30, 3) := by decide +kernel
theorem dX7_isParting_8 : decode cX7_isParting 8 = .ok (.aload_n 0, 1) := by decide +kernel
theorem dX7_isParting_9 : decode cX7_isParting 9 = .ok (.iload_n 1, 1) := by decide +kernel
theorem dX7_isParting_10 : decode cX7_isParting 10 = .ok (.invokevirtual 151, 3) := by decide +kernel
theorem dX7_isParting_13 : decode cX7_isParting 13 = .ok (.ifCond .eq 22, 3) := by decide +kernel
theorem dX7_isParting_16 : decode cX7_isParting 16 = .ok (.aload_n 0, 1) := by decide +kernel
theorem dX7_isParting_17 : decode cX7_isParting 17 = .ok (.aload_n 0, 1) := by decide +kernel
theorem dX7_isParting_18 : decode cX7_isParting 18 = .ok (.invokevirtual 154, 3) := by decide +kernel
theorem dX7_isParting_21 : decode cX7_isParting 21 = .ok (.iload_n 1, 1) := by decide +kernel
theorem dX7_isParting_22 : decode cX7_isParting 22 = .ok (.iconst (-1), 1) := by decide +kernel
theorem dX7_isParting_23 : decode cX7_isParting 23 = .ok (.ixor, 1) := by decide +kernel
theorem dX7_isParting_24 : decode cX7_isParting 24 = .ok (.iand, 1) := by decide +kernel
theorem dX7_isParting_25 : decode cX7_isParting 25 = .ok (.invokevirtual 151, 3) := by decide +kernel
theorem dX7_isParting_28 : decode cX7_isParting 28 = .ok (.ifCond .eq 7, 3) := by decide +kernel
theorem dX7_isParting_31 : decode cX7_isParting 31 = .ok (.iconst 1, 1) := by decide +kernel
theorem dX7_isParting_32 : decode cX7_isParting 32 = .ok (.goto 4, 3) := by decide +kernel
theorem dX7_isParting_35 : decode cX7_isParting 35 = .ok (.iconst 0, 1) := by decide +kernel
theorem dX7_isParting_36 : decode cX7_isParting 36 = .ok (.ireturn, 1) := by decide +kernel
theorem dX7_differs_0 : decode cX7_differs 0 = .ok (.iconst 0, 1) := by decide +kernel
theorem dX7_differs_1 : decode cX7_differs 1 = .ok (.istore_n 2, 1) := by decide +kernel
theorem dX7_differs_2 : decode cX7_differs 2 = .ok (.iconst 0, 1) := by decide +kernel
theorem dX7_differs_3 : decode cX7_differs 3 = .ok (.istore_n 3, 1) := by decide +kernel
theorem dX7_differs_4 : decode cX7_differs 4 = .ok (.iload_n 3, 1) := by decide +kernel
theorem dX7_differs_5 : decode cX7_differs 5 = .ok (.aload_n 0, 1) := by decide +kernel
theorem dX7_differs_6 : decode cX7_differs 6 = .ok (.getfield 85, 3) := by decide +kernel
theorem dX7_differs_9 : decode cX7_differs 9 = .ok (.if_icmp .ge 36, 3) := by decide +kernel
theorem dX7_differs_12 : decode cX7_differs 12 = .ok (.iload_n 2, 1) := by decide +kernel
theorem dX7_differs_13 : decode cX7_differs 13 = .ok (.iload_n 1, 1) := by decide +kernel
theorem dX7_differs_14 : decode cX7_differs 14 = .ok (.iload_n 3, 1) := by decide +kernel
theorem dX7_differs_15 : decode cX7_differs 15 = .ok (.invokestatic 144, 3) := by decide +kernel
theorem dX7_differs_18 : decode cX7_differs 18 = .ok (.ifCond .eq 12, 3) := by decide +kernel
theorem dX7_differs_21 : decode cX7_differs 21 = .ok (.aload_n 0, 1) := by decide +kernel
theorem dX7_differs_22 : decode cX7_differs 22 = .ok (.getfield 37, 3) := by decide +kernel
theorem dX7_differs_25 : decode cX7_differs 25 = .ok (.iload_n 3, 1) := by decide +kernel
theorem dX7_differs_26 : decode cX7_differs 26 = .ok (.iaload, 1) := by decide +kernel
theorem dX7_differs_27 : decode cX7_differs 27 = .ok (.goto 10, 3) := by decide +kernel
theorem dX7_differs_30 : decode cX7_differs 30 = .ok (.aload_n 0, 1) := by decide +kernel
theorem dX7_differs_31 : decode cX7_differs 31 = .ok (.getfield 37, 3) := by decide +kernel
theorem dX7_differs_34 : decode cX7_differs 34 = .ok (.iload_n 3, 1) := by decide +kernel
theorem dX7_differs_35 : decode cX7_differs 35 = .ok (.iaload, 1) := by decide +kernel
theorem dX7_differs_36 : decode cX7_differs 36 = .ok (.ineg, 1) := by decide +kernel
theorem dX7_differs_37 : decode cX7_differs 37 = .ok (.iadd, 1) := by decide +kernel
theorem dX7_differs_38 : decode cX7_differs 38 = .ok (.istore_n 2, 1) := by decide +kernel
theorem dX7_differs_39 : decode cX7_differs 39 = .ok (.iinc 3 1, 3) := by decide +kernel
theorem dX7_differs_42 : decode cX7_differs 42 = .ok (.goto (-38), 3) := by decide +kernel
theorem dX7_differs_45 : decode cX7_differs 45 = .ok (.iload_n 2, 1) := by decide +kernel
theorem dX7_differs_46 : decode cX7_differs 46 = .ok (.ifCond .ge 8, 3) := by decide +kernel
theorem dX7_differs_49 : decode cX7_differs 49 = .ok (.iload_n 2, 1) := by decide +kernel
theorem dX7_differs_50 : decode cX7_differs 50 = .ok (.ineg, 1) := by decide +kernel
theorem dX7_differs_51 : decode cX7_differs 51 = .ok (.goto 4, 3) := by decide +kernel
theorem dX7_differs_54 : decode cX7_differs 54 = .ok (.iload_n 2, 1) := by decide +kernel
theorem dX7_differs_55 : decode cX7_differs 55 = .ok (.ireturn, 1) := by decide +kernel
theorem dX7_partsNow_0 : decode cX7_partsNow 0 = .ok (.aload_n 0, 1) := by decide +kernel
theorem dX7_partsNow_1 : decode cX7_partsNow 1 = .ok (.invokevirtual 98, 3) := by decide +kernel
theorem dX7_partsNow_4 : decode cX7_partsNow 4 = .ok (.istore_n 1, 1) := by decide +kernel
theorem dX7_partsNow_5 : decode cX7_partsNow 5 = .ok (.aload_n 0, 1) := by decide +kernel
theorem dX7_partsNow_6 : decode cX7_partsNow 6 = .ok (.invokevirtual 157, 3) := by decide +kernel
theorem dX7_partsNow_9 : decode cX7_partsNow 9 = .ok (.iconst (-1), 1) := by decide +kernel
theorem dX7_partsNow_10 : decode cX7_partsNow 10 = .ok (.istore_n 2, 1) := by decide +kernel
theorem dX7_partsNow_11 : decode cX7_partsNow 11 = .ok (.iconst 1, 1) := by decide +kernel
theorem dX7_partsNow_12 : decode cX7_partsNow 12 = .ok (.istore_n 3, 1) := by decide +kernel
theorem dX7_partsNow_13 : decode cX7_partsNow 13 = .ok (.iload_n 3, 1) := by decide +kernel
theorem dX7_partsNow_14 : decode cX7_partsNow 14 = .ok (.aload_n 0, 1) := by decide +kernel
theorem dX7_partsNow_15 : decode cX7_partsNow 15 = .ok (.invokevirtual 154, 3) := by decide +kernel
theorem dX7_partsNow_18 : decode cX7_partsNow 18 = .ok (.if_icmp .ge 53, 3) := by decide +kernel
theorem dX7_partsNow_21 : decode cX7_partsNow 21 = .ok (.iload_n 2, 1) := by decide +kernel
theorem dX7_partsNow_22 : decode cX7_partsNow 22 = .ok (.iconst (-1), 1) := by decide +kernel
theorem dX7_partsNow_23 : decode cX7_partsNow 23 = .ok (.if_icmp .eq 16, 3) := by decide +kernel
theorem dX7_partsNow_26 : decode cX7_partsNow 26 = .ok (.aload_n 0, 1) := by decide +kernel
theorem dX7_partsNow_27 : decode cX7_partsNow 27 = .ok (.iload_n 3, 1) := by decide +kernel
theorem dX7_partsNow_28 : decode cX7_partsNow 28 = .ok (.invokevirtual 160, 3) := by decide +kernel
theorem dX7_partsNow_31 : decode cX7_partsNow 31 = .ok (.aload_n 0, 1) := by decide +kernel
theorem dX7_partsNow_32 : decode cX7_partsNow 32 = .ok (.iload_n 2, 1) := by decide +kernel
theorem dX7_partsNow_33 : decode cX7_partsNow 33 = .ok (.invokevirtual 160, 3) := by decide +kernel
theorem dX7_partsNow_36 : decode cX7_partsNow 36 = .ok (.if_icmp .ge 7, 3) := by decide +kernel
theorem dX7_partsNow_39 : decode cX7_partsNow 39 = .ok (.iconst 1, 1) := by decide +kernel
theorem dX7_partsNow_40 : decode cX7_partsNow 40 = .ok (.goto 4, 3) := by decide +kernel
theorem dX7_partsNow_43 : decode cX7_partsNow 43 = .ok (.iconst 0, 1) := by decide +kernel
theorem dX7_partsNow_44 : decode cX7_partsNow 44 = .ok (.istore 4, 2) := by decide +kernel
theorem dX7_partsNow_46 : decode cX7_partsNow 46 = .ok (.iload 4, 2) := by decide +kernel
theorem dX7_partsNow_48 : decode cX7_partsNow 48 = .ok (.ifCond .eq 15, 3) := by decide +kernel
theorem dX7_partsNow_51 : decode cX7_partsNow 51 = .ok (.aload_n 0, 1) := by decide +kernel
theorem dX7_partsNow_52 : decode cX7_partsNow 52 = .ok (.iload_n 3, 1) := by decide +kernel
theorem dX7_partsNow_53 : decode cX7_partsNow 53 = .ok (.invokevirtual 163, 3) := by decide +kernel
theorem dX7_partsNow_56 : decode cX7_partsNow 56 = .ok (.ifCond .eq 7, 3) := by decide +kernel
theorem dX7_partsNow_59 : decode cX7_partsNow 59 = .ok (.iload_n 3, 1) := by decide +kernel
theorem dX7_partsNow_60 : decode cX7_partsNow 60 = .ok (.goto 4, 3) := by decide +kernel
theorem dX7_partsNow_63 : decode cX7_partsNow 63 = .ok (.iload_n 2, 1) := by decide +kernel
theorem dX7_partsNow_64 : decode cX7_partsNow 64 = .ok (.istore_n 2, 1) := by decide +kernel
theorem dX7_partsNow_65 : decode cX7_partsNow 65 = .ok (.iinc 3 2, 3) := by decide +kernel
theorem dX7_partsNow_68 : decode cX7_partsNow 68 = .ok (.goto (-55), 3) := by decide +kernel
theorem dX7_partsNow_71 : decode cX7_partsNow 71 = .ok (.iload_n 2, 1) := by decide +kernel
theorem dX7_partsNow_72 : decode cX7_partsNow 72 = .ok (.ireturn, 1) := by decide +kernel
theorem dX7_partsOf_0 : decode cX7_partsOf 0 = .ok (.aload_n 0, 1) := by decide +kernel
theorem dX7_partsOf_1 : decode cX7_partsOf 1 = .ok (.invokevirtual 166, 3) := by decide +kernel
theorem dX7_partsOf_4 : decode cX7_partsOf 4 = .ok (.istore_n 2, 1) := by decide +kernel
theorem dX7_partsOf_5 : decode cX7_partsOf 5 = .ok (.iload_n 2, 1) := by decide +kernel
theorem dX7_partsOf_6 : decode cX7_partsOf 6 = .ok (.iconst (-1), 1) := by decide +kernel
theorem dX7_partsOf_7 : decode cX7_partsOf 7 = .ok (.if_icmp .eq 8, 3) := by decide +kernel
theorem dX7_partsOf_10 : decode cX7_partsOf 10 = .ok (.iload_n 1, 1) := by decide +kernel
theorem dX7_partsOf_11 : decode cX7_partsOf 11 = .ok (.iconst 1, 1) := by decide +kernel
theorem dX7_partsOf_12 : decode cX7_partsOf 12 = .ok (.if_icmp .ne 7, 3) := by decide +kernel
theorem dX7_partsOf_15 : decode cX7_partsOf 15 = .ok (.iload_n 2, 1) := by decide +kernel
theorem dX7_partsOf_16 : decode cX7_partsOf 16 = .ok (.goto 8, 3) := by decide +kernel
end
section
theorem dX7_partsOf_19 : decode cX7_partsOf 19 = .ok (.aload_n 0, 1) := by decide +kernel
theorem dX7_partsOf_20 : decode cX7_partsOf 20 = .ok (.iload_n 2, 1) := by decide +kernel
theorem dX7_partsOf_21 : decode cX7_partsOf 21 = .ok (.invokevirtual 160, 3) := by decide +kernel
theorem dX7_partsOf_24 : decode cX7_partsOf 24 = .ok (.ireturn, 1) := by decide +kernel
theorem dX7_parts_0 : decode cX7_parts 0 = .ok (.iload_n 1, 1) := by decide +kernel
theorem dX7_parts_1 : decode cX7_parts 1 = .ok (.iconst 0, 1) := by decide +kernel
theorem dX7_parts_2 : decode cX7_parts 2 = .ok (.iconst 1, 1) := by decide +kernel
theorem dX7_parts_3 : decode cX7_parts 3 = .ok (.invokestatic 77, 3) := by decide +kernel
theorem dX7_parts_6 : decode cX7_parts 6 = .ok (.ifCond .eq 11, 3) := by decide +kernel
theorem dX7_parts_9 : decode cX7_parts 9 = .ok (.aload_n 0, 1) := by decide +kernel
theorem dX7_parts_10 : decode cX7_parts 10 = .ok (.iload_n 1, 1) := by decide +kernel
theorem dX7_parts_11 : decode cX7_parts 11 = .ok (.invokevirtual 169, 3) := by decide +kernel
theorem dX7_parts_14 : decode cX7_parts 14 = .ok (.goto 5, 3) := by decide +kernel
theorem dX7_parts_17 : decode cX7_parts 17 = .ok (.bipush (-2), 2) := by decide +kernel
theorem dX7_parts_19 : decode cX7_parts 19 = .ok (.ireturn, 1) := by decide +kernel
theorem dX7_takenOf_0 : decode cX7_takenOf 0 = .ok (.aload_n 0, 1) := by decide +kernel
theorem dX7_takenOf_1 : decode cX7_takenOf 1 = .ok (.iload_n 3, 1) := by decide +kernel
theorem dX7_takenOf_2 : decode cX7_takenOf 2 = .ok (.iconst 1, 1) := by decide +kernel
theorem dX7_takenOf_3 : decode cX7_takenOf 3 = .ok (.invokevirtual 141, 3) := by decide +kernel
theorem dX7_takenOf_6 : decode cX7_takenOf 6 = .ok (.istore 4, 2) := by decide +kernel
theorem dX7_takenOf_8 : decode cX7_takenOf 8 = .ok (.aload_n 0, 1) := by decide +kernel
theorem dX7_takenOf_9 : decode cX7_takenOf 9 = .ok (.getfield 16, 3) := by decide +kernel
theorem dX7_takenOf_12 : decode cX7_takenOf 12 = .ok (.iload_n 1, 1) := by decide +kernel
theorem dX7_takenOf_13 : decode cX7_takenOf 13 = .ok (.iaload, 1) := by decide +kernel
theorem dX7_takenOf_14 : decode cX7_takenOf 14 = .ok (.istore 5, 2) := by decide +kernel
theorem dX7_takenOf_16 : decode cX7_takenOf 16 = .ok (.aload_n 0, 1) := by decide +kernel
theorem dX7_takenOf_17 : decode cX7_takenOf 17 = .ok (.getfield 16, 3) := by decide +kernel
theorem dX7_takenOf_20 : decode cX7_takenOf 20 = .ok (.iload_n 1, 1) := by decide +kernel
theorem dX7_takenOf_21 : decode cX7_takenOf 21 = .ok (.iload_n 2, 1) := by decide +kernel
theorem dX7_takenOf_22 : decode cX7_takenOf 22 = .ok (.iastore, 1) := by decide +kernel
theorem dX7_takenOf_23 : decode cX7_takenOf 23 = .ok (.aload_n 0, 1) := by decide +kernel
theorem dX7_takenOf_24 : decode cX7_takenOf 24 = .ok (.iload_n 3, 1) := by decide +kernel
theorem dX7_takenOf_25 : decode cX7_takenOf 25 = .ok (.iconst 1, 1) := by decide +kernel
theorem dX7_takenOf_26 : decode cX7_takenOf 26 = .ok (.invokevirtual 141, 3) := by decide +kernel
theorem dX7_takenOf_29 : decode cX7_takenOf 29 = .ok (.istore 6, 2) := by decide +kernel
theorem dX7_takenOf_31 : decode cX7_takenOf 31 = .ok (.aload_n 0, 1) := by decide +kernel
theorem dX7_takenOf_32 : decode cX7_takenOf 32 = .ok (.getfield 16, 3) := by decide +kernel
theorem dX7_takenOf_35 : decode cX7_takenOf 35 = .ok (.iload_n 1, 1) := by decide +kernel
theorem dX7_takenOf_36 : decode cX7_takenOf 36 = .ok (.iload 5, 2) := by decide +kernel
theorem dX7_takenOf_38 : decode cX7_takenOf 38 = .ok (.iastore, 1) := by decide +kernel
theorem dX7_takenOf_39 : decode cX7_takenOf 39 = .ok (.iload 4, 2) := by decide +kernel
theorem dX7_takenOf_41 : decode cX7_takenOf 41 = .ok (.iload 6, 2) := by decide +kernel
theorem dX7_takenOf_43 : decode cX7_takenOf 43 = .ok (.isub, 1) := by decide +kernel
theorem dX7_takenOf_44 : decode cX7_takenOf 44 = .ok (.ireturn, 1) := by decide +kernel
theorem dX7_taken_0 : decode cX7_taken 0 = .ok (.aload_n 0, 1) := by decide +kernel
theorem dX7_taken_1 : decode cX7_taken 1 = .ok (.iload_n 1, 1) := by decide +kernel
theorem dX7_taken_2 : decode cX7_taken 2 = .ok (.invokevirtual 102, 3) := by decide +kernel
theorem dX7_taken_5 : decode cX7_taken 5 = .ok (.ifCond .eq 30, 3) := by decide +kernel
theorem dX7_taken_8 : decode cX7_taken 8 = .ok (.iload_n 2, 1) := by decide +kernel
theorem dX7_taken_9 : decode cX7_taken 9 = .ok (.iconst 0, 1) := by decide +kernel
theorem dX7_taken_10 : decode cX7_taken 10 = .ok (.bipush 20, 2) := by decide +kernel
theorem dX7_taken_12 : decode cX7_taken 12 = .ok (.invokestatic 77, 3) := by decide +kernel
theorem dX7_taken_15 : decode cX7_taken 15 = .ok (.ifCond .eq 20, 3) := by decide +kernel
theorem dX7_taken_18 : decode cX7_taken 18 = .ok (.iload_n 3, 1) := by decide +kernel
theorem dX7_taken_19 : decode cX7_taken 19 = .ok (.invokestatic 113, 3) := by decide +kernel
theorem dX7_taken_22 : decode cX7_taken 22 = .ok (.ifCond .eq 13, 3) := by decide +kernel
theorem dX7_taken_25 : decode cX7_taken 25 = .ok (.aload_n 0, 1) := by decide +kernel
theorem dX7_taken_26 : decode cX7_taken 26 = .ok (.iload_n 1, 1) := by decide +kernel
theorem dX7_taken_27 : decode cX7_taken 27 = .ok (.iload_n 2, 1) := by decide +kernel
theorem dX7_taken_28 : decode cX7_taken 28 = .ok (.iload_n 3, 1) := by decide +kernel
theorem dX7_taken_29 : decode cX7_taken 29 = .ok (.invokevirtual 172, 3) := by decide +kernel
theorem dX7_taken_32 : decode cX7_taken 32 = .ok (.goto 5, 3) := by decide +kernel
theorem dX7_taken_35 : decode cX7_taken 35 = .ok (.ldc 175, 2) := by decide +kernel
theorem dX7_taken_37 : decode cX7_taken 37 = .ok (.ireturn, 1) := by decide +kernel
theorem dX7_highestOf_0 : decode cX7_highestOf 0 = .ok (.iconst (-1), 1) := by decide +kernel
theorem dX7_highestOf_1 : decode cX7_highestOf 1 = .ok (.istore_n 3, 1) := by decide +kernel
theorem dX7_highestOf_2 : decode cX7_highestOf 2 = .ok (.iconst 0, 1) := by decide +kernel
theorem dX7_highestOf_3 : decode cX7_highestOf 3 = .ok (.istore 4, 2) := by decide +kernel
theorem dX7_highestOf_5 : decode cX7_highestOf 5 = .ok (.iload 4, 2) := by decide +kernel
theorem dX7_highestOf_7 : decode cX7_highestOf 7 = .ok (.bipush 20, 2) := by decide +kernel
theorem dX7_highestOf_9 : decode cX7_highestOf 9 = .ok (.if_icmp .gt 64, 3) := by decide +kernel
theorem dX7_highestOf_12 : decode cX7_highestOf 12 = .ok (.iconst 1, 1) := by decide +kernel
theorem dX7_highestOf_13 : decode cX7_highestOf 13 = .ok (.istore 5, 2) := by decide +kernel
theorem dX7_highestOf_15 : decode cX7_highestOf 15 = .ok (.iconst 0, 1) := by decide +kernel
theorem dX7_highestOf_16 : decode cX7_highestOf 16 = .ok (.istore 6, 2) := by decide +kernel
theorem dX7_highestOf_18 : decode cX7_highestOf 18 = .ok (.iload 6, 2) := by decide +kernel
theorem dX7_highestOf_20 : decode cX7_highestOf 20 = .ok (.iconst 4, 1) := by decide +kernel
theorem dX7_highestOf_21 : decode cX7_highestOf 21 = .ok (.if_icmp .ge 34, 3) := by decide +kernel
theorem dX7_highestOf_24 : decode cX7_highestOf 24 = .ok (.iload 5, 2) := by decide +kernel
theorem dX7_highestOf_26 : decode cX7_highestOf 26 = .ok (.ifCond .eq 20, 3) := by decide +kernel
theorem dX7_highestOf_29 : decode cX7_highestOf 29 = .ok (.aload_n 0, 1) := by decide +kernel
theorem dX7_highestOf_30 : decode cX7_highestOf 30 = .ok (.iload_n 1, 1) := by decide +kernel
theorem dX7_highestOf_31 : decode cX7_highestOf 31 = .ok (.iload 4, 2) := by decide +kernel
theorem dX7_highestOf_33 : decode cX7_highestOf 33 = .ok (.iload 6, 2) := by decide +kernel
theorem dX7_highestOf_35 : decode cX7_highestOf 35 = .ok (.invokevirtual 172, 3) := by decide +kernel
theorem dX7_highestOf_38 : decode cX7_highestOf 38 = .ok (.iload_n 2, 1) := by decide +kernel
theorem dX7_highestOf_39 : decode cX7_highestOf 39 = .ok (.if_icmp .gt 7, 3) := by decide +kernel
theorem dX7_highestOf_42 : decode cX7_highestOf 42 = .ok (.iconst 1, 1) := by decide +kernel
theorem dX7_highestOf_43 : decode cX7_highestOf 43 = .ok (.goto 4, 3) := by decide +kernel
theorem dX7_highestOf_46 : decode cX7_highestOf 46 = .ok (.iconst 0, 1) := by decide +kernel
theorem dX7_highestOf_47 : decode cX7_highestOf 47 = .ok (.istore 5, 2) := by decide +kernel
theorem dX7_highestOf_49 : decode cX7_highestOf 49 = .ok (.iinc 6 1, 3) := by decide +kernel
theorem dX7_highestOf_52 : decode cX7_highestOf 52 = .ok (.goto (-34), 3) := by decide +kernel
theorem dX7_highestOf_55 : decode cX7_highestOf 55 = .ok (.iload 5, 2) := by decide +kernel
theorem dX7_highestOf_57 : decode cX7_highestOf 57 = .ok (.ifCond .eq 8, 3) := by decide +kernel
theorem dX7_highestOf_60 : decode cX7_highestOf 60 = .ok (.iload 4, 2) := by decide +kernel
theorem dX7_highestOf_62 : decode cX7_highestOf 62 = .ok (.goto 4, 3) := by decide +kernel
theorem dX7_highestOf_65 : decode cX7_highestOf 65 = .ok (.iload_n 3, 1) := by decide +kernel
theorem dX7_highestOf_66 : decode cX7_highestOf 66 = .ok (.istore_n 3, 1) := by decide +kernel
theorem dX7_highestOf_67 : decode cX7_highestOf 67 = .ok (.iinc 4 1, 3) := by decide +kernel
theorem dX7_highestOf_70 : decode cX7_highestOf 70 = .ok (.goto (-65), 3) := by decide +kernel
theorem dX7_highestOf_73 : decode cX7_highestOf 73 = .ok (.iload_n 3, 1) := by decide +kernel
theorem dX7_highestOf_74 : decode cX7_highestOf 74 = .ok (.ireturn, 1) := by decide +kernel
theorem dX7_highest_0 : decode cX7_highest 0 = .ok (.aload_n 0, 1) := by decide +kernel
theorem dX7_highest_1 : decode cX7_highest 1 = .ok (.iload_n 1, 1) := by decide +kernel
theorem dX7_highest_2 : decode cX7_highest 2 = .ok (.invokevirtual 102, 3) := by decide +kernel
theorem dX7_highest_5 : decode cX7_highest 5 = .ok (.ifCond .eq 22, 3) := by decide +kernel
theorem dX7_highest_8 : decode cX7_highest 8 = .ok (.iload_n 2, 1) := by decide +kernel
theorem dX7_highest_9 : decode cX7_highest 9 = .ok (.iconst 0, 1) := by decide +kernel
theorem dX7_highest_10 : decode cX7_highest 10 = .ok (.ldc 176, 2) := by decide +kernel
theorem dX7_highest_12 : decode cX7_highest 12 = .ok (.invokestatic 77, 3) := by decide +kernel
theorem dX7_highest_15 : decode cX7_highest 15 = .ok (.ifCond .eq 12, 3) := by decide +kernel
theorem dX7_highest_18 : decode cX7_highest 18 = .ok (.aload_n 0, 1) := by decide +kernel
theorem dX7_highest_19 : decode cX7_highest 19 = .ok (.iload_n 1, 1) := by decide +kernel
theorem dX7_highest_20 : decode cX7_highest 20 = .ok (.iload_n 2, 1) := by decide +kernel
theorem dX7_highest_21 : decode cX7_highest 21 = .ok (.invokevirtual 177, 3) := by decide +kernel
theorem dX7_highest_24 : decode cX7_highest 24 = .ok (.goto 5, 3) := by decide +kernel
theorem dX7_highest_27 : decode cX7_highest 27 = .ok (.bipush (-2), 2) := by decide +kernel
theorem dX7_highest_29 : decode cX7_highest 29 = .ok (.ireturn, 1) := by decide +kernel
theorem dX7_againOf_0 : decode cX7_againOf 0 = .ok (.aload_n 0, 1) := by decide +kernel
theorem dX7_againOf_1 : decode cX7_againOf 1 = .ok (.invokevirtual 166, 3) := by decide +kernel
theorem dX7_againOf_4 : decode cX7_againOf 4 = .ok (.istore 4, 2) := by decide +kernel
theorem dX7_againOf_6 : decode cX7_againOf 6 = .ok (.aload_n 0, 1) := by decide +kernel
theorem dX7_againOf_7 : decode cX7_againOf 7 = .ok (.getfield 16, 3) := by decide +kernel
theorem dX7_againOf_10 : decode cX7_againOf 10 = .ok (.iload_n 1, 1) := by decide +kernel
theorem dX7_againOf_11 : decode cX7_againOf 11 = .ok (.iaload, 1) := by decide +kernel
theorem dX7_againOf_12 : decode cX7_againOf 12 = .ok (.ifCond .eq 9, 3) := by decide +kernel
theorem dX7_againOf_15 : decode cX7_againOf 15 = .ok (.iload 4, 2) := by decide +kernel
theorem dX7_againOf_17 : decode cX7_againOf 17 = .ok (.iconst (-1), 1) := by decide +kernel
theorem dX7_againOf_18 : decode cX7_againOf 18 = .ok (.if_icmp .ne 6, 3) := by decide +kernel
theorem dX7_againOf_21 : decode cX7_againOf 21 = .ok (.bipush (-3), 2) := by decide +kernel
theorem dX7_againOf_23 : decode cX7_againOf 23 = .ok (.ireturn, 1) := by decide +kernel
theorem dX7_againOf_24 : decode cX7_againOf 24 = .ok (.aload_n 0, 1) := by decide +kernel
theorem dX7_againOf_25 : decode cX7_againOf 25 = .ok (.getfield 16, 3) := by decide +kernel
theorem dX7_againOf_28 : decode cX7_againOf 28 = .ok (.iload_n 1, 1) := by decide +kernel
theorem dX7_againOf_29 : decode cX7_againOf 29 = .ok (.iaload, 1) := by decide +kernel
theorem dX7_againOf_30 : decode cX7_againOf 30 = .ok (.istore 5, 2) := by decide +kernel
theorem dX7_againOf_32 : decode cX7_againOf 32 = .ok (.aload_n 0, 1) := by decide +kernel
theorem dX7_againOf_33 : decode cX7_againOf 33 = .ok (.getfield 16, 3) := by decide +kernel
theorem dX7_againOf_36 : decode cX7_againOf 36 = .ok (.iload_n 1, 1) := by decide +kernel
theorem dX7_againOf_37 : decode cX7_againOf 37 = .ok (.iconst 0, 1) := by decide +kernel
theorem dX7_againOf_38 : decode cX7_againOf 38 = .ok (.iastore, 1) := by decide +kernel
theorem dX7_againOf_39 : decode cX7_againOf 39 = .ok (.aload_n 0, 1) := by decide +kernel
theorem dX7_againOf_40 : decode cX7_againOf 40 = .ok (.invokevirtual 157, 3) := by decide +kernel
theorem dX7_againOf_43 : decode cX7_againOf 43 = .ok (.aload_n 0, 1) := by decide +kernel
theorem dX7_againOf_44 : decode cX7_againOf 44 = .ok (.getfield 16, 3) := by decide +kernel
theorem dX7_againOf_47 : decode cX7_againOf 47 = .ok (.iload_n 1, 1) := by decide +kernel
theorem dX7_againOf_48 : decode cX7_againOf 48 = .ok (.iload 5, 2) := by decide +kernel
theorem dX7_againOf_50 : decode cX7_againOf 50 = .ok (.iastore, 1) := by decide +kernel
theorem dX7_againOf_51 : decode cX7_againOf 51 = .ok (.iconst (-1), 1) := by decide +kernel
theorem dX7_againOf_52 : decode cX7_againOf 52 = .ok (.istore 6, 2) := by decide +kernel
theorem dX7_againOf_54 : decode cX7_againOf 54 = .ok (.iconst 1, 1) := by decide +kernel
theorem dX7_againOf_55 : decode cX7_againOf 55 = .ok (.istore 7, 2) := by decide +kernel
theorem dX7_againOf_57 : decode cX7_againOf 57 = .ok (.iload 7, 2) := by decide +kernel
theorem dX7_againOf_59 : decode cX7_againOf 59 = .ok (.aload_n 0, 1) := by decide +kernel
theorem dX7_againOf_60 : decode cX7_againOf 60 = .ok (.invokevirtual 154, 3) := by decide +kernel
theorem dX7_againOf_63 : decode cX7_againOf 63 = .ok (.if_icmp .ge 74, 3) := by decide +kernel
theorem dX7_againOf_66 : decode cX7_againOf 66 = .ok (.aload_n 0, 1) := by decide +kernel
theorem dX7_againOf_67 : decode cX7_againOf 67 = .ok (.iload 7, 2) := by decide +kernel
theorem dX7_againOf_69 : decode cX7_againOf 69 = .ok (.invokevirtual 160, 3) := by decide +kernel
theorem dX7_againOf_72 : decode cX7_againOf 72 = .ok (.iload_n 2, 1) := by decide +kernel
theorem dX7_againOf_73 : decode cX7_againOf 73 = .ok (.if_icmp .gt 32, 3) := by decide +kernel
theorem dX7_againOf_76 : decode cX7_againOf 76 = .ok (.iload 6, 2) := by decide +kernel
theorem dX7_againOf_78 : decode cX7_againOf 78 = .ok (.iconst (-1), 1) := by decide +kernel
theorem dX7_againOf_79 : decode cX7_againOf 79 = .ok (.if_icmp .eq 22, 3) := by decide +kernel
theorem dX7_againOf_82 : decode cX7_againOf 82 = .ok (.iload 7, 2) := by decide +kernel
theorem dX7_againOf_84 : decode cX7_againOf 84 = .ok (.iload 4, 2) := by decide +kernel
theorem dX7_againOf_86 : decode cX7_againOf 86 = .ok (.ixor, 1) := by decide +kernel
theorem dX7_againOf_87 : decode cX7_againOf 87 = .ok (.invokestatic 132, 3) := by decide +kernel
theorem dX7_againOf_90 : decode cX7_againOf 90 = .ok (.iload 6, 2) := by decide +kernel
theorem dX7_againOf_92 : decode cX7_againOf 92 = .ok (.iload 4, 2) := by decide +kernel
theorem dX7_againOf_94 : decode cX7_againOf 94 = .ok (.ixor, 1) := by decide +kernel
theorem dX7_againOf_95 : decode cX7_againOf 95 = .ok (.invokestatic 132, 3) := by decide +kernel
theorem dX7_againOf_98 : decode cX7_againOf 98 = .ok (.if_icmp .ge 7, 3) := by decide +kernel
theorem dX7_againOf_101 : decode cX7_againOf 101 = .ok (.iconst 1, 1) := by decide +kernel
theorem dX7_againOf_102 : decode cX7_againOf 102 = .ok (.goto 4, 3) := by decide +kernel
theorem dX7_againOf_105 : decode cX7_againOf 105 = .ok (.iconst 0, 1) := by decide +kernel
theorem dX7_againOf_106 : decode cX7_againOf 106 = .ok (.istore 8, 2) := by decide +kernel
theorem dX7_againOf_108 : decode cX7_againOf 108 = .ok (.iload 8, 2) := by decide +kernel
theorem dX7_againOf_110 : decode cX7_againOf 110 = .ok (.ifCond .eq 17, 3) := by decide +kernel
theorem dX7_againOf_113 : decode cX7_againOf 113 = .ok (.aload_n 0, 1) := by decide +kernel
theorem dX7_againOf_114 : decode cX7_againOf 114 = .ok (.iload 7, 2) := by decide +kernel
theorem dX7_againOf_116 : decode cX7_againOf 116 = .ok (.invokevirtual 163, 3) := by decide +kernel
theorem dX7_againOf_119 : decode cX7_againOf 119 = .ok (.ifCond .eq 8, 3) := by decide +kernel
theorem dX7_againOf_122 : decode cX7_againOf 122 = .ok (.iload 7, 2) := by decide +kernel
theorem dX7_againOf_124 : decode cX7_againOf 124 = .ok (.goto 5, 3) := by decide +kernel
theorem dX7_againOf_127 : decode cX7_againOf 127 = .ok (.iload 6, 2) := by decide +kernel
theorem dX7_againOf_129 : decode cX7_againOf 129 = .ok (.istore 6, 2) := by decide +kernel
theorem dX7_againOf_131 : decode cX7_againOf 131 = .ok (.iinc 7 2, 3) := by decide +kernel
theorem dX7_againOf_134 : decode cX7_againOf 134 = .ok (.goto (-77), 3) := by decide +kernel
theorem dX7_againOf_137 : decode cX7_againOf 137 = .ok (.iload 6, 2) := by decide +kernel
theorem dX7_againOf_139 : decode cX7_againOf 139 = .ok (.iconst (-1), 1) := by decide +kernel
theorem dX7_againOf_140 : decode cX7_againOf 140 = .ok (.if_icmp .eq 8, 3) := by decide +kernel
theorem dX7_againOf_143 : decode cX7_againOf 143 = .ok (.iload_n 3, 1) := by decide +kernel
theorem dX7_againOf_144 : decode cX7_againOf 144 = .ok (.iconst 1, 1) := by decide +kernel
theorem dX7_againOf_145 : decode cX7_againOf 145 = .ok (.if_icmp .ne 8, 3) := by decide +kernel
theorem dX7_againOf_148 : decode cX7_againOf 148 = .ok (.iload 6, 2) := by decide +kernel
theorem dX7_againOf_150 : decode cX7_againOf 150 = .ok (.goto 11, 3) := by decide +kernel
theorem dX7_againOf_153 : decode cX7_againOf 153 = .ok (.iload 6, 2) := by decide +kernel
theorem dX7_againOf_155 : decode cX7_againOf 155 = .ok (.iload 4, 2) := by decide +kernel
theorem dX7_againOf_157 : decode cX7_againOf 157 = .ok (.ixor, 1) := by decide +kernel
theorem dX7_againOf_158 : decode cX7_againOf 158 = .ok (.invokestatic 132, 3) := by decide +kernel
theorem dX7_againOf_161 : decode cX7_againOf 161 = .ok (.ireturn, 1) := by decide +kernel
theorem dX7_again_0 : decode cX7_again 0 = .ok (.aload_n 0, 1) := by decide +kernel
theorem dX7_again_1 : decode cX7_again 1 = .ok (.iload_n 1, 1) := by decide +kernel
theorem dX7_again_2 : decode cX7_again 2 = .ok (.invokevirtual 102, 3) := by decide +kernel
theorem dX7_again_5 : decode cX7_again 5 = .ok (.ifCond .eq 32, 3) := by decide +kernel
theorem dX7_again_8 : decode cX7_again 8 = .ok (.iload_n 2, 1) := by decide +kernel
theorem dX7_again_9 : decode cX7_again 9 = .ok (.iconst 0, 1) := by decide +kernel
theorem dX7_again_10 : decode cX7_again 10 = .ok (.ldc 176, 2) := by decide +kernel
theorem dX7_again_12 : decode cX7_again 12 = .ok (.invokestatic 77, 3) := by decide +kernel
theorem dX7_again_15 : decode cX7_again 15 = .ok (.ifCond .eq 22, 3) := by decide +kernel
theorem dX7_again_18 : decode cX7_again 18 = .ok (.iload_n 3, 1) := by decide +kernel
theorem dX7_again_19 : decode cX7_again 19 = .ok (.iconst 0, 1) := by decide +kernel
theorem dX7_again_20 : decode cX7_again 20 = .ok (.iconst 1, 1) := by decide +kernel
theorem dX7_again_21 : decode cX7_again 21 = .ok (.invokestatic 77, 3) := by decide +kernel
theorem dX7_again_24 : decode cX7_again 24 = .ok (.ifCond .eq 13, 3) := by decide +kernel
theorem dX7_again_27 : decode cX7_again 27 = .ok (.aload_n 0, 1) := by decide +kernel
theorem dX7_again_28 : decode cX7_again 28 = .ok (.iload_n 1, 1) := by decide +kernel
theorem dX7_again_29 : decode cX7_again 29 = .ok (.iload_n 2, 1) := by decide +kernel
theorem dX7_again_30 : decode cX7_again 30 = .ok (.iload_n 3, 1) := by decide +kernel
theorem dX7_again_31 : decode cX7_again 31 = .ok (.invokevirtual 180, 3) := by decide +kernel
theorem dX7_again_34 : decode cX7_again 34 = .ok (.goto 5, 3) := by decide +kernel
theorem dX7_again_37 : decode cX7_again 37 = .ok (.bipush (-2), 2) := by decide +kernel
theorem dX7_again_39 : decode cX7_again 39 = .ok (.ireturn, 1) := by decide +kernel
theorem dX7_worth_0 : decode cX7_worth 0 = .ok (.iload_n 1, 1) := by decide +kernel
theorem dX7_worth_1 : decode cX7_worth 1 = .ok (.invokestatic 113, 3) := by decide +kernel
theorem dX7_worth_4 : decode cX7_worth 4 = .ok (.ifCond .eq 20, 3) := by decide +kernel
theorem dX7_worth_7 : decode cX7_worth 7 = .ok (.iload_n 2, 1) := by decide +kernel
theorem dX7_worth_8 : decode cX7_worth 8 = .ok (.invokestatic 113, 3) := by decide +kernel
theorem dX7_worth_11 : decode cX7_worth 11 = .ok (.ifCond .eq 13, 3) := by decide +kernel
theorem dX7_worth_14 : decode cX7_worth 14 = .ok (.iload_n 3, 1) := by decide +kernel
theorem dX7_worth_15 : decode cX7_worth 15 = .ok (.iconst 0, 1) := by decide +kernel
theorem dX7_worth_16 : decode cX7_worth 16 = .ok (.bipush 9, 2) := by decide +kernel
theorem dX7_worth_18 : decode cX7_worth 18 = .ok (.invokestatic 77, 3) := by decide +kernel
theorem dX7_worth_21 : decode cX7_worth 21 = .ok (.ifCond .ne 6, 3) := by decide +kernel
theorem dX7_worth_24 : decode cX7_worth 24 = .ok (.bipush (-2), 2) := by decide +kernel
theorem dX7_worth_26 : decode cX7_worth 26 = .ok (.ireturn, 1) := by decide +kernel
theorem dX7_worth_27 : decode cX7_worth 27 = .ok (.aload_n 0, 1) := by decide +kernel
theorem dX7_worth_28 : decode cX7_worth 28 = .ok (.getfield 28, 3) := by decide +kernel
theorem dX7_worth_31 : decode cX7_worth 31 = .ok (.iconst 4, 1) := by decide +kernel
theorem dX7_worth_32 : decode cX7_worth 32 = .ok (.iload_n 1, 1) := by decide +kernel
theorem dX7_worth_33 : decode cX7_worth 33 = .ok (.imul, 1) := by decide +kernel
theorem dX7_worth_34 : decode cX7_worth 34 = .ok (.iload_n 2, 1) := by decide +kernel
theorem dX7_worth_35 : decode cX7_worth 35 = .ok (.iadd, 1) := by decide +kernel
theorem dX7_worth_36 : decode cX7_worth 36 = .ok (.iaload, 1) := by decide +kernel
theorem dX7_worth_37 : decode cX7_worth 37 = .ok (.istore 4, 2) := by decide +kernel
theorem dX7_worth_39 : decode cX7_worth 39 = .ok (.aload_n 0, 1) := by decide +kernel
theorem dX7_worth_40 : decode cX7_worth 40 = .ok (.getfield 28, 3) := by decide +kernel
theorem dX7_worth_43 : decode cX7_worth 43 = .ok (.iconst 4, 1) := by decide +kernel
theorem dX7_worth_44 : decode cX7_worth 44 = .ok (.iload_n 1, 1) := by decide +kernel
theorem dX7_worth_45 : decode cX7_worth 45 = .ok (.imul, 1) := by decide +kernel
theorem dX7_worth_46 : decode cX7_worth 46 = .ok (.iload_n 2, 1) := by decide +kernel
theorem dX7_worth_47 : decode cX7_worth 47 = .ok (.iadd, 1) := by decide +kernel
theorem dX7_worth_48 : decode cX7_worth 48 = .ok (.iload_n 3, 1) := by decide +kernel
theorem dX7_worth_49 : decode cX7_worth 49 = .ok (.iastore, 1) := by decide +kernel
theorem dX7_worth_50 : decode cX7_worth 50 = .ok (.iload 4, 2) := by decide +kernel
theorem dX7_worth_52 : decode cX7_worth 52 = .ok (.ireturn, 1) := by decide +kernel
theorem dX7_valueOf_0 : decode cX7_valueOf 0 = .ok (.iconst 0, 1) := by decide +kernel
theorem dX7_valueOf_1 : decode cX7_valueOf 1 = .ok (.istore_n 3, 1) := by decide +kernel
theorem dX7_valueOf_2 : decode cX7_valueOf 2 = .ok (.iconst 0, 1) := by decide +kernel
theorem dX7_valueOf_3 : decode cX7_valueOf 3 = .ok (.istore 4, 2) := by decide +kernel
theorem dX7_valueOf_5 : decode cX7_valueOf 5 = .ok (.iload 4, 2) := by decide +kernel
theorem dX7_valueOf_7 : decode cX7_valueOf 7 = .ok (.iconst 4, 1) := by decide +kernel
theorem dX7_valueOf_8 : decode cX7_valueOf 8 = .ok (.if_icmp .ge 42, 3) := by decide +kernel
theorem dX7_valueOf_11 : decode cX7_valueOf 11 = .ok (.iload_n 3, 1) := by decide +kernel
theorem dX7_valueOf_12 : decode cX7_valueOf 12 = .ok (.aload_n 0, 1) := by decide +kernel
theorem dX7_valueOf_13 : decode cX7_valueOf 13 = .ok (.iload_n 1, 1) := by decide +kernel
theorem dX7_valueOf_14 : decode cX7_valueOf 14 = .ok (.iload 4, 2) := by decide +kernel
theorem dX7_valueOf_16 : decode cX7_valueOf 16 = .ok (.invokevirtual 129, 3) := by decide +kernel
theorem dX7_valueOf_19 : decode cX7_valueOf 19 = .ok (.invokestatic 132, 3) := by decide +kernel
theorem dX7_valueOf_22 : decode cX7_valueOf 22 = .ok (.aload_n 0, 1) := by decide +kernel
theorem dX7_valueOf_23 : decode cX7_valueOf 23 = .ok (.getfield 22, 3) := by decide +kernel
theorem dX7_valueOf_26 : decode cX7_valueOf 26 = .ok (.iload 4, 2) := by decide +kernel
theorem dX7_valueOf_28 : decode cX7_valueOf 28 = .ok (.iaload, 1) := by decide +kernel
theorem dX7_valueOf_29 : decode cX7_valueOf 29 = .ok (.imul, 1) := by decide +kernel
theorem dX7_valueOf_30 : decode cX7_valueOf 30 = .ok (.aload_n 0, 1) := by decide +kernel
theorem dX7_valueOf_31 : decode cX7_valueOf 31 = .ok (.getfield 28, 3) := by decide +kernel
theorem dX7_valueOf_34 : decode cX7_valueOf 34 = .ok (.iconst 4, 1) := by decide +kernel
theorem dX7_valueOf_35 : decode cX7_valueOf 35 = .ok (.iload_n 2, 1) := by decide +kernel
theorem dX7_valueOf_36 : decode cX7_valueOf 36 = .ok (.imul, 1) := by decide +kernel
theorem dX7_valueOf_37 : decode cX7_valueOf 37 = .ok (.iload 4, 2) := by decide +kernel
theorem dX7_valueOf_39 : decode cX7_valueOf 39 = .ok (.iadd, 1) := by decide +kernel
theorem dX7_valueOf_40 : decode cX7_valueOf 40 = .ok (.iaload, 1) := by decide +kernel
theorem dX7_valueOf_41 : decode cX7_valueOf 41 = .ok (.imul, 1) := by decide +kernel
theorem dX7_valueOf_42 : decode cX7_valueOf 42 = .ok (.iadd, 1) := by decide +kernel
theorem dX7_valueOf_43 : decode cX7_valueOf 43 = .ok (.istore_n 3, 1) := by decide +kernel
theorem dX7_valueOf_44 : decode cX7_valueOf 44 = .ok (.iinc 4 1, 3) := by decide +kernel
theorem dX7_valueOf_47 : decode cX7_valueOf 47 = .ok (.goto (-42), 3) := by decide +kernel
theorem dX7_valueOf_50 : decode cX7_valueOf 50 = .ok (.iload_n 3, 1) := by decide +kernel
theorem dX7_valueOf_51 : decode cX7_valueOf 51 = .ok (.ireturn, 1) := by decide +kernel
theorem dX7_value_0 : decode cX7_value 0 = .ok (.aload_n 0, 1) := by decide +kernel
theorem dX7_value_1 : decode cX7_value 1 = .ok (.iload_n 1, 1) := by decide +kernel
theorem dX7_value_2 : decode cX7_value 2 = .ok (.invokevirtual 102, 3) := by decide +kernel
theorem dX7_value_5 : decode cX7_value 5 = .ok (.ifCond .eq 19, 3) := by decide +kernel
theorem dX7_value_8 : decode cX7_value 8 = .ok (.iload_n 2, 1) := by decide +kernel
theorem dX7_value_9 : decode cX7_value 9 = .ok (.invokestatic 113, 3) := by decide +kernel
theorem dX7_value_12 : decode cX7_value 12 = .ok (.ifCond .eq 12, 3) := by decide +kernel
theorem dX7_value_15 : decode cX7_value 15 = .ok (.aload_n 0, 1) := by decide +kernel
theorem dX7_value_16 : decode cX7_value 16 = .ok (.iload_n 1, 1) := by decide +kernel
theorem dX7_value_17 : decode cX7_value 17 = .ok (.iload_n 2, 1) := by decide +kernel
theorem dX7_value_18 : decode cX7_value 18 = .ok (.invokevirtual 183, 3) := by decide +kernel
theorem dX7_value_21 : decode cX7_value 21 = .ok (.goto 5, 3) := by decide +kernel
theorem dX7_value_24 : decode cX7_value 24 = .ok (.bipush (-2), 2) := by decide +kernel
theorem dX7_value_26 : decode cX7_value 26 = .ok (.ireturn, 1) := by decide +kernel
theorem dX7_isRather_0 : decode cX7_isRather 0 = .ok (.aload_n 0, 1) := by decide +kernel
theorem dX7_isRather_1 : decode cX7_isRather 1 = .ok (.iload_n 2, 1) := by decide +kernel
theorem dX7_isRather_2 : decode cX7_isRather 2 = .ok (.aload_n 0, 1) := by decide +kernel
theorem dX7_isRather_3 : decode cX7_isRather 3 = .ok (.getfield 19, 3) := by decide +kernel
theorem dX7_isRather_6 : decode cX7_isRather 6 = .ok (.iload_n 1, 1) := by decide +kernel
theorem dX7_isRather_7 : decode cX7_isRather 7 = .ok (.iaload, 1) := by decide +kernel
theorem dX7_isRather_8 : decode cX7_isRather 8 = .ok (.invokevirtual 183, 3) := by decide +kernel
theorem dX7_isRather_11 : decode cX7_isRather 11 = .ok (.aload_n 0, 1) := by decide +kernel
theorem dX7_isRather_12 : decode cX7_isRather 12 = .ok (.iload_n 1, 1) := by decide +kernel
theorem dX7_isRather_13 : decode cX7_isRather 13 = .ok (.aload_n 0, 1) := by decide +kernel
theorem dX7_isRather_14 : decode cX7_isRather 14 = .ok (.getfield 19, 3) := by decide +kernel
theorem dX7_isRather_17 : decode cX7_isRather 17 = .ok (.iload_n 1, 1) := by decide +kernel
theorem dX7_isRather_18 : decode cX7_isRather 18 = .ok (.iaload, 1) := by decide +kernel
theorem dX7_isRather_19 : decode cX7_isRather 19 = .ok (.invokevirtual 183, 3) := by decide +kernel
theorem dX7_isRather_22 : decode cX7_isRather 22 = .ok (.if_icmp .le 7, 3) := by decide +kernel
theorem dX7_isRather_25 : decode cX7_isRather 25 = .ok (.iconst 1, 1) := by decide +kernel
theorem dX7_isRather_26 : decode cX7_isRather 26 = .ok (.goto 4, 3) := by decide +kernel
theorem dX7_isRather_29 : decode cX7_isRather 29 = .ok (.iconst 0, 1) := by decide +kernel
theorem dX7_isRather_30 : decode cX7_isRather 30 = .ok (.ireturn, 1) := by decide +kernel
theorem dX7_isChange_0 : decode cX7_isChange 0 = .ok (.aload_n 0, 1) := by decide +kernel
theorem dX7_isChange_1 : decode cX7_isChange 1 = .ok (.getfield 19, 3) := by decide +kernel
theorem dX7_isChange_4 : decode cX7_isChange 4 = .ok (.iload_n 1, 1) := by decide +kernel
theorem dX7_isChange_5 : decode cX7_isChange 5 = .ok (.iaload, 1) := by decide +kernel
theorem dX7_isChange_6 : decode cX7_isChange 6 = .ok (.aload_n 0, 1) := by decide +kernel
theorem dX7_isChange_7 : decode cX7_isChange 7 = .ok (.getfield 19, 3) := by decide +kernel
theorem dX7_isChange_10 : decode cX7_isChange 10 = .ok (.iload_n 2, 1) := by decide +kernel
theorem dX7_isChange_11 : decode cX7_isChange 11 = .ok (.iaload, 1) := by decide +kernel
theorem dX7_isChange_12 : decode cX7_isChange 12 = .ok (.if_icmp .eq 25, 3) := by decide +kernel
theorem dX7_isChange_15 : decode cX7_isChange 15 = .ok (.aload_n 0, 1) := by decide +kernel
theorem dX7_isChange_16 : decode cX7_isChange 16 = .ok (.iload_n 1, 1) := by decide +kernel
theorem dX7_isChange_17 : decode cX7_isChange 17 = .ok (.iload_n 2, 1) := by decide +kernel
theorem dX7_isChange_18 : decode cX7_isChange 18 = .ok (.invokevirtual 186, 3) := by decide +kernel
theorem dX7_isChange_21 : decode cX7_isChange 21 = .ok (.ifCond .eq 16, 3) := by decide +kernel
theorem dX7_isChange_24 : decode cX7_isChange 24 = .ok (.aload_n 0, 1) := by decide +kernel
theorem dX7_isChange_25 : decode cX7_isChange 25 = .ok (.iload_n 2, 1) := by decide +kernel
theorem dX7_isChange_26 : decode cX7_isChange 26 = .ok (.iload_n 1, 1) := by decide +kernel
theorem dX7_isChange_27 : decode cX7_isChange 27 = .ok (.invokevirtual 186, 3) := by decide +kernel
theorem dX7_isChange_30 : decode cX7_isChange 30 = .ok (.ifCond .eq 7, 3) := by decide +kernel
theorem dX7_isChange_33 : decode cX7_isChange 33 = .ok (.iconst 1, 1) := by decide +kernel
theorem dX7_isChange_34 : decode cX7_isChange 34 = .ok (.goto 4, 3) := by decide +kernel
theorem dX7_isChange_37 : decode cX7_isChange 37 = .ok (.iconst 0, 1) := by decide +kernel
theorem dX7_isChange_38 : decode cX7_isChange 38 = .ok (.ireturn, 1) := by decide +kernel
theorem dX7_change_0 : decode cX7_change 0 = .ok (.aload_n 0, 1) := by decide +kernel
theorem dX7_change_1 : decode cX7_change 1 = .ok (.iload_n 1, 1) := by decide +kernel
theorem dX7_change_2 : decode cX7_change 2 = .ok (.invokevirtual 102, 3) := by decide +kernel
theorem dX7_change_5 : decode cX7_change 5 = .ok (.ifCond .eq 16, 3) := by decide +kernel
theorem dX7_change_8 : decode cX7_change 8 = .ok (.aload_n 0, 1) := by decide +kernel
theorem dX7_change_9 : decode cX7_change 9 = .ok (.iload_n 2, 1) := by decide +kernel
theorem dX7_change_10 : decode cX7_change 10 = .ok (.invokevirtual 102, 3) := by decide +kernel
theorem dX7_change_13 : decode cX7_change 13 = .ok (.ifCond .eq 8, 3) := by decide +kernel
theorem dX7_change_16 : decode cX7_change 16 = .ok (.iload_n 1, 1) := by decide +kernel
theorem dX7_change_17 : decode cX7_change 17 = .ok (.iload_n 2, 1) := by decide +kernel
theorem dX7_change_18 : decode cX7_change 18 = .ok (.if_icmp .ne 8, 3) := by decide +kernel
theorem dX7_change_21 : decode cX7_change 21 = .ok (.bipush (-2), 2) := by decide +kernel
theorem dX7_change_23 : decode cX7_change 23 = .ok (.goto 17, 3) := by decide +kernel
theorem dX7_change_26 : decode cX7_change 26 = .ok (.aload_n 0, 1) := by decide +kernel
theorem dX7_change_27 : decode cX7_change 27 = .ok (.iload_n 1, 1) := by decide +kernel
theorem dX7_change_28 : decode cX7_change 28 = .ok (.iload_n 2, 1) := by decide +kernel
theorem dX7_change_29 : decode cX7_change 29 = .ok (.invokevirtual 189, 3) := by decide +kernel
theorem dX7_change_32 : decode cX7_change 32 = .ok (.ifCond .eq 7, 3) := by decide +kernel
theorem dX7_change_35 : decode cX7_change 35 = .ok (.iconst 1, 1) := by decide +kernel
theorem dX7_change_36 : decode cX7_change 36 = .ok (.goto 4, 3) := by decide +kernel
theorem dX7_change_39 : decode cX7_change 39 = .ok (.iconst 0, 1) := by decide +kernel
theorem dX7_change_40 : decode cX7_change 40 = .ok (.ireturn, 1) := by decide +kernel
theorem dX7_changesOf_0 : decode cX7_changesOf 0 = .ok (.aload_n 0, 1) := by decide +kernel
theorem dX7_changesOf_1 : decode cX7_changesOf 1 = .ok (.invokevirtual 98, 3) := by decide +kernel
theorem dX7_changesOf_4 : decode cX7_changesOf 4 = .ok (.istore_n 2, 1) := by decide +kernel
theorem dX7_changesOf_5 : decode cX7_changesOf 5 = .ok (.iconst 0, 1) := by decide +kernel
theorem dX7_changesOf_6 : decode cX7_changesOf 6 = .ok (.istore_n 3, 1) := by decide +kernel
theorem dX7_changesOf_7 : decode cX7_changesOf 7 = .ok (.iload_n 3, 1) := by decide +kernel
theorem dX7_changesOf_8 : decode cX7_changesOf 8 = .ok (.aload_n 0, 1) := by decide +kernel
theorem dX7_changesOf_9 : decode cX7_changesOf 9 = .ok (.getfield 85, 3) := by decide +kernel
theorem dX7_changesOf_12 : decode cX7_changesOf 12 = .ok (.if_icmp .ge 77, 3) := by decide +kernel
theorem dX7_changesOf_15 : decode cX7_changesOf 15 = .ok (.aload_n 0, 1) := by decide +kernel
theorem dX7_changesOf_16 : decode cX7_changesOf 16 = .ok (.getfield 40, 3) := by decide +kernel
theorem dX7_changesOf_19 : decode cX7_changesOf 19 = .ok (.iload_n 3, 1) := by decide +kernel
theorem dX7_changesOf_20 : decode cX7_changesOf 20 = .ok (.iconst 0, 1) := by decide +kernel
theorem dX7_changesOf_21 : decode cX7_changesOf 21 = .ok (.iastore, 1) := by decide +kernel
theorem dX7_changesOf_22 : decode cX7_changesOf 22 = .ok (.iconst 0, 1) := by decide +kernel
theorem dX7_changesOf_23 : decode cX7_changesOf 23 = .ok (.istore 4, 2) := by decide +kernel
theorem dX7_changesOf_25 : decode cX7_changesOf 25 = .ok (.iload 4, 2) := by decide +kernel
theorem dX7_changesOf_27 : decode cX7_changesOf 27 = .ok (.aload_n 0, 1) := by decide +kernel
theorem dX7_changesOf_28 : decode cX7_changesOf 28 = .ok (.getfield 85, 3) := by decide +kernel
theorem dX7_changesOf_31 : decode cX7_changesOf 31 = .ok (.if_icmp .ge 52, 3) := by decide +kernel
theorem dX7_changesOf_34 : decode cX7_changesOf 34 = .ok (.aload_n 0, 1) := by decide +kernel
theorem dX7_changesOf_35 : decode cX7_changesOf 35 = .ok (.getfield 40, 3) := by decide +kernel
theorem dX7_changesOf_38 : decode cX7_changesOf 38 = .ok (.iload_n 3, 1) := by decide +kernel
theorem dX7_changesOf_39 : decode cX7_changesOf 39 = .ok (.dup2, 1) := by decide +kernel
theorem dX7_changesOf_40 : decode cX7_changesOf 40 = .ok (.iaload, 1) := by decide +kernel
theorem dX7_changesOf_41 : decode cX7_changesOf 41 = .ok (.aload_n 0, 1) := by decide +kernel
theorem dX7_changesOf_42 : decode cX7_changesOf 42 = .ok (.getfield 19, 3) := by decide +kernel
theorem dX7_changesOf_45 : decode cX7_changesOf 45 = .ok (.iload_n 3, 1) := by decide +kernel
theorem dX7_changesOf_46 : decode cX7_changesOf 46 = .ok (.iaload, 1) := by decide +kernel
theorem dX7_changesOf_47 : decode cX7_changesOf 47 = .ok (.aload_n 0, 1) := by decide +kernel
theorem dX7_changesOf_48 : decode cX7_changesOf 48 = .ok (.getfield 19, 3) := by decide +kernel
theorem dX7_changesOf_51 : decode cX7_changesOf 51 = .ok (.iload 4, 2) := by decide +kernel
theorem dX7_changesOf_53 : decode cX7_changesOf 53 = .ok (.iaload, 1) := by decide +kernel
theorem dX7_changesOf_54 : decode cX7_changesOf 54 = .ok (.if_icmp .eq 20, 3) := by decide +kernel
theorem dX7_changesOf_57 : decode cX7_changesOf 57 = .ok (.aload_n 0, 1) := by decide +kernel
theorem dX7_changesOf_58 : decode cX7_changesOf 58 = .ok (.iload_n 3, 1) := by decide +kernel
theorem dX7_changesOf_59 : decode cX7_changesOf 59 = .ok (.iload 4, 2) := by decide +kernel
theorem dX7_changesOf_61 : decode cX7_changesOf 61 = .ok (.invokevirtual 186, 3) := by decide +kernel
theorem dX7_changesOf_64 : decode cX7_changesOf 64 = .ok (.ifCond .eq 10, 3) := by decide +kernel
theorem dX7_changesOf_67 : decode cX7_changesOf 67 = .ok (.iconst 1, 1) := by decide +kernel
theorem dX7_changesOf_68 : decode cX7_changesOf 68 = .ok (.iload 4, 2) := by decide +kernel
theorem dX7_changesOf_70 : decode cX7_changesOf 70 = .ok (.ishl, 1) := by decide +kernel
theorem dX7_changesOf_71 : decode cX7_changesOf 71 = .ok (.goto 4, 3) := by decide +kernel
theorem dX7_changesOf_74 : decode cX7_changesOf 74 = .ok (.iconst 0, 1) := by decide +kernel
theorem dX7_changesOf_75 : decode cX7_changesOf 75 = .ok (.ior, 1) := by decide +kernel
theorem dX7_changesOf_76 : decode cX7_changesOf 76 = .ok (.iastore, 1) := by decide +kernel
theorem dX7_changesOf_77 : decode cX7_changesOf 77 = .ok (.iinc 4 1, 3) := by decide +kernel
theorem dX7_changesOf_80 : decode cX7_changesOf 80 = .ok (.goto (-55), 3) := by decide +kernel
theorem dX7_changesOf_83 : decode cX7_changesOf 83 = .ok (.iinc 3 1, 3) := by decide +kernel
theorem dX7_changesOf_86 : decode cX7_changesOf 86 = .ok (.goto (-79), 3) := by decide +kernel
theorem dX7_changesOf_89 : decode cX7_changesOf 89 = .ok (.iconst 0, 1) := by decide +kernel
theorem dX7_changesOf_90 : decode cX7_changesOf 90 = .ok (.istore_n 3, 1) := by decide +kernel
theorem dX7_changesOf_91 : decode cX7_changesOf 91 = .ok (.iconst 0, 1) := by decide +kernel
theorem dX7_changesOf_92 : decode cX7_changesOf 92 = .ok (.istore 4, 2) := by decide +kernel
theorem dX7_changesOf_94 : decode cX7_changesOf 94 = .ok (.iconst 0, 1) := by decide +kernel
theorem dX7_changesOf_95 : decode cX7_changesOf 95 = .ok (.istore 5, 2) := by decide +kernel
theorem dX7_changesOf_97 : decode cX7_changesOf 97 = .ok (.iload 5, 2) := by decide +kernel
theorem dX7_changesOf_99 : decode cX7_changesOf 99 = .ok (.aload_n 0, 1) := by decide +kernel
theorem dX7_changesOf_100 : decode cX7_changesOf 100 = .ok (.getfield 85, 3) := by decide +kernel
theorem dX7_changesOf_103 : decode cX7_changesOf 103 = .ok (.if_icmp .ge 171, 3) := by decide +kernel
theorem dX7_changesOf_106 : decode cX7_changesOf 106 = .ok (.iconst 0, 1) := by decide +kernel
theorem dX7_changesOf_107 : decode cX7_changesOf 107 = .ok (.istore 6, 2) := by decide +kernel
theorem dX7_changesOf_109 : decode cX7_changesOf 109 = .ok (.iload 6, 2) := by decide +kernel
theorem dX7_changesOf_111 : decode cX7_changesOf 111 = .ok (.aload_n 0, 1) := by decide +kernel
theorem dX7_changesOf_112 : decode cX7_changesOf 112 = .ok (.getfield 85, 3) := by decide +kernel
theorem dX7_changesOf_115 : decode cX7_changesOf 115 = .ok (.if_icmp .ge 153, 3) := by decide +kernel
theorem dX7_changesOf_118 : decode cX7_changesOf 118 = .ok (.iload_n 3, 1) := by decide +kernel
theorem dX7_changesOf_119 : decode cX7_changesOf 119 = .ok (.iload 6, 2) := by decide +kernel
theorem dX7_changesOf_121 : decode cX7_changesOf 121 = .ok (.iload 5, 2) := by decide +kernel
theorem dX7_changesOf_123 : decode cX7_changesOf 123 = .ok (.if_icmp .ge 37, 3) := by decide +kernel
theorem dX7_changesOf_126 : decode cX7_changesOf 126 = .ok (.aload_n 0, 1) := by decide +kernel
theorem dX7_changesOf_127 : decode cX7_changesOf 127 = .ok (.getfield 40, 3) := by decide +kernel
theorem dX7_changesOf_130 : decode cX7_changesOf 130 = .ok (.iload 5, 2) := by decide +kernel
theorem dX7_changesOf_132 : decode cX7_changesOf 132 = .ok (.iaload, 1) := by decide +kernel
theorem dX7_changesOf_133 : decode cX7_changesOf 133 = .ok (.iload 6, 2) := by decide +kernel
theorem dX7_changesOf_135 : decode cX7_changesOf 135 = .ok (.invokestatic 144, 3) := by decide +kernel
theorem dX7_changesOf_138 : decode cX7_changesOf 138 = .ok (.ifCond .eq 22, 3) := by decide +kernel
theorem dX7_changesOf_141 : decode cX7_changesOf 141 = .ok (.aload_n 0, 1) := by decide +kernel
theorem dX7_changesOf_142 : decode cX7_changesOf 142 = .ok (.getfield 40, 3) := by decide +kernel
theorem dX7_changesOf_145 : decode cX7_changesOf 145 = .ok (.iload 6, 2) := by decide +kernel
theorem dX7_changesOf_147 : decode cX7_changesOf 147 = .ok (.iaload, 1) := by decide +kernel
theorem dX7_changesOf_148 : decode cX7_changesOf 148 = .ok (.iload 5, 2) := by decide +kernel
theorem dX7_changesOf_150 : decode cX7_changesOf 150 = .ok (.invokestatic 144, 3) := by decide +kernel
theorem dX7_changesOf_153 : decode cX7_changesOf 153 = .ok (.ifCond .eq 7, 3) := by decide +kernel
theorem dX7_changesOf_156 : decode cX7_changesOf 156 = .ok (.iconst 1, 1) := by decide +kernel
theorem dX7_changesOf_157 : decode cX7_changesOf 157 = .ok (.goto 4, 3) := by decide +kernel
theorem dX7_changesOf_160 : decode cX7_changesOf 160 = .ok (.iconst 0, 1) := by decide +kernel
theorem dX7_changesOf_161 : decode cX7_changesOf 161 = .ok (.iadd, 1) := by decide +kernel
theorem dX7_changesOf_162 : decode cX7_changesOf 162 = .ok (.istore_n 3, 1) := by decide +kernel
theorem dX7_changesOf_163 : decode cX7_changesOf 163 = .ok (.iconst 0, 1) := by decide +kernel
theorem dX7_changesOf_164 : decode cX7_changesOf 164 = .ok (.istore 7, 2) := by decide +kernel
theorem dX7_changesOf_166 : decode cX7_changesOf 166 = .ok (.iload 7, 2) := by decide +kernel
theorem dX7_changesOf_168 : decode cX7_changesOf 168 = .ok (.aload_n 0, 1) := by decide +kernel
theorem dX7_changesOf_169 : decode cX7_changesOf 169 = .ok (.getfield 85, 3) := by decide +kernel
theorem dX7_changesOf_172 : decode cX7_changesOf 172 = .ok (.if_icmp .ge 90, 3) := by decide +kernel
theorem dX7_changesOf_175 : decode cX7_changesOf 175 = .ok (.iload 5, 2) := by decide +kernel
theorem dX7_changesOf_177 : decode cX7_changesOf 177 = .ok (.iload 6, 2) := by decide +kernel
theorem dX7_changesOf_179 : decode cX7_changesOf 179 = .ok (.if_icmp .ge 59, 3) := by decide +kernel
theorem dX7_changesOf_182 : decode cX7_changesOf 182 = .ok (.iload 5, 2) := by decide +kernel
theorem dX7_changesOf_184 : decode cX7_changesOf 184 = .ok (.iload 7, 2) := by decide +kernel
theorem dX7_changesOf_186 : decode cX7_changesOf 186 = .ok (.if_icmp .ge 52, 3) := by decide +kernel
theorem dX7_changesOf_189 : decode cX7_changesOf 189 = .ok (.aload_n 0, 1) := by decide +kernel
theorem dX7_changesOf_190 : decode cX7_changesOf 190 = .ok (.getfield 40, 3) := by decide +kernel
theorem dX7_changesOf_193 : decode cX7_changesOf 193 = .ok (.iload 5, 2) := by decide +kernel
theorem dX7_changesOf_195 : decode cX7_changesOf 195 = .ok (.iaload, 1) := by decide +kernel
theorem dX7_changesOf_196 : decode cX7_changesOf 196 = .ok (.iload 6, 2) := by decide +kernel
theorem dX7_changesOf_198 : decode cX7_changesOf 198 = .ok (.invokestatic 144, 3) := by decide +kernel
theorem dX7_changesOf_201 : decode cX7_changesOf 201 = .ok (.ifCond .eq 37, 3) := by decide +kernel
theorem dX7_changesOf_204 : decode cX7_changesOf 204 = .ok (.aload_n 0, 1) := by decide +kernel
theorem dX7_changesOf_205 : decode cX7_changesOf 205 = .ok (.getfield 40, 3) := by decide +kernel
theorem dX7_changesOf_208 : decode cX7_changesOf 208 = .ok (.iload 6, 2) := by decide +kernel
theorem dX7_changesOf_210 : decode cX7_changesOf 210 = .ok (.iaload, 1) := by decide +kernel
theorem dX7_changesOf_211 : decode cX7_changesOf 211 = .ok (.iload 7, 2) := by decide +kernel
theorem dX7_changesOf_213 : decode cX7_changesOf 213 = .ok (.invokestatic 144, 3) := by decide +kernel
theorem dX7_changesOf_216 : decode cX7_changesOf 216 = .ok (.ifCond .eq 22, 3) := by decide +kernel
theorem dX7_changesOf_219 : decode cX7_changesOf 219 = .ok (.aload_n 0, 1) := by decide +kernel
theorem dX7_changesOf_220 : decode cX7_changesOf 220 = .ok (.getfield 40, 3) := by decide +kernel
theorem dX7_changesOf_223 : decode cX7_changesOf 223 = .ok (.iload 7, 2) := by decide +kernel
theorem dX7_changesOf_225 : decode cX7_changesOf 225 = .ok (.iaload, 1) := by decide +kernel
theorem dX7_changesOf_226 : decode cX7_changesOf 226 = .ok (.iload 5, 2) := by decide +kernel
theorem dX7_changesOf_228 : decode cX7_changesOf 228 = .ok (.invokestatic 144, 3) := by decide +kernel
theorem dX7_changesOf_231 : decode cX7_changesOf 231 = .ok (.ifCond .eq 7, 3) := by decide +kernel
theorem dX7_changesOf_234 : decode cX7_changesOf 234 = .ok (.iconst 1, 1) := by decide +kernel
theorem dX7_changesOf_235 : decode cX7_changesOf 235 = .ok (.goto 4, 3) := by decide +kernel
theorem dX7_changesOf_238 : decode cX7_changesOf 238 = .ok (.iconst 0, 1) := by decide +kernel
theorem dX7_changesOf_239 : decode cX7_changesOf 239 = .ok (.istore 8, 2) := by decide +kernel
theorem dX7_changesOf_241 : decode cX7_changesOf 241 = .ok (.iload 4, 2) := by decide +kernel
theorem dX7_changesOf_243 : decode cX7_changesOf 243 = .ok (.iload 8, 2) := by decide +kernel
theorem dX7_changesOf_245 : decode cX7_changesOf 245 = .ok (.ifCond .eq 7, 3) := by decide +kernel
theorem dX7_changesOf_248 : decode cX7_changesOf 248 = .ok (.iconst 1, 1) := by decide +kernel
theorem dX7_changesOf_249 : decode cX7_changesOf 249 = .ok (.goto 4, 3) := by decide +kernel
theorem dX7_changesOf_252 : decode cX7_changesOf 252 = .ok (.iconst 0, 1) := by decide +kernel
theorem dX7_changesOf_253 : decode cX7_changesOf 253 = .ok (.iadd, 1) := by decide +kernel
theorem dX7_changesOf_254 : decode cX7_changesOf 254 = .ok (.istore 4, 2) := by decide +kernel
theorem dX7_changesOf_256 : decode cX7_changesOf 256 = .ok (.iinc 7 1, 3) := by decide +kernel
theorem dX7_changesOf_259 : decode cX7_changesOf 259 = .ok (.goto (-93), 3) := by decide +kernel
theorem dX7_changesOf_262 : decode cX7_changesOf 262 = .ok (.iinc 6 1, 3) := by decide +kernel
theorem dX7_changesOf_265 : decode cX7_changesOf 265 = .ok (.goto (-156), 3) := by decide +kernel
theorem dX7_changesOf_268 : decode cX7_changesOf 268 = .ok (.iinc 5 1, 3) := by decide +kernel
theorem dX7_changesOf_271 : decode cX7_changesOf 271 = .ok (.goto (-174), 3) := by decide +kernel
theorem dX7_changesOf_274 : decode cX7_changesOf 274 = .ok (.iload_n 1, 1) := by decide +kernel
theorem dX7_changesOf_275 : decode cX7_changesOf 275 = .ok (.ifCond .ne 7, 3) := by decide +kernel
theorem dX7_changesOf_278 : decode cX7_changesOf 278 = .ok (.iload_n 3, 1) := by decide +kernel
theorem dX7_changesOf_279 : decode cX7_changesOf 279 = .ok (.goto 5, 3) := by decide +kernel
theorem dX7_changesOf_282 : decode cX7_changesOf 282 = .ok (.iload 4, 2) := by decide +kernel
theorem dX7_changesOf_284 : decode cX7_changesOf 284 = .ok (.ireturn, 1) := by decide +kernel
theorem dX7_changes_0 : decode cX7_changes 0 = .ok (.iload_n 1, 1) := by decide +kernel
theorem dX7_changes_1 : decode cX7_changes 1 = .ok (.iconst 0, 1) := by decide +kernel
theorem dX7_changes_2 : decode cX7_changes 2 = .ok (.iconst 1, 1) := by decide +kernel
theorem dX7_changes_3 : decode cX7_changes 3 = .ok (.invokestatic 77, 3) := by decide +kernel
theorem dX7_changes_6 : decode cX7_changes 6 = .ok (.ifCond .eq 11, 3) := by decide +kernel
theorem dX7_changes_9 : decode cX7_changes 9 = .ok (.aload_n 0, 1) := by decide +kernel
theorem dX7_changes_10 : decode cX7_changes 10 = .ok (.iload_n 1, 1) := by decide +kernel
theorem dX7_changes_11 : decode cX7_changes 11 = .ok (.invokevirtual 192, 3) := by decide +kernel
theorem dX7_changes_14 : decode cX7_changes 14 = .ok (.goto 5, 3) := by decide +kernel
theorem dX7_changes_17 : decode cX7_changes 17 = .ok (.bipush (-2), 2) := by decide +kernel
theorem dX7_changes_19 : decode cX7_changes 19 = .ok (.ireturn, 1) := by decide +kernel
theorem dX7_sort_0 : decode cX7_sort 0 = .ok (.iload_n 1, 1) := by decide +kernel
theorem dX7_sort_1 : decode cX7_sort 1 = .ok (.iconst 0, 1) := by decide +kernel
theorem dX7_sort_2 : decode cX7_sort 2 = .ok (.iconst 2, 1) := by decide +kernel
theorem dX7_sort_3 : decode cX7_sort 3 = .ok (.invokestatic 77, 3) := by decide +kernel
theorem dX7_sort_6 : decode cX7_sort 6 = .ok (.ifCond .eq 32, 3) := by decide +kernel
theorem dX7_sort_9 : decode cX7_sort 9 = .ok (.iload_n 2, 1) := by decide +kernel
theorem dX7_sort_10 : decode cX7_sort 10 = .ok (.iconst 0, 1) := by decide +kernel
theorem dX7_sort_11 : decode cX7_sort 11 = .ok (.iconst 1, 1) := by decide +kernel
theorem dX7_sort_12 : decode cX7_sort 12 = .ok (.invokestatic 77, 3) := by decide +kernel
theorem dX7_sort_15 : decode cX7_sort 15 = .ok (.ifCond .eq 23, 3) := by decide +kernel
theorem dX7_sort_18 : decode cX7_sort 18 = .ok (.iload_n 3, 1) := by decide +kernel
theorem dX7_sort_19 : decode cX7_sort 19 = .ok (.iconst 0, 1) := by decide +kernel
theorem dX7_sort_20 : decode cX7_sort 20 = .ok (.iload_n 2, 1) := by decide +kernel
theorem dX7_sort_21 : decode cX7_sort 21 = .ok (.ifCond .ne 9, 3) := by decide +kernel
theorem dX7_sort_24 : decode cX7_sort 24 = .ok (.sipush 9999, 3) := by decide +kernel
theorem dX7_sort_27 : decode cX7_sort 27 = .ok (.goto 5, 3) := by decide +kernel
theorem dX7_sort_30 : decode cX7_sort 30 = .ok (.bipush 99, 2) := by decide +kernel
theorem dX7_sort_32 : decode cX7_sort 32 = .ok (.invokestatic 77, 3) := by decide +kernel
theorem dX7_sort_35 : decode cX7_sort 35 = .ok (.ifCond .ne 6, 3) := by decide +kernel
theorem dX7_sort_38 : decode cX7_sort 38 = .ok (.bipush (-2), 2) := by decide +kernel
theorem dX7_sort_40 : decode cX7_sort 40 = .ok (.ireturn, 1) := by decide +kernel
theorem dX7_sort_41 : decode cX7_sort 41 = .ok (.iload_n 2, 1) := by decide +kernel
theorem dX7_sort_42 : decode cX7_sort 42 = .ok (.ifCond .ne 12, 3) := by decide +kernel
theorem dX7_sort_45 : decode cX7_sort 45 = .ok (.aload_n 0, 1) := by decide +kernel
theorem dX7_sort_46 : decode cX7_sort 46 = .ok (.getfield 31, 3) := by decide +kernel
theorem dX7_sort_49 : decode cX7_sort 49 = .ok (.iload_n 1, 1) := by decide +kernel
theorem dX7_sort_50 : decode cX7_sort 50 = .ok (.iaload, 1) := by decide +kernel
theorem dX7_sort_51 : decode cX7_sort 51 = .ok (.goto 9, 3) := by decide +kernel
theorem dX7_sort_54 : decode cX7_sort 54 = .ok (.aload_n 0, 1) := by decide +kernel
theorem dX7_sort_55 : decode cX7_sort 55 = .ok (.getfield 34, 3) := by decide +kernel
theorem dX7_sort_58 : decode cX7_sort 58 = .ok (.iload_n 1, 1) := by decide +kernel
theorem dX7_sort_59 : decode cX7_sort 59 = .ok (.iaload, 1) := by decide +kernel
theorem dX7_sort_60 : decode cX7_sort 60 = .ok (.istore 4, 2) := by decide +kernel
theorem dX7_sort_62 : decode cX7_sort 62 = .ok (.iload_n 2, 1) := by decide +kernel
theorem dX7_sort_63 : decode cX7_sort 63 = .ok (.ifCond .ne 13, 3) := by decide +kernel
theorem dX7_sort_66 : decode cX7_sort 66 = .ok (.aload_n 0, 1) := by decide +kernel
theorem dX7_sort_67 : decode cX7_sort 67 = .ok (.getfield 31, 3) := by decide +kernel
theorem dX7_sort_70 : decode cX7_sort 70 = .ok (.iload_n 1, 1) := by decide +kernel
theorem dX7_sort_71 : decode cX7_sort 71 = .ok (.iload_n 3, 1) := by decide +kernel
theorem dX7_sort_72 : decode cX7_sort 72 = .ok (.iastore, 1) := by decide +kernel
theorem dX7_sort_73 : decode cX7_sort 73 = .ok (.goto 10, 3) := by decide +kernel
theorem dX7_sort_76 : decode cX7_sort 76 = .ok (.aload_n 0, 1) := by decide +kernel
theorem dX7_sort_77 : decode cX7_sort 77 = .ok (.getfield 34, 3) := by decide +kernel
theorem dX7_sort_80 : decode cX7_sort 80 = .ok (.iload_n 1, 1) := by decide +kernel
theorem dX7_sort_81 : decode cX7_sort 81 = .ok (.iload_n 3, 1) := by decide +kernel
theorem dX7_sort_82 : decode cX7_sort 82 = .ok (.iastore, 1) := by decide +kernel
theorem dX7_sort_83 : decode cX7_sort 83 = .ok (.iload 4, 2) := by decide +kernel
theorem dX7_sort_85 : decode cX7_sort 85 = .ok (.ireturn, 1) := by decide +kernel
theorem dX7_fives_0 : decode cX7_fives 0 = .ok (.iload_n 0, 1) := by decide +kernel
theorem dX7_fives_1 : decode cX7_fives 1 = .ok (.ifCond .ne 7, 3) := by decide +kernel
theorem dX7_fives_4 : decode cX7_fives 4 = .ok (.iconst 1, 1) := by decide +kernel
theorem dX7_fives_5 : decode cX7_fives 5 = .ok (.goto 14, 3) := by decide +kernel
theorem dX7_fives_8 : decode cX7_fives 8 = .ok (.iload_n 0, 1) := by decide +kernel
theorem dX7_fives_9 : decode cX7_fives 9 = .ok (.iconst 1, 1) := by decide +kernel
theorem dX7_fives_10 : decode cX7_fives 10 = .ok (.if_icmp .ne 7, 3) := by decide +kernel
theorem dX7_fives_13 : decode cX7_fives 13 = .ok (.iconst 5, 1) := by decide +kernel
theorem dX7_fives_14 : decode cX7_fives 14 = .ok (.goto 5, 3) := by decide +kernel
theorem dX7_fives_17 : decode cX7_fives 17 = .ok (.bipush 25, 2) := by decide +kernel
theorem dX7_fives_19 : decode cX7_fives 19 = .ok (.ireturn, 1) := by decide +kernel
theorem dX7_setOf_0 : decode cX7_setOf 0 = .ok (.aload_n 0, 1) := by decide +kernel
theorem dX7_setOf_1 : decode cX7_setOf 1 = .ok (.invokevirtual 98, 3) := by decide +kernel
theorem dX7_setOf_4 : decode cX7_setOf 4 = .ok (.istore_n 2, 1) := by decide +kernel
theorem dX7_setOf_5 : decode cX7_setOf 5 = .ok (.aload_n 0, 1) := by decide +kernel
theorem dX7_setOf_6 : decode cX7_setOf 6 = .ok (.invokevirtual 157, 3) := by decide +kernel
theorem dX7_setOf_9 : decode cX7_setOf 9 = .ok (.iconst 0, 1) := by decide +kernel
theorem dX7_setOf_10 : decode cX7_setOf 10 = .ok (.istore_n 3, 1) := by decide +kernel
theorem dX7_setOf_11 : decode cX7_setOf 11 = .ok (.iload_n 3, 1) := by decide +kernel
theorem dX7_setOf_12 : decode cX7_setOf 12 = .ok (.bipush 125, 2) := by decide +kernel
theorem dX7_setOf_14 : decode cX7_setOf 14 = .ok (.if_icmp .ge 24, 3) := by decide +kernel
theorem dX7_setOf_17 : decode cX7_setOf 17 = .ok (.aload_n 0, 1) := by decide +kernel
theorem dX7_setOf_18 : decode cX7_setOf 18 = .ok (.getfield 43, 3) := by decide +kernel
theorem dX7_setOf_21 : decode cX7_setOf 21 = .ok (.bipush 125, 2) := by decide +kernel
theorem dX7_setOf_23 : decode cX7_setOf 23 = .ok (.aload_n 0, 1) := by decide +kernel
theorem dX7_setOf_24 : decode cX7_setOf 24 = .ok (.getfield 85, 3) := by decide +kernel
theorem dX7_setOf_27 : decode cX7_setOf 27 = .ok (.imul, 1) := by decide +kernel
theorem dX7_setOf_28 : decode cX7_setOf 28 = .ok (.iload_n 3, 1) := by decide +kernel
theorem dX7_setOf_29 : decode cX7_setOf 29 = .ok (.iadd, 1) := by decide +kernel
theorem dX7_setOf_30 : decode cX7_setOf 30 = .ok (.iconst 0, 1) := by decide +kernel
theorem dX7_setOf_31 : decode cX7_setOf 31 = .ok (.iastore, 1) := by decide +kernel
theorem dX7_setOf_32 : decode cX7_setOf 32 = .ok (.iinc 3 1, 3) := by decide +kernel
theorem dX7_setOf_35 : decode cX7_setOf 35 = .ok (.goto (-24), 3) := by decide +kernel
theorem dX7_setOf_38 : decode cX7_setOf 38 = .ok (.aload_n 0, 1) := by decide +kernel
theorem dX7_setOf_39 : decode cX7_setOf 39 = .ok (.getfield 85, 3) := by decide +kernel
theorem dX7_setOf_42 : decode cX7_setOf 42 = .ok (.iconst 1, 1) := by decide +kernel
theorem dX7_setOf_43 : decode cX7_setOf 43 = .ok (.isub, 1) := by decide +kernel
theorem dX7_setOf_44 : decode cX7_setOf 44 = .ok (.istore_n 3, 1) := by decide +kernel
theorem dX7_setOf_45 : decode cX7_setOf 45 = .ok (.iload_n 3, 1) := by decide +kernel
theorem dX7_setOf_46 : decode cX7_setOf 46 = .ok (.ifCond .lt 172, 3) := by decide +kernel
theorem dX7_setOf_49 : decode cX7_setOf 49 = .ok (.iconst 0, 1) := by decide +kernel
theorem dX7_setOf_50 : decode cX7_setOf 50 = .ok (.istore 4, 2) := by decide +kernel
theorem dX7_setOf_52 : decode cX7_setOf 52 = .ok (.iload 4, 2) := by decide +kernel
theorem dX7_setOf_54 : decode cX7_setOf 54 = .ok (.bipush 125, 2) := by decide +kernel
theorem dX7_setOf_56 : decode cX7_setOf 56 = .ok (.if_icmp .ge 156, 3) := by decide +kernel
theorem dX7_setOf_59 : decode cX7_setOf 59 = .ok (.aload_n 0, 1) := by decide +kernel
theorem dX7_setOf_60 : decode cX7_setOf 60 = .ok (.getfield 43, 3) := by decide +kernel
theorem dX7_setOf_63 : decode cX7_setOf 63 = .ok (.bipush 125, 2) := by decide +kernel
theorem dX7_setOf_65 : decode cX7_setOf 65 = .ok (.iload_n 3, 1) := by decide +kernel
theorem dX7_setOf_66 : decode cX7_setOf 66 = .ok (.imul, 1) := by decide +kernel
theorem dX7_setOf_67 : decode cX7_setOf 67 = .ok (.iload 4, 2) := by decide +kernel
theorem dX7_setOf_69 : decode cX7_setOf 69 = .ok (.iadd, 1) := by decide +kernel
theorem dX7_setOf_70 : decode cX7_setOf 70 = .ok (.aload_n 0, 1) := by decide +kernel
theorem dX7_setOf_71 : decode cX7_setOf 71 = .ok (.getfield 43, 3) := by decide +kernel
theorem dX7_setOf_74 : decode cX7_setOf 74 = .ok (.bipush 125, 2) := by decide +kernel
theorem dX7_setOf_76 : decode cX7_setOf 76 = .ok (.iload_n 3, 1) := by decide +kernel
theorem dX7_setOf_77 : decode cX7_setOf 77 = .ok (.iconst 1, 1) := by decide +kernel
theorem dX7_setOf_78 : decode cX7_setOf 78 = .ok (.iadd, 1) := by decide +kernel
theorem dX7_setOf_79 : decode cX7_setOf 79 = .ok (.imul, 1) := by decide +kernel
theorem dX7_setOf_80 : decode cX7_setOf 80 = .ok (.iload 4, 2) := by decide +kernel
theorem dX7_setOf_82 : decode cX7_setOf 82 = .ok (.iadd, 1) := by decide +kernel
theorem dX7_setOf_83 : decode cX7_setOf 83 = .ok (.iaload, 1) := by decide +kernel
theorem dX7_setOf_84 : decode cX7_setOf 84 = .ok (.iastore, 1) := by decide +kernel
theorem dX7_setOf_85 : decode cX7_setOf 85 = .ok (.iconst 0, 1) := by decide +kernel
theorem dX7_setOf_86 : decode cX7_setOf 86 = .ok (.istore 5, 2) := by decide +kernel
theorem dX7_setOf_88 : decode cX7_setOf 88 = .ok (.iload 5, 2) := by decide +kernel
theorem dX7_setOf_90 : decode cX7_setOf 90 = .ok (.iconst 3, 1) := by decide +kernel
theorem dX7_setOf_91 : decode cX7_setOf 91 = .ok (.if_icmp .ge 115, 3) := by decide +kernel
theorem dX7_setOf_94 : decode cX7_setOf 94 = .ok (.aload_n 0, 1) := by decide +kernel
theorem dX7_setOf_95 : decode cX7_setOf 95 = .ok (.getfield 37, 3) := by decide +kernel
theorem dX7_setOf_98 : decode cX7_setOf 98 = .ok (.iload_n 3, 1) := by decide +kernel
theorem dX7_setOf_99 : decode cX7_setOf 99 = .ok (.iaload, 1) := by decide +kernel
theorem dX7_setOf_100 : decode cX7_setOf 100 = .ok (.aload_n 0, 1) := by decide +kernel
theorem dX7_setOf_101 : decode cX7_setOf 101 = .ok (.getfield 31, 3) := by decide +kernel
theorem dX7_setOf_104 : decode cX7_setOf 104 = .ok (.iload 5, 2) := by decide +kernel
theorem dX7_setOf_106 : decode cX7_setOf 106 = .ok (.iaload, 1) := by decide +kernel
theorem dX7_setOf_107 : decode cX7_setOf 107 = .ok (.if_icmp .lt 93, 3) := by decide +kernel
theorem dX7_setOf_110 : decode cX7_setOf 110 = .ok (.iload 4, 2) := by decide +kernel
theorem dX7_setOf_112 : decode cX7_setOf 112 = .ok (.iload 5, 2) := by decide +kernel
theorem dX7_setOf_114 : decode cX7_setOf 114 = .ok (.invokestatic 195, 3) := by decide +kernel
theorem dX7_setOf_117 : decode cX7_setOf 117 = .ok (.idiv, 1) := by decide +kernel
theorem dX7_setOf_118 : decode cX7_setOf 118 = .ok (.iconst 5, 1) := by decide +kernel
theorem dX7_setOf_119 : decode cX7_setOf 119 = .ok (.irem, 1) := by decide +kernel
theorem dX7_setOf_120 : decode cX7_setOf 120 = .ok (.iconst 4, 1) := by decide +kernel
theorem dX7_setOf_121 : decode cX7_setOf 121 = .ok (.if_icmp .ge 79, 3) := by decide +kernel
theorem dX7_setOf_124 : decode cX7_setOf 124 = .ok (.aload_n 0, 1) := by decide +kernel
theorem dX7_setOf_125 : decode cX7_setOf 125 = .ok (.getfield 34, 3) := by decide +kernel
theorem dX7_setOf_128 : decode cX7_setOf 128 = .ok (.iload 5, 2) := by decide +kernel
theorem dX7_setOf_130 : decode cX7_setOf 130 = .ok (.iaload, 1) := by decide +kernel
theorem dX7_setOf_131 : decode cX7_setOf 131 = .ok (.aload_n 0, 1) := by decide +kernel
theorem dX7_setOf_132 : decode cX7_setOf 132 = .ok (.getfield 43, 3) := by decide +kernel
theorem dX7_setOf_135 : decode cX7_setOf 135 = .ok (.bipush 125, 2) := by decide +kernel
theorem dX7_setOf_137 : decode cX7_setOf 137 = .ok (.iload_n 3, 1) := by decide +kernel
theorem dX7_setOf_138 : decode cX7_setOf 138 = .ok (.iconst 1, 1) := by decide +kernel
theorem dX7_setOf_139 : decode cX7_setOf 139 = .ok (.iadd, 1) := by decide +kernel
theorem dX7_setOf_140 : decode cX7_setOf 140 = .ok (.imul, 1) := by decide +kernel
theorem dX7_setOf_141 : decode cX7_setOf 141 = .ok (.iload 4, 2) := by decide +kernel
theorem dX7_setOf_143 : decode cX7_setOf 143 = .ok (.iadd, 1) := by decide +kernel
theorem dX7_setOf_144 : decode cX7_setOf 144 = .ok (.iload 5, 2) := by decide +kernel
theorem dX7_setOf_146 : decode cX7_setOf 146 = .ok (.invokestatic 195, 3) := by decide +kernel
theorem dX7_setOf_149 : decode cX7_setOf 149 = .ok (.iadd, 1) := by decide +kernel
theorem dX7_setOf_150 : decode cX7_setOf 150 = .ok (.iaload, 1) := by decide +kernel
theorem dX7_setOf_151 : decode cX7_setOf 151 = .ok (.iadd, 1) := by decide +kernel
theorem dX7_setOf_152 : decode cX7_setOf 152 = .ok (.istore 6, 2) := by decide +kernel
theorem dX7_setOf_154 : decode cX7_setOf 154 = .ok (.aload_n 0, 1) := by decide +kernel
theorem dX7_setOf_155 : decode cX7_setOf 155 = .ok (.getfield 43, 3) := by decide +kernel
theorem dX7_setOf_158 : decode cX7_setOf 158 = .ok (.bipush 125, 2) := by decide +kernel
theorem dX7_setOf_160 : decode cX7_setOf 160 = .ok (.iload_n 3, 1) := by decide +kernel
theorem dX7_setOf_161 : decode cX7_setOf 161 = .ok (.imul, 1) := by decide +kernel
theorem dX7_setOf_162 : decode cX7_setOf 162 = .ok (.iload 4, 2) := by decide +kernel
theorem dX7_setOf_164 : decode cX7_setOf 164 = .ok (.iadd, 1) := by decide +kernel
theorem dX7_setOf_165 : decode cX7_setOf 165 = .ok (.iload 6, 2) := by decide +kernel
theorem dX7_setOf_167 : decode cX7_setOf 167 = .ok (.aload_n 0, 1) := by decide +kernel
theorem dX7_setOf_168 : decode cX7_setOf 168 = .ok (.getfield 43, 3) := by decide +kernel
theorem dX7_setOf_171 : decode cX7_setOf 171 = .ok (.bipush 125, 2) := by decide +kernel
theorem dX7_setOf_173 : decode cX7_setOf 173 = .ok (.iload_n 3, 1) := by decide +kernel
theorem dX7_setOf_174 : decode cX7_setOf 174 = .ok (.imul, 1) := by decide +kernel
theorem dX7_setOf_175 : decode cX7_setOf 175 = .ok (.iload 4, 2) := by decide +kernel
theorem dX7_setOf_177 : decode cX7_setOf 177 = .ok (.iadd, 1) := by decide +kernel
theorem dX7_setOf_178 : decode cX7_setOf 178 = .ok (.iaload, 1) := by decide +kernel
theorem dX7_setOf_179 : decode cX7_setOf 179 = .ok (.if_icmp .le 8, 3) := by decide +kernel
theorem dX7_setOf_182 : decode cX7_setOf 182 = .ok (.iload 6, 2) := by decide +kernel
theorem dX7_setOf_184 : decode cX7_setOf 184 = .ok (.goto 15, 3) := by decide +kernel
theorem dX7_setOf_187 : decode cX7_setOf 187 = .ok (.aload_n 0, 1) := by decide +kernel
theorem dX7_setOf_188 : decode cX7_setOf 188 = .ok (.getfield 43, 3) := by decide +kernel
theorem dX7_setOf_191 : decode cX7_setOf 191 = .ok (.bipush 125, 2) := by decide +kernel
theorem dX7_setOf_193 : decode cX7_setOf 193 = .ok (.iload_n 3, 1) := by decide +kernel
theorem dX7_setOf_194 : decode cX7_setOf 194 = .ok (.imul, 1) := by decide +kernel
theorem dX7_setOf_195 : decode cX7_setOf 195 = .ok (.iload 4, 2) := by decide +kernel
theorem dX7_setOf_197 : decode cX7_setOf 197 = .ok (.iadd, 1) := by decide +kernel
theorem dX7_setOf_198 : decode cX7_setOf 198 = .ok (.iaload, 1) := by decide +kernel
theorem dX7_setOf_199 : decode cX7_setOf 199 = .ok (.iastore, 1) := by decide +kernel
theorem dX7_setOf_200 : decode cX7_setOf 200 = .ok (.iinc 5 1, 3) := by decide +kernel
theorem dX7_setOf_203 : decode cX7_setOf 203 = .ok (.goto (-115), 3) := by decide +kernel
theorem dX7_setOf_206 : decode cX7_setOf 206 = .ok (.iinc 4 1, 3) := by decide +kernel
theorem dX7_setOf_209 : decode cX7_setOf 209 = .ok (.goto (-157), 3) := by decide +kernel
theorem dX7_setOf_212 : decode cX7_setOf 212 = .ok (.iinc 3 (-1), 3) := by decide +kernel
theorem dX7_setOf_215 : decode cX7_setOf 215 = .ok (.goto (-170), 3) := by decide +kernel
theorem dX7_setOf_218 : decode cX7_setOf 218 = .ok (.iconst 0, 1) := by decide +kernel
theorem dX7_setOf_219 : decode cX7_setOf 219 = .ok (.istore_n 3, 1) := by decide +kernel
theorem dX7_setOf_220 : decode cX7_setOf 220 = .ok (.iconst 0, 1) := by decide +kernel
theorem dX7_setOf_221 : decode cX7_setOf 221 = .ok (.istore 4, 2) := by decide +kernel
theorem dX7_setOf_223 : decode cX7_setOf 223 = .ok (.iload 4, 2) := by decide +kernel
theorem dX7_setOf_225 : decode cX7_setOf 225 = .ok (.aload_n 0, 1) := by decide +kernel
theorem dX7_setOf_226 : decode cX7_setOf 226 = .ok (.getfield 85, 3) := by decide +kernel
theorem dX7_setOf_229 : decode cX7_setOf 229 = .ok (.if_icmp .ge 186, 3) := by decide +kernel
theorem dX7_setOf_232 : decode cX7_setOf 232 = .ok (.aload_n 0, 1) := by decide +kernel
theorem dX7_setOf_233 : decode cX7_setOf 233 = .ok (.getfield 46, 3) := by decide +kernel
theorem dX7_setOf_236 : decode cX7_setOf 236 = .ok (.iload 4, 2) := by decide +kernel
theorem dX7_setOf_238 : decode cX7_setOf 238 = .ok (.aload_n 0, 1) := by decide +kernel
theorem dX7_setOf_239 : decode cX7_setOf 239 = .ok (.getfield 43, 3) := by decide +kernel
theorem dX7_setOf_242 : decode cX7_setOf 242 = .ok (.bipush 125, 2) := by decide +kernel
theorem dX7_setOf_244 : decode cX7_setOf 244 = .ok (.iload 4, 2) := by decide +kernel
theorem dX7_setOf_246 : decode cX7_setOf 246 = .ok (.iconst 1, 1) := by decide +kernel
theorem dX7_setOf_247 : decode cX7_setOf 247 = .ok (.iadd, 1) := by decide +kernel
theorem dX7_setOf_248 : decode cX7_setOf 248 = .ok (.imul, 1) := by decide +kernel
theorem dX7_setOf_249 : decode cX7_setOf 249 = .ok (.iload_n 3, 1) := by decide +kernel
theorem dX7_setOf_250 : decode cX7_setOf 250 = .ok (.iadd, 1) := by decide +kernel
theorem dX7_setOf_251 : decode cX7_setOf 251 = .ok (.iaload, 1) := by decide +kernel
theorem dX7_setOf_252 : decode cX7_setOf 252 = .ok (.aload_n 0, 1) := by decide +kernel
theorem dX7_setOf_253 : decode cX7_setOf 253 = .ok (.getfield 43, 3) := by decide +kernel
theorem dX7_setOf_256 : decode cX7_setOf 256 = .ok (.bipush 125, 2) := by decide +kernel
theorem dX7_setOf_258 : decode cX7_setOf 258 = .ok (.iload 4, 2) := by decide +kernel
theorem dX7_setOf_260 : decode cX7_setOf 260 = .ok (.imul, 1) := by decide +kernel
theorem dX7_setOf_261 : decode cX7_setOf 261 = .ok (.iload_n 3, 1) := by decide +kernel
theorem dX7_setOf_262 : decode cX7_setOf 262 = .ok (.iadd, 1) := by decide +kernel
theorem dX7_setOf_263 : decode cX7_setOf 263 = .ok (.iaload, 1) := by decide +kernel
theorem dX7_setOf_264 : decode cX7_setOf 264 = .ok (.if_icmp .ne 7, 3) := by decide +kernel
theorem dX7_setOf_267 : decode cX7_setOf 267 = .ok (.iconst (-1), 1) := by decide +kernel
theorem dX7_setOf_268 : decode cX7_setOf 268 = .ok (.goto 4, 3) := by decide +kernel
theorem dX7_setOf_271 : decode cX7_setOf 271 = .ok (.iconst 3, 1) := by decide +kernel
theorem dX7_setOf_272 : decode cX7_setOf 272 = .ok (.iastore, 1) := by decide +kernel
theorem dX7_setOf_273 : decode cX7_setOf 273 = .ok (.iconst 0, 1) := by decide +kernel
theorem dX7_setOf_274 : decode cX7_setOf 274 = .ok (.istore 5, 2) := by decide +kernel
theorem dX7_setOf_276 : decode cX7_setOf 276 = .ok (.iload 5, 2) := by decide +kernel
theorem dX7_setOf_278 : decode cX7_setOf 278 = .ok (.iconst 3, 1) := by decide +kernel
theorem dX7_setOf_279 : decode cX7_setOf 279 = .ok (.if_icmp .ge 102, 3) := by decide +kernel
theorem dX7_setOf_282 : decode cX7_setOf 282 = .ok (.aload_n 0, 1) := by decide +kernel
theorem dX7_setOf_283 : decode cX7_setOf 283 = .ok (.getfield 46, 3) := by decide +kernel
theorem dX7_setOf_286 : decode cX7_setOf 286 = .ok (.iload 4, 2) := by decide +kernel
theorem dX7_setOf_288 : decode cX7_setOf 288 = .ok (.iaload, 1) := by decide +kernel
theorem dX7_setOf_289 : decode cX7_setOf 289 = .ok (.iconst 3, 1) := by decide +kernel
theorem dX7_setOf_290 : decode cX7_setOf 290 = .ok (.if_icmp .ne 91, 3) := by decide +kernel
theorem dX7_setOf_293 : decode cX7_setOf 293 = .ok (.aload_n 0, 1) := by decide +kernel
theorem dX7_setOf_294 : decode cX7_setOf 294 = .ok (.getfield 37, 3) := by decide +kernel
theorem dX7_setOf_297 : decode cX7_setOf 297 = .ok (.iload 4, 2) := by decide +kernel
theorem dX7_setOf_299 : decode cX7_setOf 299 = .ok (.iaload, 1) := by decide +kernel
theorem dX7_setOf_300 : decode cX7_setOf 300 = .ok (.aload_n 0, 1) := by decide +kernel
theorem dX7_setOf_301 : decode cX7_setOf 301 = .ok (.getfield 31, 3) := by decide +kernel
theorem dX7_setOf_304 : decode cX7_setOf 304 = .ok (.iload 5, 2) := by decide +kernel
theorem dX7_setOf_306 : decode cX7_setOf 306 = .ok (.iaload, 1) := by decide +kernel
theorem dX7_setOf_307 : decode cX7_setOf 307 = .ok (.if_icmp .lt 68, 3) := by decide +kernel
theorem dX7_setOf_310 : decode cX7_setOf 310 = .ok (.iload_n 3, 1) := by decide +kernel
theorem dX7_setOf_311 : decode cX7_setOf 311 = .ok (.iload 5, 2) := by decide +kernel
theorem dX7_setOf_313 : decode cX7_setOf 313 = .ok (.invokestatic 195, 3) := by decide +kernel
theorem dX7_setOf_316 : decode cX7_setOf 316 = .ok (.idiv, 1) := by decide +kernel
theorem dX7_setOf_317 : decode cX7_setOf 317 = .ok (.iconst 5, 1) := by decide +kernel
theorem dX7_setOf_318 : decode cX7_setOf 318 = .ok (.irem, 1) := by decide +kernel
theorem dX7_setOf_319 : decode cX7_setOf 319 = .ok (.iconst 4, 1) := by decide +kernel
theorem dX7_setOf_320 : decode cX7_setOf 320 = .ok (.if_icmp .ge 55, 3) := by decide +kernel
theorem dX7_setOf_323 : decode cX7_setOf 323 = .ok (.aload_n 0, 1) := by decide +kernel
theorem dX7_setOf_324 : decode cX7_setOf 324 = .ok (.getfield 34, 3) := by decide +kernel
theorem dX7_setOf_327 : decode cX7_setOf 327 = .ok (.iload 5, 2) := by decide +kernel
theorem dX7_setOf_329 : decode cX7_setOf 329 = .ok (.iaload, 1) := by decide +kernel
theorem dX7_setOf_330 : decode cX7_setOf 330 = .ok (.aload_n 0, 1) := by decide +kernel
theorem dX7_setOf_331 : decode cX7_setOf 331 = .ok (.getfield 43, 3) := by decide +kernel
theorem dX7_setOf_334 : decode cX7_setOf 334 = .ok (.bipush 125, 2) := by decide +kernel
theorem dX7_setOf_336 : decode cX7_setOf 336 = .ok (.iload 4, 2) := by decide +kernel
theorem dX7_setOf_338 : decode cX7_setOf 338 = .ok (.iconst 1, 1) := by decide +kernel
theorem dX7_setOf_339 : decode cX7_setOf 339 = .ok (.iadd, 1) := by decide +kernel
theorem dX7_setOf_340 : decode cX7_setOf 340 = .ok (.imul, 1) := by decide +kernel
theorem dX7_setOf_341 : decode cX7_setOf 341 = .ok (.iload_n 3, 1) := by decide +kernel
theorem dX7_setOf_342 : decode cX7_setOf 342 = .ok (.iadd, 1) := by decide +kernel
theorem dX7_setOf_343 : decode cX7_setOf 343 = .ok (.iload 5, 2) := by decide +kernel
theorem dX7_setOf_345 : decode cX7_setOf 345 = .ok (.invokestatic 195, 3) := by decide +kernel
theorem dX7_setOf_348 : decode cX7_setOf 348 = .ok (.iadd, 1) := by decide +kernel
theorem dX7_setOf_349 : decode cX7_setOf 349 = .ok (.iaload, 1) := by decide +kernel
theorem dX7_setOf_350 : decode cX7_setOf 350 = .ok (.iadd, 1) := by decide +kernel
theorem dX7_setOf_351 : decode cX7_setOf 351 = .ok (.aload_n 0, 1) := by decide +kernel
theorem dX7_setOf_352 : decode cX7_setOf 352 = .ok (.getfield 43, 3) := by decide +kernel
theorem dX7_setOf_355 : decode cX7_setOf 355 = .ok (.bipush 125, 2) := by decide +kernel
theorem dX7_setOf_357 : decode cX7_setOf 357 = .ok (.iload 4, 2) := by decide +kernel
theorem dX7_setOf_359 : decode cX7_setOf 359 = .ok (.imul, 1) := by decide +kernel
theorem dX7_setOf_360 : decode cX7_setOf 360 = .ok (.iload_n 3, 1) := by decide +kernel
theorem dX7_setOf_361 : decode cX7_setOf 361 = .ok (.iadd, 1) := by decide +kernel
theorem dX7_setOf_362 : decode cX7_setOf 362 = .ok (.iaload, 1) := by decide +kernel
theorem dX7_setOf_363 : decode cX7_setOf 363 = .ok (.if_icmp .ne 12, 3) := by decide +kernel
theorem dX7_setOf_366 : decode cX7_setOf 366 = .ok (.aload_n 0, 1) := by decide +kernel
theorem dX7_setOf_367 : decode cX7_setOf 367 = .ok (.getfield 46, 3) := by decide +kernel
theorem dX7_setOf_370 : decode cX7_setOf 370 = .ok (.iload 4, 2) := by decide +kernel
theorem dX7_setOf_372 : decode cX7_setOf 372 = .ok (.iload 5, 2) := by decide +kernel
theorem dX7_setOf_374 : decode cX7_setOf 374 = .ok (.iastore, 1) := by decide +kernel
theorem dX7_setOf_375 : decode cX7_setOf 375 = .ok (.iinc 5 1, 3) := by decide +kernel
theorem dX7_setOf_378 : decode cX7_setOf 378 = .ok (.goto (-102), 3) := by decide +kernel
theorem dX7_setOf_381 : decode cX7_setOf 381 = .ok (.iload_n 3, 1) := by decide +kernel
theorem dX7_setOf_382 : decode cX7_setOf 382 = .ok (.aload_n 0, 1) := by decide +kernel
theorem dX7_setOf_383 : decode cX7_setOf 383 = .ok (.getfield 46, 3) := by decide +kernel
theorem dX7_setOf_386 : decode cX7_setOf 386 = .ok (.iload 4, 2) := by decide +kernel
theorem dX7_setOf_388 : decode cX7_setOf 388 = .ok (.iaload, 1) := by decide +kernel
theorem dX7_setOf_389 : decode cX7_setOf 389 = .ok (.iconst (-1), 1) := by decide +kernel
theorem dX7_setOf_390 : decode cX7_setOf 390 = .ok (.if_icmp .ne 7, 3) := by decide +kernel
theorem dX7_setOf_393 : decode cX7_setOf 393 = .ok (.iconst 0, 1) := by decide +kernel
theorem dX7_setOf_394 : decode cX7_setOf 394 = .ok (.goto 13, 3) := by decide +kernel
theorem dX7_setOf_397 : decode cX7_setOf 397 = .ok (.aload_n 0, 1) := by decide +kernel
theorem dX7_setOf_398 : decode cX7_setOf 398 = .ok (.getfield 46, 3) := by decide +kernel
theorem dX7_setOf_401 : decode cX7_setOf 401 = .ok (.iload 4, 2) := by decide +kernel
theorem dX7_setOf_403 : decode cX7_setOf 403 = .ok (.iaload, 1) := by decide +kernel
theorem dX7_setOf_404 : decode cX7_setOf 404 = .ok (.invokestatic 195, 3) := by decide +kernel
theorem dX7_setOf_407 : decode cX7_setOf 407 = .ok (.iadd, 1) := by decide +kernel
theorem dX7_setOf_408 : decode cX7_setOf 408 = .ok (.istore_n 3, 1) := by decide +kernel
theorem dX7_setOf_409 : decode cX7_setOf 409 = .ok (.iinc 4 1, 3) := by decide +kernel
theorem dX7_setOf_412 : decode cX7_setOf 412 = .ok (.goto (-189), 3) := by decide +kernel
theorem dX7_setOf_415 : decode cX7_setOf 415 = .ok (.iload_n 1, 1) := by decide +kernel
theorem dX7_setOf_416 : decode cX7_setOf 416 = .ok (.iconst (-1), 1) := by decide +kernel
theorem dX7_setOf_417 : decode cX7_setOf 417 = .ok (.if_icmp .ne 12, 3) := by decide +kernel
theorem dX7_setOf_420 : decode cX7_setOf 420 = .ok (.aload_n 0, 1) := by decide +kernel
theorem dX7_setOf_421 : decode cX7_setOf 421 = .ok (.getfield 43, 3) := by decide +kernel
theorem dX7_setOf_424 : decode cX7_setOf 424 = .ok (.iconst 0, 1) := by decide +kernel
theorem dX7_setOf_425 : decode cX7_setOf 425 = .ok (.iaload, 1) := by decide +kernel
theorem dX7_setOf_426 : decode cX7_setOf 426 = .ok (.goto 9, 3) := by decide +kernel
theorem dX7_setOf_429 : decode cX7_setOf 429 = .ok (.aload_n 0, 1) := by decide +kernel
theorem dX7_setOf_430 : decode cX7_setOf 430 = .ok (.getfield 46, 3) := by decide +kernel
theorem dX7_setOf_433 : decode cX7_setOf 433 = .ok (.iload_n 1, 1) := by decide +kernel
theorem dX7_setOf_434 : decode cX7_setOf 434 = .ok (.iaload, 1) := by decide +kernel
theorem dX7_setOf_435 : decode cX7_setOf 435 = .ok (.ireturn, 1) := by decide +kernel
theorem dX7_set_0 : decode cX7_set 0 = .ok (.iload_n 1, 1) := by decide +kernel
theorem dX7_set_1 : decode cX7_set 1 = .ok (.iconst (-1), 1) := by decide +kernel
theorem dX7_set_2 : decode cX7_set 2 = .ok (.if_icmp .eq 11, 3) := by decide +kernel
theorem dX7_set_5 : decode cX7_set 5 = .ok (.aload_n 0, 1) := by decide +kernel
theorem dX7_set_6 : decode cX7_set 6 = .ok (.iload_n 1, 1) := by decide +kernel
theorem dX7_set_7 : decode cX7_set 7 = .ok (.invokevirtual 102, 3) := by decide +kernel
theorem dX7_set_10 : decode cX7_set 10 = .ok (.ifCond .eq 11, 3) := by decide +kernel
theorem dX7_set_13 : decode cX7_set 13 = .ok (.aload_n 0, 1) := by decide +kernel
theorem dX7_set_14 : decode cX7_set 14 = .ok (.iload_n 1, 1) := by decide +kernel
theorem dX7_set_15 : decode cX7_set 15 = .ok (.invokevirtual 198, 3) := by decide +kernel
theorem dX7_set_18 : decode cX7_set 18 = .ok (.goto 5, 3) := by decide +kernel
theorem dX7_set_21 : decode cX7_set 21 = .ok (.bipush (-2), 2) := by decide +kernel
theorem dX7_set_23 : decode cX7_set 23 = .ok (.ireturn, 1) := by decide +kernel
theorem dX7_seen_0 : decode cX7_seen 0 = .ok (.iload_n 1, 1) := by decide +kernel
theorem dX7_seen_1 : decode cX7_seen 1 = .ok (.invokestatic 113, 3) := by decide +kernel
theorem dX7_seen_4 : decode cX7_seen 4 = .ok (.ifCond .eq 10, 3) := by decide +kernel
theorem dX7_seen_7 : decode cX7_seen 7 = .ok (.iload_n 2, 1) := by decide +kernel
theorem dX7_seen_8 : decode cX7_seen 8 = .ok (.invokestatic 110, 3) := by decide +kernel
theorem dX7_seen_11 : decode cX7_seen 11 = .ok (.ifCond .ne 6, 3) := by decide +kernel
theorem dX7_seen_14 : decode cX7_seen 14 = .ok (.bipush (-2), 2) := by decide +kernel
theorem dX7_seen_16 : decode cX7_seen 16 = .ok (.ireturn, 1) := by decide +kernel
theorem dX7_seen_17 : decode cX7_seen 17 = .ok (.aload_n 0, 1) := by decide +kernel
theorem dX7_seen_18 : decode cX7_seen 18 = .ok (.getfield 201, 3) := by decide +kernel
theorem dX7_seen_21 : decode cX7_seen 21 = .ok (.bipush 8, 2) := by decide +kernel
theorem dX7_seen_23 : decode cX7_seen 23 = .ok (.if_icmp .ne 6, 3) := by decide +kernel
theorem dX7_seen_26 : decode cX7_seen 26 = .ok (.bipush (-4), 2) := by decide +kernel
theorem dX7_seen_28 : decode cX7_seen 28 = .ok (.ireturn, 1) := by decide +kernel
theorem dX7_seen_29 : decode cX7_seen 29 = .ok (.aload_n 0, 1) := by decide +kernel
theorem dX7_seen_30 : decode cX7_seen 30 = .ok (.getfield 49, 3) := by decide +kernel
theorem dX7_seen_33 : decode cX7_seen 33 = .ok (.aload_n 0, 1) := by decide +kernel
theorem dX7_seen_34 : decode cX7_seen 34 = .ok (.getfield 201, 3) := by decide +kernel
theorem dX7_seen_37 : decode cX7_seen 37 = .ok (.iload_n 1, 1) := by decide +kernel
theorem dX7_seen_38 : decode cX7_seen 38 = .ok (.iastore, 1) := by decide +kernel
theorem dX7_seen_39 : decode cX7_seen 39 = .ok (.aload_n 0, 1) := by decide +kernel
theorem dX7_seen_40 : decode cX7_seen 40 = .ok (.getfield 52, 3) := by decide +kernel
theorem dX7_seen_43 : decode cX7_seen 43 = .ok (.aload_n 0, 1) := by decide +kernel
theorem dX7_seen_44 : decode cX7_seen 44 = .ok (.getfield 201, 3) := by decide +kernel
theorem dX7_seen_47 : decode cX7_seen 47 = .ok (.iload_n 2, 1) := by decide +kernel
theorem dX7_seen_48 : decode cX7_seen 48 = .ok (.iastore, 1) := by decide +kernel
theorem dX7_seen_49 : decode cX7_seen 49 = .ok (.aload_n 0, 1) := by decide +kernel
theorem dX7_seen_50 : decode cX7_seen 50 = .ok (.dup, 1) := by decide +kernel
theorem dX7_seen_51 : decode cX7_seen 51 = .ok (.getfield 201, 3) := by decide +kernel
theorem dX7_seen_54 : decode cX7_seen 54 = .ok (.iconst 1, 1) := by decide +kernel
theorem dX7_seen_55 : decode cX7_seen 55 = .ok (.iadd, 1) := by decide +kernel
theorem dX7_seen_56 : decode cX7_seen 56 = .ok (.putfield 201, 3) := by decide +kernel
theorem dX7_seen_59 : decode cX7_seen 59 = .ok (.aload_n 0, 1) := by decide +kernel
theorem dX7_seen_60 : decode cX7_seen 60 = .ok (.getfield 201, 3) := by decide +kernel
theorem dX7_seen_63 : decode cX7_seen 63 = .ok (.ireturn, 1) := by decide +kernel
theorem dX7_forget_0 : decode cX7_forget 0 = .ok (.aload_n 0, 1) := by decide +kernel
theorem dX7_forget_1 : decode cX7_forget 1 = .ok (.getfield 201, 3) := by decide +kernel
theorem dX7_forget_4 : decode cX7_forget 4 = .ok (.istore_n 1, 1) := by decide +kernel
theorem dX7_forget_5 : decode cX7_forget 5 = .ok (.aload_n 0, 1) := by decide +kernel
theorem dX7_forget_6 : decode cX7_forget 6 = .ok (.iconst 0, 1) := by decide +kernel
theorem dX7_forget_7 : decode cX7_forget 7 = .ok (.putfield 201, 3) := by decide +kernel
theorem dX7_forget_10 : decode cX7_forget 10 = .ok (.iload_n 1, 1) := by decide +kernel
theorem dX7_forget_11 : decode cX7_forget 11 = .ok (.ireturn, 1) := by decide +kernel
theorem dX7_whoseOf_0 : decode cX7_whoseOf 0 = .ok (.aload_n 0, 1) := by decide +kernel
theorem dX7_whoseOf_1 : decode cX7_whoseOf 1 = .ok (.invokevirtual 98, 3) := by decide +kernel
theorem dX7_whoseOf_4 : decode cX7_whoseOf 4 = .ok (.istore_n 2, 1) := by decide +kernel
theorem dX7_whoseOf_5 : decode cX7_whoseOf 5 = .ok (.iconst 0, 1) := by decide +kernel
theorem dX7_whoseOf_6 : decode cX7_whoseOf 6 = .ok (.istore_n 3, 1) := by decide +kernel
theorem dX7_whoseOf_7 : decode cX7_whoseOf 7 = .ok (.iconst 0, 1) := by decide +kernel
theorem dX7_whoseOf_8 : decode cX7_whoseOf 8 = .ok (.istore 4, 2) := by decide +kernel
theorem dX7_whoseOf_10 : decode cX7_whoseOf 10 = .ok (.iconst 0, 1) := by decide +kernel
theorem dX7_whoseOf_11 : decode cX7_whoseOf 11 = .ok (.istore 5, 2) := by decide +kernel
theorem dX7_whoseOf_13 : decode cX7_whoseOf 13 = .ok (.iload 5, 2) := by decide +kernel
theorem dX7_whoseOf_15 : decode cX7_whoseOf 15 = .ok (.aload_n 0, 1) := by decide +kernel
theorem dX7_whoseOf_16 : decode cX7_whoseOf 16 = .ok (.getfield 85, 3) := by decide +kernel
theorem dX7_whoseOf_19 : decode cX7_whoseOf 19 = .ok (.if_icmp .ge 105, 3) := by decide +kernel
theorem dX7_whoseOf_22 : decode cX7_whoseOf 22 = .ok (.iconst 1, 1) := by decide +kernel
theorem dX7_whoseOf_23 : decode cX7_whoseOf 23 = .ok (.istore 6, 2) := by decide +kernel
theorem dX7_whoseOf_25 : decode cX7_whoseOf 25 = .ok (.iconst 0, 1) := by decide +kernel
theorem dX7_whoseOf_26 : decode cX7_whoseOf 26 = .ok (.istore 7, 2) := by decide +kernel
theorem dX7_whoseOf_28 : decode cX7_whoseOf 28 = .ok (.iload 7, 2) := by decide +kernel
theorem dX7_whoseOf_30 : decode cX7_whoseOf 30 = .ok (.aload_n 0, 1) := by decide +kernel
theorem dX7_whoseOf_31 : decode cX7_whoseOf 31 = .ok (.getfield 201, 3) := by decide +kernel
theorem dX7_whoseOf_34 : decode cX7_whoseOf 34 = .ok (.if_icmp .ge 45, 3) := by decide +kernel
theorem dX7_whoseOf_37 : decode cX7_whoseOf 37 = .ok (.iload 6, 2) := by decide +kernel
theorem dX7_whoseOf_39 : decode cX7_whoseOf 39 = .ok (.ifCond .eq 31, 3) := by decide +kernel
theorem dX7_whoseOf_42 : decode cX7_whoseOf 42 = .ok (.aload_n 0, 1) := by decide +kernel
theorem dX7_whoseOf_43 : decode cX7_whoseOf 43 = .ok (.iload 5, 2) := by decide +kernel
theorem dX7_whoseOf_45 : decode cX7_whoseOf 45 = .ok (.aload_n 0, 1) := by decide +kernel
theorem dX7_whoseOf_46 : decode cX7_whoseOf 46 = .ok (.getfield 49, 3) := by decide +kernel
theorem dX7_whoseOf_49 : decode cX7_whoseOf 49 = .ok (.iload 7, 2) := by decide +kernel
theorem dX7_whoseOf_51 : decode cX7_whoseOf 51 = .ok (.iaload, 1) := by decide +kernel
theorem dX7_whoseOf_52 : decode cX7_whoseOf 52 = .ok (.aload_n 0, 1) := by decide +kernel
theorem dX7_whoseOf_53 : decode cX7_whoseOf 53 = .ok (.getfield 52, 3) := by decide +kernel
theorem dX7_whoseOf_56 : decode cX7_whoseOf 56 = .ok (.iload 7, 2) := by decide +kernel
theorem dX7_whoseOf_58 : decode cX7_whoseOf 58 = .ok (.iaload, 1) := by decide +kernel
theorem dX7_whoseOf_59 : decode cX7_whoseOf 59 = .ok (.invokevirtual 125, 3) := by decide +kernel
theorem dX7_whoseOf_62 : decode cX7_whoseOf 62 = .ok (.iconst (-1), 1) := by decide +kernel
theorem dX7_whoseOf_63 : decode cX7_whoseOf 63 = .ok (.if_icmp .ne 7, 3) := by decide +kernel
theorem dX7_whoseOf_66 : decode cX7_whoseOf 66 = .ok (.iconst 1, 1) := by decide +kernel
theorem dX7_whoseOf_67 : decode cX7_whoseOf 67 = .ok (.goto 4, 3) := by decide +kernel
theorem dX7_whoseOf_70 : decode cX7_whoseOf 70 = .ok (.iconst 0, 1) := by decide +kernel
theorem dX7_whoseOf_71 : decode cX7_whoseOf 71 = .ok (.istore 6, 2) := by decide +kernel
theorem dX7_whoseOf_73 : decode cX7_whoseOf 73 = .ok (.iinc 7 1, 3) := by decide +kernel
theorem dX7_whoseOf_76 : decode cX7_whoseOf 76 = .ok (.goto (-48), 3) := by decide +kernel
theorem dX7_whoseOf_79 : decode cX7_whoseOf 79 = .ok (.iload_n 3, 1) := by decide +kernel
theorem dX7_whoseOf_80 : decode cX7_whoseOf 80 = .ok (.iload 6, 2) := by decide +kernel
theorem dX7_whoseOf_82 : decode cX7_whoseOf 82 = .ok (.ifCond .eq 10, 3) := by decide +kernel
theorem dX7_whoseOf_85 : decode cX7_whoseOf 85 = .ok (.iconst 1, 1) := by decide +kernel
theorem dX7_whoseOf_86 : decode cX7_whoseOf 86 = .ok (.iload 5, 2) := by decide +kernel
theorem dX7_whoseOf_88 : decode cX7_whoseOf 88 = .ok (.ishl, 1) := by decide +kernel
theorem dX7_whoseOf_89 : decode cX7_whoseOf 89 = .ok (.goto 4, 3) := by decide +kernel
theorem dX7_whoseOf_92 : decode cX7_whoseOf 92 = .ok (.iconst 0, 1) := by decide +kernel
theorem dX7_whoseOf_93 : decode cX7_whoseOf 93 = .ok (.ior, 1) := by decide +kernel
theorem dX7_whoseOf_94 : decode cX7_whoseOf 94 = .ok (.istore_n 3, 1) := by decide +kernel
theorem dX7_whoseOf_95 : decode cX7_whoseOf 95 = .ok (.iload 4, 2) := by decide +kernel
theorem dX7_whoseOf_97 : decode cX7_whoseOf 97 = .ok (.iload 6, 2) := by decide +kernel
theorem dX7_whoseOf_99 : decode cX7_whoseOf 99 = .ok (.ifCond .eq 15, 3) := by decide +kernel
theorem dX7_whoseOf_102 : decode cX7_whoseOf 102 = .ok (.iconst 1, 1) := by decide +kernel
theorem dX7_whoseOf_103 : decode cX7_whoseOf 103 = .ok (.aload_n 0, 1) := by decide +kernel
theorem dX7_whoseOf_104 : decode cX7_whoseOf 104 = .ok (.getfield 19, 3) := by decide +kernel
theorem dX7_whoseOf_107 : decode cX7_whoseOf 107 = .ok (.iload 5, 2) := by decide +kernel
theorem dX7_whoseOf_109 : decode cX7_whoseOf 109 = .ok (.iaload, 1) := by decide +kernel
theorem dX7_whoseOf_110 : decode cX7_whoseOf 110 = .ok (.ishl, 1) := by decide +kernel
theorem dX7_whoseOf_111 : decode cX7_whoseOf 111 = .ok (.goto 4, 3) := by decide +kernel
theorem dX7_whoseOf_114 : decode cX7_whoseOf 114 = .ok (.iconst 0, 1) := by decide +kernel
theorem dX7_whoseOf_115 : decode cX7_whoseOf 115 = .ok (.ior, 1) := by decide +kernel
theorem dX7_whoseOf_116 : decode cX7_whoseOf 116 = .ok (.istore 4, 2) := by decide +kernel
theorem dX7_whoseOf_118 : decode cX7_whoseOf 118 = .ok (.iinc 5 1, 3) := by decide +kernel
theorem dX7_whoseOf_121 : decode cX7_whoseOf 121 = .ok (.goto (-108), 3) := by decide +kernel
theorem dX7_whoseOf_124 : decode cX7_whoseOf 124 = .ok (.iload_n 1, 1) := by decide +kernel
theorem dX7_whoseOf_125 : decode cX7_whoseOf 125 = .ok (.ifCond .ne 7, 3) := by decide +kernel
theorem dX7_whoseOf_128 : decode cX7_whoseOf 128 = .ok (.iload_n 3, 1) := by decide +kernel
theorem dX7_whoseOf_129 : decode cX7_whoseOf 129 = .ok (.goto 8, 3) := by decide +kernel
theorem dX7_whoseOf_132 : decode cX7_whoseOf 132 = .ok (.iload 4, 2) := by decide +kernel
theorem dX7_whoseOf_134 : decode cX7_whoseOf 134 = .ok (.invokestatic 132, 3) := by decide +kernel
theorem dX7_whoseOf_137 : decode cX7_whoseOf 137 = .ok (.ireturn, 1) := by decide +kernel
theorem dX7_whose_0 : decode cX7_whose 0 = .ok (.iload_n 1, 1) := by decide +kernel
theorem dX7_whose_1 : decode cX7_whose 1 = .ok (.iconst 0, 1) := by decide +kernel
theorem dX7_whose_2 : decode cX7_whose 2 = .ok (.iconst 1, 1) := by decide +kernel
theorem dX7_whose_3 : decode cX7_whose 3 = .ok (.invokestatic 77, 3) := by decide +kernel
theorem dX7_whose_6 : decode cX7_whose 6 = .ok (.ifCond .eq 11, 3) := by decide +kernel
theorem dX7_whose_9 : decode cX7_whose 9 = .ok (.aload_n 0, 1) := by decide +kernel
theorem dX7_whose_10 : decode cX7_whose 10 = .ok (.iload_n 1, 1) := by decide +kernel
theorem dX7_whose_11 : decode cX7_whose 11 = .ok (.invokevirtual 204, 3) := by decide +kernel
theorem dX7_whose_14 : decode cX7_whose 14 = .ok (.goto 5, 3) := by decide +kernel
theorem dX7_whose_17 : decode cX7_whose 17 = .ok (.bipush (-2), 2) := by decide +kernel
theorem dX7_whose_19 : decode cX7_whose 19 = .ok (.ireturn, 1) := by decide +kernel
theorem dX7_clouds_0 : decode cX7_clouds 0 = .ok (.iload_n 1, 1) := by decide +kernel
theorem dX7_clouds_1 : decode cX7_clouds 1 = .ok (.invokestatic 113, 3) := by decide +kernel
theorem dX7_clouds_4 : decode cX7_clouds 4 = .ok (.ifCond .eq 13, 3) := by decide +kernel
theorem dX7_clouds_7 : decode cX7_clouds 7 = .ok (.iload_n 2, 1) := by decide +kernel
theorem dX7_clouds_8 : decode cX7_clouds 8 = .ok (.iconst 0, 1) := by decide +kernel
theorem dX7_clouds_9 : decode cX7_clouds 9 = .ok (.bipush 16, 2) := by decide +kernel
theorem dX7_clouds_11 : decode cX7_clouds 11 = .ok (.invokestatic 77, 3) := by decide +kernel
theorem dX7_clouds_14 : decode cX7_clouds 14 = .ok (.ifCond .ne 6, 3) := by decide +kernel
theorem dX7_clouds_17 : decode cX7_clouds 17 = .ok (.bipush (-2), 2) := by decide +kernel
theorem dX7_clouds_19 : decode cX7_clouds 19 = .ok (.ireturn, 1) := by decide +kernel
theorem dX7_clouds_20 : decode cX7_clouds 20 = .ok (.aload_n 0, 1) := by decide +kernel
theorem dX7_clouds_21 : decode cX7_clouds 21 = .ok (.getfield 25, 3) := by decide +kernel
theorem dX7_clouds_24 : decode cX7_clouds 24 = .ok (.iload_n 1, 1) := by decide +kernel
theorem dX7_clouds_25 : decode cX7_clouds 25 = .ok (.iaload, 1) := by decide +kernel
theorem dX7_clouds_26 : decode cX7_clouds 26 = .ok (.istore_n 3, 1) := by decide +kernel
theorem dX7_clouds_27 : decode cX7_clouds 27 = .ok (.aload_n 0, 1) := by decide +kernel
theorem dX7_clouds_28 : decode cX7_clouds 28 = .ok (.getfield 25, 3) := by decide +kernel
theorem dX7_clouds_31 : decode cX7_clouds 31 = .ok (.iload_n 1, 1) := by decide +kernel
theorem dX7_clouds_32 : decode cX7_clouds 32 = .ok (.iload_n 2, 1) := by decide +kernel
theorem dX7_clouds_33 : decode cX7_clouds 33 = .ok (.iastore, 1) := by decide +kernel
theorem dX7_clouds_34 : decode cX7_clouds 34 = .ok (.iload_n 3, 1) := by decide +kernel
theorem dX7_clouds_35 : decode cX7_clouds 35 = .ok (.ireturn, 1) := by decide +kernel
theorem dX7_clearOf_0 : decode cX7_clearOf 0 = .ok (.aload_n 0, 1) := by decide +kernel
theorem dX7_clearOf_1 : decode cX7_clearOf 1 = .ok (.iload_n 1, 1) := by decide +kernel
theorem dX7_clearOf_2 : decode cX7_clearOf 2 = .ok (.iload_n 2, 1) := by decide +kernel
theorem dX7_clearOf_3 : decode cX7_clearOf 3 = .ok (.invokevirtual 129, 3) := by decide +kernel
theorem dX7_clearOf_6 : decode cX7_clearOf 6 = .ok (.invokestatic 132, 3) := by decide +kernel
theorem dX7_clearOf_9 : decode cX7_clearOf 9 = .ok (.istore 5, 2) := by decide +kernel
theorem dX7_clearOf_11 : decode cX7_clearOf 11 = .ok (.bipush 16, 2) := by decide +kernel
theorem dX7_clearOf_13 : decode cX7_clearOf 13 = .ok (.aload_n 0, 1) := by decide +kernel
theorem dX7_clearOf_14 : decode cX7_clearOf 14 = .ok (.getfield 25, 3) := by decide +kernel
theorem dX7_clearOf_17 : decode cX7_clearOf 17 = .ok (.iload_n 2, 1) := by decide +kernel
theorem dX7_clearOf_18 : decode cX7_clearOf 18 = .ok (.iaload, 1) := by decide +kernel
theorem dX7_clearOf_19 : decode cX7_clearOf 19 = .ok (.isub, 1) := by decide +kernel
theorem dX7_clearOf_20 : decode cX7_clearOf 20 = .ok (.istore 6, 2) := by decide +kernel
theorem dX7_clearOf_22 : decode cX7_clearOf 22 = .ok (.iload_n 3, 1) := by decide +kernel
theorem dX7_clearOf_23 : decode cX7_clearOf 23 = .ok (.iconst (-1), 1) := by decide +kernel
theorem dX7_clearOf_24 : decode cX7_clearOf 24 = .ok (.if_icmp .ne 18, 3) := by decide +kernel
theorem dX7_clearOf_27 : decode cX7_clearOf 27 = .ok (.iload 5, 2) := by decide +kernel
theorem dX7_clearOf_29 : decode cX7_clearOf 29 = .ok (.iload 6, 2) := by decide +kernel
theorem dX7_clearOf_31 : decode cX7_clearOf 31 = .ok (.imul, 1) := by decide +kernel
theorem dX7_clearOf_32 : decode cX7_clearOf 32 = .ok (.i2l, 1) := by decide +kernel
theorem dX7_clearOf_33 : decode cX7_clearOf 33 = .ok (.ldc2_w 207, 3) := by decide +kernel
theorem dX7_clearOf_36 : decode cX7_clearOf 36 = .ok (.iload 4, 2) := by decide +kernel
theorem dX7_clearOf_38 : decode cX7_clearOf 38 = .ok (.invokestatic 209, 3) := by decide +kernel
theorem dX7_clearOf_41 : decode cX7_clearOf 41 = .ok (.lreturn, 1) := by decide +kernel
theorem dX7_clearOf_42 : decode cX7_clearOf 42 = .ok (.lconst 1, 1) := by decide +kernel
theorem dX7_clearOf_43 : decode cX7_clearOf 43 = .ok (.lstore 7, 2) := by decide +kernel
theorem dX7_clearOf_45 : decode cX7_clearOf 45 = .ok (.iconst 0, 1) := by decide +kernel
theorem dX7_clearOf_46 : decode cX7_clearOf 46 = .ok (.istore 9, 2) := by decide +kernel
theorem dX7_clearOf_48 : decode cX7_clearOf 48 = .ok (.iload 9, 2) := by decide +kernel
theorem dX7_clearOf_50 : decode cX7_clearOf 50 = .ok (.bipush 14, 2) := by decide +kernel
theorem dX7_clearOf_52 : decode cX7_clearOf 52 = .ok (.if_icmp .ge 26, 3) := by decide +kernel
theorem dX7_clearOf_55 : decode cX7_clearOf 55 = .ok (.aload_n 0, 1) := by decide +kernel
theorem dX7_clearOf_56 : decode cX7_clearOf 56 = .ok (.getfield 55, 3) := by decide +kernel
theorem dX7_clearOf_59 : decode cX7_clearOf 59 = .ok (.iload 9, 2) := by decide +kernel
theorem dX7_clearOf_61 : decode cX7_clearOf 61 = .ok (.iload 9, 2) := by decide +kernel
theorem dX7_clearOf_63 : decode cX7_clearOf 63 = .ok (.ifCond .ne 7, 3) := by decide +kernel
theorem dX7_clearOf_66 : decode cX7_clearOf 66 = .ok (.lconst 1, 1) := by decide +kernel
theorem dX7_clearOf_67 : decode cX7_clearOf 67 = .ok (.goto 4, 3) := by decide +kernel
theorem dX7_clearOf_70 : decode cX7_clearOf 70 = .ok (.lconst 0, 1) := by decide +kernel
theorem dX7_clearOf_71 : decode cX7_clearOf 71 = .ok (.lastore, 1) := by decide +kernel
theorem dX7_clearOf_72 : decode cX7_clearOf 72 = .ok (.iinc 9 1, 3) := by decide +kernel
theorem dX7_clearOf_75 : decode cX7_clearOf 75 = .ok (.goto (-27), 3) := by decide +kernel
theorem dX7_clearOf_78 : decode cX7_clearOf 78 = .ok (.iconst 0, 1) := by decide +kernel
theorem dX7_clearOf_79 : decode cX7_clearOf 79 = .ok (.istore 9, 2) := by decide +kernel
theorem dX7_clearOf_81 : decode cX7_clearOf 81 = .ok (.iload 9, 2) := by decide +kernel
theorem dX7_clearOf_83 : decode cX7_clearOf 83 = .ok (.iload 5, 2) := by decide +kernel
theorem dX7_clearOf_85 : decode cX7_clearOf 85 = .ok (.if_icmp .ge 76, 3) := by decide +kernel
theorem dX7_clearOf_88 : decode cX7_clearOf 88 = .ok (.lload 7, 2) := by decide +kernel
theorem dX7_clearOf_90 : decode cX7_clearOf 90 = .ok (.ldc2_w 207, 3) := by decide +kernel
theorem dX7_clearOf_93 : decode cX7_clearOf 93 = .ok (.lmul, 1) := by decide +kernel
theorem dX7_clearOf_94 : decode cX7_clearOf 94 = .ok (.lstore 7, 2) := by decide +kernel
theorem dX7_clearOf_96 : decode cX7_clearOf 96 = .ok (.bipush 13, 2) := by decide +kernel
theorem dX7_clearOf_98 : decode cX7_clearOf 98 = .ok (.istore 10, 2) := by decide +kernel
theorem dX7_clearOf_100 : decode cX7_clearOf 100 = .ok (.iload 10, 2) := by decide +kernel
theorem dX7_clearOf_102 : decode cX7_clearOf 102 = .ok (.ifCond .lt 53, 3) := by decide +kernel
theorem dX7_clearOf_105 : decode cX7_clearOf 105 = .ok (.aload_n 0, 1) := by decide +kernel
theorem dX7_clearOf_106 : decode cX7_clearOf 106 = .ok (.getfield 55, 3) := by decide +kernel
theorem dX7_clearOf_109 : decode cX7_clearOf 109 = .ok (.iload 10, 2) := by decide +kernel
theorem dX7_clearOf_111 : decode cX7_clearOf 111 = .ok (.aload_n 0, 1) := by decide +kernel
theorem dX7_clearOf_112 : decode cX7_clearOf 112 = .ok (.getfield 55, 3) := by decide +kernel
theorem dX7_clearOf_115 : decode cX7_clearOf 115 = .ok (.iload 10, 2) := by decide +kernel
theorem dX7_clearOf_117 : decode cX7_clearOf 117 = .ok (.laload, 1) := by decide +kernel
theorem dX7_clearOf_118 : decode cX7_clearOf 118 = .ok (.bipush 16, 2) := by decide +kernel
theorem dX7_clearOf_120 : decode cX7_clearOf 120 = .ok (.iload 6, 2) := by decide +kernel
theorem dX7_clearOf_122 : decode cX7_clearOf 122 = .ok (.isub, 1) := by decide +kernel
theorem dX7_clearOf_123 : decode cX7_clearOf 123 = .ok (.i2l, 1) := by decide +kernel
theorem dX7_clearOf_124 : decode cX7_clearOf 124 = .ok (.lmul, 1) := by decide +kernel
theorem dX7_clearOf_125 : decode cX7_clearOf 125 = .ok (.iload 10, 2) := by decide +kernel
theorem dX7_clearOf_127 : decode cX7_clearOf 127 = .ok (.ifCond .le 19, 3) := by decide +kernel
theorem dX7_clearOf_130 : decode cX7_clearOf 130 = .ok (.aload_n 0, 1) := by decide +kernel
theorem dX7_clearOf_131 : decode cX7_clearOf 131 = .ok (.getfield 55, 3) := by decide +kernel
theorem dX7_clearOf_134 : decode cX7_clearOf 134 = .ok (.iload 10, 2) := by decide +kernel
theorem dX7_clearOf_136 : decode cX7_clearOf 136 = .ok (.iconst 1, 1) := by decide +kernel
theorem dX7_clearOf_137 : decode cX7_clearOf 137 = .ok (.isub, 1) := by decide +kernel
theorem dX7_clearOf_138 : decode cX7_clearOf 138 = .ok (.laload, 1) := by decide +kernel
theorem dX7_clearOf_139 : decode cX7_clearOf 139 = .ok (.iload 6, 2) := by decide +kernel
theorem dX7_clearOf_141 : decode cX7_clearOf 141 = .ok (.i2l, 1) := by decide +kernel
theorem dX7_clearOf_142 : decode cX7_clearOf 142 = .ok (.lmul, 1) := by decide +kernel
theorem dX7_clearOf_143 : decode cX7_clearOf 143 = .ok (.goto 4, 3) := by decide +kernel
theorem dX7_clearOf_146 : decode cX7_clearOf 146 = .ok (.lconst 0, 1) := by decide +kernel
theorem dX7_clearOf_147 : decode cX7_clearOf 147 = .ok (.ladd, 1) := by decide +kernel
theorem dX7_clearOf_148 : decode cX7_clearOf 148 = .ok (.lastore, 1) := by decide +kernel
theorem dX7_clearOf_149 : decode cX7_clearOf 149 = .ok (.iinc 10 (-1), 3) := by decide +kernel
theorem dX7_clearOf_152 : decode cX7_clearOf 152 = .ok (.goto (-52), 3) := by decide +kernel
theorem dX7_clearOf_155 : decode cX7_clearOf 155 = .ok (.iinc 9 1, 3) := by decide +kernel
theorem dX7_clearOf_158 : decode cX7_clearOf 158 = .ok (.goto (-77), 3) := by decide +kernel
theorem dX7_clearOf_161 : decode cX7_clearOf 161 = .ok (.lconst 0, 1) := by decide +kernel
theorem dX7_clearOf_162 : decode cX7_clearOf 162 = .ok (.lstore 9, 2) := by decide +kernel
theorem dX7_clearOf_164 : decode cX7_clearOf 164 = .ok (.iload_n 3, 1) := by decide +kernel
theorem dX7_clearOf_165 : decode cX7_clearOf 165 = .ok (.istore 11, 2) := by decide +kernel
theorem dX7_clearOf_167 : decode cX7_clearOf 167 = .ok (.iload 11, 2) := by decide +kernel
theorem dX7_clearOf_169 : decode cX7_clearOf 169 = .ok (.bipush 14, 2) := by decide +kernel
theorem dX7_clearOf_171 : decode cX7_clearOf 171 = .ok (.if_icmp .ge 21, 3) := by decide +kernel
theorem dX7_clearOf_174 : decode cX7_clearOf 174 = .ok (.lload 9, 2) := by decide +kernel
theorem dX7_clearOf_176 : decode cX7_clearOf 176 = .ok (.aload_n 0, 1) := by decide +kernel
theorem dX7_clearOf_177 : decode cX7_clearOf 177 = .ok (.getfield 55, 3) := by decide +kernel
theorem dX7_clearOf_180 : decode cX7_clearOf 180 = .ok (.iload 11, 2) := by decide +kernel
theorem dX7_clearOf_182 : decode cX7_clearOf 182 = .ok (.laload, 1) := by decide +kernel
theorem dX7_clearOf_183 : decode cX7_clearOf 183 = .ok (.ladd, 1) := by decide +kernel
theorem dX7_clearOf_184 : decode cX7_clearOf 184 = .ok (.lstore 9, 2) := by decide +kernel
theorem dX7_clearOf_186 : decode cX7_clearOf 186 = .ok (.iinc 11 1, 3) := by decide +kernel
theorem dX7_clearOf_189 : decode cX7_clearOf 189 = .ok (.goto (-22), 3) := by decide +kernel
theorem dX7_clearOf_192 : decode cX7_clearOf 192 = .ok (.lload 9, 2) := by decide +kernel
theorem dX7_clearOf_194 : decode cX7_clearOf 194 = .ok (.lload 7, 2) := by decide +kernel
theorem dX7_clearOf_196 : decode cX7_clearOf 196 = .ok (.iload 4, 2) := by decide +kernel
theorem dX7_clearOf_198 : decode cX7_clearOf 198 = .ok (.invokestatic 209, 3) := by decide +kernel
theorem dX7_clearOf_201 : decode cX7_clearOf 201 = .ok (.lreturn, 1) := by decide +kernel
theorem dX7_clear_0 : decode cX7_clear 0 = .ok (.aload_n 0, 1) := by decide +kernel
theorem dX7_clear_1 : decode cX7_clear 1 = .ok (.iload_n 1, 1) := by decide +kernel
theorem dX7_clear_2 : decode cX7_clear 2 = .ok (.invokevirtual 102, 3) := by decide +kernel
theorem dX7_clear_5 : decode cX7_clear 5 = .ok (.ifCond .eq 42, 3) := by decide +kernel
theorem dX7_clear_8 : decode cX7_clear 8 = .ok (.iload_n 2, 1) := by decide +kernel
theorem dX7_clear_9 : decode cX7_clear 9 = .ok (.invokestatic 113, 3) := by decide +kernel
theorem dX7_clear_12 : decode cX7_clear 12 = .ok (.ifCond .eq 35, 3) := by decide +kernel
theorem dX7_clear_15 : decode cX7_clear 15 = .ok (.iload_n 3, 1) := by decide +kernel
theorem dX7_clear_16 : decode cX7_clear 16 = .ok (.iconst (-1), 1) := by decide +kernel
theorem dX7_clear_17 : decode cX7_clear 17 = .ok (.bipush 12, 2) := by decide +kernel
theorem dX7_clear_19 : decode cX7_clear 19 = .ok (.invokestatic 77, 3) := by decide +kernel
theorem dX7_clear_22 : decode cX7_clear 22 = .ok (.ifCond .eq 25, 3) := by decide +kernel
theorem dX7_clear_25 : decode cX7_clear 25 = .ok (.iload 4, 2) := by decide +kernel
theorem dX7_clear_27 : decode cX7_clear 27 = .ok (.iconst 0, 1) := by decide +kernel
theorem dX7_clear_28 : decode cX7_clear 28 = .ok (.iconst 1, 1) := by decide +kernel
theorem dX7_clear_29 : decode cX7_clear 29 = .ok (.invokestatic 77, 3) := by decide +kernel
theorem dX7_clear_32 : decode cX7_clear 32 = .ok (.ifCond .eq 15, 3) := by decide +kernel
theorem dX7_clear_35 : decode cX7_clear 35 = .ok (.aload_n 0, 1) := by decide +kernel
theorem dX7_clear_36 : decode cX7_clear 36 = .ok (.iload_n 1, 1) := by decide +kernel
theorem dX7_clear_37 : decode cX7_clear 37 = .ok (.iload_n 2, 1) := by decide +kernel
theorem dX7_clear_38 : decode cX7_clear 38 = .ok (.iload_n 3, 1) := by decide +kernel
theorem dX7_clear_39 : decode cX7_clear 39 = .ok (.iload 4, 2) := by decide +kernel
theorem dX7_clear_41 : decode cX7_clear 41 = .ok (.invokevirtual 213, 3) := by decide +kernel
theorem dX7_clear_44 : decode cX7_clear 44 = .ok (.goto 8, 3) := by decide +kernel
theorem dX7_clear_47 : decode cX7_clear 47 = .ok (.bipush (-2), 2) := by decide +kernel
theorem dX7_clear_49 : decode cX7_clear 49 = .ok (.invokestatic 217, 3) := by decide +kernel
theorem dX7_clear_52 : decode cX7_clear 52 = .ok (.lreturn, 1) := by decide +kernel
theorem dX7_meets_0 : decode cX7_meets 0 = .ok (.aload_n 0, 1) := by decide +kernel
theorem dX7_meets_1 : decode cX7_meets 1 = .ok (.iload_n 1, 1) := by decide +kernel
theorem dX7_meets_2 : decode cX7_meets 2 = .ok (.putfield 221, 3) := by decide +kernel
theorem dX7_meets_5 : decode cX7_meets 5 = .ok (.bipush (-10), 2) := by decide +kernel
theorem dX7_meets_7 : decode cX7_meets 7 = .ok (.iload_n 1, 1) := by decide +kernel
theorem dX7_meets_8 : decode cX7_meets 8 = .ok (.isub, 1) := by decide +kernel
theorem dX7_meets_9 : decode cX7_meets 9 = .ok (.ireturn, 1) := by decide +kernel
theorem dX7_isSheet_0 : decode cX7_isSheet 0 = .ok (.iload_n 0, 1) := by decide +kernel
theorem dX7_isSheet_1 : decode cX7_isSheet 1 = .ok (.iconst 0, 1) := by decide +kernel
theorem dX7_isSheet_2 : decode cX7_isSheet 2 = .ok (.iconst 3, 1) := by decide +kernel
theorem dX7_isSheet_3 : decode cX7_isSheet 3 = .ok (.invokestatic 77, 3) := by decide +kernel
theorem dX7_isSheet_6 : decode cX7_isSheet 6 = .ok (.ireturn, 1) := by decide +kernel
theorem dX7_sheet_0 : decode cX7_sheet 0 = .ok (.iload_n 1, 1) := by decide +kernel
theorem dX7_sheet_1 : decode cX7_sheet 1 = .ok (.invokestatic 116, 3) := by decide +kernel
theorem dX7_sheet_4 : decode cX7_sheet 4 = .ok (.ifCond .eq 18, 3) := by decide +kernel
theorem dX7_sheet_7 : decode cX7_sheet 7 = .ok (.iload_n 2, 1) := by decide +kernel
theorem dX7_sheet_8 : decode cX7_sheet 8 = .ok (.iconst 0, 1) := by decide +kernel
theorem dX7_sheet_9 : decode cX7_sheet 9 = .ok (.iconst 2, 1) := by decide +kernel
theorem dX7_sheet_10 : decode cX7_sheet 10 = .ok (.invokestatic 77, 3) := by decide +kernel
theorem dX7_sheet_13 : decode cX7_sheet 13 = .ok (.ifCond .eq 9, 3) := by decide +kernel
theorem dX7_sheet_16 : decode cX7_sheet 16 = .ok (.iload_n 3, 1) := by decide +kernel
theorem dX7_sheet_17 : decode cX7_sheet 17 = .ok (.bipush 48, 2) := by decide +kernel
theorem dX7_sheet_19 : decode cX7_sheet 19 = .ok (.if_icmp .le 6, 3) := by decide +kernel
theorem dX7_sheet_22 : decode cX7_sheet 22 = .ok (.bipush (-2), 2) := by decide +kernel
theorem dX7_sheet_24 : decode cX7_sheet 24 = .ok (.ireturn, 1) := by decide +kernel
theorem dX7_sheet_25 : decode cX7_sheet 25 = .ok (.iload_n 3, 1) := by decide +kernel
theorem dX7_sheet_26 : decode cX7_sheet 26 = .ok (.ifCond .ge 9, 3) := by decide +kernel
theorem dX7_sheet_29 : decode cX7_sheet 29 = .ok (.aload_n 0, 1) := by decide +kernel
theorem dX7_sheet_30 : decode cX7_sheet 30 = .ok (.iconst 5, 1) := by decide +kernel
theorem dX7_sheet_31 : decode cX7_sheet 31 = .ok (.invokevirtual 119, 3) := by decide +kernel
theorem dX7_sheet_34 : decode cX7_sheet 34 = .ok (.ireturn, 1) := by decide +kernel
theorem dX7_sheet_35 : decode cX7_sheet 35 = .ok (.aload_n 0, 1) := by decide +kernel
theorem dX7_sheet_36 : decode cX7_sheet 36 = .ok (.getfield 59, 3) := by decide +kernel
theorem dX7_sheet_39 : decode cX7_sheet 39 = .ok (.iload_n 1, 1) := by decide +kernel
theorem dX7_sheet_40 : decode cX7_sheet 40 = .ok (.iconst 1, 1) := by decide +kernel
theorem dX7_sheet_41 : decode cX7_sheet 41 = .ok (.bastore, 1) := by decide +kernel
theorem dX7_sheet_42 : decode cX7_sheet 42 = .ok (.aload_n 0, 1) := by decide +kernel
theorem dX7_sheet_43 : decode cX7_sheet 43 = .ok (.getfield 63, 3) := by decide +kernel
theorem dX7_sheet_46 : decode cX7_sheet 46 = .ok (.iload_n 1, 1) := by decide +kernel
theorem dX7_sheet_47 : decode cX7_sheet 47 = .ok (.iload_n 2, 1) := by decide +kernel
theorem dX7_sheet_48 : decode cX7_sheet 48 = .ok (.iastore, 1) := by decide +kernel
theorem dX7_sheet_49 : decode cX7_sheet 49 = .ok (.aload_n 0, 1) := by decide +kernel
theorem dX7_sheet_50 : decode cX7_sheet 50 = .ok (.getfield 66, 3) := by decide +kernel
theorem dX7_sheet_53 : decode cX7_sheet 53 = .ok (.iload_n 1, 1) := by decide +kernel
theorem dX7_sheet_54 : decode cX7_sheet 54 = .ok (.iload_n 3, 1) := by decide +kernel
theorem dX7_sheet_55 : decode cX7_sheet 55 = .ok (.iastore, 1) := by decide +kernel
theorem dX7_sheet_56 : decode cX7_sheet 56 = .ok (.iconst 0, 1) := by decide +kernel
theorem dX7_sheet_57 : decode cX7_sheet 57 = .ok (.istore 4, 2) := by decide +kernel
theorem dX7_sheet_59 : decode cX7_sheet 59 = .ok (.iload 4, 2) := by decide +kernel
theorem dX7_sheet_61 : decode cX7_sheet 61 = .ok (.bipush 48, 2) := by decide +kernel
theorem dX7_sheet_63 : decode cX7_sheet 63 = .ok (.if_icmp .ge 22, 3) := by decide +kernel
theorem dX7_sheet_66 : decode cX7_sheet 66 = .ok (.aload_n 0, 1) := by decide +kernel
theorem dX7_sheet_67 : decode cX7_sheet 67 = .ok (.getfield 69, 3) := by decide +kernel
theorem dX7_sheet_70 : decode cX7_sheet 70 = .ok (.bipush 48, 2) := by decide +kernel
theorem dX7_sheet_72 : decode cX7_sheet 72 = .ok (.iload_n 1, 1) := by decide +kernel
theorem dX7_sheet_73 : decode cX7_sheet 73 = .ok (.imul, 1) := by decide +kernel
theorem dX7_sheet_74 : decode cX7_sheet 74 = .ok (.iload 4, 2) := by decide +kernel
theorem dX7_sheet_76 : decode cX7_sheet 76 = .ok (.iadd, 1) := by decide +kernel
theorem dX7_sheet_77 : decode cX7_sheet 77 = .ok (.iconst 0, 1) := by decide +kernel
theorem dX7_sheet_78 : decode cX7_sheet 78 = .ok (.iastore, 1) := by decide +kernel
theorem dX7_sheet_79 : decode cX7_sheet 79 = .ok (.iinc 4 1, 3) := by decide +kernel
theorem dX7_sheet_82 : decode cX7_sheet 82 = .ok (.goto (-23), 3) := by decide +kernel
theorem dX7_sheet_85 : decode cX7_sheet 85 = .ok (.iload_n 3, 1) := by decide +kernel
theorem dX7_sheet_86 : decode cX7_sheet 86 = .ok (.ireturn, 1) := by decide +kernel
theorem dX7_lose_0 : decode cX7_lose 0 = .ok (.iload_n 1, 1) := by decide +kernel
theorem dX7_lose_1 : decode cX7_lose 1 = .ok (.invokestatic 116, 3) := by decide +kernel
theorem dX7_lose_4 : decode cX7_lose 4 = .ok (.ifCond .ne 6, 3) := by decide +kernel
theorem dX7_lose_7 : decode cX7_lose 7 = .ok (.bipush (-2), 2) := by decide +kernel
theorem dX7_lose_9 : decode cX7_lose 9 = .ok (.ireturn, 1) := by decide +kernel
theorem dX7_lose_10 : decode cX7_lose 10 = .ok (.aload_n 0, 1) := by decide +kernel
theorem dX7_lose_11 : decode cX7_lose 11 = .ok (.getfield 59, 3) := by decide +kernel
theorem dX7_lose_14 : decode cX7_lose 14 = .ok (.iload_n 1, 1) := by decide +kernel
theorem dX7_lose_15 : decode cX7_lose 15 = .ok (.baload, 1) := by decide +kernel
theorem dX7_lose_16 : decode cX7_lose 16 = .ok (.ifCond .ne 9, 3) := by decide +kernel
theorem dX7_lose_19 : decode cX7_lose 19 = .ok (.aload_n 0, 1) := by decide +kernel
theorem dX7_lose_20 : decode cX7_lose 20 = .ok (.iconst 1, 1) := by decide +kernel
theorem dX7_lose_21 : decode cX7_lose 21 = .ok (.invokevirtual 119, 3) := by decide +kernel
theorem dX7_lose_24 : decode cX7_lose 24 = .ok (.ireturn, 1) := by decide +kernel
theorem dX7_lose_25 : decode cX7_lose 25 = .ok (.aload_n 0, 1) := by decide +kernel
theorem dX7_lose_26 : decode cX7_lose 26 = .ok (.getfield 59, 3) := by decide +kernel
theorem dX7_lose_29 : decode cX7_lose 29 = .ok (.iload_n 1, 1) := by decide +kernel
theorem dX7_lose_30 : decode cX7_lose 30 = .ok (.iconst 0, 1) := by decide +kernel
theorem dX7_lose_31 : decode cX7_lose 31 = .ok (.bastore, 1) := by decide +kernel
theorem dX7_lose_32 : decode cX7_lose 32 = .ok (.aload_n 0, 1) := by decide +kernel
theorem dX7_lose_33 : decode cX7_lose 33 = .ok (.getfield 66, 3) := by decide +kernel
theorem dX7_lose_36 : decode cX7_lose 36 = .ok (.iload_n 1, 1) := by decide +kernel
theorem dX7_lose_37 : decode cX7_lose 37 = .ok (.iaload, 1) := by decide +kernel
theorem dX7_lose_38 : decode cX7_lose 38 = .ok (.ireturn, 1) := by decide +kernel
theorem dX7_lacks_0 : decode cX7_lacks 0 = .ok (.aload_n 0, 1) := by decide +kernel
theorem dX7_lacks_1 : decode cX7_lacks 1 = .ok (.getfield 59, 3) := by decide +kernel
theorem dX7_lacks_4 : decode cX7_lacks 4 = .ok (.iload_n 1, 1) := by decide +kernel
theorem dX7_lacks_5 : decode cX7_lacks 5 = .ok (.baload, 1) := by decide +kernel
theorem dX7_lacks_6 : decode cX7_lacks 6 = .ok (.ifCond .ne 7, 3) := by decide +kernel
theorem dX7_lacks_9 : decode cX7_lacks 9 = .ok (.iconst 1, 1) := by decide +kernel
theorem dX7_lacks_10 : decode cX7_lacks 10 = .ok (.goto 38, 3) := by decide +kernel
theorem dX7_lacks_13 : decode cX7_lacks 13 = .ok (.aload_n 0, 1) := by decide +kernel
theorem dX7_lacks_14 : decode cX7_lacks 14 = .ok (.getfield 63, 3) := by decide +kernel
theorem dX7_lacks_17 : decode cX7_lacks 17 = .ok (.iload_n 1, 1) := by decide +kernel
theorem dX7_lacks_18 : decode cX7_lacks 18 = .ok (.iaload, 1) := by decide +kernel
theorem dX7_lacks_19 : decode cX7_lacks 19 = .ok (.iload_n 2, 1) := by decide +kernel
theorem dX7_lacks_20 : decode cX7_lacks 20 = .ok (.if_icmp .eq 7, 3) := by decide +kernel
theorem dX7_lacks_23 : decode cX7_lacks 23 = .ok (.iconst 3, 1) := by decide +kernel
theorem dX7_lacks_24 : decode cX7_lacks 24 = .ok (.goto 24, 3) := by decide +kernel
theorem dX7_lacks_27 : decode cX7_lacks 27 = .ok (.iload_n 3, 1) := by decide +kernel
theorem dX7_lacks_28 : decode cX7_lacks 28 = .ok (.iconst 0, 1) := by decide +kernel
theorem dX7_lacks_29 : decode cX7_lacks 29 = .ok (.aload_n 0, 1) := by decide +kernel
theorem dX7_lacks_30 : decode cX7_lacks 30 = .ok (.getfield 66, 3) := by decide +kernel
theorem dX7_lacks_33 : decode cX7_lacks 33 = .ok (.iload_n 1, 1) := by decide +kernel
theorem dX7_lacks_34 : decode cX7_lacks 34 = .ok (.iaload, 1) := by decide +kernel
theorem dX7_lacks_35 : decode cX7_lacks 35 = .ok (.iconst 1, 1) := by decide +kernel
theorem dX7_lacks_36 : decode cX7_lacks 36 = .ok (.isub, 1) := by decide +kernel
theorem dX7_lacks_37 : decode cX7_lacks 37 = .ok (.invokestatic 77, 3) := by decide +kernel
theorem dX7_lacks_40 : decode cX7_lacks 40 = .ok (.ifCond .eq 7, 3) := by decide +kernel
theorem dX7_lacks_43 : decode cX7_lacks 43 = .ok (.iconst 0, 1) := by decide +kernel
theorem dX7_lacks_44 : decode cX7_lacks 44 = .ok (.goto 4, 3) := by decide +kernel
theorem dX7_lacks_47 : decode cX7_lacks 47 = .ok (.iconst 2, 1) := by decide +kernel
theorem dX7_lacks_48 : decode cX7_lacks 48 = .ok (.ireturn, 1) := by decide +kernel
theorem dX7_keep_0 : decode cX7_keep 0 = .ok (.aload_n 0, 1) := by decide +kernel
theorem dX7_keep_1 : decode cX7_keep 1 = .ok (.getfield 69, 3) := by decide +kernel
theorem dX7_keep_4 : decode cX7_keep 4 = .ok (.bipush 48, 2) := by decide +kernel
theorem dX7_keep_6 : decode cX7_keep 6 = .ok (.iload_n 1, 1) := by decide +kernel
theorem dX7_keep_7 : decode cX7_keep 7 = .ok (.imul, 1) := by decide +kernel
theorem dX7_keep_8 : decode cX7_keep 8 = .ok (.iload_n 2, 1) := by decide +kernel
theorem dX7_keep_9 : decode cX7_keep 9 = .ok (.iadd, 1) := by decide +kernel
theorem dX7_keep_10 : decode cX7_keep 10 = .ok (.aload_n 0, 1) := by decide +kernel
theorem dX7_keep_11 : decode cX7_keep 11 = .ok (.getfield 63, 3) := by decide +kernel
theorem dX7_keep_14 : decode cX7_keep 14 = .ok (.iload_n 1, 1) := by decide +kernel
theorem dX7_keep_15 : decode cX7_keep 15 = .ok (.iaload, 1) := by decide +kernel
theorem dX7_keep_16 : decode cX7_keep 16 = .ok (.ifCond .ne 8, 3) := by decide +kernel
theorem dX7_keep_19 : decode cX7_keep 19 = .ok (.iload_n 3, 1) := by decide +kernel
theorem dX7_keep_20 : decode cX7_keep 20 = .ok (.i2b, 1) := by decide +kernel
theorem dX7_keep_21 : decode cX7_keep 21 = .ok (.goto 19, 3) := by decide +kernel
theorem dX7_keep_24 : decode cX7_keep 24 = .ok (.aload_n 0, 1) := by decide +kernel
theorem dX7_keep_25 : decode cX7_keep 25 = .ok (.getfield 63, 3) := by decide +kernel
theorem dX7_keep_28 : decode cX7_keep 28 = .ok (.iload_n 1, 1) := by decide +kernel
theorem dX7_keep_29 : decode cX7_keep 29 = .ok (.iaload, 1) := by decide +kernel
theorem dX7_keep_30 : decode cX7_keep 30 = .ok (.iconst 1, 1) := by decide +kernel
theorem dX7_keep_31 : decode cX7_keep 31 = .ok (.if_icmp .ne 8, 3) := by decide +kernel
theorem dX7_keep_34 : decode cX7_keep 34 = .ok (.iload_n 3, 1) := by decide +kernel
theorem dX7_keep_35 : decode cX7_keep 35 = .ok (.i2s, 1) := by decide +kernel
theorem dX7_keep_36 : decode cX7_keep 36 = .ok (.goto 4, 3) := by decide +kernel
theorem dX7_keep_39 : decode cX7_keep 39 = .ok (.iload_n 3, 1) := by decide +kernel
theorem dX7_keep_40 : decode cX7_keep 40 = .ok (.iastore, 1) := by decide +kernel
theorem dX7_keep_41 : decode cX7_keep 41 = .ok (.return_, 1) := by decide +kernel
theorem dX7_put_0 : decode cX7_put 0 = .ok (.iload_n 1, 1) := by decide +kernel
theorem dX7_put_1 : decode cX7_put 1 = .ok (.invokestatic 116, 3) := by decide +kernel
theorem dX7_put_4 : decode cX7_put 4 = .ok (.ifCond .eq 12, 3) := by decide +kernel
theorem dX7_put_7 : decode cX7_put 7 = .ok (.iload_n 2, 1) := by decide +kernel
theorem dX7_put_8 : decode cX7_put 8 = .ok (.iconst 0, 1) := by decide +kernel
theorem dX7_put_9 : decode cX7_put 9 = .ok (.iconst 2, 1) := by decide +kernel
theorem dX7_put_10 : decode cX7_put 10 = .ok (.invokestatic 77, 3) := by decide +kernel
theorem dX7_put_13 : decode cX7_put 13 = .ok (.ifCond .ne 6, 3) := by decide +kernel
theorem dX7_put_16 : decode cX7_put 16 = .ok (.bipush (-2), 2) := by decide +kernel
theorem dX7_put_18 : decode cX7_put 18 = .ok (.ireturn, 1) := by decide +kernel
theorem dX7_put_19 : decode cX7_put 19 = .ok (.aload_n 0, 1) := by decide +kernel
theorem dX7_put_20 : decode cX7_put 20 = .ok (.iload_n 1, 1) := by decide +kernel
theorem dX7_put_21 : decode cX7_put 21 = .ok (.iload_n 2, 1) := by decide +kernel
theorem dX7_put_22 : decode cX7_put 22 = .ok (.iload_n 3, 1) := by decide +kernel
theorem dX7_put_23 : decode cX7_put 23 = .ok (.invokevirtual 224, 3) := by decide +kernel
theorem dX7_put_26 : decode cX7_put 26 = .ok (.istore 5, 2) := by decide +kernel
theorem dX7_put_28 : decode cX7_put 28 = .ok (.iload 5, 2) := by decide +kernel
theorem dX7_put_30 : decode cX7_put 30 = .ok (.ifCond .le 10, 3) := by decide +kernel
theorem dX7_put_33 : decode cX7_put 33 = .ok (.aload_n 0, 1) := by decide +kernel
theorem dX7_put_34 : decode cX7_put 34 = .ok (.iload 5, 2) := by decide +kernel
theorem dX7_put_36 : decode cX7_put 36 = .ok (.invokevirtual 119, 3) := by decide +kernel
theorem dX7_put_39 : decode cX7_put 39 = .ok (.ireturn, 1) := by decide +kernel
theorem dX7_put_40 : decode cX7_put 40 = .ok (.aload_n 0, 1) := by decide +kernel
theorem dX7_put_41 : decode cX7_put 41 = .ok (.iload_n 1, 1) := by decide +kernel
theorem dX7_put_42 : decode cX7_put 42 = .ok (.iload_n 3, 1) := by decide +kernel
theorem dX7_put_43 : decode cX7_put 43 = .ok (.iload 4, 2) := by decide +kernel
theorem dX7_put_45 : decode cX7_put 45 = .ok (.invokevirtual 227, 3) := by decide +kernel
theorem dX7_put_48 : decode cX7_put 48 = .ok (.iconst 1, 1) := by decide +kernel
theorem dX7_put_49 : decode cX7_put 49 = .ok (.ireturn, 1) := by decide +kernel
theorem dX7_get_0 : decode cX7_get 0 = .ok (.iload_n 1, 1) := by decide +kernel
theorem dX7_get_1 : decode cX7_get 1 = .ok (.invokestatic 116, 3) := by decide +kernel
theorem dX7_get_4 : decode cX7_get 4 = .ok (.ifCond .eq 12, 3) := by decide +kernel
theorem dX7_get_7 : decode cX7_get 7 = .ok (.iload_n 2, 1) := by decide +kernel
theorem dX7_get_8 : decode cX7_get 8 = .ok (.iconst 0, 1) := by decide +kernel
theorem dX7_get_9 : decode cX7_get 9 = .ok (.iconst 2, 1) := by decide +kernel
theorem dX7_get_10 : decode cX7_get 10 = .ok (.invokestatic 77, 3) := by decide +kernel
theorem dX7_get_13 : decode cX7_get 13 = .ok (.ifCond .ne 6, 3) := by decide +kernel
theorem dX7_get_16 : decode cX7_get 16 = .ok (.ldc 231, 2) := by decide +kernel
theorem dX7_get_18 : decode cX7_get 18 = .ok (.ireturn, 1) := by decide +kernel
theorem dX7_get_19 : decode cX7_get 19 = .ok (.aload_n 0, 1) := by decide +kernel
theorem dX7_get_20 : decode cX7_get 20 = .ok (.iload_n 1, 1) := by decide +kernel
theorem dX7_get_21 : decode cX7_get 21 = .ok (.iload_n 2, 1) := by decide +kernel
theorem dX7_get_22 : decode cX7_get 22 = .ok (.iload_n 3, 1) := by decide +kernel
theorem dX7_get_23 : decode cX7_get 23 = .ok (.invokevirtual 224, 3) := by decide +kernel
theorem dX7_get_26 : decode cX7_get 26 = .ok (.istore 4, 2) := by decide +kernel
theorem dX7_get_28 : decode cX7_get 28 = .ok (.iload 4, 2) := by decide +kernel
theorem dX7_get_30 : decode cX7_get 30 = .ok (.ifCond .le 12, 3) := by decide +kernel
theorem dX7_get_33 : decode cX7_get 33 = .ok (.aload_n 0, 1) := by decide +kernel
theorem dX7_get_34 : decode cX7_get 34 = .ok (.iload 4, 2) := by decide +kernel
theorem dX7_get_36 : decode cX7_get 36 = .ok (.putfield 221, 3) := by decide +kernel
theorem dX7_get_39 : decode cX7_get 39 = .ok (.ldc 231, 2) := by decide +kernel
theorem dX7_get_41 : decode cX7_get 41 = .ok (.ireturn, 1) := by decide +kernel
theorem dX7_get_42 : decode cX7_get 42 = .ok (.aload_n 0, 1) := by decide +kernel
theorem dX7_get_43 : decode cX7_get 43 = .ok (.getfield 69, 3) := by decide +kernel
theorem dX7_get_46 : decode cX7_get 46 = .ok (.bipush 48, 2) := by decide +kernel
theorem dX7_get_48 : decode cX7_get 48 = .ok (.iload_n 1, 1) := by decide +kernel
theorem dX7_get_49 : decode cX7_get 49 = .ok (.imul, 1) := by decide +kernel
theorem dX7_get_50 : decode cX7_get 50 = .ok (.iload_n 3, 1) := by decide +kernel
theorem dX7_get_51 : decode cX7_get 51 = .ok (.iadd, 1) := by decide +kernel
theorem dX7_get_52 : decode cX7_get 52 = .ok (.iaload, 1) := by decide +kernel
theorem dX7_get_53 : decode cX7_get 53 = .ok (.ireturn, 1) := by decide +kernel
theorem dX7_copy_0 : decode cX7_copy 0 = .ok (.iload_n 1, 1) := by decide +kernel
theorem dX7_copy_1 : decode cX7_copy 1 = .ok (.invokestatic 116, 3) := by decide +kernel
theorem dX7_copy_4 : decode cX7_copy 4 = .ok (.ifCond .eq 10, 3) := by decide +kernel
theorem dX7_copy_7 : decode cX7_copy 7 = .ok (.iload_n 3, 1) := by decide +kernel
theorem dX7_copy_8 : decode cX7_copy 8 = .ok (.invokestatic 116, 3) := by decide +kernel
theorem dX7_copy_11 : decode cX7_copy 11 = .ok (.ifCond .ne 6, 3) := by decide +kernel
theorem dX7_copy_14 : decode cX7_copy 14 = .ok (.bipush (-2), 2) := by decide +kernel
theorem dX7_copy_16 : decode cX7_copy 16 = .ok (.ireturn, 1) := by decide +kernel
theorem dX7_copy_17 : decode cX7_copy 17 = .ok (.aload_n 0, 1) := by decide +kernel
theorem dX7_copy_18 : decode cX7_copy 18 = .ok (.getfield 59, 3) := by decide +kernel
theorem dX7_copy_21 : decode cX7_copy 21 = .ok (.iload_n 1, 1) := by decide +kernel
theorem dX7_copy_22 : decode cX7_copy 22 = .ok (.baload, 1) := by decide +kernel
theorem dX7_copy_23 : decode cX7_copy 23 = .ok (.ifCond .eq 12, 3) := by decide +kernel
theorem dX7_copy_26 : decode cX7_copy 26 = .ok (.aload_n 0, 1) := by decide +kernel
theorem dX7_copy_27 : decode cX7_copy 27 = .ok (.getfield 59, 3) := by decide +kernel
theorem dX7_copy_30 : decode cX7_copy 30 = .ok (.iload_n 3, 1) := by decide +kernel
theorem dX7_copy_31 : decode cX7_copy 31 = .ok (.baload, 1) := by decide +kernel
theorem dX7_copy_32 : decode cX7_copy 32 = .ok (.ifCond .ne 9, 3) := by decide +kernel
theorem dX7_copy_35 : decode cX7_copy 35 = .ok (.aload_n 0, 1) := by decide +kernel
theorem dX7_copy_36 : decode cX7_copy 36 = .ok (.iconst 1, 1) := by decide +kernel
theorem dX7_copy_37 : decode cX7_copy 37 = .ok (.invokevirtual 119, 3) := by decide +kernel
theorem dX7_copy_40 : decode cX7_copy 40 = .ok (.ireturn, 1) := by decide +kernel
theorem dX7_copy_41 : decode cX7_copy 41 = .ok (.aload_n 0, 1) := by decide +kernel
theorem dX7_copy_42 : decode cX7_copy 42 = .ok (.getfield 63, 3) := by decide +kernel
theorem dX7_copy_45 : decode cX7_copy 45 = .ok (.iload_n 1, 1) := by decide +kernel
theorem dX7_copy_46 : decode cX7_copy 46 = .ok (.iaload, 1) := by decide +kernel
theorem dX7_copy_47 : decode cX7_copy 47 = .ok (.aload_n 0, 1) := by decide +kernel
theorem dX7_copy_48 : decode cX7_copy 48 = .ok (.getfield 63, 3) := by decide +kernel
theorem dX7_copy_51 : decode cX7_copy 51 = .ok (.iload_n 3, 1) := by decide +kernel
theorem dX7_copy_52 : decode cX7_copy 52 = .ok (.iaload, 1) := by decide +kernel
theorem dX7_copy_53 : decode cX7_copy 53 = .ok (.if_icmp .eq 9, 3) := by decide +kernel
theorem dX7_copy_56 : decode cX7_copy 56 = .ok (.aload_n 0, 1) := by decide +kernel
theorem dX7_copy_57 : decode cX7_copy 57 = .ok (.iconst 4, 1) := by decide +kernel
theorem dX7_copy_58 : decode cX7_copy 58 = .ok (.invokevirtual 119, 3) := by decide +kernel
theorem dX7_copy_61 : decode cX7_copy 61 = .ok (.ireturn, 1) := by decide +kernel
theorem dX7_copy_62 : decode cX7_copy 62 = .ok (.iload_n 2, 1) := by decide +kernel
theorem dX7_copy_63 : decode cX7_copy 63 = .ok (.ifCond .lt 48, 3) := by decide +kernel
theorem dX7_copy_66 : decode cX7_copy 66 = .ok (.iload 4, 2) := by decide +kernel
theorem dX7_copy_68 : decode cX7_copy 68 = .ok (.ifCond .lt 43, 3) := by decide +kernel
theorem dX7_copy_71 : decode cX7_copy 71 = .ok (.iload 5, 2) := by decide +kernel
theorem dX7_copy_73 : decode cX7_copy 73 = .ok (.ifCond .lt 38, 3) := by decide +kernel
theorem dX7_copy_76 : decode cX7_copy 76 = .ok (.iload_n 2, 1) := by decide +kernel
theorem dX7_copy_77 : decode cX7_copy 77 = .ok (.i2l, 1) := by decide +kernel
theorem dX7_copy_78 : decode cX7_copy 78 = .ok (.iload 5, 2) := by decide +kernel
theorem dX7_copy_80 : decode cX7_copy 80 = .ok (.i2l, 1) := by decide +kernel
theorem dX7_copy_81 : decode cX7_copy 81 = .ok (.ladd, 1) := by decide +kernel
theorem dX7_copy_82 : decode cX7_copy 82 = .ok (.aload_n 0, 1) := by decide +kernel
theorem dX7_copy_83 : decode cX7_copy 83 = .ok (.getfield 66, 3) := by decide +kernel
theorem dX7_copy_86 : decode cX7_copy 86 = .ok (.iload_n 1, 1) := by decide +kernel
theorem dX7_copy_87 : decode cX7_copy 87 = .ok (.iaload, 1) := by decide +kernel
theorem dX7_copy_88 : decode cX7_copy 88 = .ok (.i2l, 1) := by decide +kernel
theorem dX7_copy_89 : decode cX7_copy 89 = .ok (.lcmp, 1) := by decide +kernel
theorem dX7_copy_90 : decode cX7_copy 90 = .ok (.ifCond .gt 21, 3) := by decide +kernel
theorem dX7_copy_93 : decode cX7_copy 93 = .ok (.iload 4, 2) := by decide +kernel
theorem dX7_copy_95 : decode cX7_copy 95 = .ok (.i2l, 1) := by decide +kernel
theorem dX7_copy_96 : decode cX7_copy 96 = .ok (.iload 5, 2) := by decide +kernel
theorem dX7_copy_98 : decode cX7_copy 98 = .ok (.i2l, 1) := by decide +kernel
theorem dX7_copy_99 : decode cX7_copy 99 = .ok (.ladd, 1) := by decide +kernel
theorem dX7_copy_100 : decode cX7_copy 100 = .ok (.aload_n 0, 1) := by decide +kernel
theorem dX7_copy_101 : decode cX7_copy 101 = .ok (.getfield 66, 3) := by decide +kernel
theorem dX7_copy_104 : decode cX7_copy 104 = .ok (.iload_n 3, 1) := by decide +kernel
theorem dX7_copy_105 : decode cX7_copy 105 = .ok (.iaload, 1) := by decide +kernel
theorem dX7_copy_106 : decode cX7_copy 106 = .ok (.i2l, 1) := by decide +kernel
theorem dX7_copy_107 : decode cX7_copy 107 = .ok (.lcmp, 1) := by decide +kernel
theorem dX7_copy_108 : decode cX7_copy 108 = .ok (.ifCond .le 9, 3) := by decide +kernel
theorem dX7_copy_111 : decode cX7_copy 111 = .ok (.aload_n 0, 1) := by decide +kernel
theorem dX7_copy_112 : decode cX7_copy 112 = .ok (.iconst 2, 1) := by decide +kernel
theorem dX7_copy_113 : decode cX7_copy 113 = .ok (.invokevirtual 119, 3) := by decide +kernel
theorem dX7_copy_116 : decode cX7_copy 116 = .ok (.ireturn, 1) := by decide +kernel
theorem dX7_copy_117 : decode cX7_copy 117 = .ok (.iconst 0, 1) := by decide +kernel
theorem dX7_copy_118 : decode cX7_copy 118 = .ok (.istore 6, 2) := by decide +kernel
theorem dX7_copy_120 : decode cX7_copy 120 = .ok (.iload 6, 2) := by decide +kernel
theorem dX7_copy_122 : decode cX7_copy 122 = .ok (.iload 5, 2) := by decide +kernel
theorem dX7_copy_124 : decode cX7_copy 124 = .ok (.if_icmp .ge 30, 3) := by decide +kernel
theorem dX7_copy_127 : decode cX7_copy 127 = .ok (.aload_n 0, 1) := by decide +kernel
theorem dX7_copy_128 : decode cX7_copy 128 = .ok (.getfield 72, 3) := by decide +kernel
theorem dX7_copy_131 : decode cX7_copy 131 = .ok (.iload 6, 2) := by decide +kernel
theorem dX7_copy_133 : decode cX7_copy 133 = .ok (.aload_n 0, 1) := by decide +kernel
theorem dX7_copy_134 : decode cX7_copy 134 = .ok (.getfield 69, 3) := by decide +kernel
theorem dX7_copy_137 : decode cX7_copy 137 = .ok (.bipush 48, 2) := by decide +kernel
theorem dX7_copy_139 : decode cX7_copy 139 = .ok (.iload_n 1, 1) := by decide +kernel
theorem dX7_copy_140 : decode cX7_copy 140 = .ok (.imul, 1) := by decide +kernel
theorem dX7_copy_141 : decode cX7_copy 141 = .ok (.iload_n 2, 1) := by decide +kernel
theorem dX7_copy_142 : decode cX7_copy 142 = .ok (.iadd, 1) := by decide +kernel
theorem dX7_copy_143 : decode cX7_copy 143 = .ok (.iload 6, 2) := by decide +kernel
theorem dX7_copy_145 : decode cX7_copy 145 = .ok (.iadd, 1) := by decide +kernel
theorem dX7_copy_146 : decode cX7_copy 146 = .ok (.iaload, 1) := by decide +kernel
theorem dX7_copy_147 : decode cX7_copy 147 = .ok (.iastore, 1) := by decide +kernel
theorem dX7_copy_148 : decode cX7_copy 148 = .ok (.iinc 6 1, 3) := by decide +kernel
theorem dX7_copy_151 : decode cX7_copy 151 = .ok (.goto (-31), 3) := by decide +kernel
theorem dX7_copy_154 : decode cX7_copy 154 = .ok (.iconst 0, 1) := by decide +kernel
theorem dX7_copy_155 : decode cX7_copy 155 = .ok (.istore 6, 2) := by decide +kernel
theorem dX7_copy_157 : decode cX7_copy 157 = .ok (.iload 6, 2) := by decide +kernel
theorem dX7_copy_159 : decode cX7_copy 159 = .ok (.iload 5, 2) := by decide +kernel
theorem dX7_copy_161 : decode cX7_copy 161 = .ok (.if_icmp .ge 31, 3) := by decide +kernel
theorem dX7_copy_164 : decode cX7_copy 164 = .ok (.aload_n 0, 1) := by decide +kernel
theorem dX7_copy_165 : decode cX7_copy 165 = .ok (.getfield 69, 3) := by decide +kernel
theorem dX7_copy_168 : decode cX7_copy 168 = .ok (.bipush 48, 2) := by decide +kernel
theorem dX7_copy_170 : decode cX7_copy 170 = .ok (.iload_n 3, 1) := by decide +kernel
theorem dX7_copy_171 : decode cX7_copy 171 = .ok (.imul, 1) := by decide +kernel
theorem dX7_copy_172 : decode cX7_copy 172 = .ok (.iload 4, 2) := by decide +kernel
theorem dX7_copy_174 : decode cX7_copy 174 = .ok (.iadd, 1) := by decide +kernel
theorem dX7_copy_175 : decode cX7_copy 175 = .ok (.iload 6, 2) := by decide +kernel
theorem dX7_copy_177 : decode cX7_copy 177 = .ok (.iadd, 1) := by decide +kernel
theorem dX7_copy_178 : decode cX7_copy 178 = .ok (.aload_n 0, 1) := by decide +kernel
theorem dX7_copy_179 : decode cX7_copy 179 = .ok (.getfield 72, 3) := by decide +kernel
theorem dX7_copy_182 : decode cX7_copy 182 = .ok (.iload 6, 2) := by decide +kernel
theorem dX7_copy_184 : decode cX7_copy 184 = .ok (.iaload, 1) := by decide +kernel
theorem dX7_copy_185 : decode cX7_copy 185 = .ok (.iastore, 1) := by decide +kernel
theorem dX7_copy_186 : decode cX7_copy 186 = .ok (.iinc 6 1, 3) := by decide +kernel
theorem dX7_copy_189 : decode cX7_copy 189 = .ok (.goto (-32), 3) := by decide +kernel
theorem dX7_copy_192 : decode cX7_copy 192 = .ok (.iconst 1, 1) := by decide +kernel
theorem dX7_copy_193 : decode cX7_copy 193 = .ok (.ireturn, 1) := by decide +kernel
theorem dX7_write_0 : decode cX7_write 0 = .ok (.iload_n 1, 1) := by decide +kernel
theorem dX7_write_1 : decode cX7_write 1 = .ok (.invokestatic 113, 3) := by decide +kernel
theorem dX7_write_4 : decode cX7_write 4 = .ok (.ifCond .eq 10, 3) := by decide +kernel
theorem dX7_write_7 : decode cX7_write 7 = .ok (.iload_n 2, 1) := by decide +kernel
theorem dX7_write_8 : decode cX7_write 8 = .ok (.invokestatic 116, 3) := by decide +kernel
theorem dX7_write_11 : decode cX7_write 11 = .ok (.ifCond .ne 6, 3) := by decide +kernel
theorem dX7_write_14 : decode cX7_write 14 = .ok (.bipush (-2), 2) := by decide +kernel
theorem dX7_write_16 : decode cX7_write 16 = .ok (.ireturn, 1) := by decide +kernel
theorem dX7_write_17 : decode cX7_write 17 = .ok (.aload_n 0, 1) := by decide +kernel
theorem dX7_write_18 : decode cX7_write 18 = .ok (.getfield 59, 3) := by decide +kernel
theorem dX7_write_21 : decode cX7_write 21 = .ok (.iload_n 2, 1) := by decide +kernel
theorem dX7_write_22 : decode cX7_write 22 = .ok (.baload, 1) := by decide +kernel
theorem dX7_write_23 : decode cX7_write 23 = .ok (.ifCond .ne 9, 3) := by decide +kernel
theorem dX7_write_26 : decode cX7_write 26 = .ok (.aload_n 0, 1) := by decide +kernel
theorem dX7_write_27 : decode cX7_write 27 = .ok (.iconst 1, 1) := by decide +kernel
end
section
theorem dX7_write_28 : decode cX7_write 28 = .ok (.invokevirtual 119, 3) := by decide +kernel
theorem dX7_write_31 : decode cX7_write 31 = .ok (.ireturn, 1) := by decide +kernel
theorem dX7_write_32 : decode cX7_write 32 = .ok (.aload_n 0, 1) := by decide +kernel
theorem dX7_write_33 : decode cX7_write 33 = .ok (.invokevirtual 98, 3) := by decide +kernel
theorem dX7_write_36 : decode cX7_write 36 = .ok (.istore_n 3, 1) := by decide +kernel
theorem dX7_write_37 : decode cX7_write 37 = .ok (.iconst 0, 1) := by decide +kernel
theorem dX7_write_38 : decode cX7_write 38 = .ok (.istore 4, 2) := by decide +kernel
theorem dX7_write_40 : decode cX7_write 40 = .ok (.iload 4, 2) := by decide +kernel
theorem dX7_write_42 : decode cX7_write 42 = .ok (.aload_n 0, 1) := by decide +kernel
theorem dX7_write_43 : decode cX7_write 43 = .ok (.getfield 66, 3) := by decide +kernel
theorem dX7_write_46 : decode cX7_write 46 = .ok (.iload_n 2, 1) := by decide +kernel
theorem dX7_write_47 : decode cX7_write 47 = .ok (.iaload, 1) := by decide +kernel
theorem dX7_write_48 : decode cX7_write 48 = .ok (.if_icmp .ge 35, 3) := by decide +kernel
theorem dX7_write_51 : decode cX7_write 51 = .ok (.iload 4, 2) := by decide +kernel
theorem dX7_write_53 : decode cX7_write 53 = .ok (.aload_n 0, 1) := by decide +kernel
theorem dX7_write_54 : decode cX7_write 54 = .ok (.getfield 85, 3) := by decide +kernel
theorem dX7_write_57 : decode cX7_write 57 = .ok (.if_icmp .ge 26, 3) := by decide +kernel
theorem dX7_write_60 : decode cX7_write 60 = .ok (.aload_n 0, 1) := by decide +kernel
theorem dX7_write_61 : decode cX7_write 61 = .ok (.iload_n 2, 1) := by decide +kernel
theorem dX7_write_62 : decode cX7_write 62 = .ok (.iload 4, 2) := by decide +kernel
theorem dX7_write_64 : decode cX7_write 64 = .ok (.aload_n 0, 1) := by decide +kernel
theorem dX7_write_65 : decode cX7_write 65 = .ok (.iload 4, 2) := by decide +kernel
theorem dX7_write_67 : decode cX7_write 67 = .ok (.iload_n 1, 1) := by decide +kernel
theorem dX7_write_68 : decode cX7_write 68 = .ok (.invokevirtual 129, 3) := by decide +kernel
theorem dX7_write_71 : decode cX7_write 71 = .ok (.invokestatic 132, 3) := by decide +kernel
theorem dX7_write_74 : decode cX7_write 74 = .ok (.invokevirtual 227, 3) := by decide +kernel
theorem dX7_write_77 : decode cX7_write 77 = .ok (.iinc 4 1, 3) := by decide +kernel
theorem dX7_write_80 : decode cX7_write 80 = .ok (.goto (-40), 3) := by decide +kernel
theorem dX7_write_83 : decode cX7_write 83 = .ok (.iload 4, 2) := by decide +kernel
theorem dX7_write_85 : decode cX7_write 85 = .ok (.ireturn, 1) := by decide +kernel
theorem dX7_sumOf_0 : decode cX7_sumOf 0 = .ok (.aload_n 0, 1) := by decide +kernel
theorem dX7_sumOf_1 : decode cX7_sumOf 1 = .ok (.invokevirtual 98, 3) := by decide +kernel
theorem dX7_sumOf_4 : decode cX7_sumOf 4 = .ok (.istore_n 2, 1) := by decide +kernel
theorem dX7_sumOf_5 : decode cX7_sumOf 5 = .ok (.iconst 0, 1) := by decide +kernel
theorem dX7_sumOf_6 : decode cX7_sumOf 6 = .ok (.istore_n 3, 1) := by decide +kernel
theorem dX7_sumOf_7 : decode cX7_sumOf 7 = .ok (.iconst 0, 1) := by decide +kernel
theorem dX7_sumOf_8 : decode cX7_sumOf 8 = .ok (.istore 4, 2) := by decide +kernel
theorem dX7_sumOf_10 : decode cX7_sumOf 10 = .ok (.iconst 0, 1) := by decide +kernel
theorem dX7_sumOf_11 : decode cX7_sumOf 11 = .ok (.istore 5, 2) := by decide +kernel
theorem dX7_sumOf_13 : decode cX7_sumOf 13 = .ok (.iload 5, 2) := by decide +kernel
theorem dX7_sumOf_15 : decode cX7_sumOf 15 = .ok (.aload_n 0, 1) := by decide +kernel
theorem dX7_sumOf_16 : decode cX7_sumOf 16 = .ok (.getfield 85, 3) := by decide +kernel
theorem dX7_sumOf_19 : decode cX7_sumOf 19 = .ok (.if_icmp .ge 65, 3) := by decide +kernel
theorem dX7_sumOf_22 : decode cX7_sumOf 22 = .ok (.iload_n 3, 1) := by decide +kernel
theorem dX7_sumOf_23 : decode cX7_sumOf 23 = .ok (.iload_n 1, 1) := by decide +kernel
theorem dX7_sumOf_24 : decode cX7_sumOf 24 = .ok (.iconst 3, 1) := by decide +kernel
theorem dX7_sumOf_25 : decode cX7_sumOf 25 = .ok (.if_icmp .ne 21, 3) := by decide +kernel
theorem dX7_sumOf_28 : decode cX7_sumOf 28 = .ok (.aload_n 0, 1) := by decide +kernel
theorem dX7_sumOf_29 : decode cX7_sumOf 29 = .ok (.getfield 16, 3) := by decide +kernel
theorem dX7_sumOf_32 : decode cX7_sumOf 32 = .ok (.iload 5, 2) := by decide +kernel
theorem dX7_sumOf_34 : decode cX7_sumOf 34 = .ok (.iaload, 1) := by decide +kernel
theorem dX7_sumOf_35 : decode cX7_sumOf 35 = .ok (.ifCond .le 7, 3) := by decide +kernel
theorem dX7_sumOf_38 : decode cX7_sumOf 38 = .ok (.iconst 1, 1) := by decide +kernel
theorem dX7_sumOf_39 : decode cX7_sumOf 39 = .ok (.goto 23, 3) := by decide +kernel
theorem dX7_sumOf_42 : decode cX7_sumOf 42 = .ok (.iconst 0, 1) := by decide +kernel
theorem dX7_sumOf_43 : decode cX7_sumOf 43 = .ok (.goto 19, 3) := by decide +kernel
theorem dX7_sumOf_46 : decode cX7_sumOf 46 = .ok (.iload_n 1, 1) := by decide +kernel
theorem dX7_sumOf_47 : decode cX7_sumOf 47 = .ok (.bipush 6, 2) := by decide +kernel
theorem dX7_sumOf_49 : decode cX7_sumOf 49 = .ok (.if_icmp .ne 12, 3) := by decide +kernel
theorem dX7_sumOf_52 : decode cX7_sumOf 52 = .ok (.aload_n 0, 1) := by decide +kernel
theorem dX7_sumOf_53 : decode cX7_sumOf 53 = .ok (.iload 5, 2) := by decide +kernel
theorem dX7_sumOf_55 : decode cX7_sumOf 55 = .ok (.invokevirtual 135, 3) := by decide +kernel
theorem dX7_sumOf_58 : decode cX7_sumOf 58 = .ok (.goto 4, 3) := by decide +kernel
theorem dX7_sumOf_61 : decode cX7_sumOf 61 = .ok (.iconst 0, 1) := by decide +kernel
theorem dX7_sumOf_62 : decode cX7_sumOf 62 = .ok (.iadd, 1) := by decide +kernel
theorem dX7_sumOf_63 : decode cX7_sumOf 63 = .ok (.istore_n 3, 1) := by decide +kernel
theorem dX7_sumOf_64 : decode cX7_sumOf 64 = .ok (.iload 4, 2) := by decide +kernel
theorem dX7_sumOf_66 : decode cX7_sumOf 66 = .ok (.iconst 1, 1) := by decide +kernel
theorem dX7_sumOf_67 : decode cX7_sumOf 67 = .ok (.aload_n 0, 1) := by decide +kernel
theorem dX7_sumOf_68 : decode cX7_sumOf 68 = .ok (.getfield 19, 3) := by decide +kernel
theorem dX7_sumOf_71 : decode cX7_sumOf 71 = .ok (.iload 5, 2) := by decide +kernel
theorem dX7_sumOf_73 : decode cX7_sumOf 73 = .ok (.iaload, 1) := by decide +kernel
theorem dX7_sumOf_74 : decode cX7_sumOf 74 = .ok (.ishl, 1) := by decide +kernel
theorem dX7_sumOf_75 : decode cX7_sumOf 75 = .ok (.ior, 1) := by decide +kernel
theorem dX7_sumOf_76 : decode cX7_sumOf 76 = .ok (.istore 4, 2) := by decide +kernel
theorem dX7_sumOf_78 : decode cX7_sumOf 78 = .ok (.iinc 5 1, 3) := by decide +kernel
theorem dX7_sumOf_81 : decode cX7_sumOf 81 = .ok (.goto (-68), 3) := by decide +kernel
theorem dX7_sumOf_84 : decode cX7_sumOf 84 = .ok (.iconst 0, 1) := by decide +kernel
theorem dX7_sumOf_85 : decode cX7_sumOf 85 = .ok (.istore 5, 2) := by decide +kernel
theorem dX7_sumOf_87 : decode cX7_sumOf 87 = .ok (.iload 5, 2) := by decide +kernel
theorem dX7_sumOf_89 : decode cX7_sumOf 89 = .ok (.iconst 4, 1) := by decide +kernel
theorem dX7_sumOf_90 : decode cX7_sumOf 90 = .ok (.if_icmp .ge 25, 3) := by decide +kernel
theorem dX7_sumOf_93 : decode cX7_sumOf 93 = .ok (.iload_n 1, 1) := by decide +kernel
theorem dX7_sumOf_94 : decode cX7_sumOf 94 = .ok (.bipush 7, 2) := by decide +kernel
theorem dX7_sumOf_96 : decode cX7_sumOf 96 = .ok (.if_icmp .ne 19, 3) := by decide +kernel
theorem dX7_sumOf_99 : decode cX7_sumOf 99 = .ok (.iload_n 3, 1) := by decide +kernel
theorem dX7_sumOf_100 : decode cX7_sumOf 100 = .ok (.aload_n 0, 1) := by decide +kernel
theorem dX7_sumOf_101 : decode cX7_sumOf 101 = .ok (.getfield 22, 3) := by decide +kernel
theorem dX7_sumOf_104 : decode cX7_sumOf 104 = .ok (.iload 5, 2) := by decide +kernel
theorem dX7_sumOf_106 : decode cX7_sumOf 106 = .ok (.iaload, 1) := by decide +kernel
theorem dX7_sumOf_107 : decode cX7_sumOf 107 = .ok (.iadd, 1) := by decide +kernel
theorem dX7_sumOf_108 : decode cX7_sumOf 108 = .ok (.istore_n 3, 1) := by decide +kernel
theorem dX7_sumOf_109 : decode cX7_sumOf 109 = .ok (.iinc 5 1, 3) := by decide +kernel
theorem dX7_sumOf_112 : decode cX7_sumOf 112 = .ok (.goto (-25), 3) := by decide +kernel
theorem dX7_sumOf_115 : decode cX7_sumOf 115 = .ok (.iload_n 1, 1) := by decide +kernel
theorem dX7_sumOf_116 : decode cX7_sumOf 116 = .ok (.ifCond .ne 10, 3) := by decide +kernel
theorem dX7_sumOf_119 : decode cX7_sumOf 119 = .ok (.aload_n 0, 1) := by decide +kernel
theorem dX7_sumOf_120 : decode cX7_sumOf 120 = .ok (.getfield 85, 3) := by decide +kernel
theorem dX7_sumOf_123 : decode cX7_sumOf 123 = .ok (.goto 29, 3) := by decide +kernel
theorem dX7_sumOf_126 : decode cX7_sumOf 126 = .ok (.iload_n 1, 1) := by decide +kernel
theorem dX7_sumOf_127 : decode cX7_sumOf 127 = .ok (.iconst 2, 1) := by decide +kernel
theorem dX7_sumOf_128 : decode cX7_sumOf 128 = .ok (.if_icmp .ne 10, 3) := by decide +kernel
theorem dX7_sumOf_131 : decode cX7_sumOf 131 = .ok (.aload_n 0, 1) := by decide +kernel
theorem dX7_sumOf_132 : decode cX7_sumOf 132 = .ok (.getfield 91, 3) := by decide +kernel
theorem dX7_sumOf_135 : decode cX7_sumOf 135 = .ok (.goto 17, 3) := by decide +kernel
theorem dX7_sumOf_138 : decode cX7_sumOf 138 = .ok (.iload_n 1, 1) := by decide +kernel
theorem dX7_sumOf_139 : decode cX7_sumOf 139 = .ok (.iconst 4, 1) := by decide +kernel
theorem dX7_sumOf_140 : decode cX7_sumOf 140 = .ok (.if_icmp .ne 11, 3) := by decide +kernel
theorem dX7_sumOf_143 : decode cX7_sumOf 143 = .ok (.iload 4, 2) := by decide +kernel
theorem dX7_sumOf_145 : decode cX7_sumOf 145 = .ok (.invokestatic 132, 3) := by decide +kernel
theorem dX7_sumOf_148 : decode cX7_sumOf 148 = .ok (.goto 4, 3) := by decide +kernel
theorem dX7_sumOf_151 : decode cX7_sumOf 151 = .ok (.iload_n 3, 1) := by decide +kernel
theorem dX7_sumOf_152 : decode cX7_sumOf 152 = .ok (.ireturn, 1) := by decide +kernel
theorem dX7_count_0 : decode cX7_count 0 = .ok (.iload_n 1, 1) := by decide +kernel
theorem dX7_count_1 : decode cX7_count 1 = .ok (.tableswitch 72 0 8 #[51, 57, 51, 51, 51, 62, 51, 51, 67], 51) := by decide +kernel
theorem dX7_count_52 : decode cX7_count 52 = .ok (.aload_n 0, 1) := by decide +kernel
theorem dX7_count_53 : decode cX7_count 53 = .ok (.iload_n 1, 1) := by decide +kernel
theorem dX7_count_54 : decode cX7_count 54 = .ok (.invokevirtual 232, 3) := by decide +kernel
theorem dX7_count_57 : decode cX7_count 57 = .ok (.ireturn, 1) := by decide +kernel
theorem dX7_count_58 : decode cX7_count 58 = .ok (.aload_n 0, 1) := by decide +kernel
theorem dX7_count_59 : decode cX7_count 59 = .ok (.getfield 81, 3) := by decide +kernel
theorem dX7_count_62 : decode cX7_count 62 = .ok (.ireturn, 1) := by decide +kernel
theorem dX7_count_63 : decode cX7_count 63 = .ok (.aload_n 0, 1) := by decide +kernel
theorem dX7_count_64 : decode cX7_count 64 = .ok (.getfield 201, 3) := by decide +kernel
theorem dX7_count_67 : decode cX7_count 67 = .ok (.ireturn, 1) := by decide +kernel
theorem dX7_count_68 : decode cX7_count 68 = .ok (.aload_n 0, 1) := by decide +kernel
theorem dX7_count_69 : decode cX7_count 69 = .ok (.getfield 221, 3) := by decide +kernel
theorem dX7_count_72 : decode cX7_count 72 = .ok (.ireturn, 1) := by decide +kernel
theorem dX7_count_73 : decode cX7_count 73 = .ok (.bipush (-2), 2) := by decide +kernel
theorem dX7_count_75 : decode cX7_count 75 = .ok (.ireturn, 1) := by decide +kernel
theorem dX7_digest_0 : decode cX7_digest 0 = .ok (.ldc2_w 235, 3) := by decide +kernel
theorem dX7_digest_3 : decode cX7_digest 3 = .ok (.lstore_n 1, 1) := by decide +kernel
theorem dX7_digest_4 : decode cX7_digest 4 = .ok (.iconst 0, 1) := by decide +kernel
theorem dX7_digest_5 : decode cX7_digest 5 = .ok (.istore_n 3, 1) := by decide +kernel
theorem dX7_digest_6 : decode cX7_digest 6 = .ok (.iload_n 3, 1) := by decide +kernel
theorem dX7_digest_7 : decode cX7_digest 7 = .ok (.bipush 8, 2) := by decide +kernel
theorem dX7_digest_9 : decode cX7_digest 9 = .ok (.if_icmp .ge 22, 3) := by decide +kernel
theorem dX7_digest_12 : decode cX7_digest 12 = .ok (.ldc2_w 237, 3) := by decide +kernel
theorem dX7_digest_15 : decode cX7_digest 15 = .ok (.lload_n 1, 1) := by decide +kernel
theorem dX7_digest_16 : decode cX7_digest 16 = .ok (.lmul, 1) := by decide +kernel
theorem dX7_digest_17 : decode cX7_digest 17 = .ok (.aload_n 0, 1) := by decide +kernel
theorem dX7_digest_18 : decode cX7_digest 18 = .ok (.iload_n 3, 1) := by decide +kernel
theorem dX7_digest_19 : decode cX7_digest 19 = .ok (.invokevirtual 239, 3) := by decide +kernel
theorem dX7_digest_22 : decode cX7_digest 22 = .ok (.i2l, 1) := by decide +kernel
theorem dX7_digest_23 : decode cX7_digest 23 = .ok (.ladd, 1) := by decide +kernel
theorem dX7_digest_24 : decode cX7_digest 24 = .ok (.lstore_n 1, 1) := by decide +kernel
theorem dX7_digest_25 : decode cX7_digest 25 = .ok (.iinc 3 1, 3) := by decide +kernel
theorem dX7_digest_28 : decode cX7_digest 28 = .ok (.goto (-22), 3) := by decide +kernel
theorem dX7_digest_31 : decode cX7_digest 31 = .ok (.ldc2_w 237, 3) := by decide +kernel
theorem dX7_digest_34 : decode cX7_digest 34 = .ok (.lload_n 1, 1) := by decide +kernel
theorem dX7_digest_35 : decode cX7_digest 35 = .ok (.lmul, 1) := by decide +kernel
theorem dX7_digest_36 : decode cX7_digest 36 = .ok (.aload_n 0, 1) := by decide +kernel
theorem dX7_digest_37 : decode cX7_digest 37 = .ok (.invokevirtual 98, 3) := by decide +kernel
theorem dX7_digest_40 : decode cX7_digest 40 = .ok (.i2l, 1) := by decide +kernel
theorem dX7_digest_41 : decode cX7_digest 41 = .ok (.ladd, 1) := by decide +kernel
theorem dX7_digest_42 : decode cX7_digest 42 = .ok (.lstore_n 1, 1) := by decide +kernel
theorem dX7_digest_43 : decode cX7_digest 43 = .ok (.iconst 0, 1) := by decide +kernel
theorem dX7_digest_44 : decode cX7_digest 44 = .ok (.istore_n 3, 1) := by decide +kernel
theorem dX7_digest_45 : decode cX7_digest 45 = .ok (.iload_n 3, 1) := by decide +kernel
theorem dX7_digest_46 : decode cX7_digest 46 = .ok (.aload_n 0, 1) := by decide +kernel
theorem dX7_digest_47 : decode cX7_digest 47 = .ok (.getfield 85, 3) := by decide +kernel
theorem dX7_digest_50 : decode cX7_digest 50 = .ok (.if_icmp .ge 200, 3) := by decide +kernel
theorem dX7_digest_53 : decode cX7_digest 53 = .ok (.iconst 0, 1) := by decide +kernel
theorem dX7_digest_54 : decode cX7_digest 54 = .ok (.istore 4, 2) := by decide +kernel
theorem dX7_digest_56 : decode cX7_digest 56 = .ok (.iload 4, 2) := by decide +kernel
theorem dX7_digest_58 : decode cX7_digest 58 = .ok (.iconst 3, 1) := by decide +kernel
theorem dX7_digest_59 : decode cX7_digest 59 = .ok (.if_icmp .ge 24, 3) := by decide +kernel
theorem dX7_digest_62 : decode cX7_digest 62 = .ok (.ldc2_w 237, 3) := by decide +kernel
theorem dX7_digest_65 : decode cX7_digest 65 = .ok (.lload_n 1, 1) := by decide +kernel
theorem dX7_digest_66 : decode cX7_digest 66 = .ok (.lmul, 1) := by decide +kernel
theorem dX7_digest_67 : decode cX7_digest 67 = .ok (.aload_n 0, 1) := by decide +kernel
theorem dX7_digest_68 : decode cX7_digest 68 = .ok (.iload_n 3, 1) := by decide +kernel
theorem dX7_digest_69 : decode cX7_digest 69 = .ok (.iload 4, 2) := by decide +kernel
theorem dX7_digest_71 : decode cX7_digest 71 = .ok (.invokevirtual 106, 3) := by decide +kernel
theorem dX7_digest_74 : decode cX7_digest 74 = .ok (.i2l, 1) := by decide +kernel
theorem dX7_digest_75 : decode cX7_digest 75 = .ok (.ladd, 1) := by decide +kernel
theorem dX7_digest_76 : decode cX7_digest 76 = .ok (.lstore_n 1, 1) := by decide +kernel
theorem dX7_digest_77 : decode cX7_digest 77 = .ok (.iinc 4 1, 3) := by decide +kernel
theorem dX7_digest_80 : decode cX7_digest 80 = .ok (.goto (-24), 3) := by decide +kernel
theorem dX7_digest_83 : decode cX7_digest 83 = .ok (.iconst 0, 1) := by decide +kernel
theorem dX7_digest_84 : decode cX7_digest 84 = .ok (.istore 4, 2) := by decide +kernel
theorem dX7_digest_86 : decode cX7_digest 86 = .ok (.iload 4, 2) := by decide +kernel
theorem dX7_digest_88 : decode cX7_digest 88 = .ok (.iconst 4, 1) := by decide +kernel
theorem dX7_digest_89 : decode cX7_digest 89 = .ok (.if_icmp .ge 24, 3) := by decide +kernel
theorem dX7_digest_92 : decode cX7_digest 92 = .ok (.ldc2_w 237, 3) := by decide +kernel
theorem dX7_digest_95 : decode cX7_digest 95 = .ok (.lload_n 1, 1) := by decide +kernel
theorem dX7_digest_96 : decode cX7_digest 96 = .ok (.lmul, 1) := by decide +kernel
theorem dX7_digest_97 : decode cX7_digest 97 = .ok (.aload_n 0, 1) := by decide +kernel
theorem dX7_digest_98 : decode cX7_digest 98 = .ok (.iload_n 3, 1) := by decide +kernel
theorem dX7_digest_99 : decode cX7_digest 99 = .ok (.iload 4, 2) := by decide +kernel
theorem dX7_digest_101 : decode cX7_digest 101 = .ok (.invokevirtual 129, 3) := by decide +kernel
theorem dX7_digest_104 : decode cX7_digest 104 = .ok (.i2l, 1) := by decide +kernel
theorem dX7_digest_105 : decode cX7_digest 105 = .ok (.ladd, 1) := by decide +kernel
theorem dX7_digest_106 : decode cX7_digest 106 = .ok (.lstore_n 1, 1) := by decide +kernel
theorem dX7_digest_107 : decode cX7_digest 107 = .ok (.iinc 4 1, 3) := by decide +kernel
theorem dX7_digest_110 : decode cX7_digest 110 = .ok (.goto (-24), 3) := by decide +kernel
theorem dX7_digest_113 : decode cX7_digest 113 = .ok (.ldc2_w 237, 3) := by decide +kernel
theorem dX7_digest_116 : decode cX7_digest 116 = .ok (.lload_n 1, 1) := by decide +kernel
theorem dX7_digest_117 : decode cX7_digest 117 = .ok (.lmul, 1) := by decide +kernel
theorem dX7_digest_118 : decode cX7_digest 118 = .ok (.aload_n 0, 1) := by decide +kernel
theorem dX7_digest_119 : decode cX7_digest 119 = .ok (.iload_n 3, 1) := by decide +kernel
theorem dX7_digest_120 : decode cX7_digest 120 = .ok (.invokevirtual 135, 3) := by decide +kernel
theorem dX7_digest_123 : decode cX7_digest 123 = .ok (.i2l, 1) := by decide +kernel
theorem dX7_digest_124 : decode cX7_digest 124 = .ok (.ladd, 1) := by decide +kernel
theorem dX7_digest_125 : decode cX7_digest 125 = .ok (.lstore_n 1, 1) := by decide +kernel
theorem dX7_digest_126 : decode cX7_digest 126 = .ok (.ldc2_w 237, 3) := by decide +kernel
theorem dX7_digest_129 : decode cX7_digest 129 = .ok (.lload_n 1, 1) := by decide +kernel
theorem dX7_digest_130 : decode cX7_digest 130 = .ok (.lmul, 1) := by decide +kernel
theorem dX7_digest_131 : decode cX7_digest 131 = .ok (.aload_n 0, 1) := by decide +kernel
theorem dX7_digest_132 : decode cX7_digest 132 = .ok (.iload_n 3, 1) := by decide +kernel
theorem dX7_digest_133 : decode cX7_digest 133 = .ok (.iconst 0, 1) := by decide +kernel
theorem dX7_digest_134 : decode cX7_digest 134 = .ok (.iconst 3, 1) := by decide +kernel
theorem dX7_digest_135 : decode cX7_digest 135 = .ok (.invokevirtual 125, 3) := by decide +kernel
theorem dX7_digest_138 : decode cX7_digest 138 = .ok (.i2l, 1) := by decide +kernel
theorem dX7_digest_139 : decode cX7_digest 139 = .ok (.ladd, 1) := by decide +kernel
theorem dX7_digest_140 : decode cX7_digest 140 = .ok (.lstore_n 1, 1) := by decide +kernel
theorem dX7_digest_141 : decode cX7_digest 141 = .ok (.ldc2_w 237, 3) := by decide +kernel
theorem dX7_digest_144 : decode cX7_digest 144 = .ok (.lload_n 1, 1) := by decide +kernel
theorem dX7_digest_145 : decode cX7_digest 145 = .ok (.lmul, 1) := by decide +kernel
theorem dX7_digest_146 : decode cX7_digest 146 = .ok (.aload_n 0, 1) := by decide +kernel
theorem dX7_digest_147 : decode cX7_digest 147 = .ok (.iload_n 3, 1) := by decide +kernel
theorem dX7_digest_148 : decode cX7_digest 148 = .ok (.iconst 1, 1) := by decide +kernel
theorem dX7_digest_149 : decode cX7_digest 149 = .ok (.invokevirtual 183, 3) := by decide +kernel
theorem dX7_digest_152 : decode cX7_digest 152 = .ok (.i2l, 1) := by decide +kernel
theorem dX7_digest_153 : decode cX7_digest 153 = .ok (.ladd, 1) := by decide +kernel
theorem dX7_digest_154 : decode cX7_digest 154 = .ok (.lstore_n 1, 1) := by decide +kernel
theorem dX7_digest_155 : decode cX7_digest 155 = .ok (.ldc2_w 237, 3) := by decide +kernel
theorem dX7_digest_158 : decode cX7_digest 158 = .ok (.lload_n 1, 1) := by decide +kernel
theorem dX7_digest_159 : decode cX7_digest 159 = .ok (.lmul, 1) := by decide +kernel
theorem dX7_digest_160 : decode cX7_digest 160 = .ok (.aload_n 0, 1) := by decide +kernel
theorem dX7_digest_161 : decode cX7_digest 161 = .ok (.iload_n 3, 1) := by decide +kernel
theorem dX7_digest_162 : decode cX7_digest 162 = .ok (.sipush 500, 3) := by decide +kernel
theorem dX7_digest_165 : decode cX7_digest 165 = .ok (.invokevirtual 177, 3) := by decide +kernel
theorem dX7_digest_168 : decode cX7_digest 168 = .ok (.i2l, 1) := by decide +kernel
theorem dX7_digest_169 : decode cX7_digest 169 = .ok (.ladd, 1) := by decide +kernel
theorem dX7_digest_170 : decode cX7_digest 170 = .ok (.lstore_n 1, 1) := by decide +kernel
theorem dX7_digest_171 : decode cX7_digest 171 = .ok (.ldc2_w 237, 3) := by decide +kernel
theorem dX7_digest_174 : decode cX7_digest 174 = .ok (.lload_n 1, 1) := by decide +kernel
theorem dX7_digest_175 : decode cX7_digest 175 = .ok (.lmul, 1) := by decide +kernel
theorem dX7_digest_176 : decode cX7_digest 176 = .ok (.aload_n 0, 1) := by decide +kernel
theorem dX7_digest_177 : decode cX7_digest 177 = .ok (.iload_n 3, 1) := by decide +kernel
theorem dX7_digest_178 : decode cX7_digest 178 = .ok (.invokevirtual 198, 3) := by decide +kernel
theorem dX7_digest_181 : decode cX7_digest 181 = .ok (.i2l, 1) := by decide +kernel
theorem dX7_digest_182 : decode cX7_digest 182 = .ok (.ladd, 1) := by decide +kernel
theorem dX7_digest_183 : decode cX7_digest 183 = .ok (.lstore_n 1, 1) := by decide +kernel
theorem dX7_digest_184 : decode cX7_digest 184 = .ok (.ldc2_w 237, 3) := by decide +kernel
theorem dX7_digest_187 : decode cX7_digest 187 = .ok (.lload_n 1, 1) := by decide +kernel
theorem dX7_digest_188 : decode cX7_digest 188 = .ok (.lmul, 1) := by decide +kernel
theorem dX7_digest_189 : decode cX7_digest 189 = .ok (.aload_n 0, 1) := by decide +kernel
theorem dX7_digest_190 : decode cX7_digest 190 = .ok (.iload_n 3, 1) := by decide +kernel
theorem dX7_digest_191 : decode cX7_digest 191 = .ok (.iconst 2, 1) := by decide +kernel
theorem dX7_digest_192 : decode cX7_digest 192 = .ok (.iconst (-1), 1) := by decide +kernel
theorem dX7_digest_193 : decode cX7_digest 193 = .ok (.iconst 0, 1) := by decide +kernel
theorem dX7_digest_194 : decode cX7_digest 194 = .ok (.invokevirtual 213, 3) := by decide +kernel
theorem dX7_digest_197 : decode cX7_digest 197 = .ok (.ladd, 1) := by decide +kernel
theorem dX7_digest_198 : decode cX7_digest 198 = .ok (.lstore_n 1, 1) := by decide +kernel
theorem dX7_digest_199 : decode cX7_digest 199 = .ok (.ldc2_w 237, 3) := by decide +kernel
theorem dX7_digest_202 : decode cX7_digest 202 = .ok (.lload_n 1, 1) := by decide +kernel
theorem dX7_digest_203 : decode cX7_digest 203 = .ok (.lmul, 1) := by decide +kernel
theorem dX7_digest_204 : decode cX7_digest 204 = .ok (.aload_n 0, 1) := by decide +kernel
theorem dX7_digest_205 : decode cX7_digest 205 = .ok (.iload_n 3, 1) := by decide +kernel
theorem dX7_digest_206 : decode cX7_digest 206 = .ok (.iconst 2, 1) := by decide +kernel
theorem dX7_digest_207 : decode cX7_digest 207 = .ok (.iconst (-1), 1) := by decide +kernel
theorem dX7_digest_208 : decode cX7_digest 208 = .ok (.iconst 1, 1) := by decide +kernel
theorem dX7_digest_209 : decode cX7_digest 209 = .ok (.invokevirtual 213, 3) := by decide +kernel
theorem dX7_digest_212 : decode cX7_digest 212 = .ok (.ladd, 1) := by decide +kernel
theorem dX7_digest_213 : decode cX7_digest 213 = .ok (.lstore_n 1, 1) := by decide +kernel
theorem dX7_digest_214 : decode cX7_digest 214 = .ok (.ldc2_w 237, 3) := by decide +kernel
theorem dX7_digest_217 : decode cX7_digest 217 = .ok (.lload_n 1, 1) := by decide +kernel
theorem dX7_digest_218 : decode cX7_digest 218 = .ok (.lmul, 1) := by decide +kernel
theorem dX7_digest_219 : decode cX7_digest 219 = .ok (.aload_n 0, 1) := by decide +kernel
theorem dX7_digest_220 : decode cX7_digest 220 = .ok (.iload_n 3, 1) := by decide +kernel
theorem dX7_digest_221 : decode cX7_digest 221 = .ok (.iconst 2, 1) := by decide +kernel
theorem dX7_digest_222 : decode cX7_digest 222 = .ok (.iconst 3, 1) := by decide +kernel
theorem dX7_digest_223 : decode cX7_digest 223 = .ok (.iconst 0, 1) := by decide +kernel
theorem dX7_digest_224 : decode cX7_digest 224 = .ok (.invokevirtual 213, 3) := by decide +kernel
theorem dX7_digest_227 : decode cX7_digest 227 = .ok (.ladd, 1) := by decide +kernel
theorem dX7_digest_228 : decode cX7_digest 228 = .ok (.lstore_n 1, 1) := by decide +kernel
theorem dX7_digest_229 : decode cX7_digest 229 = .ok (.ldc2_w 237, 3) := by decide +kernel
theorem dX7_digest_232 : decode cX7_digest 232 = .ok (.lload_n 1, 1) := by decide +kernel
theorem dX7_digest_233 : decode cX7_digest 233 = .ok (.lmul, 1) := by decide +kernel
theorem dX7_digest_234 : decode cX7_digest 234 = .ok (.aload_n 0, 1) := by decide +kernel
theorem dX7_digest_235 : decode cX7_digest 235 = .ok (.iload_n 3, 1) := by decide +kernel
theorem dX7_digest_236 : decode cX7_digest 236 = .ok (.iconst 2, 1) := by decide +kernel
theorem dX7_digest_237 : decode cX7_digest 237 = .ok (.iconst 3, 1) := by decide +kernel
theorem dX7_digest_238 : decode cX7_digest 238 = .ok (.iconst 1, 1) := by decide +kernel
theorem dX7_digest_239 : decode cX7_digest 239 = .ok (.invokevirtual 213, 3) := by decide +kernel
theorem dX7_digest_242 : decode cX7_digest 242 = .ok (.ladd, 1) := by decide +kernel
theorem dX7_digest_243 : decode cX7_digest 243 = .ok (.lstore_n 1, 1) := by decide +kernel
theorem dX7_digest_244 : decode cX7_digest 244 = .ok (.iinc 3 1, 3) := by decide +kernel
theorem dX7_digest_247 : decode cX7_digest 247 = .ok (.goto (-202), 3) := by decide +kernel
theorem dX7_digest_250 : decode cX7_digest 250 = .ok (.iconst 0, 1) := by decide +kernel
theorem dX7_digest_251 : decode cX7_digest 251 = .ok (.istore_n 3, 1) := by decide +kernel
theorem dX7_digest_252 : decode cX7_digest 252 = .ok (.iload_n 3, 1) := by decide +kernel
theorem dX7_digest_253 : decode cX7_digest 253 = .ok (.iconst 4, 1) := by decide +kernel
theorem dX7_digest_254 : decode cX7_digest 254 = .ok (.if_icmp .ge 37, 3) := by decide +kernel
theorem dX7_digest_257 : decode cX7_digest 257 = .ok (.ldc2_w 237, 3) := by decide +kernel
theorem dX7_digest_260 : decode cX7_digest 260 = .ok (.lload_n 1, 1) := by decide +kernel
theorem dX7_digest_261 : decode cX7_digest 261 = .ok (.lmul, 1) := by decide +kernel
theorem dX7_digest_262 : decode cX7_digest 262 = .ok (.aload_n 0, 1) := by decide +kernel
theorem dX7_digest_263 : decode cX7_digest 263 = .ok (.iload_n 3, 1) := by decide +kernel
theorem dX7_digest_264 : decode cX7_digest 264 = .ok (.iconst 0, 1) := by decide +kernel
theorem dX7_digest_265 : decode cX7_digest 265 = .ok (.invokevirtual 141, 3) := by decide +kernel
theorem dX7_digest_268 : decode cX7_digest 268 = .ok (.i2l, 1) := by decide +kernel
theorem dX7_digest_269 : decode cX7_digest 269 = .ok (.ladd, 1) := by decide +kernel
theorem dX7_digest_270 : decode cX7_digest 270 = .ok (.lstore_n 1, 1) := by decide +kernel
theorem dX7_digest_271 : decode cX7_digest 271 = .ok (.ldc2_w 237, 3) := by decide +kernel
theorem dX7_digest_274 : decode cX7_digest 274 = .ok (.lload_n 1, 1) := by decide +kernel
theorem dX7_digest_275 : decode cX7_digest 275 = .ok (.lmul, 1) := by decide +kernel
theorem dX7_digest_276 : decode cX7_digest 276 = .ok (.aload_n 0, 1) := by decide +kernel
theorem dX7_digest_277 : decode cX7_digest 277 = .ok (.iload_n 3, 1) := by decide +kernel
theorem dX7_digest_278 : decode cX7_digest 278 = .ok (.iconst 1, 1) := by decide +kernel
theorem dX7_digest_279 : decode cX7_digest 279 = .ok (.invokevirtual 141, 3) := by decide +kernel
theorem dX7_digest_282 : decode cX7_digest 282 = .ok (.i2l, 1) := by decide +kernel
theorem dX7_digest_283 : decode cX7_digest 283 = .ok (.ladd, 1) := by decide +kernel
theorem dX7_digest_284 : decode cX7_digest 284 = .ok (.lstore_n 1, 1) := by decide +kernel
theorem dX7_digest_285 : decode cX7_digest 285 = .ok (.iinc 3 1, 3) := by decide +kernel
theorem dX7_digest_288 : decode cX7_digest 288 = .ok (.goto (-36), 3) := by decide +kernel
theorem dX7_digest_291 : decode cX7_digest 291 = .ok (.ldc2_w 237, 3) := by decide +kernel
theorem dX7_digest_294 : decode cX7_digest 294 = .ok (.lload_n 1, 1) := by decide +kernel
theorem dX7_digest_295 : decode cX7_digest 295 = .ok (.lmul, 1) := by decide +kernel
theorem dX7_digest_296 : decode cX7_digest 296 = .ok (.aload_n 0, 1) := by decide +kernel
theorem dX7_digest_297 : decode cX7_digest 297 = .ok (.iconst 0, 1) := by decide +kernel
theorem dX7_digest_298 : decode cX7_digest 298 = .ok (.invokevirtual 169, 3) := by decide +kernel
theorem dX7_digest_301 : decode cX7_digest 301 = .ok (.i2l, 1) := by decide +kernel
theorem dX7_digest_302 : decode cX7_digest 302 = .ok (.ladd, 1) := by decide +kernel
theorem dX7_digest_303 : decode cX7_digest 303 = .ok (.lstore_n 1, 1) := by decide +kernel
theorem dX7_digest_304 : decode cX7_digest 304 = .ok (.ldc2_w 237, 3) := by decide +kernel
theorem dX7_digest_307 : decode cX7_digest 307 = .ok (.lload_n 1, 1) := by decide +kernel
theorem dX7_digest_308 : decode cX7_digest 308 = .ok (.lmul, 1) := by decide +kernel
theorem dX7_digest_309 : decode cX7_digest 309 = .ok (.aload_n 0, 1) := by decide +kernel
theorem dX7_digest_310 : decode cX7_digest 310 = .ok (.iconst 1, 1) := by decide +kernel
theorem dX7_digest_311 : decode cX7_digest 311 = .ok (.invokevirtual 169, 3) := by decide +kernel
theorem dX7_digest_314 : decode cX7_digest 314 = .ok (.i2l, 1) := by decide +kernel
theorem dX7_digest_315 : decode cX7_digest 315 = .ok (.ladd, 1) := by decide +kernel
theorem dX7_digest_316 : decode cX7_digest 316 = .ok (.lstore_n 1, 1) := by decide +kernel
theorem dX7_digest_317 : decode cX7_digest 317 = .ok (.ldc2_w 237, 3) := by decide +kernel
theorem dX7_digest_320 : decode cX7_digest 320 = .ok (.lload_n 1, 1) := by decide +kernel
theorem dX7_digest_321 : decode cX7_digest 321 = .ok (.lmul, 1) := by decide +kernel
theorem dX7_digest_322 : decode cX7_digest 322 = .ok (.aload_n 0, 1) := by decide +kernel
theorem dX7_digest_323 : decode cX7_digest 323 = .ok (.iconst 0, 1) := by decide +kernel
theorem dX7_digest_324 : decode cX7_digest 324 = .ok (.sipush 900, 3) := by decide +kernel
theorem dX7_digest_327 : decode cX7_digest 327 = .ok (.iconst 0, 1) := by decide +kernel
theorem dX7_digest_328 : decode cX7_digest 328 = .ok (.invokevirtual 242, 3) := by decide +kernel
theorem dX7_digest_331 : decode cX7_digest 331 = .ok (.i2l, 1) := by decide +kernel
theorem dX7_digest_332 : decode cX7_digest 332 = .ok (.ladd, 1) := by decide +kernel
theorem dX7_digest_333 : decode cX7_digest 333 = .ok (.lstore_n 1, 1) := by decide +kernel
theorem dX7_digest_334 : decode cX7_digest 334 = .ok (.ldc2_w 237, 3) := by decide +kernel
theorem dX7_digest_337 : decode cX7_digest 337 = .ok (.lload_n 1, 1) := by decide +kernel
theorem dX7_digest_338 : decode cX7_digest 338 = .ok (.lmul, 1) := by decide +kernel
theorem dX7_digest_339 : decode cX7_digest 339 = .ok (.aload_n 0, 1) := by decide +kernel
theorem dX7_digest_340 : decode cX7_digest 340 = .ok (.iconst 0, 1) := by decide +kernel
theorem dX7_digest_341 : decode cX7_digest 341 = .ok (.invokevirtual 192, 3) := by decide +kernel
theorem dX7_digest_344 : decode cX7_digest 344 = .ok (.i2l, 1) := by decide +kernel
theorem dX7_digest_345 : decode cX7_digest 345 = .ok (.ladd, 1) := by decide +kernel
theorem dX7_digest_346 : decode cX7_digest 346 = .ok (.lstore_n 1, 1) := by decide +kernel
theorem dX7_digest_347 : decode cX7_digest 347 = .ok (.ldc2_w 237, 3) := by decide +kernel
theorem dX7_digest_350 : decode cX7_digest 350 = .ok (.lload_n 1, 1) := by decide +kernel
theorem dX7_digest_351 : decode cX7_digest 351 = .ok (.lmul, 1) := by decide +kernel
theorem dX7_digest_352 : decode cX7_digest 352 = .ok (.aload_n 0, 1) := by decide +kernel
theorem dX7_digest_353 : decode cX7_digest 353 = .ok (.iconst 1, 1) := by decide +kernel
theorem dX7_digest_354 : decode cX7_digest 354 = .ok (.invokevirtual 192, 3) := by decide +kernel
theorem dX7_digest_357 : decode cX7_digest 357 = .ok (.i2l, 1) := by decide +kernel
theorem dX7_digest_358 : decode cX7_digest 358 = .ok (.ladd, 1) := by decide +kernel
theorem dX7_digest_359 : decode cX7_digest 359 = .ok (.lstore_n 1, 1) := by decide +kernel
theorem dX7_digest_360 : decode cX7_digest 360 = .ok (.ldc2_w 237, 3) := by decide +kernel
theorem dX7_digest_363 : decode cX7_digest 363 = .ok (.lload_n 1, 1) := by decide +kernel
theorem dX7_digest_364 : decode cX7_digest 364 = .ok (.lmul, 1) := by decide +kernel
theorem dX7_digest_365 : decode cX7_digest 365 = .ok (.aload_n 0, 1) := by decide +kernel
theorem dX7_digest_366 : decode cX7_digest 366 = .ok (.iconst (-1), 1) := by decide +kernel
theorem dX7_digest_367 : decode cX7_digest 367 = .ok (.invokevirtual 198, 3) := by decide +kernel
theorem dX7_digest_370 : decode cX7_digest 370 = .ok (.i2l, 1) := by decide +kernel
theorem dX7_digest_371 : decode cX7_digest 371 = .ok (.ladd, 1) := by decide +kernel
theorem dX7_digest_372 : decode cX7_digest 372 = .ok (.lstore_n 1, 1) := by decide +kernel
theorem dX7_digest_373 : decode cX7_digest 373 = .ok (.ldc2_w 237, 3) := by decide +kernel
theorem dX7_digest_376 : decode cX7_digest 376 = .ok (.lload_n 1, 1) := by decide +kernel
theorem dX7_digest_377 : decode cX7_digest 377 = .ok (.lmul, 1) := by decide +kernel
theorem dX7_digest_378 : decode cX7_digest 378 = .ok (.aload_n 0, 1) := by decide +kernel
theorem dX7_digest_379 : decode cX7_digest 379 = .ok (.iconst 0, 1) := by decide +kernel
theorem dX7_digest_380 : decode cX7_digest 380 = .ok (.invokevirtual 204, 3) := by decide +kernel
theorem dX7_digest_383 : decode cX7_digest 383 = .ok (.i2l, 1) := by decide +kernel
theorem dX7_digest_384 : decode cX7_digest 384 = .ok (.ladd, 1) := by decide +kernel
theorem dX7_digest_385 : decode cX7_digest 385 = .ok (.lstore_n 1, 1) := by decide +kernel
theorem dX7_digest_386 : decode cX7_digest 386 = .ok (.ldc2_w 237, 3) := by decide +kernel
theorem dX7_digest_389 : decode cX7_digest 389 = .ok (.lload_n 1, 1) := by decide +kernel
theorem dX7_digest_390 : decode cX7_digest 390 = .ok (.lmul, 1) := by decide +kernel
theorem dX7_digest_391 : decode cX7_digest 391 = .ok (.aload_n 0, 1) := by decide +kernel
theorem dX7_digest_392 : decode cX7_digest 392 = .ok (.iconst 1, 1) := by decide +kernel
theorem dX7_digest_393 : decode cX7_digest 393 = .ok (.invokevirtual 204, 3) := by decide +kernel
theorem dX7_digest_396 : decode cX7_digest 396 = .ok (.i2l, 1) := by decide +kernel
theorem dX7_digest_397 : decode cX7_digest 397 = .ok (.ladd, 1) := by decide +kernel
theorem dX7_digest_398 : decode cX7_digest 398 = .ok (.lreturn, 1) := by decide +kernel
theorem dJ6_bitCount_0f7a4_0 : decode cJ6_bitCount_0f7a4 0 = .ok (.iload_n 0, 1) := by decide +kernel
theorem dJ6_bitCount_0f7a4_1 : decode cJ6_bitCount_0f7a4 1 = .ok (.iload_n 0, 1) := by decide +kernel
theorem dJ6_bitCount_0f7a4_2 : decode cJ6_bitCount_0f7a4 2 = .ok (.iconst 1, 1) := by decide +kernel
theorem dJ6_bitCount_0f7a4_3 : decode cJ6_bitCount_0f7a4 3 = .ok (.iushr, 1) := by decide +kernel
theorem dJ6_bitCount_0f7a4_4 : decode cJ6_bitCount_0f7a4 4 = .ok (.ldc_w 265, 3) := by decide +kernel
theorem dJ6_bitCount_0f7a4_7 : decode cJ6_bitCount_0f7a4 7 = .ok (.iand, 1) := by decide +kernel
theorem dJ6_bitCount_0f7a4_8 : decode cJ6_bitCount_0f7a4 8 = .ok (.isub, 1) := by decide +kernel
theorem dJ6_bitCount_0f7a4_9 : decode cJ6_bitCount_0f7a4 9 = .ok (.istore_n 0, 1) := by decide +kernel
theorem dJ6_bitCount_0f7a4_10 : decode cJ6_bitCount_0f7a4 10 = .ok (.iload_n 0, 1) := by decide +kernel
theorem dJ6_bitCount_0f7a4_11 : decode cJ6_bitCount_0f7a4 11 = .ok (.ldc_w 266, 3) := by decide +kernel
theorem dJ6_bitCount_0f7a4_14 : decode cJ6_bitCount_0f7a4 14 = .ok (.iand, 1) := by decide +kernel
theorem dJ6_bitCount_0f7a4_15 : decode cJ6_bitCount_0f7a4 15 = .ok (.iload_n 0, 1) := by decide +kernel
theorem dJ6_bitCount_0f7a4_16 : decode cJ6_bitCount_0f7a4 16 = .ok (.iconst 2, 1) := by decide +kernel
theorem dJ6_bitCount_0f7a4_17 : decode cJ6_bitCount_0f7a4 17 = .ok (.iushr, 1) := by decide +kernel
theorem dJ6_bitCount_0f7a4_18 : decode cJ6_bitCount_0f7a4 18 = .ok (.ldc_w 266, 3) := by decide +kernel
theorem dJ6_bitCount_0f7a4_21 : decode cJ6_bitCount_0f7a4 21 = .ok (.iand, 1) := by decide +kernel
theorem dJ6_bitCount_0f7a4_22 : decode cJ6_bitCount_0f7a4 22 = .ok (.iadd, 1) := by decide +kernel
theorem dJ6_bitCount_0f7a4_23 : decode cJ6_bitCount_0f7a4 23 = .ok (.istore_n 0, 1) := by decide +kernel
theorem dJ6_bitCount_0f7a4_24 : decode cJ6_bitCount_0f7a4 24 = .ok (.iload_n 0, 1) := by decide +kernel
theorem dJ6_bitCount_0f7a4_25 : decode cJ6_bitCount_0f7a4 25 = .ok (.iload_n 0, 1) := by decide +kernel
theorem dJ6_bitCount_0f7a4_26 : decode cJ6_bitCount_0f7a4 26 = .ok (.iconst 4, 1) := by decide +kernel
theorem dJ6_bitCount_0f7a4_27 : decode cJ6_bitCount_0f7a4 27 = .ok (.iushr, 1) := by decide +kernel
theorem dJ6_bitCount_0f7a4_28 : decode cJ6_bitCount_0f7a4 28 = .ok (.iadd, 1) := by decide +kernel
theorem dJ6_bitCount_0f7a4_29 : decode cJ6_bitCount_0f7a4 29 = .ok (.ldc_w 267, 3) := by decide +kernel
theorem dJ6_bitCount_0f7a4_32 : decode cJ6_bitCount_0f7a4 32 = .ok (.iand, 1) := by decide +kernel
theorem dJ6_bitCount_0f7a4_33 : decode cJ6_bitCount_0f7a4 33 = .ok (.istore_n 0, 1) := by decide +kernel
theorem dJ6_bitCount_0f7a4_34 : decode cJ6_bitCount_0f7a4 34 = .ok (.iload_n 0, 1) := by decide +kernel
theorem dJ6_bitCount_0f7a4_35 : decode cJ6_bitCount_0f7a4 35 = .ok (.iload_n 0, 1) := by decide +kernel
theorem dJ6_bitCount_0f7a4_36 : decode cJ6_bitCount_0f7a4 36 = .ok (.bipush 8, 2) := by decide +kernel
theorem dJ6_bitCount_0f7a4_38 : decode cJ6_bitCount_0f7a4 38 = .ok (.iushr, 1) := by decide +kernel
theorem dJ6_bitCount_0f7a4_39 : decode cJ6_bitCount_0f7a4 39 = .ok (.iadd, 1) := by decide +kernel
theorem dJ6_bitCount_0f7a4_40 : decode cJ6_bitCount_0f7a4 40 = .ok (.istore_n 0, 1) := by decide +kernel
theorem dJ6_bitCount_0f7a4_41 : decode cJ6_bitCount_0f7a4 41 = .ok (.iload_n 0, 1) := by decide +kernel
theorem dJ6_bitCount_0f7a4_42 : decode cJ6_bitCount_0f7a4 42 = .ok (.iload_n 0, 1) := by decide +kernel
theorem dJ6_bitCount_0f7a4_43 : decode cJ6_bitCount_0f7a4 43 = .ok (.bipush 16, 2) := by decide +kernel
theorem dJ6_bitCount_0f7a4_45 : decode cJ6_bitCount_0f7a4 45 = .ok (.iushr, 1) := by decide +kernel
theorem dJ6_bitCount_0f7a4_46 : decode cJ6_bitCount_0f7a4 46 = .ok (.iadd, 1) := by decide +kernel
theorem dJ6_bitCount_0f7a4_47 : decode cJ6_bitCount_0f7a4 47 = .ok (.istore_n 0, 1) := by decide +kernel
theorem dJ6_bitCount_0f7a4_48 : decode cJ6_bitCount_0f7a4 48 = .ok (.iload_n 0, 1) := by decide +kernel
theorem dJ6_bitCount_0f7a4_49 : decode cJ6_bitCount_0f7a4 49 = .ok (.bipush 63, 2) := by decide +kernel
theorem dJ6_bitCount_0f7a4_51 : decode cJ6_bitCount_0f7a4 51 = .ok (.iand, 1) := by decide +kernel
theorem dJ6_bitCount_0f7a4_52 : decode cJ6_bitCount_0f7a4 52 = .ok (.ireturn, 1) := by decide +kernel
theorem dJ9_abs_0f7a4_0 : decode cJ9_abs_0f7a4 0 = .ok (.iload_n 0, 1) := by decide +kernel
theorem dJ9_abs_0f7a4_1 : decode cJ9_abs_0f7a4 1 = .ok (.ifCond .ge 8, 3) := by decide +kernel
theorem dJ9_abs_0f7a4_4 : decode cJ9_abs_0f7a4 4 = .ok (.iload_n 0, 1) := by decide +kernel
theorem dJ9_abs_0f7a4_5 : decode cJ9_abs_0f7a4 5 = .ok (.ineg, 1) := by decide +kernel
theorem dJ9_abs_0f7a4_6 : decode cJ9_abs_0f7a4 6 = .ok (.goto 4, 3) := by decide +kernel
theorem dJ9_abs_0f7a4_9 : decode cJ9_abs_0f7a4 9 = .ok (.iload_n 0, 1) := by decide +kernel
theorem dJ9_abs_0f7a4_10 : decode cJ9_abs_0f7a4 10 = .ok (.ireturn, 1) := by decide +kernel
theorem dJ9_max_7cf53_0 : decode cJ9_max_7cf53 0 = .ok (.iload_n 0, 1) := by decide +kernel
theorem dJ9_max_7cf53_1 : decode cJ9_max_7cf53 1 = .ok (.iload_n 1, 1) := by decide +kernel
theorem dJ9_max_7cf53_2 : decode cJ9_max_7cf53 2 = .ok (.if_icmp .lt 7, 3) := by decide +kernel
theorem dJ9_max_7cf53_5 : decode cJ9_max_7cf53 5 = .ok (.iload_n 0, 1) := by decide +kernel
theorem dJ9_max_7cf53_6 : decode cJ9_max_7cf53 6 = .ok (.goto 4, 3) := by decide +kernel
theorem dJ9_max_7cf53_9 : decode cJ9_max_7cf53 9 = .ok (.iload_n 1, 1) := by decide +kernel
theorem dJ9_max_7cf53_10 : decode cJ9_max_7cf53 10 = .ok (.ireturn, 1) := by decide +kernel
theorem dJ9_min_7cf53_0 : decode cJ9_min_7cf53 0 = .ok (.iload_n 0, 1) := by decide +kernel
theorem dJ9_min_7cf53_1 : decode cJ9_min_7cf53 1 = .ok (.iload_n 1, 1) := by decide +kernel
theorem dJ9_min_7cf53_2 : decode cJ9_min_7cf53 2 = .ok (.if_icmp .gt 7, 3) := by decide +kernel
theorem dJ9_min_7cf53_5 : decode cJ9_min_7cf53 5 = .ok (.iload_n 0, 1) := by decide +kernel
theorem dJ9_min_7cf53_6 : decode cJ9_min_7cf53 6 = .ok (.goto 4, 3) := by decide +kernel
theorem dJ9_min_7cf53_9 : decode cJ9_min_7cf53 9 = .ok (.iload_n 1, 1) := by decide +kernel
theorem dJ9_min_7cf53_10 : decode cJ9_min_7cf53 10 = .ok (.ireturn, 1) := by decide +kernel
theorem dJ7_fill_d0a16_0 : decode cJ7_fill_d0a16 0 = .ok (.iconst 0, 1) := by decide +kernel
theorem dJ7_fill_d0a16_1 : decode cJ7_fill_d0a16 1 = .ok (.istore_n 3, 1) := by decide +kernel
theorem dJ7_fill_d0a16_2 : decode cJ7_fill_d0a16 2 = .ok (.aload_n 0, 1) := by decide +kernel
theorem dJ7_fill_d0a16_3 : decode cJ7_fill_d0a16 3 = .ok (.arraylength, 1) := by decide +kernel
theorem dJ7_fill_d0a16_4 : decode cJ7_fill_d0a16 4 = .ok (.istore 4, 2) := by decide +kernel
theorem dJ7_fill_d0a16_6 : decode cJ7_fill_d0a16 6 = .ok (.iload_n 3, 1) := by decide +kernel
theorem dJ7_fill_d0a16_7 : decode cJ7_fill_d0a16 7 = .ok (.iload 4, 2) := by decide +kernel
theorem dJ7_fill_d0a16_9 : decode cJ7_fill_d0a16 9 = .ok (.if_icmp .ge 13, 3) := by decide +kernel
theorem dJ7_fill_d0a16_12 : decode cJ7_fill_d0a16 12 = .ok (.aload_n 0, 1) := by decide +kernel
theorem dJ7_fill_d0a16_13 : decode cJ7_fill_d0a16 13 = .ok (.iload_n 3, 1) := by decide +kernel
theorem dJ7_fill_d0a16_14 : decode cJ7_fill_d0a16 14 = .ok (.lload_n 1, 1) := by decide +kernel
theorem dJ7_fill_d0a16_15 : decode cJ7_fill_d0a16 15 = .ok (.lastore, 1) := by decide +kernel
theorem dJ7_fill_d0a16_16 : decode cJ7_fill_d0a16 16 = .ok (.iinc 3 1, 3) := by decide +kernel
theorem dJ7_fill_d0a16_19 : decode cJ7_fill_d0a16 19 = .ok (.goto (-13), 3) := by decide +kernel
theorem dJ7_fill_d0a16_22 : decode cJ7_fill_d0a16 22 = .ok (.return_, 1) := by decide +kernel
theorem dJ7_fill_53178_0 : decode cJ7_fill_53178 0 = .ok (.iconst 0, 1) := by decide +kernel
theorem dJ7_fill_53178_1 : decode cJ7_fill_53178 1 = .ok (.istore_n 2, 1) := by decide +kernel
theorem dJ7_fill_53178_2 : decode cJ7_fill_53178 2 = .ok (.aload_n 0, 1) := by decide +kernel
theorem dJ7_fill_53178_3 : decode cJ7_fill_53178 3 = .ok (.arraylength, 1) := by decide +kernel
theorem dJ7_fill_53178_4 : decode cJ7_fill_53178 4 = .ok (.istore_n 3, 1) := by decide +kernel
theorem dJ7_fill_53178_5 : decode cJ7_fill_53178 5 = .ok (.iload_n 2, 1) := by decide +kernel
theorem dJ7_fill_53178_6 : decode cJ7_fill_53178 6 = .ok (.iload_n 3, 1) := by decide +kernel
theorem dJ7_fill_53178_7 : decode cJ7_fill_53178 7 = .ok (.if_icmp .ge 13, 3) := by decide +kernel
theorem dJ7_fill_53178_10 : decode cJ7_fill_53178 10 = .ok (.aload_n 0, 1) := by decide +kernel
theorem dJ7_fill_53178_11 : decode cJ7_fill_53178 11 = .ok (.iload_n 2, 1) := by decide +kernel
theorem dJ7_fill_53178_12 : decode cJ7_fill_53178 12 = .ok (.iload_n 1, 1) := by decide +kernel
theorem dJ7_fill_53178_13 : decode cJ7_fill_53178 13 = .ok (.iastore, 1) := by decide +kernel
theorem dJ7_fill_53178_14 : decode cJ7_fill_53178 14 = .ok (.iinc 2 1, 3) := by decide +kernel
theorem dJ7_fill_53178_17 : decode cJ7_fill_53178 17 = .ok (.goto (-12), 3) := by decide +kernel
theorem dJ7_fill_53178_20 : decode cJ7_fill_53178 20 = .ok (.return_, 1) := by decide +kernel
theorem dL_law_0 : decode cL_law 0 = .ok (.new 7, 3) := by decide +kernel
theorem dL_law_3 : decode cL_law 3 = .ok (.dup, 1) := by decide +kernel
theorem dL_law_4 : decode cL_law 4 = .ok (.invokespecial 9, 3) := by decide +kernel
theorem dL_law_7 : decode cL_law 7 = .ok (.astore_n 1, 1) := by decide +kernel
theorem dL_law_8 : decode cL_law 8 = .ok (.new 10, 3) := by decide +kernel
theorem dL_law_11 : decode cL_law 11 = .ok (.dup, 1) := by decide +kernel
theorem dL_law_12 : decode cL_law 12 = .ok (.invokespecial 12, 3) := by decide +kernel
theorem dL_law_15 : decode cL_law 15 = .ok (.astore_n 2, 1) := by decide +kernel
theorem dL_law_16 : decode cL_law 16 = .ok (.iconst 0, 1) := by decide +kernel
theorem dL_law_17 : decode cL_law 17 = .ok (.istore_n 3, 1) := by decide +kernel
theorem dL_law_18 : decode cL_law 18 = .ok (.iload_n 3, 1) := by decide +kernel
theorem dL_law_19 : decode cL_law 19 = .ok (.aload_n 0, 1) := by decide +kernel
theorem dL_law_20 : decode cL_law 20 = .ok (.arraylength, 1) := by decide +kernel
theorem dL_law_21 : decode cL_law 21 = .ok (.bipush 6, 2) := by decide +kernel
theorem dL_law_23 : decode cL_law 23 = .ok (.isub, 1) := by decide +kernel
theorem dL_law_24 : decode cL_law 24 = .ok (.if_icmp .gt 1344, 3) := by decide +kernel
theorem dL_law_27 : decode cL_law 27 = .ok (.aload_n 0, 1) := by decide +kernel
theorem dL_law_28 : decode cL_law 28 = .ok (.iload_n 3, 1) := by decide +kernel
theorem dL_law_29 : decode cL_law 29 = .ok (.iaload, 1) := by decide +kernel
theorem dL_law_30 : decode cL_law 30 = .ok (.bipush 63, 2) := by decide +kernel
theorem dL_law_32 : decode cL_law 32 = .ok (.iand, 1) := by decide +kernel
theorem dL_law_33 : decode cL_law 33 = .ok (.tableswitch 1329 0 35 #[159, 182, 195, 208, 241, 274, 307, 330, 363, 396, 439, 472, 505, 538, 561, 604, 637, 680, 723, 756, 789, 812, 855, 878, 911, 924, 947, 980, 1034, 1077, 1100, 1153, 1196, 1259, 1292, 1315], 159) := by decide +kernel
theorem dL_law_192 : decode cL_law 192 = .ok (.aload_n 1, 1) := by decide +kernel
theorem dL_law_193 : decode cL_law 193 = .ok (.aload_n 0, 1) := by decide +kernel
theorem dL_law_194 : decode cL_law 194 = .ok (.iload_n 3, 1) := by decide +kernel
theorem dL_law_195 : decode cL_law 195 = .ok (.iconst 1, 1) := by decide +kernel
theorem dL_law_196 : decode cL_law 196 = .ok (.iadd, 1) := by decide +kernel
theorem dL_law_197 : decode cL_law 197 = .ok (.iaload, 1) := by decide +kernel
theorem dL_law_198 : decode cL_law 198 = .ok (.invokevirtual 13, 3) := by decide +kernel
theorem dL_law_201 : decode cL_law 201 = .ok (.aload_n 2, 1) := by decide +kernel
theorem dL_law_202 : decode cL_law 202 = .ok (.aload_n 0, 1) := by decide +kernel
theorem dL_law_203 : decode cL_law 203 = .ok (.iload_n 3, 1) := by decide +kernel
theorem dL_law_204 : decode cL_law 204 = .ok (.iconst 1, 1) := by decide +kernel
theorem dL_law_205 : decode cL_law 205 = .ok (.iadd, 1) := by decide +kernel
theorem dL_law_206 : decode cL_law 206 = .ok (.iaload, 1) := by decide +kernel
theorem dL_law_207 : decode cL_law 207 = .ok (.invokevirtual 17, 3) := by decide +kernel
theorem dL_law_210 : decode cL_law 210 = .ok (.if_icmp .eq 1152, 3) := by decide +kernel
theorem dL_law_213 : decode cL_law 213 = .ok (.iconst 0, 1) := by decide +kernel
theorem dL_law_214 : decode cL_law 214 = .ok (.ireturn, 1) := by decide +kernel
theorem dL_law_215 : decode cL_law 215 = .ok (.aload_n 1, 1) := by decide +kernel
theorem dL_law_216 : decode cL_law 216 = .ok (.invokevirtual 18, 3) := by decide +kernel
theorem dL_law_219 : decode cL_law 219 = .ok (.aload_n 2, 1) := by decide +kernel
theorem dL_law_220 : decode cL_law 220 = .ok (.invokevirtual 22, 3) := by decide +kernel
theorem dL_law_223 : decode cL_law 223 = .ok (.if_icmp .eq 1139, 3) := by decide +kernel
theorem dL_law_226 : decode cL_law 226 = .ok (.iconst 0, 1) := by decide +kernel
theorem dL_law_227 : decode cL_law 227 = .ok (.ireturn, 1) := by decide +kernel
theorem dL_law_228 : decode cL_law 228 = .ok (.aload_n 1, 1) := by decide +kernel
theorem dL_law_229 : decode cL_law 229 = .ok (.invokevirtual 23, 3) := by decide +kernel
theorem dL_law_232 : decode cL_law 232 = .ok (.aload_n 2, 1) := by decide +kernel
theorem dL_law_233 : decode cL_law 233 = .ok (.invokevirtual 26, 3) := by decide +kernel
theorem dL_law_236 : decode cL_law 236 = .ok (.if_icmp .eq 1126, 3) := by decide +kernel
theorem dL_law_239 : decode cL_law 239 = .ok (.iconst 0, 1) := by decide +kernel
theorem dL_law_240 : decode cL_law 240 = .ok (.ireturn, 1) := by decide +kernel
theorem dL_law_241 : decode cL_law 241 = .ok (.aload_n 1, 1) := by decide +kernel
theorem dL_law_242 : decode cL_law 242 = .ok (.aload_n 0, 1) := by decide +kernel
theorem dL_law_243 : decode cL_law 243 = .ok (.iload_n 3, 1) := by decide +kernel
theorem dL_law_244 : decode cL_law 244 = .ok (.iconst 1, 1) := by decide +kernel
theorem dL_law_245 : decode cL_law 245 = .ok (.iadd, 1) := by decide +kernel
theorem dL_law_246 : decode cL_law 246 = .ok (.iaload, 1) := by decide +kernel
theorem dL_law_247 : decode cL_law 247 = .ok (.aload_n 0, 1) := by decide +kernel
theorem dL_law_248 : decode cL_law 248 = .ok (.iload_n 3, 1) := by decide +kernel
theorem dL_law_249 : decode cL_law 249 = .ok (.iconst 2, 1) := by decide +kernel
theorem dL_law_250 : decode cL_law 250 = .ok (.iadd, 1) := by decide +kernel
theorem dL_law_251 : decode cL_law 251 = .ok (.iaload, 1) := by decide +kernel
theorem dL_law_252 : decode cL_law 252 = .ok (.invokevirtual 27, 3) := by decide +kernel
theorem dL_law_255 : decode cL_law 255 = .ok (.aload_n 2, 1) := by decide +kernel
theorem dL_law_256 : decode cL_law 256 = .ok (.aload_n 0, 1) := by decide +kernel
theorem dL_law_257 : decode cL_law 257 = .ok (.iload_n 3, 1) := by decide +kernel
theorem dL_law_258 : decode cL_law 258 = .ok (.iconst 1, 1) := by decide +kernel
theorem dL_law_259 : decode cL_law 259 = .ok (.iadd, 1) := by decide +kernel
theorem dL_law_260 : decode cL_law 260 = .ok (.iaload, 1) := by decide +kernel
theorem dL_law_261 : decode cL_law 261 = .ok (.aload_n 0, 1) := by decide +kernel
theorem dL_law_262 : decode cL_law 262 = .ok (.iload_n 3, 1) := by decide +kernel
theorem dL_law_263 : decode cL_law 263 = .ok (.iconst 2, 1) := by decide +kernel
theorem dL_law_264 : decode cL_law 264 = .ok (.iadd, 1) := by decide +kernel
theorem dL_law_265 : decode cL_law 265 = .ok (.iaload, 1) := by decide +kernel
theorem dL_law_266 : decode cL_law 266 = .ok (.invokevirtual 31, 3) := by decide +kernel
theorem dL_law_269 : decode cL_law 269 = .ok (.if_icmp .eq 1093, 3) := by decide +kernel
theorem dL_law_272 : decode cL_law 272 = .ok (.iconst 0, 1) := by decide +kernel
theorem dL_law_273 : decode cL_law 273 = .ok (.ireturn, 1) := by decide +kernel
theorem dL_law_274 : decode cL_law 274 = .ok (.aload_n 1, 1) := by decide +kernel
theorem dL_law_275 : decode cL_law 275 = .ok (.aload_n 0, 1) := by decide +kernel
theorem dL_law_276 : decode cL_law 276 = .ok (.iload_n 3, 1) := by decide +kernel
theorem dL_law_277 : decode cL_law 277 = .ok (.iconst 1, 1) := by decide +kernel
theorem dL_law_278 : decode cL_law 278 = .ok (.iadd, 1) := by decide +kernel
theorem dL_law_279 : decode cL_law 279 = .ok (.iaload, 1) := by decide +kernel
theorem dL_law_280 : decode cL_law 280 = .ok (.aload_n 0, 1) := by decide +kernel
theorem dL_law_281 : decode cL_law 281 = .ok (.iload_n 3, 1) := by decide +kernel
theorem dL_law_282 : decode cL_law 282 = .ok (.iconst 2, 1) := by decide +kernel
theorem dL_law_283 : decode cL_law 283 = .ok (.iadd, 1) := by decide +kernel
theorem dL_law_284 : decode cL_law 284 = .ok (.iaload, 1) := by decide +kernel
theorem dL_law_285 : decode cL_law 285 = .ok (.invokevirtual 32, 3) := by decide +kernel
theorem dL_law_288 : decode cL_law 288 = .ok (.aload_n 2, 1) := by decide +kernel
theorem dL_law_289 : decode cL_law 289 = .ok (.aload_n 0, 1) := by decide +kernel
theorem dL_law_290 : decode cL_law 290 = .ok (.iload_n 3, 1) := by decide +kernel
theorem dL_law_291 : decode cL_law 291 = .ok (.iconst 1, 1) := by decide +kernel
theorem dL_law_292 : decode cL_law 292 = .ok (.iadd, 1) := by decide +kernel
theorem dL_law_293 : decode cL_law 293 = .ok (.iaload, 1) := by decide +kernel
theorem dL_law_294 : decode cL_law 294 = .ok (.aload_n 0, 1) := by decide +kernel
theorem dL_law_295 : decode cL_law 295 = .ok (.iload_n 3, 1) := by decide +kernel
theorem dL_law_296 : decode cL_law 296 = .ok (.iconst 2, 1) := by decide +kernel
theorem dL_law_297 : decode cL_law 297 = .ok (.iadd, 1) := by decide +kernel
theorem dL_law_298 : decode cL_law 298 = .ok (.iaload, 1) := by decide +kernel
theorem dL_law_299 : decode cL_law 299 = .ok (.invokevirtual 35, 3) := by decide +kernel
theorem dL_law_302 : decode cL_law 302 = .ok (.if_icmp .eq 1060, 3) := by decide +kernel
theorem dL_law_305 : decode cL_law 305 = .ok (.iconst 0, 1) := by decide +kernel
theorem dL_law_306 : decode cL_law 306 = .ok (.ireturn, 1) := by decide +kernel
theorem dL_law_307 : decode cL_law 307 = .ok (.aload_n 1, 1) := by decide +kernel
theorem dL_law_308 : decode cL_law 308 = .ok (.aload_n 0, 1) := by decide +kernel
theorem dL_law_309 : decode cL_law 309 = .ok (.iload_n 3, 1) := by decide +kernel
theorem dL_law_310 : decode cL_law 310 = .ok (.iconst 1, 1) := by decide +kernel
theorem dL_law_311 : decode cL_law 311 = .ok (.iadd, 1) := by decide +kernel
theorem dL_law_312 : decode cL_law 312 = .ok (.iaload, 1) := by decide +kernel
theorem dL_law_313 : decode cL_law 313 = .ok (.aload_n 0, 1) := by decide +kernel
theorem dL_law_314 : decode cL_law 314 = .ok (.iload_n 3, 1) := by decide +kernel
theorem dL_law_315 : decode cL_law 315 = .ok (.iconst 2, 1) := by decide +kernel
theorem dL_law_316 : decode cL_law 316 = .ok (.iadd, 1) := by decide +kernel
theorem dL_law_317 : decode cL_law 317 = .ok (.iaload, 1) := by decide +kernel
theorem dL_law_318 : decode cL_law 318 = .ok (.invokevirtual 36, 3) := by decide +kernel
theorem dL_law_321 : decode cL_law 321 = .ok (.aload_n 2, 1) := by decide +kernel
theorem dL_law_322 : decode cL_law 322 = .ok (.aload_n 0, 1) := by decide +kernel
theorem dL_law_323 : decode cL_law 323 = .ok (.iload_n 3, 1) := by decide +kernel
theorem dL_law_324 : decode cL_law 324 = .ok (.iconst 1, 1) := by decide +kernel
theorem dL_law_325 : decode cL_law 325 = .ok (.iadd, 1) := by decide +kernel
theorem dL_law_326 : decode cL_law 326 = .ok (.iaload, 1) := by decide +kernel
theorem dL_law_327 : decode cL_law 327 = .ok (.aload_n 0, 1) := by decide +kernel
theorem dL_law_328 : decode cL_law 328 = .ok (.iload_n 3, 1) := by decide +kernel
theorem dL_law_329 : decode cL_law 329 = .ok (.iconst 2, 1) := by decide +kernel
theorem dL_law_330 : decode cL_law 330 = .ok (.iadd, 1) := by decide +kernel
theorem dL_law_331 : decode cL_law 331 = .ok (.iaload, 1) := by decide +kernel
theorem dL_law_332 : decode cL_law 332 = .ok (.invokevirtual 39, 3) := by decide +kernel
theorem dL_law_335 : decode cL_law 335 = .ok (.if_icmp .eq 1027, 3) := by decide +kernel
theorem dL_law_338 : decode cL_law 338 = .ok (.iconst 0, 1) := by decide +kernel
theorem dL_law_339 : decode cL_law 339 = .ok (.ireturn, 1) := by decide +kernel
theorem dL_law_340 : decode cL_law 340 = .ok (.aload_n 1, 1) := by decide +kernel
theorem dL_law_341 : decode cL_law 341 = .ok (.aload_n 0, 1) := by decide +kernel
theorem dL_law_342 : decode cL_law 342 = .ok (.iload_n 3, 1) := by decide +kernel
theorem dL_law_343 : decode cL_law 343 = .ok (.iconst 1, 1) := by decide +kernel
theorem dL_law_344 : decode cL_law 344 = .ok (.iadd, 1) := by decide +kernel
theorem dL_law_345 : decode cL_law 345 = .ok (.iaload, 1) := by decide +kernel
theorem dL_law_346 : decode cL_law 346 = .ok (.invokevirtual 40, 3) := by decide +kernel
theorem dL_law_349 : decode cL_law 349 = .ok (.aload_n 2, 1) := by decide +kernel
theorem dL_law_350 : decode cL_law 350 = .ok (.aload_n 0, 1) := by decide +kernel
theorem dL_law_351 : decode cL_law 351 = .ok (.iload_n 3, 1) := by decide +kernel
theorem dL_law_352 : decode cL_law 352 = .ok (.iconst 1, 1) := by decide +kernel
theorem dL_law_353 : decode cL_law 353 = .ok (.iadd, 1) := by decide +kernel
theorem dL_law_354 : decode cL_law 354 = .ok (.iaload, 1) := by decide +kernel
theorem dL_law_355 : decode cL_law 355 = .ok (.invokevirtual 43, 3) := by decide +kernel
theorem dL_law_358 : decode cL_law 358 = .ok (.if_icmp .eq 1004, 3) := by decide +kernel
theorem dL_law_361 : decode cL_law 361 = .ok (.iconst 0, 1) := by decide +kernel
theorem dL_law_362 : decode cL_law 362 = .ok (.ireturn, 1) := by decide +kernel
theorem dL_law_363 : decode cL_law 363 = .ok (.aload_n 1, 1) := by decide +kernel
theorem dL_law_364 : decode cL_law 364 = .ok (.aload_n 0, 1) := by decide +kernel
theorem dL_law_365 : decode cL_law 365 = .ok (.iload_n 3, 1) := by decide +kernel
theorem dL_law_366 : decode cL_law 366 = .ok (.iconst 1, 1) := by decide +kernel
theorem dL_law_367 : decode cL_law 367 = .ok (.iadd, 1) := by decide +kernel
theorem dL_law_368 : decode cL_law 368 = .ok (.iaload, 1) := by decide +kernel
theorem dL_law_369 : decode cL_law 369 = .ok (.aload_n 0, 1) := by decide +kernel
theorem dL_law_370 : decode cL_law 370 = .ok (.iload_n 3, 1) := by decide +kernel
theorem dL_law_371 : decode cL_law 371 = .ok (.iconst 2, 1) := by decide +kernel
theorem dL_law_372 : decode cL_law 372 = .ok (.iadd, 1) := by decide +kernel
theorem dL_law_373 : decode cL_law 373 = .ok (.iaload, 1) := by decide +kernel
theorem dL_law_374 : decode cL_law 374 = .ok (.invokevirtual 44, 3) := by decide +kernel
theorem dL_law_377 : decode cL_law 377 = .ok (.aload_n 2, 1) := by decide +kernel
theorem dL_law_378 : decode cL_law 378 = .ok (.aload_n 0, 1) := by decide +kernel
theorem dL_law_379 : decode cL_law 379 = .ok (.iload_n 3, 1) := by decide +kernel
theorem dL_law_380 : decode cL_law 380 = .ok (.iconst 1, 1) := by decide +kernel
theorem dL_law_381 : decode cL_law 381 = .ok (.iadd, 1) := by decide +kernel
theorem dL_law_382 : decode cL_law 382 = .ok (.iaload, 1) := by decide +kernel
theorem dL_law_383 : decode cL_law 383 = .ok (.aload_n 0, 1) := by decide +kernel
theorem dL_law_384 : decode cL_law 384 = .ok (.iload_n 3, 1) := by decide +kernel
theorem dL_law_385 : decode cL_law 385 = .ok (.iconst 2, 1) := by decide +kernel
theorem dL_law_386 : decode cL_law 386 = .ok (.iadd, 1) := by decide +kernel
theorem dL_law_387 : decode cL_law 387 = .ok (.iaload, 1) := by decide +kernel
theorem dL_law_388 : decode cL_law 388 = .ok (.invokevirtual 47, 3) := by decide +kernel
theorem dL_law_391 : decode cL_law 391 = .ok (.if_icmp .eq 971, 3) := by decide +kernel
theorem dL_law_394 : decode cL_law 394 = .ok (.iconst 0, 1) := by decide +kernel
theorem dL_law_395 : decode cL_law 395 = .ok (.ireturn, 1) := by decide +kernel
theorem dL_law_396 : decode cL_law 396 = .ok (.aload_n 1, 1) := by decide +kernel
theorem dL_law_397 : decode cL_law 397 = .ok (.aload_n 0, 1) := by decide +kernel
theorem dL_law_398 : decode cL_law 398 = .ok (.iload_n 3, 1) := by decide +kernel
theorem dL_law_399 : decode cL_law 399 = .ok (.iconst 1, 1) := by decide +kernel
theorem dL_law_400 : decode cL_law 400 = .ok (.iadd, 1) := by decide +kernel
theorem dL_law_401 : decode cL_law 401 = .ok (.iaload, 1) := by decide +kernel
theorem dL_law_402 : decode cL_law 402 = .ok (.aload_n 0, 1) := by decide +kernel
theorem dL_law_403 : decode cL_law 403 = .ok (.iload_n 3, 1) := by decide +kernel
theorem dL_law_404 : decode cL_law 404 = .ok (.iconst 2, 1) := by decide +kernel
theorem dL_law_405 : decode cL_law 405 = .ok (.iadd, 1) := by decide +kernel
theorem dL_law_406 : decode cL_law 406 = .ok (.iaload, 1) := by decide +kernel
theorem dL_law_407 : decode cL_law 407 = .ok (.invokevirtual 48, 3) := by decide +kernel
theorem dL_law_410 : decode cL_law 410 = .ok (.aload_n 2, 1) := by decide +kernel
theorem dL_law_411 : decode cL_law 411 = .ok (.aload_n 0, 1) := by decide +kernel
theorem dL_law_412 : decode cL_law 412 = .ok (.iload_n 3, 1) := by decide +kernel
theorem dL_law_413 : decode cL_law 413 = .ok (.iconst 1, 1) := by decide +kernel
theorem dL_law_414 : decode cL_law 414 = .ok (.iadd, 1) := by decide +kernel
theorem dL_law_415 : decode cL_law 415 = .ok (.iaload, 1) := by decide +kernel
theorem dL_law_416 : decode cL_law 416 = .ok (.aload_n 0, 1) := by decide +kernel
theorem dL_law_417 : decode cL_law 417 = .ok (.iload_n 3, 1) := by decide +kernel
theorem dL_law_418 : decode cL_law 418 = .ok (.iconst 2, 1) := by decide +kernel
theorem dL_law_419 : decode cL_law 419 = .ok (.iadd, 1) := by decide +kernel
theorem dL_law_420 : decode cL_law 420 = .ok (.iaload, 1) := by decide +kernel
theorem dL_law_421 : decode cL_law 421 = .ok (.invokevirtual 51, 3) := by decide +kernel
theorem dL_law_424 : decode cL_law 424 = .ok (.if_icmp .eq 938, 3) := by decide +kernel
theorem dL_law_427 : decode cL_law 427 = .ok (.iconst 0, 1) := by decide +kernel
theorem dL_law_428 : decode cL_law 428 = .ok (.ireturn, 1) := by decide +kernel
theorem dL_law_429 : decode cL_law 429 = .ok (.aload_n 1, 1) := by decide +kernel
theorem dL_law_430 : decode cL_law 430 = .ok (.aload_n 0, 1) := by decide +kernel
theorem dL_law_431 : decode cL_law 431 = .ok (.iload_n 3, 1) := by decide +kernel
theorem dL_law_432 : decode cL_law 432 = .ok (.iconst 1, 1) := by decide +kernel
theorem dL_law_433 : decode cL_law 433 = .ok (.iadd, 1) := by decide +kernel
theorem dL_law_434 : decode cL_law 434 = .ok (.iaload, 1) := by decide +kernel
theorem dL_law_435 : decode cL_law 435 = .ok (.aload_n 0, 1) := by decide +kernel
theorem dL_law_436 : decode cL_law 436 = .ok (.iload_n 3, 1) := by decide +kernel
theorem dL_law_437 : decode cL_law 437 = .ok (.iconst 2, 1) := by decide +kernel
theorem dL_law_438 : decode cL_law 438 = .ok (.iadd, 1) := by decide +kernel
theorem dL_law_439 : decode cL_law 439 = .ok (.iaload, 1) := by decide +kernel
theorem dL_law_440 : decode cL_law 440 = .ok (.aload_n 0, 1) := by decide +kernel
theorem dL_law_441 : decode cL_law 441 = .ok (.iload_n 3, 1) := by decide +kernel
theorem dL_law_442 : decode cL_law 442 = .ok (.iconst 3, 1) := by decide +kernel
theorem dL_law_443 : decode cL_law 443 = .ok (.iadd, 1) := by decide +kernel
theorem dL_law_444 : decode cL_law 444 = .ok (.iaload, 1) := by decide +kernel
theorem dL_law_445 : decode cL_law 445 = .ok (.invokevirtual 52, 3) := by decide +kernel
theorem dL_law_448 : decode cL_law 448 = .ok (.aload_n 2, 1) := by decide +kernel
theorem dL_law_449 : decode cL_law 449 = .ok (.aload_n 0, 1) := by decide +kernel
theorem dL_law_450 : decode cL_law 450 = .ok (.iload_n 3, 1) := by decide +kernel
theorem dL_law_451 : decode cL_law 451 = .ok (.iconst 1, 1) := by decide +kernel
theorem dL_law_452 : decode cL_law 452 = .ok (.iadd, 1) := by decide +kernel
theorem dL_law_453 : decode cL_law 453 = .ok (.iaload, 1) := by decide +kernel
theorem dL_law_454 : decode cL_law 454 = .ok (.aload_n 0, 1) := by decide +kernel
theorem dL_law_455 : decode cL_law 455 = .ok (.iload_n 3, 1) := by decide +kernel
theorem dL_law_456 : decode cL_law 456 = .ok (.iconst 2, 1) := by decide +kernel
theorem dL_law_457 : decode cL_law 457 = .ok (.iadd, 1) := by decide +kernel
theorem dL_law_458 : decode cL_law 458 = .ok (.iaload, 1) := by decide +kernel
theorem dL_law_459 : decode cL_law 459 = .ok (.aload_n 0, 1) := by decide +kernel
theorem dL_law_460 : decode cL_law 460 = .ok (.iload_n 3, 1) := by decide +kernel
theorem dL_law_461 : decode cL_law 461 = .ok (.iconst 3, 1) := by decide +kernel
theorem dL_law_462 : decode cL_law 462 = .ok (.iadd, 1) := by decide +kernel
theorem dL_law_463 : decode cL_law 463 = .ok (.iaload, 1) := by decide +kernel
theorem dL_law_464 : decode cL_law 464 = .ok (.invokevirtual 56, 3) := by decide +kernel
theorem dL_law_467 : decode cL_law 467 = .ok (.if_icmp .eq 895, 3) := by decide +kernel
theorem dL_law_470 : decode cL_law 470 = .ok (.iconst 0, 1) := by decide +kernel
theorem dL_law_471 : decode cL_law 471 = .ok (.ireturn, 1) := by decide +kernel
theorem dL_law_472 : decode cL_law 472 = .ok (.aload_n 1, 1) := by decide +kernel
theorem dL_law_473 : decode cL_law 473 = .ok (.aload_n 0, 1) := by decide +kernel
theorem dL_law_474 : decode cL_law 474 = .ok (.iload_n 3, 1) := by decide +kernel
theorem dL_law_475 : decode cL_law 475 = .ok (.iconst 1, 1) := by decide +kernel
theorem dL_law_476 : decode cL_law 476 = .ok (.iadd, 1) := by decide +kernel
theorem dL_law_477 : decode cL_law 477 = .ok (.iaload, 1) := by decide +kernel
theorem dL_law_478 : decode cL_law 478 = .ok (.aload_n 0, 1) := by decide +kernel
theorem dL_law_479 : decode cL_law 479 = .ok (.iload_n 3, 1) := by decide +kernel
theorem dL_law_480 : decode cL_law 480 = .ok (.iconst 2, 1) := by decide +kernel
theorem dL_law_481 : decode cL_law 481 = .ok (.iadd, 1) := by decide +kernel
theorem dL_law_482 : decode cL_law 482 = .ok (.iaload, 1) := by decide +kernel
theorem dL_law_483 : decode cL_law 483 = .ok (.invokevirtual 57, 3) := by decide +kernel
theorem dL_law_486 : decode cL_law 486 = .ok (.aload_n 2, 1) := by decide +kernel
theorem dL_law_487 : decode cL_law 487 = .ok (.aload_n 0, 1) := by decide +kernel
theorem dL_law_488 : decode cL_law 488 = .ok (.iload_n 3, 1) := by decide +kernel
theorem dL_law_489 : decode cL_law 489 = .ok (.iconst 1, 1) := by decide +kernel
theorem dL_law_490 : decode cL_law 490 = .ok (.iadd, 1) := by decide +kernel
theorem dL_law_491 : decode cL_law 491 = .ok (.iaload, 1) := by decide +kernel
theorem dL_law_492 : decode cL_law 492 = .ok (.aload_n 0, 1) := by decide +kernel
theorem dL_law_493 : decode cL_law 493 = .ok (.iload_n 3, 1) := by decide +kernel
theorem dL_law_494 : decode cL_law 494 = .ok (.iconst 2, 1) := by decide +kernel
theorem dL_law_495 : decode cL_law 495 = .ok (.iadd, 1) := by decide +kernel
theorem dL_law_496 : decode cL_law 496 = .ok (.iaload, 1) := by decide +kernel
theorem dL_law_497 : decode cL_law 497 = .ok (.invokevirtual 60, 3) := by decide +kernel
theorem dL_law_500 : decode cL_law 500 = .ok (.if_icmp .eq 862, 3) := by decide +kernel
theorem dL_law_503 : decode cL_law 503 = .ok (.iconst 0, 1) := by decide +kernel
theorem dL_law_504 : decode cL_law 504 = .ok (.ireturn, 1) := by decide +kernel
theorem dL_law_505 : decode cL_law 505 = .ok (.aload_n 1, 1) := by decide +kernel
theorem dL_law_506 : decode cL_law 506 = .ok (.aload_n 0, 1) := by decide +kernel
theorem dL_law_507 : decode cL_law 507 = .ok (.iload_n 3, 1) := by decide +kernel
theorem dL_law_508 : decode cL_law 508 = .ok (.iconst 1, 1) := by decide +kernel
theorem dL_law_509 : decode cL_law 509 = .ok (.iadd, 1) := by decide +kernel
theorem dL_law_510 : decode cL_law 510 = .ok (.iaload, 1) := by decide +kernel
theorem dL_law_511 : decode cL_law 511 = .ok (.aload_n 0, 1) := by decide +kernel
theorem dL_law_512 : decode cL_law 512 = .ok (.iload_n 3, 1) := by decide +kernel
theorem dL_law_513 : decode cL_law 513 = .ok (.iconst 2, 1) := by decide +kernel
theorem dL_law_514 : decode cL_law 514 = .ok (.iadd, 1) := by decide +kernel
theorem dL_law_515 : decode cL_law 515 = .ok (.iaload, 1) := by decide +kernel
theorem dL_law_516 : decode cL_law 516 = .ok (.invokevirtual 61, 3) := by decide +kernel
theorem dL_law_519 : decode cL_law 519 = .ok (.aload_n 2, 1) := by decide +kernel
theorem dL_law_520 : decode cL_law 520 = .ok (.aload_n 0, 1) := by decide +kernel
theorem dL_law_521 : decode cL_law 521 = .ok (.iload_n 3, 1) := by decide +kernel
theorem dL_law_522 : decode cL_law 522 = .ok (.iconst 1, 1) := by decide +kernel
theorem dL_law_523 : decode cL_law 523 = .ok (.iadd, 1) := by decide +kernel
theorem dL_law_524 : decode cL_law 524 = .ok (.iaload, 1) := by decide +kernel
theorem dL_law_525 : decode cL_law 525 = .ok (.aload_n 0, 1) := by decide +kernel
theorem dL_law_526 : decode cL_law 526 = .ok (.iload_n 3, 1) := by decide +kernel
theorem dL_law_527 : decode cL_law 527 = .ok (.iconst 2, 1) := by decide +kernel
theorem dL_law_528 : decode cL_law 528 = .ok (.iadd, 1) := by decide +kernel
theorem dL_law_529 : decode cL_law 529 = .ok (.iaload, 1) := by decide +kernel
theorem dL_law_530 : decode cL_law 530 = .ok (.invokevirtual 64, 3) := by decide +kernel
theorem dL_law_533 : decode cL_law 533 = .ok (.if_icmp .eq 829, 3) := by decide +kernel
theorem dL_law_536 : decode cL_law 536 = .ok (.iconst 0, 1) := by decide +kernel
theorem dL_law_537 : decode cL_law 537 = .ok (.ireturn, 1) := by decide +kernel
theorem dL_law_538 : decode cL_law 538 = .ok (.aload_n 1, 1) := by decide +kernel
theorem dL_law_539 : decode cL_law 539 = .ok (.aload_n 0, 1) := by decide +kernel
theorem dL_law_540 : decode cL_law 540 = .ok (.iload_n 3, 1) := by decide +kernel
theorem dL_law_541 : decode cL_law 541 = .ok (.iconst 1, 1) := by decide +kernel
theorem dL_law_542 : decode cL_law 542 = .ok (.iadd, 1) := by decide +kernel
theorem dL_law_543 : decode cL_law 543 = .ok (.iaload, 1) := by decide +kernel
theorem dL_law_544 : decode cL_law 544 = .ok (.aload_n 0, 1) := by decide +kernel
theorem dL_law_545 : decode cL_law 545 = .ok (.iload_n 3, 1) := by decide +kernel
theorem dL_law_546 : decode cL_law 546 = .ok (.iconst 2, 1) := by decide +kernel
theorem dL_law_547 : decode cL_law 547 = .ok (.iadd, 1) := by decide +kernel
theorem dL_law_548 : decode cL_law 548 = .ok (.iaload, 1) := by decide +kernel
theorem dL_law_549 : decode cL_law 549 = .ok (.invokevirtual 65, 3) := by decide +kernel
theorem dL_law_552 : decode cL_law 552 = .ok (.aload_n 2, 1) := by decide +kernel
theorem dL_law_553 : decode cL_law 553 = .ok (.aload_n 0, 1) := by decide +kernel
theorem dL_law_554 : decode cL_law 554 = .ok (.iload_n 3, 1) := by decide +kernel
theorem dL_law_555 : decode cL_law 555 = .ok (.iconst 1, 1) := by decide +kernel
theorem dL_law_556 : decode cL_law 556 = .ok (.iadd, 1) := by decide +kernel
theorem dL_law_557 : decode cL_law 557 = .ok (.iaload, 1) := by decide +kernel
theorem dL_law_558 : decode cL_law 558 = .ok (.aload_n 0, 1) := by decide +kernel
theorem dL_law_559 : decode cL_law 559 = .ok (.iload_n 3, 1) := by decide +kernel
theorem dL_law_560 : decode cL_law 560 = .ok (.iconst 2, 1) := by decide +kernel
theorem dL_law_561 : decode cL_law 561 = .ok (.iadd, 1) := by decide +kernel
theorem dL_law_562 : decode cL_law 562 = .ok (.iaload, 1) := by decide +kernel
theorem dL_law_563 : decode cL_law 563 = .ok (.invokevirtual 68, 3) := by decide +kernel
theorem dL_law_566 : decode cL_law 566 = .ok (.if_icmp .eq 796, 3) := by decide +kernel
theorem dL_law_569 : decode cL_law 569 = .ok (.iconst 0, 1) := by decide +kernel
theorem dL_law_570 : decode cL_law 570 = .ok (.ireturn, 1) := by decide +kernel
theorem dL_law_571 : decode cL_law 571 = .ok (.aload_n 1, 1) := by decide +kernel
theorem dL_law_572 : decode cL_law 572 = .ok (.aload_n 0, 1) := by decide +kernel
theorem dL_law_573 : decode cL_law 573 = .ok (.iload_n 3, 1) := by decide +kernel
theorem dL_law_574 : decode cL_law 574 = .ok (.iconst 1, 1) := by decide +kernel
theorem dL_law_575 : decode cL_law 575 = .ok (.iadd, 1) := by decide +kernel
theorem dL_law_576 : decode cL_law 576 = .ok (.iaload, 1) := by decide +kernel
theorem dL_law_577 : decode cL_law 577 = .ok (.invokevirtual 69, 3) := by decide +kernel
theorem dL_law_580 : decode cL_law 580 = .ok (.aload_n 2, 1) := by decide +kernel
theorem dL_law_581 : decode cL_law 581 = .ok (.aload_n 0, 1) := by decide +kernel
theorem dL_law_582 : decode cL_law 582 = .ok (.iload_n 3, 1) := by decide +kernel
theorem dL_law_583 : decode cL_law 583 = .ok (.iconst 1, 1) := by decide +kernel
theorem dL_law_584 : decode cL_law 584 = .ok (.iadd, 1) := by decide +kernel
theorem dL_law_585 : decode cL_law 585 = .ok (.iaload, 1) := by decide +kernel
theorem dL_law_586 : decode cL_law 586 = .ok (.invokevirtual 72, 3) := by decide +kernel
theorem dL_law_589 : decode cL_law 589 = .ok (.if_icmp .eq 773, 3) := by decide +kernel
theorem dL_law_592 : decode cL_law 592 = .ok (.iconst 0, 1) := by decide +kernel
theorem dL_law_593 : decode cL_law 593 = .ok (.ireturn, 1) := by decide +kernel
theorem dL_law_594 : decode cL_law 594 = .ok (.aload_n 1, 1) := by decide +kernel
theorem dL_law_595 : decode cL_law 595 = .ok (.aload_n 0, 1) := by decide +kernel
theorem dL_law_596 : decode cL_law 596 = .ok (.iload_n 3, 1) := by decide +kernel
theorem dL_law_597 : decode cL_law 597 = .ok (.iconst 1, 1) := by decide +kernel
theorem dL_law_598 : decode cL_law 598 = .ok (.iadd, 1) := by decide +kernel
theorem dL_law_599 : decode cL_law 599 = .ok (.iaload, 1) := by decide +kernel
theorem dL_law_600 : decode cL_law 600 = .ok (.aload_n 0, 1) := by decide +kernel
theorem dL_law_601 : decode cL_law 601 = .ok (.iload_n 3, 1) := by decide +kernel
theorem dL_law_602 : decode cL_law 602 = .ok (.iconst 2, 1) := by decide +kernel
theorem dL_law_603 : decode cL_law 603 = .ok (.iadd, 1) := by decide +kernel
theorem dL_law_604 : decode cL_law 604 = .ok (.iaload, 1) := by decide +kernel
theorem dL_law_605 : decode cL_law 605 = .ok (.aload_n 0, 1) := by decide +kernel
theorem dL_law_606 : decode cL_law 606 = .ok (.iload_n 3, 1) := by decide +kernel
theorem dL_law_607 : decode cL_law 607 = .ok (.iconst 3, 1) := by decide +kernel
theorem dL_law_608 : decode cL_law 608 = .ok (.iadd, 1) := by decide +kernel
theorem dL_law_609 : decode cL_law 609 = .ok (.iaload, 1) := by decide +kernel
theorem dL_law_610 : decode cL_law 610 = .ok (.invokevirtual 73, 3) := by decide +kernel
theorem dL_law_613 : decode cL_law 613 = .ok (.aload_n 2, 1) := by decide +kernel
theorem dL_law_614 : decode cL_law 614 = .ok (.aload_n 0, 1) := by decide +kernel
theorem dL_law_615 : decode cL_law 615 = .ok (.iload_n 3, 1) := by decide +kernel
theorem dL_law_616 : decode cL_law 616 = .ok (.iconst 1, 1) := by decide +kernel
theorem dL_law_617 : decode cL_law 617 = .ok (.iadd, 1) := by decide +kernel
theorem dL_law_618 : decode cL_law 618 = .ok (.iaload, 1) := by decide +kernel
theorem dL_law_619 : decode cL_law 619 = .ok (.aload_n 0, 1) := by decide +kernel
theorem dL_law_620 : decode cL_law 620 = .ok (.iload_n 3, 1) := by decide +kernel
theorem dL_law_621 : decode cL_law 621 = .ok (.iconst 2, 1) := by decide +kernel
theorem dL_law_622 : decode cL_law 622 = .ok (.iadd, 1) := by decide +kernel
theorem dL_law_623 : decode cL_law 623 = .ok (.iaload, 1) := by decide +kernel
theorem dL_law_624 : decode cL_law 624 = .ok (.aload_n 0, 1) := by decide +kernel
theorem dL_law_625 : decode cL_law 625 = .ok (.iload_n 3, 1) := by decide +kernel
theorem dL_law_626 : decode cL_law 626 = .ok (.iconst 3, 1) := by decide +kernel
theorem dL_law_627 : decode cL_law 627 = .ok (.iadd, 1) := by decide +kernel
theorem dL_law_628 : decode cL_law 628 = .ok (.iaload, 1) := by decide +kernel
theorem dL_law_629 : decode cL_law 629 = .ok (.invokevirtual 76, 3) := by decide +kernel
theorem dL_law_632 : decode cL_law 632 = .ok (.if_icmp .eq 730, 3) := by decide +kernel
theorem dL_law_635 : decode cL_law 635 = .ok (.iconst 0, 1) := by decide +kernel
theorem dL_law_636 : decode cL_law 636 = .ok (.ireturn, 1) := by decide +kernel
theorem dL_law_637 : decode cL_law 637 = .ok (.aload_n 1, 1) := by decide +kernel
theorem dL_law_638 : decode cL_law 638 = .ok (.aload_n 0, 1) := by decide +kernel
theorem dL_law_639 : decode cL_law 639 = .ok (.iload_n 3, 1) := by decide +kernel
theorem dL_law_640 : decode cL_law 640 = .ok (.iconst 1, 1) := by decide +kernel
theorem dL_law_641 : decode cL_law 641 = .ok (.iadd, 1) := by decide +kernel
theorem dL_law_642 : decode cL_law 642 = .ok (.iaload, 1) := by decide +kernel
theorem dL_law_643 : decode cL_law 643 = .ok (.aload_n 0, 1) := by decide +kernel
theorem dL_law_644 : decode cL_law 644 = .ok (.iload_n 3, 1) := by decide +kernel
theorem dL_law_645 : decode cL_law 645 = .ok (.iconst 2, 1) := by decide +kernel
theorem dL_law_646 : decode cL_law 646 = .ok (.iadd, 1) := by decide +kernel
theorem dL_law_647 : decode cL_law 647 = .ok (.iaload, 1) := by decide +kernel
theorem dL_law_648 : decode cL_law 648 = .ok (.invokevirtual 77, 3) := by decide +kernel
theorem dL_law_651 : decode cL_law 651 = .ok (.aload_n 2, 1) := by decide +kernel
theorem dL_law_652 : decode cL_law 652 = .ok (.aload_n 0, 1) := by decide +kernel
theorem dL_law_653 : decode cL_law 653 = .ok (.iload_n 3, 1) := by decide +kernel
theorem dL_law_654 : decode cL_law 654 = .ok (.iconst 1, 1) := by decide +kernel
theorem dL_law_655 : decode cL_law 655 = .ok (.iadd, 1) := by decide +kernel
theorem dL_law_656 : decode cL_law 656 = .ok (.iaload, 1) := by decide +kernel
theorem dL_law_657 : decode cL_law 657 = .ok (.aload_n 0, 1) := by decide +kernel
theorem dL_law_658 : decode cL_law 658 = .ok (.iload_n 3, 1) := by decide +kernel
theorem dL_law_659 : decode cL_law 659 = .ok (.iconst 2, 1) := by decide +kernel
theorem dL_law_660 : decode cL_law 660 = .ok (.iadd, 1) := by decide +kernel
theorem dL_law_661 : decode cL_law 661 = .ok (.iaload, 1) := by decide +kernel
theorem dL_law_662 : decode cL_law 662 = .ok (.invokevirtual 80, 3) := by decide +kernel
theorem dL_law_665 : decode cL_law 665 = .ok (.if_icmp .eq 697, 3) := by decide +kernel
theorem dL_law_668 : decode cL_law 668 = .ok (.iconst 0, 1) := by decide +kernel
theorem dL_law_669 : decode cL_law 669 = .ok (.ireturn, 1) := by decide +kernel
theorem dL_law_670 : decode cL_law 670 = .ok (.aload_n 1, 1) := by decide +kernel
theorem dL_law_671 : decode cL_law 671 = .ok (.aload_n 0, 1) := by decide +kernel
theorem dL_law_672 : decode cL_law 672 = .ok (.iload_n 3, 1) := by decide +kernel
theorem dL_law_673 : decode cL_law 673 = .ok (.iconst 1, 1) := by decide +kernel
theorem dL_law_674 : decode cL_law 674 = .ok (.iadd, 1) := by decide +kernel
theorem dL_law_675 : decode cL_law 675 = .ok (.iaload, 1) := by decide +kernel
theorem dL_law_676 : decode cL_law 676 = .ok (.aload_n 0, 1) := by decide +kernel
theorem dL_law_677 : decode cL_law 677 = .ok (.iload_n 3, 1) := by decide +kernel
theorem dL_law_678 : decode cL_law 678 = .ok (.iconst 2, 1) := by decide +kernel
theorem dL_law_679 : decode cL_law 679 = .ok (.iadd, 1) := by decide +kernel
theorem dL_law_680 : decode cL_law 680 = .ok (.iaload, 1) := by decide +kernel
theorem dL_law_681 : decode cL_law 681 = .ok (.aload_n 0, 1) := by decide +kernel
theorem dL_law_682 : decode cL_law 682 = .ok (.iload_n 3, 1) := by decide +kernel
theorem dL_law_683 : decode cL_law 683 = .ok (.iconst 3, 1) := by decide +kernel
theorem dL_law_684 : decode cL_law 684 = .ok (.iadd, 1) := by decide +kernel
theorem dL_law_685 : decode cL_law 685 = .ok (.iaload, 1) := by decide +kernel
theorem dL_law_686 : decode cL_law 686 = .ok (.invokevirtual 81, 3) := by decide +kernel
theorem dL_law_689 : decode cL_law 689 = .ok (.aload_n 2, 1) := by decide +kernel
theorem dL_law_690 : decode cL_law 690 = .ok (.aload_n 0, 1) := by decide +kernel
theorem dL_law_691 : decode cL_law 691 = .ok (.iload_n 3, 1) := by decide +kernel
theorem dL_law_692 : decode cL_law 692 = .ok (.iconst 1, 1) := by decide +kernel
theorem dL_law_693 : decode cL_law 693 = .ok (.iadd, 1) := by decide +kernel
theorem dL_law_694 : decode cL_law 694 = .ok (.iaload, 1) := by decide +kernel
theorem dL_law_695 : decode cL_law 695 = .ok (.aload_n 0, 1) := by decide +kernel
theorem dL_law_696 : decode cL_law 696 = .ok (.iload_n 3, 1) := by decide +kernel
theorem dL_law_697 : decode cL_law 697 = .ok (.iconst 2, 1) := by decide +kernel
theorem dL_law_698 : decode cL_law 698 = .ok (.iadd, 1) := by decide +kernel
theorem dL_law_699 : decode cL_law 699 = .ok (.iaload, 1) := by decide +kernel
theorem dL_law_700 : decode cL_law 700 = .ok (.aload_n 0, 1) := by decide +kernel
theorem dL_law_701 : decode cL_law 701 = .ok (.iload_n 3, 1) := by decide +kernel
theorem dL_law_702 : decode cL_law 702 = .ok (.iconst 3, 1) := by decide +kernel
theorem dL_law_703 : decode cL_law 703 = .ok (.iadd, 1) := by decide +kernel
theorem dL_law_704 : decode cL_law 704 = .ok (.iaload, 1) := by decide +kernel
theorem dL_law_705 : decode cL_law 705 = .ok (.invokevirtual 84, 3) := by decide +kernel
theorem dL_law_708 : decode cL_law 708 = .ok (.if_icmp .eq 654, 3) := by decide +kernel
theorem dL_law_711 : decode cL_law 711 = .ok (.iconst 0, 1) := by decide +kernel
theorem dL_law_712 : decode cL_law 712 = .ok (.ireturn, 1) := by decide +kernel
theorem dL_law_713 : decode cL_law 713 = .ok (.aload_n 1, 1) := by decide +kernel
theorem dL_law_714 : decode cL_law 714 = .ok (.aload_n 0, 1) := by decide +kernel
theorem dL_law_715 : decode cL_law 715 = .ok (.iload_n 3, 1) := by decide +kernel
theorem dL_law_716 : decode cL_law 716 = .ok (.iconst 1, 1) := by decide +kernel
theorem dL_law_717 : decode cL_law 717 = .ok (.iadd, 1) := by decide +kernel
theorem dL_law_718 : decode cL_law 718 = .ok (.iaload, 1) := by decide +kernel
theorem dL_law_719 : decode cL_law 719 = .ok (.aload_n 0, 1) := by decide +kernel
theorem dL_law_720 : decode cL_law 720 = .ok (.iload_n 3, 1) := by decide +kernel
theorem dL_law_721 : decode cL_law 721 = .ok (.iconst 2, 1) := by decide +kernel
theorem dL_law_722 : decode cL_law 722 = .ok (.iadd, 1) := by decide +kernel
theorem dL_law_723 : decode cL_law 723 = .ok (.iaload, 1) := by decide +kernel
theorem dL_law_724 : decode cL_law 724 = .ok (.aload_n 0, 1) := by decide +kernel
theorem dL_law_725 : decode cL_law 725 = .ok (.iload_n 3, 1) := by decide +kernel
theorem dL_law_726 : decode cL_law 726 = .ok (.iconst 3, 1) := by decide +kernel
theorem dL_law_727 : decode cL_law 727 = .ok (.iadd, 1) := by decide +kernel
theorem dL_law_728 : decode cL_law 728 = .ok (.iaload, 1) := by decide +kernel
theorem dL_law_729 : decode cL_law 729 = .ok (.invokevirtual 85, 3) := by decide +kernel
theorem dL_law_732 : decode cL_law 732 = .ok (.aload_n 2, 1) := by decide +kernel
theorem dL_law_733 : decode cL_law 733 = .ok (.aload_n 0, 1) := by decide +kernel
theorem dL_law_734 : decode cL_law 734 = .ok (.iload_n 3, 1) := by decide +kernel
theorem dL_law_735 : decode cL_law 735 = .ok (.iconst 1, 1) := by decide +kernel
theorem dL_law_736 : decode cL_law 736 = .ok (.iadd, 1) := by decide +kernel
theorem dL_law_737 : decode cL_law 737 = .ok (.iaload, 1) := by decide +kernel
theorem dL_law_738 : decode cL_law 738 = .ok (.aload_n 0, 1) := by decide +kernel
theorem dL_law_739 : decode cL_law 739 = .ok (.iload_n 3, 1) := by decide +kernel
theorem dL_law_740 : decode cL_law 740 = .ok (.iconst 2, 1) := by decide +kernel
theorem dL_law_741 : decode cL_law 741 = .ok (.iadd, 1) := by decide +kernel
theorem dL_law_742 : decode cL_law 742 = .ok (.iaload, 1) := by decide +kernel
theorem dL_law_743 : decode cL_law 743 = .ok (.aload_n 0, 1) := by decide +kernel
theorem dL_law_744 : decode cL_law 744 = .ok (.iload_n 3, 1) := by decide +kernel
theorem dL_law_745 : decode cL_law 745 = .ok (.iconst 3, 1) := by decide +kernel
theorem dL_law_746 : decode cL_law 746 = .ok (.iadd, 1) := by decide +kernel
theorem dL_law_747 : decode cL_law 747 = .ok (.iaload, 1) := by decide +kernel
theorem dL_law_748 : decode cL_law 748 = .ok (.invokevirtual 88, 3) := by decide +kernel
theorem dL_law_751 : decode cL_law 751 = .ok (.if_icmp .eq 611, 3) := by decide +kernel
theorem dL_law_754 : decode cL_law 754 = .ok (.iconst 0, 1) := by decide +kernel
theorem dL_law_755 : decode cL_law 755 = .ok (.ireturn, 1) := by decide +kernel
theorem dL_law_756 : decode cL_law 756 = .ok (.aload_n 1, 1) := by decide +kernel
theorem dL_law_757 : decode cL_law 757 = .ok (.aload_n 0, 1) := by decide +kernel
theorem dL_law_758 : decode cL_law 758 = .ok (.iload_n 3, 1) := by decide +kernel
theorem dL_law_759 : decode cL_law 759 = .ok (.iconst 1, 1) := by decide +kernel
theorem dL_law_760 : decode cL_law 760 = .ok (.iadd, 1) := by decide +kernel
theorem dL_law_761 : decode cL_law 761 = .ok (.iaload, 1) := by decide +kernel
theorem dL_law_762 : decode cL_law 762 = .ok (.aload_n 0, 1) := by decide +kernel
theorem dL_law_763 : decode cL_law 763 = .ok (.iload_n 3, 1) := by decide +kernel
theorem dL_law_764 : decode cL_law 764 = .ok (.iconst 2, 1) := by decide +kernel
theorem dL_law_765 : decode cL_law 765 = .ok (.iadd, 1) := by decide +kernel
theorem dL_law_766 : decode cL_law 766 = .ok (.iaload, 1) := by decide +kernel
theorem dL_law_767 : decode cL_law 767 = .ok (.invokevirtual 89, 3) := by decide +kernel
theorem dL_law_770 : decode cL_law 770 = .ok (.aload_n 2, 1) := by decide +kernel
theorem dL_law_771 : decode cL_law 771 = .ok (.aload_n 0, 1) := by decide +kernel
theorem dL_law_772 : decode cL_law 772 = .ok (.iload_n 3, 1) := by decide +kernel
theorem dL_law_773 : decode cL_law 773 = .ok (.iconst 1, 1) := by decide +kernel
theorem dL_law_774 : decode cL_law 774 = .ok (.iadd, 1) := by decide +kernel
theorem dL_law_775 : decode cL_law 775 = .ok (.iaload, 1) := by decide +kernel
theorem dL_law_776 : decode cL_law 776 = .ok (.aload_n 0, 1) := by decide +kernel
theorem dL_law_777 : decode cL_law 777 = .ok (.iload_n 3, 1) := by decide +kernel
theorem dL_law_778 : decode cL_law 778 = .ok (.iconst 2, 1) := by decide +kernel
theorem dL_law_779 : decode cL_law 779 = .ok (.iadd, 1) := by decide +kernel
theorem dL_law_780 : decode cL_law 780 = .ok (.iaload, 1) := by decide +kernel
theorem dL_law_781 : decode cL_law 781 = .ok (.invokevirtual 92, 3) := by decide +kernel
theorem dL_law_784 : decode cL_law 784 = .ok (.if_icmp .eq 578, 3) := by decide +kernel
theorem dL_law_787 : decode cL_law 787 = .ok (.iconst 0, 1) := by decide +kernel
theorem dL_law_788 : decode cL_law 788 = .ok (.ireturn, 1) := by decide +kernel
theorem dL_law_789 : decode cL_law 789 = .ok (.aload_n 1, 1) := by decide +kernel
theorem dL_law_790 : decode cL_law 790 = .ok (.aload_n 0, 1) := by decide +kernel
theorem dL_law_791 : decode cL_law 791 = .ok (.iload_n 3, 1) := by decide +kernel
theorem dL_law_792 : decode cL_law 792 = .ok (.iconst 1, 1) := by decide +kernel
theorem dL_law_793 : decode cL_law 793 = .ok (.iadd, 1) := by decide +kernel
theorem dL_law_794 : decode cL_law 794 = .ok (.iaload, 1) := by decide +kernel
theorem dL_law_795 : decode cL_law 795 = .ok (.aload_n 0, 1) := by decide +kernel
theorem dL_law_796 : decode cL_law 796 = .ok (.iload_n 3, 1) := by decide +kernel
theorem dL_law_797 : decode cL_law 797 = .ok (.iconst 2, 1) := by decide +kernel
theorem dL_law_798 : decode cL_law 798 = .ok (.iadd, 1) := by decide +kernel
theorem dL_law_799 : decode cL_law 799 = .ok (.iaload, 1) := by decide +kernel
theorem dL_law_800 : decode cL_law 800 = .ok (.invokevirtual 93, 3) := by decide +kernel
theorem dL_law_803 : decode cL_law 803 = .ok (.aload_n 2, 1) := by decide +kernel
theorem dL_law_804 : decode cL_law 804 = .ok (.aload_n 0, 1) := by decide +kernel
theorem dL_law_805 : decode cL_law 805 = .ok (.iload_n 3, 1) := by decide +kernel
theorem dL_law_806 : decode cL_law 806 = .ok (.iconst 1, 1) := by decide +kernel
theorem dL_law_807 : decode cL_law 807 = .ok (.iadd, 1) := by decide +kernel
theorem dL_law_808 : decode cL_law 808 = .ok (.iaload, 1) := by decide +kernel
theorem dL_law_809 : decode cL_law 809 = .ok (.aload_n 0, 1) := by decide +kernel
theorem dL_law_810 : decode cL_law 810 = .ok (.iload_n 3, 1) := by decide +kernel
theorem dL_law_811 : decode cL_law 811 = .ok (.iconst 2, 1) := by decide +kernel
theorem dL_law_812 : decode cL_law 812 = .ok (.iadd, 1) := by decide +kernel
theorem dL_law_813 : decode cL_law 813 = .ok (.iaload, 1) := by decide +kernel
theorem dL_law_814 : decode cL_law 814 = .ok (.invokevirtual 96, 3) := by decide +kernel
theorem dL_law_817 : decode cL_law 817 = .ok (.if_icmp .eq 545, 3) := by decide +kernel
theorem dL_law_820 : decode cL_law 820 = .ok (.iconst 0, 1) := by decide +kernel
theorem dL_law_821 : decode cL_law 821 = .ok (.ireturn, 1) := by decide +kernel
theorem dL_law_822 : decode cL_law 822 = .ok (.aload_n 1, 1) := by decide +kernel
theorem dL_law_823 : decode cL_law 823 = .ok (.aload_n 0, 1) := by decide +kernel
theorem dL_law_824 : decode cL_law 824 = .ok (.iload_n 3, 1) := by decide +kernel
theorem dL_law_825 : decode cL_law 825 = .ok (.iconst 1, 1) := by decide +kernel
theorem dL_law_826 : decode cL_law 826 = .ok (.iadd, 1) := by decide +kernel
theorem dL_law_827 : decode cL_law 827 = .ok (.iaload, 1) := by decide +kernel
theorem dL_law_828 : decode cL_law 828 = .ok (.invokevirtual 97, 3) := by decide +kernel
theorem dL_law_831 : decode cL_law 831 = .ok (.aload_n 2, 1) := by decide +kernel
theorem dL_law_832 : decode cL_law 832 = .ok (.aload_n 0, 1) := by decide +kernel
theorem dL_law_833 : decode cL_law 833 = .ok (.iload_n 3, 1) := by decide +kernel
theorem dL_law_834 : decode cL_law 834 = .ok (.iconst 1, 1) := by decide +kernel
theorem dL_law_835 : decode cL_law 835 = .ok (.iadd, 1) := by decide +kernel
theorem dL_law_836 : decode cL_law 836 = .ok (.iaload, 1) := by decide +kernel
theorem dL_law_837 : decode cL_law 837 = .ok (.invokevirtual 100, 3) := by decide +kernel
theorem dL_law_840 : decode cL_law 840 = .ok (.if_icmp .eq 522, 3) := by decide +kernel
theorem dL_law_843 : decode cL_law 843 = .ok (.iconst 0, 1) := by decide +kernel
theorem dL_law_844 : decode cL_law 844 = .ok (.ireturn, 1) := by decide +kernel
theorem dL_law_845 : decode cL_law 845 = .ok (.aload_n 1, 1) := by decide +kernel
theorem dL_law_846 : decode cL_law 846 = .ok (.aload_n 0, 1) := by decide +kernel
theorem dL_law_847 : decode cL_law 847 = .ok (.iload_n 3, 1) := by decide +kernel
theorem dL_law_848 : decode cL_law 848 = .ok (.iconst 1, 1) := by decide +kernel
theorem dL_law_849 : decode cL_law 849 = .ok (.iadd, 1) := by decide +kernel
theorem dL_law_850 : decode cL_law 850 = .ok (.iaload, 1) := by decide +kernel
theorem dL_law_851 : decode cL_law 851 = .ok (.aload_n 0, 1) := by decide +kernel
theorem dL_law_852 : decode cL_law 852 = .ok (.iload_n 3, 1) := by decide +kernel
theorem dL_law_853 : decode cL_law 853 = .ok (.iconst 2, 1) := by decide +kernel
theorem dL_law_854 : decode cL_law 854 = .ok (.iadd, 1) := by decide +kernel
theorem dL_law_855 : decode cL_law 855 = .ok (.iaload, 1) := by decide +kernel
theorem dL_law_856 : decode cL_law 856 = .ok (.aload_n 0, 1) := by decide +kernel
theorem dL_law_857 : decode cL_law 857 = .ok (.iload_n 3, 1) := by decide +kernel
theorem dL_law_858 : decode cL_law 858 = .ok (.iconst 3, 1) := by decide +kernel
theorem dL_law_859 : decode cL_law 859 = .ok (.iadd, 1) := by decide +kernel
theorem dL_law_860 : decode cL_law 860 = .ok (.iaload, 1) := by decide +kernel
theorem dL_law_861 : decode cL_law 861 = .ok (.invokevirtual 101, 3) := by decide +kernel
theorem dL_law_864 : decode cL_law 864 = .ok (.aload_n 2, 1) := by decide +kernel
theorem dL_law_865 : decode cL_law 865 = .ok (.aload_n 0, 1) := by decide +kernel
theorem dL_law_866 : decode cL_law 866 = .ok (.iload_n 3, 1) := by decide +kernel
theorem dL_law_867 : decode cL_law 867 = .ok (.iconst 1, 1) := by decide +kernel
theorem dL_law_868 : decode cL_law 868 = .ok (.iadd, 1) := by decide +kernel
theorem dL_law_869 : decode cL_law 869 = .ok (.iaload, 1) := by decide +kernel
theorem dL_law_870 : decode cL_law 870 = .ok (.aload_n 0, 1) := by decide +kernel
theorem dL_law_871 : decode cL_law 871 = .ok (.iload_n 3, 1) := by decide +kernel
theorem dL_law_872 : decode cL_law 872 = .ok (.iconst 2, 1) := by decide +kernel
theorem dL_law_873 : decode cL_law 873 = .ok (.iadd, 1) := by decide +kernel
theorem dL_law_874 : decode cL_law 874 = .ok (.iaload, 1) := by decide +kernel
theorem dL_law_875 : decode cL_law 875 = .ok (.aload_n 0, 1) := by decide +kernel
theorem dL_law_876 : decode cL_law 876 = .ok (.iload_n 3, 1) := by decide +kernel
theorem dL_law_877 : decode cL_law 877 = .ok (.iconst 3, 1) := by decide +kernel
theorem dL_law_878 : decode cL_law 878 = .ok (.iadd, 1) := by decide +kernel
theorem dL_law_879 : decode cL_law 879 = .ok (.iaload, 1) := by decide +kernel
theorem dL_law_880 : decode cL_law 880 = .ok (.invokevirtual 104, 3) := by decide +kernel
theorem dL_law_883 : decode cL_law 883 = .ok (.if_icmp .eq 479, 3) := by decide +kernel
theorem dL_law_886 : decode cL_law 886 = .ok (.iconst 0, 1) := by decide +kernel
theorem dL_law_887 : decode cL_law 887 = .ok (.ireturn, 1) := by decide +kernel
theorem dL_law_888 : decode cL_law 888 = .ok (.aload_n 1, 1) := by decide +kernel
theorem dL_law_889 : decode cL_law 889 = .ok (.aload_n 0, 1) := by decide +kernel
theorem dL_law_890 : decode cL_law 890 = .ok (.iload_n 3, 1) := by decide +kernel
theorem dL_law_891 : decode cL_law 891 = .ok (.iconst 1, 1) := by decide +kernel
theorem dL_law_892 : decode cL_law 892 = .ok (.iadd, 1) := by decide +kernel
theorem dL_law_893 : decode cL_law 893 = .ok (.iaload, 1) := by decide +kernel
theorem dL_law_894 : decode cL_law 894 = .ok (.invokevirtual 105, 3) := by decide +kernel
theorem dL_law_897 : decode cL_law 897 = .ok (.aload_n 2, 1) := by decide +kernel
theorem dL_law_898 : decode cL_law 898 = .ok (.aload_n 0, 1) := by decide +kernel
theorem dL_law_899 : decode cL_law 899 = .ok (.iload_n 3, 1) := by decide +kernel
theorem dL_law_900 : decode cL_law 900 = .ok (.iconst 1, 1) := by decide +kernel
theorem dL_law_901 : decode cL_law 901 = .ok (.iadd, 1) := by decide +kernel
theorem dL_law_902 : decode cL_law 902 = .ok (.iaload, 1) := by decide +kernel
theorem dL_law_903 : decode cL_law 903 = .ok (.invokevirtual 108, 3) := by decide +kernel
theorem dL_law_906 : decode cL_law 906 = .ok (.if_icmp .eq 456, 3) := by decide +kernel
theorem dL_law_909 : decode cL_law 909 = .ok (.iconst 0, 1) := by decide +kernel
theorem dL_law_910 : decode cL_law 910 = .ok (.ireturn, 1) := by decide +kernel
theorem dL_law_911 : decode cL_law 911 = .ok (.aload_n 1, 1) := by decide +kernel
theorem dL_law_912 : decode cL_law 912 = .ok (.aload_n 0, 1) := by decide +kernel
theorem dL_law_913 : decode cL_law 913 = .ok (.iload_n 3, 1) := by decide +kernel
theorem dL_law_914 : decode cL_law 914 = .ok (.iconst 1, 1) := by decide +kernel
theorem dL_law_915 : decode cL_law 915 = .ok (.iadd, 1) := by decide +kernel
theorem dL_law_916 : decode cL_law 916 = .ok (.iaload, 1) := by decide +kernel
theorem dL_law_917 : decode cL_law 917 = .ok (.aload_n 0, 1) := by decide +kernel
theorem dL_law_918 : decode cL_law 918 = .ok (.iload_n 3, 1) := by decide +kernel
theorem dL_law_919 : decode cL_law 919 = .ok (.iconst 2, 1) := by decide +kernel
theorem dL_law_920 : decode cL_law 920 = .ok (.iadd, 1) := by decide +kernel
theorem dL_law_921 : decode cL_law 921 = .ok (.iaload, 1) := by decide +kernel
theorem dL_law_922 : decode cL_law 922 = .ok (.invokevirtual 109, 3) := by decide +kernel
theorem dL_law_925 : decode cL_law 925 = .ok (.aload_n 2, 1) := by decide +kernel
theorem dL_law_926 : decode cL_law 926 = .ok (.aload_n 0, 1) := by decide +kernel
theorem dL_law_927 : decode cL_law 927 = .ok (.iload_n 3, 1) := by decide +kernel
theorem dL_law_928 : decode cL_law 928 = .ok (.iconst 1, 1) := by decide +kernel
theorem dL_law_929 : decode cL_law 929 = .ok (.iadd, 1) := by decide +kernel
theorem dL_law_930 : decode cL_law 930 = .ok (.iaload, 1) := by decide +kernel
theorem dL_law_931 : decode cL_law 931 = .ok (.aload_n 0, 1) := by decide +kernel
theorem dL_law_932 : decode cL_law 932 = .ok (.iload_n 3, 1) := by decide +kernel
theorem dL_law_933 : decode cL_law 933 = .ok (.iconst 2, 1) := by decide +kernel
theorem dL_law_934 : decode cL_law 934 = .ok (.iadd, 1) := by decide +kernel
theorem dL_law_935 : decode cL_law 935 = .ok (.iaload, 1) := by decide +kernel
theorem dL_law_936 : decode cL_law 936 = .ok (.invokevirtual 112, 3) := by decide +kernel
theorem dL_law_939 : decode cL_law 939 = .ok (.if_icmp .eq 423, 3) := by decide +kernel
theorem dL_law_942 : decode cL_law 942 = .ok (.iconst 0, 1) := by decide +kernel
theorem dL_law_943 : decode cL_law 943 = .ok (.ireturn, 1) := by decide +kernel
theorem dL_law_944 : decode cL_law 944 = .ok (.aload_n 1, 1) := by decide +kernel
theorem dL_law_945 : decode cL_law 945 = .ok (.invokevirtual 113, 3) := by decide +kernel
theorem dL_law_948 : decode cL_law 948 = .ok (.aload_n 2, 1) := by decide +kernel
theorem dL_law_949 : decode cL_law 949 = .ok (.invokevirtual 116, 3) := by decide +kernel
theorem dL_law_952 : decode cL_law 952 = .ok (.if_icmp .eq 410, 3) := by decide +kernel
theorem dL_law_955 : decode cL_law 955 = .ok (.iconst 0, 1) := by decide +kernel
theorem dL_law_956 : decode cL_law 956 = .ok (.ireturn, 1) := by decide +kernel
theorem dL_law_957 : decode cL_law 957 = .ok (.aload_n 1, 1) := by decide +kernel
theorem dL_law_958 : decode cL_law 958 = .ok (.aload_n 0, 1) := by decide +kernel
theorem dL_law_959 : decode cL_law 959 = .ok (.iload_n 3, 1) := by decide +kernel
theorem dL_law_960 : decode cL_law 960 = .ok (.iconst 1, 1) := by decide +kernel
theorem dL_law_961 : decode cL_law 961 = .ok (.iadd, 1) := by decide +kernel
theorem dL_law_962 : decode cL_law 962 = .ok (.iaload, 1) := by decide +kernel
theorem dL_law_963 : decode cL_law 963 = .ok (.invokevirtual 117, 3) := by decide +kernel
theorem dL_law_966 : decode cL_law 966 = .ok (.aload_n 2, 1) := by decide +kernel
theorem dL_law_967 : decode cL_law 967 = .ok (.aload_n 0, 1) := by decide +kernel
theorem dL_law_968 : decode cL_law 968 = .ok (.iload_n 3, 1) := by decide +kernel
theorem dL_law_969 : decode cL_law 969 = .ok (.iconst 1, 1) := by decide +kernel
theorem dL_law_970 : decode cL_law 970 = .ok (.iadd, 1) := by decide +kernel
theorem dL_law_971 : decode cL_law 971 = .ok (.iaload, 1) := by decide +kernel
theorem dL_law_972 : decode cL_law 972 = .ok (.invokevirtual 120, 3) := by decide +kernel
theorem dL_law_975 : decode cL_law 975 = .ok (.if_icmp .eq 387, 3) := by decide +kernel
theorem dL_law_978 : decode cL_law 978 = .ok (.iconst 0, 1) := by decide +kernel
theorem dL_law_979 : decode cL_law 979 = .ok (.ireturn, 1) := by decide +kernel
theorem dL_law_980 : decode cL_law 980 = .ok (.aload_n 1, 1) := by decide +kernel
theorem dL_law_981 : decode cL_law 981 = .ok (.aload_n 0, 1) := by decide +kernel
theorem dL_law_982 : decode cL_law 982 = .ok (.iload_n 3, 1) := by decide +kernel
theorem dL_law_983 : decode cL_law 983 = .ok (.iconst 1, 1) := by decide +kernel
theorem dL_law_984 : decode cL_law 984 = .ok (.iadd, 1) := by decide +kernel
theorem dL_law_985 : decode cL_law 985 = .ok (.iaload, 1) := by decide +kernel
theorem dL_law_986 : decode cL_law 986 = .ok (.aload_n 0, 1) := by decide +kernel
theorem dL_law_987 : decode cL_law 987 = .ok (.iload_n 3, 1) := by decide +kernel
theorem dL_law_988 : decode cL_law 988 = .ok (.iconst 2, 1) := by decide +kernel
theorem dL_law_989 : decode cL_law 989 = .ok (.iadd, 1) := by decide +kernel
theorem dL_law_990 : decode cL_law 990 = .ok (.iaload, 1) := by decide +kernel
theorem dL_law_991 : decode cL_law 991 = .ok (.invokevirtual 121, 3) := by decide +kernel
theorem dL_law_994 : decode cL_law 994 = .ok (.aload_n 2, 1) := by decide +kernel
theorem dL_law_995 : decode cL_law 995 = .ok (.aload_n 0, 1) := by decide +kernel
theorem dL_law_996 : decode cL_law 996 = .ok (.iload_n 3, 1) := by decide +kernel
theorem dL_law_997 : decode cL_law 997 = .ok (.iconst 1, 1) := by decide +kernel
theorem dL_law_998 : decode cL_law 998 = .ok (.iadd, 1) := by decide +kernel
theorem dL_law_999 : decode cL_law 999 = .ok (.iaload, 1) := by decide +kernel
theorem dL_law_1000 : decode cL_law 1000 = .ok (.aload_n 0, 1) := by decide +kernel
theorem dL_law_1001 : decode cL_law 1001 = .ok (.iload_n 3, 1) := by decide +kernel
theorem dL_law_1002 : decode cL_law 1002 = .ok (.iconst 2, 1) := by decide +kernel
theorem dL_law_1003 : decode cL_law 1003 = .ok (.iadd, 1) := by decide +kernel
theorem dL_law_1004 : decode cL_law 1004 = .ok (.iaload, 1) := by decide +kernel
theorem dL_law_1005 : decode cL_law 1005 = .ok (.invokevirtual 124, 3) := by decide +kernel
theorem dL_law_1008 : decode cL_law 1008 = .ok (.if_icmp .eq 354, 3) := by decide +kernel
theorem dL_law_1011 : decode cL_law 1011 = .ok (.iconst 0, 1) := by decide +kernel
theorem dL_law_1012 : decode cL_law 1012 = .ok (.ireturn, 1) := by decide +kernel
theorem dL_law_1013 : decode cL_law 1013 = .ok (.aload_n 1, 1) := by decide +kernel
theorem dL_law_1014 : decode cL_law 1014 = .ok (.aload_n 0, 1) := by decide +kernel
theorem dL_law_1015 : decode cL_law 1015 = .ok (.iload_n 3, 1) := by decide +kernel
theorem dL_law_1016 : decode cL_law 1016 = .ok (.iconst 1, 1) := by decide +kernel
theorem dL_law_1017 : decode cL_law 1017 = .ok (.iadd, 1) := by decide +kernel
theorem dL_law_1018 : decode cL_law 1018 = .ok (.iaload, 1) := by decide +kernel
theorem dL_law_1019 : decode cL_law 1019 = .ok (.aload_n 0, 1) := by decide +kernel
theorem dL_law_1020 : decode cL_law 1020 = .ok (.iload_n 3, 1) := by decide +kernel
theorem dL_law_1021 : decode cL_law 1021 = .ok (.iconst 2, 1) := by decide +kernel
theorem dL_law_1022 : decode cL_law 1022 = .ok (.iadd, 1) := by decide +kernel
theorem dL_law_1023 : decode cL_law 1023 = .ok (.iaload, 1) := by decide +kernel
theorem dL_law_1024 : decode cL_law 1024 = .ok (.aload_n 0, 1) := by decide +kernel
theorem dL_law_1025 : decode cL_law 1025 = .ok (.iload_n 3, 1) := by decide +kernel
theorem dL_law_1026 : decode cL_law 1026 = .ok (.iconst 3, 1) := by decide +kernel
theorem dL_law_1027 : decode cL_law 1027 = .ok (.iadd, 1) := by decide +kernel
theorem dL_law_1028 : decode cL_law 1028 = .ok (.iaload, 1) := by decide +kernel
theorem dL_law_1029 : decode cL_law 1029 = .ok (.aload_n 0, 1) := by decide +kernel
theorem dL_law_1030 : decode cL_law 1030 = .ok (.iload_n 3, 1) := by decide +kernel
theorem dL_law_1031 : decode cL_law 1031 = .ok (.iconst 4, 1) := by decide +kernel
theorem dL_law_1032 : decode cL_law 1032 = .ok (.iadd, 1) := by decide +kernel
theorem dL_law_1033 : decode cL_law 1033 = .ok (.iaload, 1) := by decide +kernel
theorem dL_law_1034 : decode cL_law 1034 = .ok (.invokevirtual 125, 3) := by decide +kernel
theorem dL_law_1037 : decode cL_law 1037 = .ok (.aload_n 2, 1) := by decide +kernel
theorem dL_law_1038 : decode cL_law 1038 = .ok (.aload_n 0, 1) := by decide +kernel
theorem dL_law_1039 : decode cL_law 1039 = .ok (.iload_n 3, 1) := by decide +kernel
theorem dL_law_1040 : decode cL_law 1040 = .ok (.iconst 1, 1) := by decide +kernel
theorem dL_law_1041 : decode cL_law 1041 = .ok (.iadd, 1) := by decide +kernel
theorem dL_law_1042 : decode cL_law 1042 = .ok (.iaload, 1) := by decide +kernel
theorem dL_law_1043 : decode cL_law 1043 = .ok (.aload_n 0, 1) := by decide +kernel
theorem dL_law_1044 : decode cL_law 1044 = .ok (.iload_n 3, 1) := by decide +kernel
theorem dL_law_1045 : decode cL_law 1045 = .ok (.iconst 2, 1) := by decide +kernel
theorem dL_law_1046 : decode cL_law 1046 = .ok (.iadd, 1) := by decide +kernel
theorem dL_law_1047 : decode cL_law 1047 = .ok (.iaload, 1) := by decide +kernel
theorem dL_law_1048 : decode cL_law 1048 = .ok (.aload_n 0, 1) := by decide +kernel
theorem dL_law_1049 : decode cL_law 1049 = .ok (.iload_n 3, 1) := by decide +kernel
theorem dL_law_1050 : decode cL_law 1050 = .ok (.iconst 3, 1) := by decide +kernel
theorem dL_law_1051 : decode cL_law 1051 = .ok (.iadd, 1) := by decide +kernel
theorem dL_law_1052 : decode cL_law 1052 = .ok (.iaload, 1) := by decide +kernel
theorem dL_law_1053 : decode cL_law 1053 = .ok (.aload_n 0, 1) := by decide +kernel
theorem dL_law_1054 : decode cL_law 1054 = .ok (.iload_n 3, 1) := by decide +kernel
theorem dL_law_1055 : decode cL_law 1055 = .ok (.iconst 4, 1) := by decide +kernel
theorem dL_law_1056 : decode cL_law 1056 = .ok (.iadd, 1) := by decide +kernel
theorem dL_law_1057 : decode cL_law 1057 = .ok (.iaload, 1) := by decide +kernel
theorem dL_law_1058 : decode cL_law 1058 = .ok (.invokevirtual 129, 3) := by decide +kernel
theorem dL_law_1061 : decode cL_law 1061 = .ok (.lcmp, 1) := by decide +kernel
theorem dL_law_1062 : decode cL_law 1062 = .ok (.ifCond .eq 300, 3) := by decide +kernel
theorem dL_law_1065 : decode cL_law 1065 = .ok (.iconst 0, 1) := by decide +kernel
theorem dL_law_1066 : decode cL_law 1066 = .ok (.ireturn, 1) := by decide +kernel
theorem dL_law_1067 : decode cL_law 1067 = .ok (.aload_n 1, 1) := by decide +kernel
theorem dL_law_1068 : decode cL_law 1068 = .ok (.aload_n 0, 1) := by decide +kernel
theorem dL_law_1069 : decode cL_law 1069 = .ok (.iload_n 3, 1) := by decide +kernel
theorem dL_law_1070 : decode cL_law 1070 = .ok (.iconst 1, 1) := by decide +kernel
theorem dL_law_1071 : decode cL_law 1071 = .ok (.iadd, 1) := by decide +kernel
theorem dL_law_1072 : decode cL_law 1072 = .ok (.iaload, 1) := by decide +kernel
theorem dL_law_1073 : decode cL_law 1073 = .ok (.aload_n 0, 1) := by decide +kernel
theorem dL_law_1074 : decode cL_law 1074 = .ok (.iload_n 3, 1) := by decide +kernel
theorem dL_law_1075 : decode cL_law 1075 = .ok (.iconst 2, 1) := by decide +kernel
theorem dL_law_1076 : decode cL_law 1076 = .ok (.iadd, 1) := by decide +kernel
theorem dL_law_1077 : decode cL_law 1077 = .ok (.iaload, 1) := by decide +kernel
theorem dL_law_1078 : decode cL_law 1078 = .ok (.aload_n 0, 1) := by decide +kernel
theorem dL_law_1079 : decode cL_law 1079 = .ok (.iload_n 3, 1) := by decide +kernel
theorem dL_law_1080 : decode cL_law 1080 = .ok (.iconst 3, 1) := by decide +kernel
theorem dL_law_1081 : decode cL_law 1081 = .ok (.iadd, 1) := by decide +kernel
theorem dL_law_1082 : decode cL_law 1082 = .ok (.iaload, 1) := by decide +kernel
theorem dL_law_1083 : decode cL_law 1083 = .ok (.invokevirtual 130, 3) := by decide +kernel
theorem dL_law_1086 : decode cL_law 1086 = .ok (.aload_n 2, 1) := by decide +kernel
theorem dL_law_1087 : decode cL_law 1087 = .ok (.aload_n 0, 1) := by decide +kernel
theorem dL_law_1088 : decode cL_law 1088 = .ok (.iload_n 3, 1) := by decide +kernel
theorem dL_law_1089 : decode cL_law 1089 = .ok (.iconst 1, 1) := by decide +kernel
theorem dL_law_1090 : decode cL_law 1090 = .ok (.iadd, 1) := by decide +kernel
theorem dL_law_1091 : decode cL_law 1091 = .ok (.iaload, 1) := by decide +kernel
theorem dL_law_1092 : decode cL_law 1092 = .ok (.aload_n 0, 1) := by decide +kernel
theorem dL_law_1093 : decode cL_law 1093 = .ok (.iload_n 3, 1) := by decide +kernel
theorem dL_law_1094 : decode cL_law 1094 = .ok (.iconst 2, 1) := by decide +kernel
theorem dL_law_1095 : decode cL_law 1095 = .ok (.iadd, 1) := by decide +kernel
theorem dL_law_1096 : decode cL_law 1096 = .ok (.iaload, 1) := by decide +kernel
theorem dL_law_1097 : decode cL_law 1097 = .ok (.aload_n 0, 1) := by decide +kernel
theorem dL_law_1098 : decode cL_law 1098 = .ok (.iload_n 3, 1) := by decide +kernel
theorem dL_law_1099 : decode cL_law 1099 = .ok (.iconst 3, 1) := by decide +kernel
theorem dL_law_1100 : decode cL_law 1100 = .ok (.iadd, 1) := by decide +kernel
theorem dL_law_1101 : decode cL_law 1101 = .ok (.iaload, 1) := by decide +kernel
theorem dL_law_1102 : decode cL_law 1102 = .ok (.invokevirtual 133, 3) := by decide +kernel
theorem dL_law_1105 : decode cL_law 1105 = .ok (.if_icmp .eq 257, 3) := by decide +kernel
theorem dL_law_1108 : decode cL_law 1108 = .ok (.iconst 0, 1) := by decide +kernel
theorem dL_law_1109 : decode cL_law 1109 = .ok (.ireturn, 1) := by decide +kernel
theorem dL_law_1110 : decode cL_law 1110 = .ok (.aload_n 1, 1) := by decide +kernel
theorem dL_law_1111 : decode cL_law 1111 = .ok (.aload_n 0, 1) := by decide +kernel
theorem dL_law_1112 : decode cL_law 1112 = .ok (.iload_n 3, 1) := by decide +kernel
theorem dL_law_1113 : decode cL_law 1113 = .ok (.iconst 1, 1) := by decide +kernel
theorem dL_law_1114 : decode cL_law 1114 = .ok (.iadd, 1) := by decide +kernel
theorem dL_law_1115 : decode cL_law 1115 = .ok (.iaload, 1) := by decide +kernel
theorem dL_law_1116 : decode cL_law 1116 = .ok (.invokevirtual 134, 3) := by decide +kernel
theorem dL_law_1119 : decode cL_law 1119 = .ok (.aload_n 2, 1) := by decide +kernel
theorem dL_law_1120 : decode cL_law 1120 = .ok (.aload_n 0, 1) := by decide +kernel
theorem dL_law_1121 : decode cL_law 1121 = .ok (.iload_n 3, 1) := by decide +kernel
theorem dL_law_1122 : decode cL_law 1122 = .ok (.iconst 1, 1) := by decide +kernel
theorem dL_law_1123 : decode cL_law 1123 = .ok (.iadd, 1) := by decide +kernel
theorem dL_law_1124 : decode cL_law 1124 = .ok (.iaload, 1) := by decide +kernel
theorem dL_law_1125 : decode cL_law 1125 = .ok (.invokevirtual 137, 3) := by decide +kernel
theorem dL_law_1128 : decode cL_law 1128 = .ok (.if_icmp .eq 234, 3) := by decide +kernel
theorem dL_law_1131 : decode cL_law 1131 = .ok (.iconst 0, 1) := by decide +kernel
theorem dL_law_1132 : decode cL_law 1132 = .ok (.ireturn, 1) := by decide +kernel
theorem dL_law_1133 : decode cL_law 1133 = .ok (.aload_n 1, 1) := by decide +kernel
theorem dL_law_1134 : decode cL_law 1134 = .ok (.aload_n 0, 1) := by decide +kernel
theorem dL_law_1135 : decode cL_law 1135 = .ok (.iload_n 3, 1) := by decide +kernel
theorem dL_law_1136 : decode cL_law 1136 = .ok (.iconst 1, 1) := by decide +kernel
theorem dL_law_1137 : decode cL_law 1137 = .ok (.iadd, 1) := by decide +kernel
theorem dL_law_1138 : decode cL_law 1138 = .ok (.iaload, 1) := by decide +kernel
theorem dL_law_1139 : decode cL_law 1139 = .ok (.aload_n 0, 1) := by decide +kernel
theorem dL_law_1140 : decode cL_law 1140 = .ok (.iload_n 3, 1) := by decide +kernel
theorem dL_law_1141 : decode cL_law 1141 = .ok (.iconst 2, 1) := by decide +kernel
theorem dL_law_1142 : decode cL_law 1142 = .ok (.iadd, 1) := by decide +kernel
theorem dL_law_1143 : decode cL_law 1143 = .ok (.iaload, 1) := by decide +kernel
theorem dL_law_1144 : decode cL_law 1144 = .ok (.aload_n 0, 1) := by decide +kernel
theorem dL_law_1145 : decode cL_law 1145 = .ok (.iload_n 3, 1) := by decide +kernel
theorem dL_law_1146 : decode cL_law 1146 = .ok (.iconst 3, 1) := by decide +kernel
theorem dL_law_1147 : decode cL_law 1147 = .ok (.iadd, 1) := by decide +kernel
theorem dL_law_1148 : decode cL_law 1148 = .ok (.iaload, 1) := by decide +kernel
theorem dL_law_1149 : decode cL_law 1149 = .ok (.aload_n 0, 1) := by decide +kernel
theorem dL_law_1150 : decode cL_law 1150 = .ok (.iload_n 3, 1) := by decide +kernel
theorem dL_law_1151 : decode cL_law 1151 = .ok (.iconst 4, 1) := by decide +kernel
theorem dL_law_1152 : decode cL_law 1152 = .ok (.iadd, 1) := by decide +kernel
theorem dL_law_1153 : decode cL_law 1153 = .ok (.iaload, 1) := by decide +kernel
theorem dL_law_1154 : decode cL_law 1154 = .ok (.invokevirtual 138, 3) := by decide +kernel
theorem dL_law_1157 : decode cL_law 1157 = .ok (.aload_n 2, 1) := by decide +kernel
theorem dL_law_1158 : decode cL_law 1158 = .ok (.aload_n 0, 1) := by decide +kernel
theorem dL_law_1159 : decode cL_law 1159 = .ok (.iload_n 3, 1) := by decide +kernel
theorem dL_law_1160 : decode cL_law 1160 = .ok (.iconst 1, 1) := by decide +kernel
theorem dL_law_1161 : decode cL_law 1161 = .ok (.iadd, 1) := by decide +kernel
theorem dL_law_1162 : decode cL_law 1162 = .ok (.iaload, 1) := by decide +kernel
theorem dL_law_1163 : decode cL_law 1163 = .ok (.aload_n 0, 1) := by decide +kernel
theorem dL_law_1164 : decode cL_law 1164 = .ok (.iload_n 3, 1) := by decide +kernel
theorem dL_law_1165 : decode cL_law 1165 = .ok (.iconst 2, 1) := by decide +kernel
theorem dL_law_1166 : decode cL_law 1166 = .ok (.iadd, 1) := by decide +kernel
theorem dL_law_1167 : decode cL_law 1167 = .ok (.iaload, 1) := by decide +kernel
theorem dL_law_1168 : decode cL_law 1168 = .ok (.aload_n 0, 1) := by decide +kernel
theorem dL_law_1169 : decode cL_law 1169 = .ok (.iload_n 3, 1) := by decide +kernel
theorem dL_law_1170 : decode cL_law 1170 = .ok (.iconst 3, 1) := by decide +kernel
theorem dL_law_1171 : decode cL_law 1171 = .ok (.iadd, 1) := by decide +kernel
theorem dL_law_1172 : decode cL_law 1172 = .ok (.iaload, 1) := by decide +kernel
theorem dL_law_1173 : decode cL_law 1173 = .ok (.aload_n 0, 1) := by decide +kernel
theorem dL_law_1174 : decode cL_law 1174 = .ok (.iload_n 3, 1) := by decide +kernel
theorem dL_law_1175 : decode cL_law 1175 = .ok (.iconst 4, 1) := by decide +kernel
theorem dL_law_1176 : decode cL_law 1176 = .ok (.iadd, 1) := by decide +kernel
theorem dL_law_1177 : decode cL_law 1177 = .ok (.iaload, 1) := by decide +kernel
theorem dL_law_1178 : decode cL_law 1178 = .ok (.invokevirtual 142, 3) := by decide +kernel
theorem dL_law_1181 : decode cL_law 1181 = .ok (.if_icmp .eq 181, 3) := by decide +kernel
theorem dL_law_1184 : decode cL_law 1184 = .ok (.iconst 0, 1) := by decide +kernel
theorem dL_law_1185 : decode cL_law 1185 = .ok (.ireturn, 1) := by decide +kernel
theorem dL_law_1186 : decode cL_law 1186 = .ok (.aload_n 1, 1) := by decide +kernel
theorem dL_law_1187 : decode cL_law 1187 = .ok (.aload_n 0, 1) := by decide +kernel
theorem dL_law_1188 : decode cL_law 1188 = .ok (.iload_n 3, 1) := by decide +kernel
theorem dL_law_1189 : decode cL_law 1189 = .ok (.iconst 1, 1) := by decide +kernel
theorem dL_law_1190 : decode cL_law 1190 = .ok (.iadd, 1) := by decide +kernel
theorem dL_law_1191 : decode cL_law 1191 = .ok (.iaload, 1) := by decide +kernel
theorem dL_law_1192 : decode cL_law 1192 = .ok (.aload_n 0, 1) := by decide +kernel
theorem dL_law_1193 : decode cL_law 1193 = .ok (.iload_n 3, 1) := by decide +kernel
theorem dL_law_1194 : decode cL_law 1194 = .ok (.iconst 2, 1) := by decide +kernel
theorem dL_law_1195 : decode cL_law 1195 = .ok (.iadd, 1) := by decide +kernel
theorem dL_law_1196 : decode cL_law 1196 = .ok (.iaload, 1) := by decide +kernel
theorem dL_law_1197 : decode cL_law 1197 = .ok (.aload_n 0, 1) := by decide +kernel
theorem dL_law_1198 : decode cL_law 1198 = .ok (.iload_n 3, 1) := by decide +kernel
theorem dL_law_1199 : decode cL_law 1199 = .ok (.iconst 3, 1) := by decide +kernel
theorem dL_law_1200 : decode cL_law 1200 = .ok (.iadd, 1) := by decide +kernel
theorem dL_law_1201 : decode cL_law 1201 = .ok (.iaload, 1) := by decide +kernel
theorem dL_law_1202 : decode cL_law 1202 = .ok (.invokevirtual 143, 3) := by decide +kernel
theorem dL_law_1205 : decode cL_law 1205 = .ok (.aload_n 2, 1) := by decide +kernel
theorem dL_law_1206 : decode cL_law 1206 = .ok (.aload_n 0, 1) := by decide +kernel
theorem dL_law_1207 : decode cL_law 1207 = .ok (.iload_n 3, 1) := by decide +kernel
theorem dL_law_1208 : decode cL_law 1208 = .ok (.iconst 1, 1) := by decide +kernel
theorem dL_law_1209 : decode cL_law 1209 = .ok (.iadd, 1) := by decide +kernel
theorem dL_law_1210 : decode cL_law 1210 = .ok (.iaload, 1) := by decide +kernel
theorem dL_law_1211 : decode cL_law 1211 = .ok (.aload_n 0, 1) := by decide +kernel
theorem dL_law_1212 : decode cL_law 1212 = .ok (.iload_n 3, 1) := by decide +kernel
theorem dL_law_1213 : decode cL_law 1213 = .ok (.iconst 2, 1) := by decide +kernel
theorem dL_law_1214 : decode cL_law 1214 = .ok (.iadd, 1) := by decide +kernel
theorem dL_law_1215 : decode cL_law 1215 = .ok (.iaload, 1) := by decide +kernel
theorem dL_law_1216 : decode cL_law 1216 = .ok (.aload_n 0, 1) := by decide +kernel
theorem dL_law_1217 : decode cL_law 1217 = .ok (.iload_n 3, 1) := by decide +kernel
theorem dL_law_1218 : decode cL_law 1218 = .ok (.iconst 3, 1) := by decide +kernel
theorem dL_law_1219 : decode cL_law 1219 = .ok (.iadd, 1) := by decide +kernel
theorem dL_law_1220 : decode cL_law 1220 = .ok (.iaload, 1) := by decide +kernel
theorem dL_law_1221 : decode cL_law 1221 = .ok (.invokevirtual 146, 3) := by decide +kernel
theorem dL_law_1224 : decode cL_law 1224 = .ok (.if_icmp .eq 138, 3) := by decide +kernel
theorem dL_law_1227 : decode cL_law 1227 = .ok (.iconst 0, 1) := by decide +kernel
theorem dL_law_1228 : decode cL_law 1228 = .ok (.ireturn, 1) := by decide +kernel
theorem dL_law_1229 : decode cL_law 1229 = .ok (.aload_n 1, 1) := by decide +kernel
theorem dL_law_1230 : decode cL_law 1230 = .ok (.aload_n 0, 1) := by decide +kernel
theorem dL_law_1231 : decode cL_law 1231 = .ok (.iload_n 3, 1) := by decide +kernel
theorem dL_law_1232 : decode cL_law 1232 = .ok (.iconst 1, 1) := by decide +kernel
theorem dL_law_1233 : decode cL_law 1233 = .ok (.iadd, 1) := by decide +kernel
theorem dL_law_1234 : decode cL_law 1234 = .ok (.iaload, 1) := by decide +kernel
theorem dL_law_1235 : decode cL_law 1235 = .ok (.aload_n 0, 1) := by decide +kernel
theorem dL_law_1236 : decode cL_law 1236 = .ok (.iload_n 3, 1) := by decide +kernel
theorem dL_law_1237 : decode cL_law 1237 = .ok (.iconst 2, 1) := by decide +kernel
theorem dL_law_1238 : decode cL_law 1238 = .ok (.iadd, 1) := by decide +kernel
theorem dL_law_1239 : decode cL_law 1239 = .ok (.iaload, 1) := by decide +kernel
theorem dL_law_1240 : decode cL_law 1240 = .ok (.aload_n 0, 1) := by decide +kernel
theorem dL_law_1241 : decode cL_law 1241 = .ok (.iload_n 3, 1) := by decide +kernel
theorem dL_law_1242 : decode cL_law 1242 = .ok (.iconst 3, 1) := by decide +kernel
theorem dL_law_1243 : decode cL_law 1243 = .ok (.iadd, 1) := by decide +kernel
theorem dL_law_1244 : decode cL_law 1244 = .ok (.iaload, 1) := by decide +kernel
theorem dL_law_1245 : decode cL_law 1245 = .ok (.aload_n 0, 1) := by decide +kernel
theorem dL_law_1246 : decode cL_law 1246 = .ok (.iload_n 3, 1) := by decide +kernel
theorem dL_law_1247 : decode cL_law 1247 = .ok (.iconst 4, 1) := by decide +kernel
theorem dL_law_1248 : decode cL_law 1248 = .ok (.iadd, 1) := by decide +kernel
theorem dL_law_1249 : decode cL_law 1249 = .ok (.iaload, 1) := by decide +kernel
theorem dL_law_1250 : decode cL_law 1250 = .ok (.aload_n 0, 1) := by decide +kernel
theorem dL_law_1251 : decode cL_law 1251 = .ok (.iload_n 3, 1) := by decide +kernel
theorem dL_law_1252 : decode cL_law 1252 = .ok (.iconst 5, 1) := by decide +kernel
theorem dL_law_1253 : decode cL_law 1253 = .ok (.iadd, 1) := by decide +kernel
theorem dL_law_1254 : decode cL_law 1254 = .ok (.iaload, 1) := by decide +kernel
theorem dL_law_1255 : decode cL_law 1255 = .ok (.invokevirtual 147, 3) := by decide +kernel
theorem dL_law_1258 : decode cL_law 1258 = .ok (.aload_n 2, 1) := by decide +kernel
theorem dL_law_1259 : decode cL_law 1259 = .ok (.aload_n 0, 1) := by decide +kernel
theorem dL_law_1260 : decode cL_law 1260 = .ok (.iload_n 3, 1) := by decide +kernel
theorem dL_law_1261 : decode cL_law 1261 = .ok (.iconst 1, 1) := by decide +kernel
theorem dL_law_1262 : decode cL_law 1262 = .ok (.iadd, 1) := by decide +kernel
theorem dL_law_1263 : decode cL_law 1263 = .ok (.iaload, 1) := by decide +kernel
theorem dL_law_1264 : decode cL_law 1264 = .ok (.aload_n 0, 1) := by decide +kernel
theorem dL_law_1265 : decode cL_law 1265 = .ok (.iload_n 3, 1) := by decide +kernel
theorem dL_law_1266 : decode cL_law 1266 = .ok (.iconst 2, 1) := by decide +kernel
theorem dL_law_1267 : decode cL_law 1267 = .ok (.iadd, 1) := by decide +kernel
theorem dL_law_1268 : decode cL_law 1268 = .ok (.iaload, 1) := by decide +kernel
theorem dL_law_1269 : decode cL_law 1269 = .ok (.aload_n 0, 1) := by decide +kernel
theorem dL_law_1270 : decode cL_law 1270 = .ok (.iload_n 3, 1) := by decide +kernel
theorem dL_law_1271 : decode cL_law 1271 = .ok (.iconst 3, 1) := by decide +kernel
theorem dL_law_1272 : decode cL_law 1272 = .ok (.iadd, 1) := by decide +kernel
theorem dL_law_1273 : decode cL_law 1273 = .ok (.iaload, 1) := by decide +kernel
theorem dL_law_1274 : decode cL_law 1274 = .ok (.aload_n 0, 1) := by decide +kernel
theorem dL_law_1275 : decode cL_law 1275 = .ok (.iload_n 3, 1) := by decide +kernel
theorem dL_law_1276 : decode cL_law 1276 = .ok (.iconst 4, 1) := by decide +kernel
theorem dL_law_1277 : decode cL_law 1277 = .ok (.iadd, 1) := by decide +kernel
theorem dL_law_1278 : decode cL_law 1278 = .ok (.iaload, 1) := by decide +kernel
theorem dL_law_1279 : decode cL_law 1279 = .ok (.aload_n 0, 1) := by decide +kernel
theorem dL_law_1280 : decode cL_law 1280 = .ok (.iload_n 3, 1) := by decide +kernel
theorem dL_law_1281 : decode cL_law 1281 = .ok (.iconst 5, 1) := by decide +kernel
theorem dL_law_1282 : decode cL_law 1282 = .ok (.iadd, 1) := by decide +kernel
theorem dL_law_1283 : decode cL_law 1283 = .ok (.iaload, 1) := by decide +kernel
theorem dL_law_1284 : decode cL_law 1284 = .ok (.invokevirtual 151, 3) := by decide +kernel
theorem dL_law_1287 : decode cL_law 1287 = .ok (.if_icmp .eq 75, 3) := by decide +kernel
theorem dL_law_1290 : decode cL_law 1290 = .ok (.iconst 0, 1) := by decide +kernel
theorem dL_law_1291 : decode cL_law 1291 = .ok (.ireturn, 1) := by decide +kernel
theorem dL_law_1292 : decode cL_law 1292 = .ok (.aload_n 1, 1) := by decide +kernel
theorem dL_law_1293 : decode cL_law 1293 = .ok (.aload_n 0, 1) := by decide +kernel
theorem dL_law_1294 : decode cL_law 1294 = .ok (.iload_n 3, 1) := by decide +kernel
theorem dL_law_1295 : decode cL_law 1295 = .ok (.iconst 1, 1) := by decide +kernel
theorem dL_law_1296 : decode cL_law 1296 = .ok (.iadd, 1) := by decide +kernel
theorem dL_law_1297 : decode cL_law 1297 = .ok (.iaload, 1) := by decide +kernel
theorem dL_law_1298 : decode cL_law 1298 = .ok (.aload_n 0, 1) := by decide +kernel
theorem dL_law_1299 : decode cL_law 1299 = .ok (.iload_n 3, 1) := by decide +kernel
theorem dL_law_1300 : decode cL_law 1300 = .ok (.iconst 2, 1) := by decide +kernel
theorem dL_law_1301 : decode cL_law 1301 = .ok (.iadd, 1) := by decide +kernel
theorem dL_law_1302 : decode cL_law 1302 = .ok (.iaload, 1) := by decide +kernel
theorem dL_law_1303 : decode cL_law 1303 = .ok (.invokevirtual 152, 3) := by decide +kernel
theorem dL_law_1306 : decode cL_law 1306 = .ok (.aload_n 2, 1) := by decide +kernel
theorem dL_law_1307 : decode cL_law 1307 = .ok (.aload_n 0, 1) := by decide +kernel
theorem dL_law_1308 : decode cL_law 1308 = .ok (.iload_n 3, 1) := by decide +kernel
theorem dL_law_1309 : decode cL_law 1309 = .ok (.iconst 1, 1) := by decide +kernel
theorem dL_law_1310 : decode cL_law 1310 = .ok (.iadd, 1) := by decide +kernel
theorem dL_law_1311 : decode cL_law 1311 = .ok (.iaload, 1) := by decide +kernel
theorem dL_law_1312 : decode cL_law 1312 = .ok (.aload_n 0, 1) := by decide +kernel
theorem dL_law_1313 : decode cL_law 1313 = .ok (.iload_n 3, 1) := by decide +kernel
theorem dL_law_1314 : decode cL_law 1314 = .ok (.iconst 2, 1) := by decide +kernel
theorem dL_law_1315 : decode cL_law 1315 = .ok (.iadd, 1) := by decide +kernel
theorem dL_law_1316 : decode cL_law 1316 = .ok (.iaload, 1) := by decide +kernel
theorem dL_law_1317 : decode cL_law 1317 = .ok (.invokevirtual 155, 3) := by decide +kernel
theorem dL_law_1320 : decode cL_law 1320 = .ok (.if_icmp .eq 42, 3) := by decide +kernel
theorem dL_law_1323 : decode cL_law 1323 = .ok (.iconst 0, 1) := by decide +kernel
theorem dL_law_1324 : decode cL_law 1324 = .ok (.ireturn, 1) := by decide +kernel
theorem dL_law_1325 : decode cL_law 1325 = .ok (.aload_n 1, 1) := by decide +kernel
theorem dL_law_1326 : decode cL_law 1326 = .ok (.aload_n 0, 1) := by decide +kernel
theorem dL_law_1327 : decode cL_law 1327 = .ok (.iload_n 3, 1) := by decide +kernel
theorem dL_law_1328 : decode cL_law 1328 = .ok (.iconst 1, 1) := by decide +kernel
theorem dL_law_1329 : decode cL_law 1329 = .ok (.iadd, 1) := by decide +kernel
theorem dL_law_1330 : decode cL_law 1330 = .ok (.iaload, 1) := by decide +kernel
theorem dL_law_1331 : decode cL_law 1331 = .ok (.invokevirtual 156, 3) := by decide +kernel
theorem dL_law_1334 : decode cL_law 1334 = .ok (.aload_n 2, 1) := by decide +kernel
theorem dL_law_1335 : decode cL_law 1335 = .ok (.aload_n 0, 1) := by decide +kernel
theorem dL_law_1336 : decode cL_law 1336 = .ok (.iload_n 3, 1) := by decide +kernel
theorem dL_law_1337 : decode cL_law 1337 = .ok (.iconst 1, 1) := by decide +kernel
theorem dL_law_1338 : decode cL_law 1338 = .ok (.iadd, 1) := by decide +kernel
theorem dL_law_1339 : decode cL_law 1339 = .ok (.iaload, 1) := by decide +kernel
theorem dL_law_1340 : decode cL_law 1340 = .ok (.invokevirtual 159, 3) := by decide +kernel
theorem dL_law_1343 : decode cL_law 1343 = .ok (.if_icmp .eq 19, 3) := by decide +kernel
theorem dL_law_1346 : decode cL_law 1346 = .ok (.iconst 0, 1) := by decide +kernel
theorem dL_law_1347 : decode cL_law 1347 = .ok (.ireturn, 1) := by decide +kernel
theorem dL_law_1348 : decode cL_law 1348 = .ok (.aload_n 1, 1) := by decide +kernel
theorem dL_law_1349 : decode cL_law 1349 = .ok (.invokevirtual 160, 3) := by decide +kernel
theorem dL_law_1352 : decode cL_law 1352 = .ok (.aload_n 2, 1) := by decide +kernel
theorem dL_law_1353 : decode cL_law 1353 = .ok (.invokevirtual 164, 3) := by decide +kernel
theorem dL_law_1356 : decode cL_law 1356 = .ok (.lcmp, 1) := by decide +kernel
theorem dL_law_1357 : decode cL_law 1357 = .ok (.ifCond .eq 5, 3) := by decide +kernel
theorem dL_law_1360 : decode cL_law 1360 = .ok (.iconst 0, 1) := by decide +kernel
theorem dL_law_1361 : decode cL_law 1361 = .ok (.ireturn, 1) := by decide +kernel
theorem dL_law_1362 : decode cL_law 1362 = .ok (.iinc 3 6, 3) := by decide +kernel
theorem dL_law_1365 : decode cL_law 1365 = .ok (.goto (-1347), 3) := by decide +kernel
theorem dL_law_1368 : decode cL_law 1368 = .ok (.iconst 1, 1) := by decide +kernel
theorem dL_law_1369 : decode cL_law 1369 = .ok (.ireturn, 1) := by decide +kernel
end
section
def lw_tb : List Cond := lw_tbl.filter goodWord
theorem tb0 {w : Cond} (h : w ∈ k2_sels lw_privs) (g : goodWord w = true) : w ∈ lw_tb := List.mem_filter.mpr ⟨List.mem_append_left _ h, g⟩
theorem tbr {w : Cond} (h : w ∈ tables_1) (g : goodWord w = true) : w ∈ lw_tb := List.mem_filter.mpr ⟨List.mem_append_right _ h, g⟩
theorem tb1 {w : Cond} (h : w ∈ tables_1_1) (g : goodWord w = true) : w ∈ lw_tb := tbr (List.mem_append_left _ h) g
theorem tb2 {w : Cond} (h : w ∈ tables_1_2) (g : goodWord w = true) : w ∈ lw_tb := tbr (List.mem_append_right _ (List.mem_append_left _ h)) g
theorem tb3 {w : Cond} (h : w ∈ tables_1_3) (g : goodWord w = true) : w ∈ lw_tb := tbr (List.mem_append_right _ (List.mem_append_right _ (List.mem_append_left _ h))) g
theorem tb4 {w : Cond} (h : w ∈ tables_1_4) (g : goodWord w = true) : w ∈ lw_tb := tbr (List.mem_append_right _ (List.mem_append_right _ (List.mem_append_right _ (List.mem_append_left _ h)))) g
theorem tb5 {w : Cond} (h : w ∈ tables_1_5) (g : goodWord w = true) : w ∈ lw_tb := tbr (List.mem_append_right _ (List.mem_append_right _ (List.mem_append_right _ (List.mem_append_right _ h)))) g
theorem tbl_of {w : Cond} (h : w ∈ lw_tb) : w ∈ lw_tbl := (List.mem_filter.mp h).1
theorem good_tb {w : Cond} (h : w ∈ lw_tb) : (w.onTables && w.keeps) = true ∨ ∃ ty, w = .arrayClass ty := good_of_word (List.mem_filter.mp h).2
/-- an instance method that is called on an object of class CC -/
def MwV (CC : String) (y : MethodName) (bytes : ByteArray) (maxL : Nat) (ret : Option FieldType) (n : Nat) : Prop :=
  (y.cls = CC ∧ y.cls ≠ "java/lang/invoke/MethodHandle" ∧ y.cls ≠ "java/lang/invoke/VarHandle" ∧ (parseMethodDescriptor y.desc).map (fun d => d.parameters.length) = some n) ∧ Cond.instanceMethod y ∈ lw_tb ∧ Cond.selects CC y y ∈ lw_tb ∧ Cond.initialized CC ∈ lw_tb ∧ Cond.code y bytes maxL ret ∈ lw_tb
/-- a static method -/
def MwS (y : MethodName) (bytes : ByteArray) (maxL : Nat) (ret : Option FieldType) (n : Nat) : Prop :=
  (y.cls ≠ "java/lang/invoke/MethodHandle" ∧ y.cls ≠ "java/lang/invoke/VarHandle" ∧ (parseMethodDescriptor y.desc).map (fun d => d.parameters.length) = some n) ∧ Cond.static y ∈ lw_tb ∧ Cond.initialized y.cls ∈ lw_tb ∧ Cond.code y bytes maxL ret ∈ lw_tb
theorem GoodIn.tb {ws : List Cond} (h : ∀ w ∈ ws, w ∈ lw_tb) : GoodIn lw_tb ws := fun w hw => ⟨h w hw, good_tb (h w hw)⟩
theorem cons_tb {c : Cond} (h : c ∈ lw_tb) : ∀ w ∈ c :: lw_tb, w ∈ lw_tb := fun w hw => (List.mem_cons.mp hw).elim (fun e => e ▸ h) id
theorem MwV.good {own CC : String} {idx maxL n : Nat} {y : MethodName} {bytes : ByteArray} {ret : Option FieldType} (h : MwV CC y bytes maxL ret n) (hl : Cond.methodLink own idx y ∈ lw_tb) : GoodIn lw_tb (wsV own idx CC y (Cond.code y bytes maxL ret :: lw_tb)) := by
  obtain ⟨-, h1, h2, h3, h4⟩ := h
  refine GoodIn.tb (fun w hw => ?_)
  rcases List.mem_append.mp hw with hw | hw
  · simp only [List.mem_cons, List.not_mem_nil, or_false] at hw
    rcases hw with rfl | rfl | rfl | rfl <;> assumption
  · exact cons_tb h4 w hw
theorem MwS.good {own : String} {idx maxL n : Nat} {y : MethodName} {bytes : ByteArray} {ret : Option FieldType} (h : MwS y bytes maxL ret n) (hl : Cond.methodLink own idx y ∈ lw_tb) : GoodIn lw_tb (va_wsS own idx y (Cond.code y bytes maxL ret :: lw_tb)) := by
  obtain ⟨-, h1, h2, h3⟩ := h
  refine GoodIn.tb (fun w hw => ?_)
  rcases List.mem_append.mp hw with hw | hw
  · simp only [List.mem_cons, List.not_mem_nil, or_false] at hw
    rcases hw with rfl | rfl | rfl <;> assumption
  · exact cons_tb h3 w hw

set_option maxRecDepth 100000 in
theorem q0 : Cond.selects RX1 yX1_survey yX1_survey ∈ lw_tb := tb0 (List.mem_of_getElem? (i := 0) rfl) rfl
set_option maxRecDepth 100000 in
theorem q1 : Cond.selects RX1 yX1_findFault yX1_findFault ∈ lw_tb := tb0 (List.mem_of_getElem? (i := 1) rfl) rfl
set_option maxRecDepth 100000 in
theorem q2 : Cond.selects RX1 yX1_layCells yX1_layCells ∈ lw_tb := tb0 (List.mem_of_getElem? (i := 2) rfl) rfl
set_option maxRecDepth 100000 in
theorem q3 : Cond.selects RX6 yX6_measureAnew yX6_measureAnew ∈ lw_tb := tb0 (List.mem_of_getElem? (i := 3) rfl) rfl
set_option maxRecDepth 100000 in
theorem q4 : Cond.selects RX5 yX5_bitsAsBuilt yX5_bitsAsBuilt ∈ lw_tb := tb0 (List.mem_of_getElem? (i := 4) rfl) rfl
set_option maxRecDepth 100000 in
theorem q5 : Cond.selects RX5 yX5_darkHours yX5_darkHours ∈ lw_tb := tb0 (List.mem_of_getElem? (i := 5) rfl) rfl
set_option maxRecDepth 100000 in
theorem q6 : Cond.selects RX5 yX5_reachOf yX5_reachOf ∈ lw_tb := tb0 (List.mem_of_getElem? (i := 6) rfl) rfl
set_option maxRecDepth 100000 in
theorem q7 : Cond.selects RX5 yX5_rise yX5_rise ∈ lw_tb := tb0 (List.mem_of_getElem? (i := 7) rfl) rfl
set_option maxRecDepth 100000 in
theorem q8 : Cond.selects RX6 yX6_isCell yX6_isCell ∈ lw_tb := tb0 (List.mem_of_getElem? (i := 8) rfl) rfl
set_option maxRecDepth 100000 in
theorem q9 : Cond.selects RX6 yX6_found yX6_found ∈ lw_tb := tb0 (List.mem_of_getElem? (i := 9) rfl) rfl
set_option maxRecDepth 100000 in
theorem q10 : Cond.selects RX6 yX6_knowParts yX6_knowParts ∈ lw_tb := tb0 (List.mem_of_getElem? (i := 10) rfl) rfl
set_option maxRecDepth 100000 in
theorem q11 : Cond.selects RX2 yX2_prepare yX2_prepare ∈ lw_tb := tb0 (List.mem_of_getElem? (i := 11) rfl) rfl
set_option maxRecDepth 100000 in
theorem q12 : Cond.selects RX2 yX2_fillSums yX2_fillSums ∈ lw_tb := tb0 (List.mem_of_getElem? (i := 12) rfl) rfl
set_option maxRecDepth 100000 in
theorem q13 : Cond.selects RX2 yX2_differenceOf yX2_differenceOf ∈ lw_tb := tb0 (List.mem_of_getElem? (i := 13) rfl) rfl
set_option maxRecDepth 100000 in
theorem q14 : Cond.selects RX2 yX2_sumOf yX2_sumOf ∈ lw_tb := tb0 (List.mem_of_getElem? (i := 14) rfl) rfl
set_option maxRecDepth 100000 in
theorem q15 : Cond.selects RX2 yX2_bothHang yX2_bothHang ∈ lw_tb := tb0 (List.mem_of_getElem? (i := 15) rfl) rfl
set_option maxRecDepth 100000 in
theorem q16 : Cond.selects RX2 yX2_hangs yX2_hangs ∈ lw_tb := tb0 (List.mem_of_getElem? (i := 16) rfl) rfl
set_option maxRecDepth 100000 in
theorem q17 : Cond.selects RX2 yX2_nextTo yX2_nextTo ∈ lw_tb := tb0 (List.mem_of_getElem? (i := 17) rfl) rfl
set_option maxRecDepth 100000 in
theorem q18 : Cond.selects RX6 yX6_weighLosses yX6_weighLosses ∈ lw_tb := tb0 (List.mem_of_getElem? (i := 18) rfl) rfl
set_option maxRecDepth 100000 in
theorem q19 : Cond.selects RX6 yX6_mostLost yX6_mostLost ∈ lw_tb := tb0 (List.mem_of_getElem? (i := 19) rfl) rfl
set_option maxRecDepth 100000 in
theorem q20 : Cond.selects RX6 yX6_weighFall yX6_weighFall ∈ lw_tb := tb0 (List.mem_of_getElem? (i := 20) rfl) rfl
set_option maxRecDepth 100000 in
theorem q21 : Cond.selects RX6 yX6_worthTo yX6_worthTo ∈ lw_tb := tb0 (List.mem_of_getElem? (i := 21) rfl) rfl
set_option maxRecDepth 100000 in
theorem q22 : Cond.selects RX6 yX6_wouldSwap yX6_wouldSwap ∈ lw_tb := tb0 (List.mem_of_getElem? (i := 22) rfl) rfl
set_option maxRecDepth 100000 in
theorem q23 : Cond.selects RX6 yX6_wouldRather yX6_wouldRather ∈ lw_tb := tb0 (List.mem_of_getElem? (i := 23) rfl) rfl
set_option maxRecDepth 100000 in
theorem q24 : Cond.selects RX6 yX6_countPairs yX6_countPairs ∈ lw_tb := tb0 (List.mem_of_getElem? (i := 24) rfl) rfl
set_option maxRecDepth 100000 in
theorem q25 : Cond.selects RX6 yX6_countRings yX6_countRings ∈ lw_tb := tb0 (List.mem_of_getElem? (i := 25) rfl) rfl
set_option maxRecDepth 100000 in
theorem q26 : Cond.selects RX6 yX6_isRing yX6_isRing ∈ lw_tb := tb0 (List.mem_of_getElem? (i := 26) rfl) rfl
set_option maxRecDepth 100000 in
theorem q27 : Cond.selects RX3 yX3_bestFrom yX3_bestFrom ∈ lw_tb := tb0 (List.mem_of_getElem? (i := 27) rfl) rfl
set_option maxRecDepth 100000 in
theorem q28 : Cond.selects RX3 yX3_payFrom yX3_payFrom ∈ lw_tb := tb0 (List.mem_of_getElem? (i := 28) rfl) rfl
set_option maxRecDepth 100000 in
theorem q29 : Cond.selects RX3 yX3_mayStand yX3_mayStand ∈ lw_tb := tb0 (List.mem_of_getElem? (i := 29) rfl) rfl
set_option maxRecDepth 100000 in
theorem q30 : Cond.selects RX3 yX3_leastSort yX3_leastSort ∈ lw_tb := tb0 (List.mem_of_getElem? (i := 30) rfl) rfl
set_option maxRecDepth 100000 in
theorem q31 : Cond.selects RX6 yX6_fitsAllSeen yX6_fitsAllSeen ∈ lw_tb := tb0 (List.mem_of_getElem? (i := 31) rfl) rfl
set_option maxRecDepth 100000 in
theorem q32 : Cond.selects RX0 yX0_reduce yX0_reduce ∈ lw_tb := tb0 (List.mem_of_getElem? (i := 32) rfl) rfl
set_option maxRecDepth 100000 in
theorem q33 : Cond.selects RX0 yX0_countWays yX0_countWays ∈ lw_tb := tb0 (List.mem_of_getElem? (i := 33) rfl) rfl
set_option maxRecDepth 100000 in
theorem q34 : Cond.selects RX6 yX6_refuseItem yX6_refuseItem ∈ lw_tb := tb0 (List.mem_of_getElem? (i := 34) rfl) rfl
set_option maxRecDepth 100000 in
theorem q35 : Cond.selects RX6 yX6_countStanding yX6_countStanding ∈ lw_tb := tb0 (List.mem_of_getElem? (i := 35) rfl) rfl
set_option maxRecDepth 100000 in
theorem q36 : Cond.selects RX6 yX6_countOwners yX6_countOwners ∈ lw_tb := tb0 (List.mem_of_getElem? (i := 36) rfl) rfl
set_option maxRecDepth 100000 in
theorem q37 : Cond.selects RX6 yX6_mixCell yX6_mixCell ∈ lw_tb := tb0 (List.mem_of_getElem? (i := 37) rfl) rfl
set_option maxRecDepth 100000 in
theorem q38 : Cond.selects RX6 yX6_mixChances yX6_mixChances ∈ lw_tb := tb0 (List.mem_of_getElem? (i := 38) rfl) rfl
set_option maxRecDepth 100000 in
theorem q39 : Cond.selects RX7 yX7_faultNow yX7_faultNow ∈ lw_tb := tb0 (List.mem_of_getElem? (i := 39) rfl) rfl
set_option maxRecDepth 100000 in
theorem q40 : Cond.selects RX7 yX7_figureAt yX7_figureAt ∈ lw_tb := tb0 (List.mem_of_getElem? (i := 40) rfl) rfl
set_option maxRecDepth 100000 in
theorem q41 : Cond.selects RX7 yX7_isCell yX7_isCell ∈ lw_tb := tb0 (List.mem_of_getElem? (i := 41) rfl) rfl
set_option maxRecDepth 100000 in
theorem q42 : Cond.selects RX7 yX7_cellOf yX7_cellOf ∈ lw_tb := tb0 (List.mem_of_getElem? (i := 42) rfl) rfl
set_option maxRecDepth 100000 in
theorem q43 : Cond.selects RX7 yX7_meets yX7_meets ∈ lw_tb := tb0 (List.mem_of_getElem? (i := 43) rfl) rfl
set_option maxRecDepth 100000 in
theorem q44 : Cond.selects RX7 yX7_shadeOf yX7_shadeOf ∈ lw_tb := tb0 (List.mem_of_getElem? (i := 44) rfl) rfl
set_option maxRecDepth 100000 in
theorem q45 : Cond.selects RX7 yX7_lightOf yX7_lightOf ∈ lw_tb := tb0 (List.mem_of_getElem? (i := 45) rfl) rfl
set_option maxRecDepth 100000 in
theorem q46 : Cond.selects RX7 yX7_hoursOf yX7_hoursOf ∈ lw_tb := tb0 (List.mem_of_getElem? (i := 46) rfl) rfl
set_option maxRecDepth 100000 in
theorem q47 : Cond.selects RX7 yX7_yearOf yX7_yearOf ∈ lw_tb := tb0 (List.mem_of_getElem? (i := 47) rfl) rfl
set_option maxRecDepth 100000 in
theorem q48 : Cond.selects RX7 yX7_hasOf yX7_hasOf ∈ lw_tb := tb0 (List.mem_of_getElem? (i := 48) rfl) rfl
set_option maxRecDepth 100000 in
theorem q49 : Cond.selects RX7 yX7_partsOf yX7_partsOf ∈ lw_tb := tb0 (List.mem_of_getElem? (i := 49) rfl) rfl
set_option maxRecDepth 100000 in
theorem q50 : Cond.selects RX7 yX7_partsNow yX7_partsNow ∈ lw_tb := tb0 (List.mem_of_getElem? (i := 50) rfl) rfl
set_option maxRecDepth 100000 in
theorem q51 : Cond.selects RX7 yX7_laysYears yX7_laysYears ∈ lw_tb := tb0 (List.mem_of_getElem? (i := 51) rfl) rfl
set_option maxRecDepth 100000 in
theorem q52 : Cond.selects RX7 yX7_all yX7_all ∈ lw_tb := tb0 (List.mem_of_getElem? (i := 52) rfl) rfl
set_option maxRecDepth 100000 in
theorem q53 : Cond.selects RX7 yX7_differs yX7_differs ∈ lw_tb := tb0 (List.mem_of_getElem? (i := 53) rfl) rfl
set_option maxRecDepth 100000 in
theorem q54 : Cond.selects RX7 yX7_isParting yX7_isParting ∈ lw_tb := tb0 (List.mem_of_getElem? (i := 54) rfl) rfl
set_option maxRecDepth 100000 in
theorem q55 : Cond.selects RX7 yX7_hangs yX7_hangs ∈ lw_tb := tb0 (List.mem_of_getElem? (i := 55) rfl) rfl
set_option maxRecDepth 100000 in
theorem q56 : Cond.selects RX7 yX7_isNext yX7_isNext ∈ lw_tb := tb0 (List.mem_of_getElem? (i := 56) rfl) rfl
set_option maxRecDepth 100000 in
theorem q57 : Cond.selects RX7 yX7_takenOf yX7_takenOf ∈ lw_tb := tb0 (List.mem_of_getElem? (i := 57) rfl) rfl
set_option maxRecDepth 100000 in
theorem q58 : Cond.selects RX7 yX7_highestOf yX7_highestOf ∈ lw_tb := tb0 (List.mem_of_getElem? (i := 58) rfl) rfl
set_option maxRecDepth 100000 in
theorem q59 : Cond.selects RX7 yX7_againOf yX7_againOf ∈ lw_tb := tb0 (List.mem_of_getElem? (i := 59) rfl) rfl
set_option maxRecDepth 100000 in
theorem q60 : Cond.selects RX7 yX7_valueOf yX7_valueOf ∈ lw_tb := tb0 (List.mem_of_getElem? (i := 60) rfl) rfl
set_option maxRecDepth 100000 in
theorem q61 : Cond.selects RX7 yX7_isChange yX7_isChange ∈ lw_tb := tb0 (List.mem_of_getElem? (i := 61) rfl) rfl
set_option maxRecDepth 100000 in
theorem q62 : Cond.selects RX7 yX7_isRather yX7_isRather ∈ lw_tb := tb0 (List.mem_of_getElem? (i := 62) rfl) rfl
set_option maxRecDepth 100000 in
theorem q63 : Cond.selects RX7 yX7_changesOf yX7_changesOf ∈ lw_tb := tb0 (List.mem_of_getElem? (i := 63) rfl) rfl
set_option maxRecDepth 100000 in
theorem q64 : Cond.selects RX7 yX7_setOf yX7_setOf ∈ lw_tb := tb0 (List.mem_of_getElem? (i := 64) rfl) rfl
set_option maxRecDepth 100000 in
theorem q65 : Cond.selects RX7 yX7_whoseOf yX7_whoseOf ∈ lw_tb := tb0 (List.mem_of_getElem? (i := 65) rfl) rfl
set_option maxRecDepth 100000 in
theorem q66 : Cond.selects RX7 yX7_clearOf yX7_clearOf ∈ lw_tb := tb0 (List.mem_of_getElem? (i := 66) rfl) rfl
set_option maxRecDepth 100000 in
theorem q67 : Cond.selects RX7 yX7_lacks yX7_lacks ∈ lw_tb := tb0 (List.mem_of_getElem? (i := 67) rfl) rfl
set_option maxRecDepth 100000 in
theorem q68 : Cond.selects RX7 yX7_keep yX7_keep ∈ lw_tb := tb0 (List.mem_of_getElem? (i := 68) rfl) rfl
set_option maxRecDepth 100000 in
theorem q69 : Cond.selects RX7 yX7_sumOf yX7_sumOf ∈ lw_tb := tb0 (List.mem_of_getElem? (i := 69) rfl) rfl
set_option maxRecDepth 100000 in
theorem q70 : Cond.initialized RL ∈ lw_tb := tb1 (List.mem_of_getElem? (i := 0) rfl) rfl
set_option maxRecDepth 100000 in
theorem q71 : Cond.initialized RX6 ∈ lw_tb := tb1 (List.mem_of_getElem? (i := 1) rfl) rfl
set_option maxRecDepth 100000 in
theorem q72 : Cond.initialized RX5 ∈ lw_tb := tb1 (List.mem_of_getElem? (i := 2) rfl) rfl
set_option maxRecDepth 100000 in
theorem q73 : Cond.initialized RX1 ∈ lw_tb := tb1 (List.mem_of_getElem? (i := 3) rfl) rfl
set_option maxRecDepth 100000 in
theorem q74 : Cond.initialized RX2 ∈ lw_tb := tb1 (List.mem_of_getElem? (i := 4) rfl) rfl
set_option maxRecDepth 100000 in
theorem q75 : Cond.initialized RX3 ∈ lw_tb := tb1 (List.mem_of_getElem? (i := 5) rfl) rfl
set_option maxRecDepth 100000 in
theorem q76 : Cond.initialized RX0 ∈ lw_tb := tb1 (List.mem_of_getElem? (i := 6) rfl) rfl
set_option maxRecDepth 100000 in
theorem q77 : Cond.initialized RX4 ∈ lw_tb := tb1 (List.mem_of_getElem? (i := 7) rfl) rfl
set_option maxRecDepth 100000 in
theorem q78 : Cond.initialized RJ7 ∈ lw_tb := tb1 (List.mem_of_getElem? (i := 8) rfl) rfl
set_option maxRecDepth 100000 in
theorem q79 : Cond.initialized RX7 ∈ lw_tb := tb1 (List.mem_of_getElem? (i := 9) rfl) rfl
set_option maxRecDepth 100000 in
theorem q80 : Cond.initialized RJ6 ∈ lw_tb := tb1 (List.mem_of_getElem? (i := 10) rfl) rfl
set_option maxRecDepth 100000 in
theorem q81 : Cond.initialized RJ9 ∈ lw_tb := tb1 (List.mem_of_getElem? (i := 11) rfl) rfl
set_option maxRecDepth 100000 in
theorem q82 : Cond.initialized RJ10 ∈ lw_tb := tb1 (List.mem_of_getElem? (i := 12) rfl) rfl
set_option maxRecDepth 100000 in
theorem q83 : Cond.classLink RL 7 RX6 ∈ lw_tb := tb1 (List.mem_of_getElem? (i := 13) rfl) rfl
set_option maxRecDepth 100000 in
theorem q84 : Cond.instantiable RX6 17 ∈ lw_tb := tb1 (List.mem_of_getElem? (i := 14) rfl) rfl
set_option maxRecDepth 100000 in
theorem q85 : Cond.methodLink RL 9 yX6_init ∈ lw_tb := tb1 (List.mem_of_getElem? (i := 15) rfl) rfl
set_option maxRecDepth 100000 in
theorem q86 : Cond.instanceMethod yX6_init ∈ lw_tb := tb1 (List.mem_of_getElem? (i := 16) rfl) rfl
set_option maxRecDepth 100000 in
theorem q87 : Cond.code yX6_init cX6_init 1 none ∈ lw_tb := tb1 (List.mem_of_getElem? (i := 17) rfl) rfl
set_option maxRecDepth 100000 in
theorem q88 : Cond.methodLink RX6 1 (⟨"java/lang/Object", "<init>", "()V"⟩ : MethodName) ∈ lw_tb := tb1 (List.mem_of_getElem? (i := 18) rfl) rfl
set_option maxRecDepth 100000 in
theorem q89 : Cond.instanceMethod (⟨"java/lang/Object", "<init>", "()V"⟩ : MethodName) ∈ lw_tb := tb1 (List.mem_of_getElem? (i := 19) rfl) rfl
set_option maxRecDepth 100000 in
theorem q91 : Cond.classLink RX6 7 RX5 ∈ lw_tb := tb1 (List.mem_of_getElem? (i := 21) rfl) rfl
set_option maxRecDepth 100000 in
theorem q92 : Cond.instantiable RX5 6 ∈ lw_tb := tb1 (List.mem_of_getElem? (i := 22) rfl) rfl
set_option maxRecDepth 100000 in
theorem q93 : Cond.methodLinkNest RX6 9 yX5_init "HillHours" ∈ lw_tbl := by
  have h : Cond.methodLinkNest RX6 9 yX5_init "HillHours" ∈ tables_1_1 := List.mem_of_getElem? (i := 23) rfl
  exact List.mem_append_right _ (show _ ∈ tables_1 from List.mem_append_left _ h)
set_option maxRecDepth 100000 in
theorem q94 : Cond.instanceMethod yX5_init ∈ lw_tb := tb1 (List.mem_of_getElem? (i := 24) rfl) rfl
set_option maxRecDepth 100000 in
theorem q95 : Cond.code yX5_init cX5_init 1 none ∈ lw_tb := tb1 (List.mem_of_getElem? (i := 25) rfl) rfl
set_option maxRecDepth 100000 in
theorem q96 : Cond.methodLink RX5 3 (⟨"java/lang/Object", "<init>", "()V"⟩ : MethodName) ∈ lw_tb := tb1 (List.mem_of_getElem? (i := 26) rfl) rfl
set_option maxRecDepth 100000 in
theorem q97 : Cond.classLink RX5 9 RX1 ∈ lw_tb := tb1 (List.mem_of_getElem? (i := 27) rfl) rfl
set_option maxRecDepth 100000 in
theorem q98 : Cond.instantiable RX1 8 ∈ lw_tb := tb1 (List.mem_of_getElem? (i := 28) rfl) rfl
set_option maxRecDepth 100000 in
theorem q99 : Cond.methodLinkNest RX5 11 yX1_init "HillHours" ∈ lw_tbl := by
  have h : Cond.methodLinkNest RX5 11 yX1_init "HillHours" ∈ tables_1_1 := List.mem_of_getElem? (i := 29) rfl
  exact List.mem_append_right _ (show _ ∈ tables_1 from List.mem_append_left _ h)
set_option maxRecDepth 100000 in
theorem q100 : Cond.instanceMethod yX1_init ∈ lw_tb := tb1 (List.mem_of_getElem? (i := 30) rfl) rfl
set_option maxRecDepth 100000 in
theorem q101 : Cond.code yX1_init cX1_init 1 none ∈ lw_tb := tb1 (List.mem_of_getElem? (i := 31) rfl) rfl
set_option maxRecDepth 100000 in
theorem q102 : Cond.methodLink RX1 3 (⟨"java/lang/Object", "<init>", "()V"⟩ : MethodName) ∈ lw_tb := tb1 (List.mem_of_getElem? (i := 32) rfl) rfl
set_option maxRecDepth 100000 in
theorem q103 : Cond.fieldLink RX1 11 "HillHours$Ground" "text" "[I" ∈ lw_tb := tb1 (List.mem_of_getElem? (i := 33) rfl) rfl
set_option maxRecDepth 100000 in
theorem q104 : Cond.fieldLink RX1 15 "HillHours$Ground" "heights" "[I" ∈ lw_tb := tb1 (List.mem_of_getElem? (i := 34) rfl) rfl
set_option maxRecDepth 100000 in
theorem q105 : Cond.fieldLinkNest RX5 71 "HillHours$Ground" "heights" "[I" "HillHours" ∈ lw_tbl := by
  have h : Cond.fieldLinkNest RX5 71 "HillHours$Ground" "heights" "[I" "HillHours" ∈ tables_1_1 := List.mem_of_getElem? (i := 35) rfl
  exact List.mem_append_right _ (show _ ∈ tables_1 from List.mem_append_left _ h)
set_option maxRecDepth 100000 in
theorem q106 : Cond.fieldLink RX1 18 "HillHours$Ground" "columnsOfCells" "[I" ∈ lw_tb := tb1 (List.mem_of_getElem? (i := 36) rfl) rfl
set_option maxRecDepth 100000 in
theorem q107 : Cond.fieldLinkNest RX5 64 "HillHours$Ground" "columnsOfCells" "[I" "HillHours" ∈ lw_tbl := by
  have h : Cond.fieldLinkNest RX5 64 "HillHours$Ground" "columnsOfCells" "[I" "HillHours" ∈ tables_1_1 := List.mem_of_getElem? (i := 37) rfl
  exact List.mem_append_right _ (show _ ∈ tables_1 from List.mem_append_left _ h)
set_option maxRecDepth 100000 in
theorem q108 : Cond.fieldLink RX1 25 "HillHours$Ground" "byteCount" "I" ∈ lw_tb := tb1 (List.mem_of_getElem? (i := 38) rfl) rfl
set_option maxRecDepth 100000 in
theorem q109 : Cond.fieldLink RX1 28 "HillHours$Ground" "rowCount" "I" ∈ lw_tb := tb1 (List.mem_of_getElem? (i := 39) rfl) rfl
set_option maxRecDepth 100000 in
theorem q110 : Cond.fieldLink RX1 31 "HillHours$Ground" "columnCount" "I" ∈ lw_tb := tb1 (List.mem_of_getElem? (i := 40) rfl) rfl
set_option maxRecDepth 100000 in
theorem q111 : Cond.fieldLinkNest RX5 67 "HillHours$Ground" "columnCount" "I" "HillHours" ∈ lw_tbl := by
  have h : Cond.fieldLinkNest RX5 67 "HillHours$Ground" "columnCount" "I" "HillHours" ∈ tables_1_1 := List.mem_of_getElem? (i := 41) rfl
  exact List.mem_append_right _ (show _ ∈ tables_1 from List.mem_append_left _ h)
set_option maxRecDepth 100000 in
theorem q112 : Cond.fieldLink RX1 34 "HillHours$Ground" "cellCount" "I" ∈ lw_tb := tb1 (List.mem_of_getElem? (i := 42) rfl) rfl
set_option maxRecDepth 100000 in
theorem q113 : Cond.fieldLink RX1 21 "HillHours$Ground" "faultAt" "I" ∈ lw_tb := tb1 (List.mem_of_getElem? (i := 43) rfl) rfl
set_option maxRecDepth 100000 in
theorem q131 : Cond.arrayClass .int ∈ lw_tb := tb1 (List.mem_of_getElem? (i := 61) rfl) rfl
set_option maxRecDepth 100000 in
theorem q132 : Cond.fieldLink RX5 12 "HillHours$Sun" "ground" "LHillHours$Ground;" ∈ lw_tb := tb1 (List.mem_of_getElem? (i := 62) rfl) rfl
set_option maxRecDepth 100000 in
theorem q133 : Cond.fieldLinkNest RX6 16 "HillHours$Sun" "ground" "LHillHours$Ground;" "HillHours" ∈ lw_tbl := by
  have h : Cond.fieldLinkNest RX6 16 "HillHours$Sun" "ground" "LHillHours$Ground;" "HillHours" ∈ tables_1_1 := List.mem_of_getElem? (i := 63) rfl
  exact List.mem_append_right _ (show _ ∈ tables_1 from List.mem_append_left _ h)
set_option maxRecDepth 100000 in
theorem q134 : Cond.fieldLink RX5 18 "HillHours$Sun" "standing" "[I" ∈ lw_tb := tb1 (List.mem_of_getElem? (i := 64) rfl) rfl
set_option maxRecDepth 100000 in
theorem q135 : Cond.fieldLink RX5 22 "HillHours$Sun" "dayCounts" "[I" ∈ lw_tb := tb1 (List.mem_of_getElem? (i := 65) rfl) rfl
set_option maxRecDepth 100000 in
theorem q136 : Cond.fieldLink RX5 25 "HillHours$Sun" "lightBits" "[I" ∈ lw_tb := tb1 (List.mem_of_getElem? (i := 66) rfl) rfl
set_option maxRecDepth 100000 in
theorem q137 : Cond.fieldLink RX5 28 "HillHours$Sun" "sunHours" "[I" ∈ lw_tb := tb1 (List.mem_of_getElem? (i := 67) rfl) rfl
set_option maxRecDepth 100000 in
theorem q138 : Cond.fieldLink RX5 31 "HillHours$Sun" "cellYears" "[I" ∈ lw_tb := tb1 (List.mem_of_getElem? (i := 68) rfl) rfl
set_option maxRecDepth 100000 in
theorem q152 : Cond.classLink RX6 21 RX2 ∈ lw_tb := tb1 (List.mem_of_getElem? (i := 82) rfl) rfl
set_option maxRecDepth 100000 in
theorem q153 : Cond.instantiable RX2 11 ∈ lw_tb := tb1 (List.mem_of_getElem? (i := 83) rfl) rfl
set_option maxRecDepth 100000 in
theorem q154 : Cond.methodLinkNest RX6 23 yX2_init "HillHours" ∈ lw_tbl := by
  have h : Cond.methodLinkNest RX6 23 yX2_init "HillHours" ∈ tables_1_1 := List.mem_of_getElem? (i := 84) rfl
  exact List.mem_append_right _ (show _ ∈ tables_1 from List.mem_append_left _ h)
set_option maxRecDepth 100000 in
theorem q155 : Cond.instanceMethod yX2_init ∈ lw_tb := tb1 (List.mem_of_getElem? (i := 85) rfl) rfl
set_option maxRecDepth 100000 in
theorem q156 : Cond.code yX2_init cX2_init 1 none ∈ lw_tb := tb1 (List.mem_of_getElem? (i := 86) rfl) rfl
set_option maxRecDepth 100000 in
theorem q157 : Cond.methodLink RX2 3 (⟨"java/lang/Object", "<init>", "()V"⟩ : MethodName) ∈ lw_tb := tb1 (List.mem_of_getElem? (i := 87) rfl) rfl
set_option maxRecDepth 100000 in
theorem q158 : Cond.fieldLink RX2 11 "HillHours$Parting" "lowSums" "[I" ∈ lw_tb := tb1 (List.mem_of_getElem? (i := 88) rfl) rfl
set_option maxRecDepth 100000 in
theorem q159 : Cond.fieldLink RX2 15 "HillHours$Parting" "highSums" "[I" ∈ lw_tb := tb1 (List.mem_of_getElem? (i := 89) rfl) rfl
set_option maxRecDepth 100000 in
theorem q160 : Cond.fieldLink RX2 57 "HillHours$Parting" "cells" "I" ∈ lw_tb := tb1 (List.mem_of_getElem? (i := 90) rfl) rfl
set_option maxRecDepth 100000 in
theorem q161 : Cond.fieldLink RX2 62 "HillHours$Parting" "columns" "I" ∈ lw_tb := tb1 (List.mem_of_getElem? (i := 91) rfl) rfl
set_option maxRecDepth 100000 in
theorem q162 : Cond.fieldLink RX2 35 "HillHours$Parting" "all" "I" ∈ lw_tb := tb1 (List.mem_of_getElem? (i := 92) rfl) rfl
set_option maxRecDepth 100000 in
theorem q163 : Cond.fieldLink RX2 64 "HillHours$Parting" "eastColumn" "I" ∈ lw_tb := tb1 (List.mem_of_getElem? (i := 93) rfl) rfl
set_option maxRecDepth 100000 in
theorem q164 : Cond.fieldLink RX2 67 "HillHours$Parting" "westColumn" "I" ∈ lw_tb := tb1 (List.mem_of_getElem? (i := 94) rfl) rfl
set_option maxRecDepth 100000 in
theorem q165 : Cond.fieldLink RX2 18 "HillHours$Parting" "first" "I" ∈ lw_tb := tb1 (List.mem_of_getElem? (i := 95) rfl) rfl
set_option maxRecDepth 100000 in
theorem q166 : Cond.fieldLink RX2 22 "HillHours$Parting" "difference" "I" ∈ lw_tb := tb1 (List.mem_of_getElem? (i := 96) rfl) rfl
set_option maxRecDepth 100000 in
theorem q167 : Cond.fieldLink RX2 25 "HillHours$Parting" "firstAfter" "I" ∈ lw_tb := tb1 (List.mem_of_getElem? (i := 97) rfl) rfl
set_option maxRecDepth 100000 in
theorem q168 : Cond.fieldLink RX2 28 "HillHours$Parting" "moved" "I" ∈ lw_tb := tb1 (List.mem_of_getElem? (i := 98) rfl) rfl
set_option maxRecDepth 100000 in
theorem q192 : Cond.classLink RX6 28 RX3 ∈ lw_tb := tb1 (List.mem_of_getElem? (i := 122) rfl) rfl
set_option maxRecDepth 100000 in
theorem q193 : Cond.instantiable RX3 4 ∈ lw_tb := tb1 (List.mem_of_getElem? (i := 123) rfl) rfl
set_option maxRecDepth 100000 in
theorem q194 : Cond.methodLinkNest RX6 30 yX3_init "HillHours" ∈ lw_tbl := by
  have h : Cond.methodLinkNest RX6 30 yX3_init "HillHours" ∈ tables_1_1 := List.mem_of_getElem? (i := 124) rfl
  exact List.mem_append_right _ (show _ ∈ tables_1 from List.mem_append_left _ h)
set_option maxRecDepth 100000 in
theorem q195 : Cond.instanceMethod yX3_init ∈ lw_tb := tb1 (List.mem_of_getElem? (i := 125) rfl) rfl
set_option maxRecDepth 100000 in
theorem q196 : Cond.code yX3_init cX3_init 1 none ∈ lw_tb := tb1 (List.mem_of_getElem? (i := 126) rfl) rfl
set_option maxRecDepth 100000 in
theorem q197 : Cond.methodLink RX3 3 (⟨"java/lang/Object", "<init>", "()V"⟩ : MethodName) ∈ lw_tb := tb1 (List.mem_of_getElem? (i := 127) rfl) rfl
set_option maxRecDepth 100000 in
theorem q198 : Cond.fieldLink RX3 9 "HillHours$Planting" "needs" "[I" ∈ lw_tb := tb1 (List.mem_of_getElem? (i := 128) rfl) rfl
set_option maxRecDepth 100000 in
theorem q199 : Cond.fieldLink RX3 15 "HillHours$Planting" "pays" "[I" ∈ lw_tb := tb1 (List.mem_of_getElem? (i := 129) rfl) rfl
set_option maxRecDepth 100000 in
theorem q200 : Cond.fieldLink RX3 18 "HillHours$Planting" "sorts" "[I" ∈ lw_tb := tb1 (List.mem_of_getElem? (i := 130) rfl) rfl
set_option maxRecDepth 100000 in
theorem q201 : Cond.fieldLink RX3 21 "HillHours$Planting" "most" "[I" ∈ lw_tb := tb1 (List.mem_of_getElem? (i := 131) rfl) rfl
set_option maxRecDepth 100000 in
theorem q211 : Cond.classLink RX6 35 RX0 ∈ lw_tb := tb1 (List.mem_of_getElem? (i := 141) rfl) rfl
set_option maxRecDepth 100000 in
theorem q212 : Cond.instantiable RX0 3 ∈ lw_tb := tb1 (List.mem_of_getElem? (i := 142) rfl) rfl
set_option maxRecDepth 100000 in
theorem q213 : Cond.methodLinkNest RX6 37 yX0_init "HillHours" ∈ lw_tbl := by
  have h : Cond.methodLinkNest RX6 37 yX0_init "HillHours" ∈ tables_1_1 := List.mem_of_getElem? (i := 143) rfl
  exact List.mem_append_right _ (show _ ∈ tables_1 from List.mem_append_left _ h)
set_option maxRecDepth 100000 in
theorem q214 : Cond.instanceMethod yX0_init ∈ lw_tb := tb1 (List.mem_of_getElem? (i := 144) rfl) rfl
set_option maxRecDepth 100000 in
theorem q215 : Cond.code yX0_init cX0_init 1 none ∈ lw_tb := tb1 (List.mem_of_getElem? (i := 145) rfl) rfl
set_option maxRecDepth 100000 in
theorem q216 : Cond.methodLink RX0 3 (⟨"java/lang/Object", "<init>", "()V"⟩ : MethodName) ∈ lw_tb := tb1 (List.mem_of_getElem? (i := 146) rfl) rfl
set_option maxRecDepth 100000 in
theorem q217 : Cond.fieldLink RX0 9 "HillHours$Chance" "ways" "[J" ∈ lw_tb := tb1 (List.mem_of_getElem? (i := 147) rfl) rfl
set_option maxRecDepth 100000 in
theorem q218 : Cond.fieldLink RX0 19 "HillHours$Chance" "upper" "J" ∈ lw_tb := tb1 (List.mem_of_getElem? (i := 148) rfl) rfl
set_option maxRecDepth 100000 in
theorem q219 : Cond.fieldLink RX0 15 "HillHours$Chance" "lower" "J" ∈ lw_tb := tb1 (List.mem_of_getElem? (i := 149) rfl) rfl
set_option maxRecDepth 100000 in
theorem q227 : Cond.arrayClass .long ∈ lw_tb := tb1 (List.mem_of_getElem? (i := 157) rfl) rfl
set_option maxRecDepth 100000 in
theorem q228 : Cond.classLink RX6 42 RX4 ∈ lw_tb := tb1 (List.mem_of_getElem? (i := 158) rfl) rfl
set_option maxRecDepth 100000 in
theorem q229 : Cond.instantiable RX4 3 ∈ lw_tb := tb1 (List.mem_of_getElem? (i := 159) rfl) rfl
set_option maxRecDepth 100000 in
theorem q230 : Cond.methodLinkNest RX6 44 yX4_init "HillHours" ∈ lw_tbl := by
  have h : Cond.methodLinkNest RX6 44 yX4_init "HillHours" ∈ tables_1_1 := List.mem_of_getElem? (i := 160) rfl
  exact List.mem_append_right _ (show _ ∈ tables_1 from List.mem_append_left _ h)
set_option maxRecDepth 100000 in
theorem q231 : Cond.instanceMethod yX4_init ∈ lw_tb := tb1 (List.mem_of_getElem? (i := 161) rfl) rfl
set_option maxRecDepth 100000 in
theorem q232 : Cond.code yX4_init cX4_init 1 none ∈ lw_tb := tb1 (List.mem_of_getElem? (i := 162) rfl) rfl
set_option maxRecDepth 100000 in
theorem q233 : Cond.methodLink RX4 3 (⟨"java/lang/Object", "<init>", "()V"⟩ : MethodName) ∈ lw_tb := tb1 (List.mem_of_getElem? (i := 163) rfl) rfl
set_option maxRecDepth 100000 in
theorem q234 : Cond.fieldLink RX4 9 "HillHours$Sheets" "items" "[I" ∈ lw_tb := tb1 (List.mem_of_getElem? (i := 164) rfl) rfl
set_option maxRecDepth 100000 in
theorem q235 : Cond.fieldLink RX4 15 "HillHours$Sheets" "forms" "[I" ∈ lw_tb := tb1 (List.mem_of_getElem? (i := 165) rfl) rfl
set_option maxRecDepth 100000 in
theorem q236 : Cond.fieldLink RX4 18 "HillHours$Sheets" "sizes" "[I" ∈ lw_tb := tb1 (List.mem_of_getElem? (i := 166) rfl) rfl
set_option maxRecDepth 100000 in
theorem q244 : Cond.methodLink RX6 71 yJ7_fill_53178 ∈ lw_tb := tb1 (List.mem_of_getElem? (i := 174) rfl) rfl
set_option maxRecDepth 100000 in
theorem q245 : Cond.static yJ7_fill_53178 ∈ lw_tb := tb1 (List.mem_of_getElem? (i := 175) rfl) rfl
set_option maxRecDepth 100000 in
theorem q246 : Cond.code yJ7_fill_53178 cJ7_fill_53178 4 none ∈ lw_tb := tb1 (List.mem_of_getElem? (i := 176) rfl) rfl
set_option maxRecDepth 100000 in
theorem q247 : Cond.fieldLink RX6 10 "HillHours" "sun" "LHillHours$Sun;" ∈ lw_tb := tb1 (List.mem_of_getElem? (i := 177) rfl) rfl
set_option maxRecDepth 100000 in
theorem q248 : Cond.fieldLink RX6 20 "HillHours" "ground" "LHillHours$Ground;" ∈ lw_tb := tb1 (List.mem_of_getElem? (i := 178) rfl) rfl
set_option maxRecDepth 100000 in
theorem q249 : Cond.fieldLink RX6 24 "HillHours" "parting" "LHillHours$Parting;" ∈ lw_tb := tb1 (List.mem_of_getElem? (i := 179) rfl) rfl
set_option maxRecDepth 100000 in
theorem q250 : Cond.fieldLink RX6 31 "HillHours" "planting" "LHillHours$Planting;" ∈ lw_tb := tb1 (List.mem_of_getElem? (i := 180) rfl) rfl
set_option maxRecDepth 100000 in
theorem q251 : Cond.fieldLink RX6 38 "HillHours" "chance" "LHillHours$Chance;" ∈ lw_tb := tb1 (List.mem_of_getElem? (i := 181) rfl) rfl
set_option maxRecDepth 100000 in
theorem q252 : Cond.fieldLink RX6 45 "HillHours" "sheets" "LHillHours$Sheets;" ∈ lw_tb := tb1 (List.mem_of_getElem? (i := 182) rfl) rfl
set_option maxRecDepth 100000 in
theorem q253 : Cond.fieldLink RX6 49 "HillHours" "owners" "[I" ∈ lw_tb := tb1 (List.mem_of_getElem? (i := 183) rfl) rfl
set_option maxRecDepth 100000 in
theorem q254 : Cond.fieldLink RX6 53 "HillHours" "worths" "[I" ∈ lw_tb := tb1 (List.mem_of_getElem? (i := 184) rfl) rfl
set_option maxRecDepth 100000 in
theorem q255 : Cond.fieldLink RX6 56 "HillHours" "losses" "[I" ∈ lw_tb := tb1 (List.mem_of_getElem? (i := 185) rfl) rfl
set_option maxRecDepth 100000 in
theorem q256 : Cond.fieldLink RX6 59 "HillHours" "yearsAfterFall" "[I" ∈ lw_tb := tb1 (List.mem_of_getElem? (i := 186) rfl) rfl
set_option maxRecDepth 100000 in
theorem q257 : Cond.fieldLink RX6 62 "HillHours" "seenSeasons" "[I" ∈ lw_tb := tb1 (List.mem_of_getElem? (i := 187) rfl) rfl
set_option maxRecDepth 100000 in
theorem q258 : Cond.fieldLink RX6 65 "HillHours" "seenHours" "[I" ∈ lw_tb := tb1 (List.mem_of_getElem? (i := 188) rfl) rfl
set_option maxRecDepth 100000 in
theorem q259 : Cond.fieldLink RX6 68 "HillHours" "cloudSixteenths" "[I" ∈ lw_tb := tb1 (List.mem_of_getElem? (i := 189) rfl) rfl
set_option maxRecDepth 100000 in
theorem q260 : Cond.fieldLink RX6 224 "HillHours" "seenCount" "I" ∈ lw_tb := tb1 (List.mem_of_getElem? (i := 190) rfl) rfl
set_option maxRecDepth 100000 in
theorem q261 : Cond.fieldLink RX6 291 "HillHours" "latestFinding" "I" ∈ lw_tb := tb1 (List.mem_of_getElem? (i := 191) rfl) rfl
set_option maxRecDepth 100000 in
theorem q262 : Cond.fieldLink RX6 358 "HillHours" "partsKnown" "Z" ∈ lw_tb := tb1 (List.mem_of_getElem? (i := 192) rfl) rfl
set_option maxRecDepth 100000 in
theorem q263 : Cond.fieldLink RX6 201 "HillHours" "plantsKnown" "Z" ∈ lw_tb := tb1 (List.mem_of_getElem? (i := 193) rfl) rfl
set_option maxRecDepth 100000 in
theorem q299 : Cond.methodLink RL 13 yX6_type ∈ lw_tb := tb1 (List.mem_of_getElem? (i := 229) rfl) rfl
set_option maxRecDepth 100000 in
theorem q300 : Cond.instanceMethod yX6_type ∈ lw_tb := tb1 (List.mem_of_getElem? (i := 230) rfl) rfl
set_option maxRecDepth 100000 in
theorem q301 : Cond.selects RX6 yX6_type yX6_type ∈ lw_tb := tb1 (List.mem_of_getElem? (i := 231) rfl) rfl
set_option maxRecDepth 100000 in
theorem q302 : Cond.code yX6_type cX6_type 2 (some .int) ∈ lw_tb := tb1 (List.mem_of_getElem? (i := 232) rfl) rfl
set_option maxRecDepth 100000 in
theorem q303 : Cond.methodLink RX6 77 yX6_isBelow ∈ lw_tb := tb1 (List.mem_of_getElem? (i := 233) rfl) rfl
set_option maxRecDepth 100000 in
theorem q304 : Cond.static yX6_isBelow ∈ lw_tb := tb1 (List.mem_of_getElem? (i := 234) rfl) rfl
set_option maxRecDepth 100000 in
theorem q305 : Cond.code yX6_isBelow cX6_isBelow 2 (some .boolean) ∈ lw_tb := tb1 (List.mem_of_getElem? (i := 235) rfl) rfl
set_option maxRecDepth 100000 in
theorem q306 : Cond.methodLink RX6 81 yX1_isFull ∈ lw_tb := tb1 (List.mem_of_getElem? (i := 236) rfl) rfl
set_option maxRecDepth 100000 in
theorem q307 : Cond.instanceMethod yX1_isFull ∈ lw_tb := tb1 (List.mem_of_getElem? (i := 237) rfl) rfl
set_option maxRecDepth 100000 in
theorem q308 : Cond.selects RX1 yX1_isFull yX1_isFull ∈ lw_tb := tb1 (List.mem_of_getElem? (i := 238) rfl) rfl
set_option maxRecDepth 100000 in
theorem q309 : Cond.code yX1_isFull cX1_isFull 1 (some .boolean) ∈ lw_tb := tb1 (List.mem_of_getElem? (i := 239) rfl) rfl
set_option maxRecDepth 100000 in
theorem q310 : Cond.methodLink RX6 87 yX1_append ∈ lw_tb := tb2 (List.mem_of_getElem? (i := 0) rfl) rfl
set_option maxRecDepth 100000 in
theorem q311 : Cond.instanceMethod yX1_append ∈ lw_tb := tb2 (List.mem_of_getElem? (i := 1) rfl) rfl
set_option maxRecDepth 100000 in
theorem q312 : Cond.selects RX1 yX1_append yX1_append ∈ lw_tb := tb2 (List.mem_of_getElem? (i := 2) rfl) rfl
set_option maxRecDepth 100000 in
theorem q313 : Cond.code yX1_append cX1_append 2 none ∈ lw_tb := tb2 (List.mem_of_getElem? (i := 3) rfl) rfl
set_option maxRecDepth 100000 in
theorem q314 : Cond.methodLink RX1 37 yX1_isFull ∈ lw_tb := tb2 (List.mem_of_getElem? (i := 4) rfl) rfl
set_option maxRecDepth 100000 in
theorem q315 : Cond.methodLink RX1 41 yX1_survey ∈ lw_tb := tb2 (List.mem_of_getElem? (i := 5) rfl) rfl
set_option maxRecDepth 100000 in
theorem q317 : Cond.instanceMethod yX1_survey ∈ lw_tb := tb2 (List.mem_of_getElem? (i := 7) rfl) rfl
set_option maxRecDepth 100000 in
theorem q318 : Cond.code yX1_survey cX1_survey 1 none ∈ lw_tb := tb2 (List.mem_of_getElem? (i := 8) rfl) rfl
set_option maxRecDepth 100000 in
theorem q319 : Cond.methodLink RX1 44 yX1_findFault ∈ lw_tb := tb2 (List.mem_of_getElem? (i := 9) rfl) rfl
set_option maxRecDepth 100000 in
theorem q321 : Cond.instanceMethod yX1_findFault ∈ lw_tb := tb2 (List.mem_of_getElem? (i := 11) rfl) rfl
set_option maxRecDepth 100000 in
theorem q322 : Cond.code yX1_findFault cX1_findFault 5 (some .int) ∈ lw_tb := tb2 (List.mem_of_getElem? (i := 12) rfl) rfl
set_option maxRecDepth 100000 in
theorem q323 : Cond.methodLink RX1 51 yX1_isFigure ∈ lw_tb := tb2 (List.mem_of_getElem? (i := 13) rfl) rfl
set_option maxRecDepth 100000 in
theorem q324 : Cond.static yX1_isFigure ∈ lw_tb := tb2 (List.mem_of_getElem? (i := 14) rfl) rfl
set_option maxRecDepth 100000 in
theorem q325 : Cond.code yX1_isFigure cX1_isFigure 1 (some .boolean) ∈ lw_tb := tb2 (List.mem_of_getElem? (i := 15) rfl) rfl
set_option maxRecDepth 100000 in
theorem q326 : Cond.methodLink RX1 55 yX1_endsRow ∈ lw_tb := tb2 (List.mem_of_getElem? (i := 16) rfl) rfl
set_option maxRecDepth 100000 in
theorem q327 : Cond.static yX1_endsRow ∈ lw_tb := tb2 (List.mem_of_getElem? (i := 17) rfl) rfl
set_option maxRecDepth 100000 in
theorem q328 : Cond.code yX1_endsRow cX1_endsRow 3 (some .boolean) ∈ lw_tb := tb2 (List.mem_of_getElem? (i := 18) rfl) rfl
set_option maxRecDepth 100000 in
theorem q329 : Cond.methodLink RX1 48 yX1_layCells ∈ lw_tb := tb2 (List.mem_of_getElem? (i := 19) rfl) rfl
set_option maxRecDepth 100000 in
theorem q331 : Cond.instanceMethod yX1_layCells ∈ lw_tb := tb2 (List.mem_of_getElem? (i := 21) rfl) rfl
set_option maxRecDepth 100000 in
theorem q332 : Cond.code yX1_layCells cX1_layCells 3 none ∈ lw_tb := tb2 (List.mem_of_getElem? (i := 22) rfl) rfl
set_option maxRecDepth 100000 in
theorem q333 : Cond.methodLink RX6 91 yX6_measureAnew ∈ lw_tb := tb2 (List.mem_of_getElem? (i := 23) rfl) rfl
set_option maxRecDepth 100000 in
theorem q335 : Cond.instanceMethod yX6_measureAnew ∈ lw_tb := tb2 (List.mem_of_getElem? (i := 25) rfl) rfl
set_option maxRecDepth 100000 in
theorem q336 : Cond.code yX6_measureAnew cX6_measureAnew 1 none ∈ lw_tb := tb2 (List.mem_of_getElem? (i := 26) rfl) rfl
set_option maxRecDepth 100000 in
theorem q337 : Cond.methodLink RX6 355 yX5_measure ∈ lw_tb := tb2 (List.mem_of_getElem? (i := 27) rfl) rfl
set_option maxRecDepth 100000 in
theorem q338 : Cond.instanceMethod yX5_measure ∈ lw_tb := tb2 (List.mem_of_getElem? (i := 28) rfl) rfl
set_option maxRecDepth 100000 in
theorem q339 : Cond.selects RX5 yX5_measure yX5_measure ∈ lw_tb := tb2 (List.mem_of_getElem? (i := 29) rfl) rfl
set_option maxRecDepth 100000 in
theorem q340 : Cond.code yX5_measure cX5_measure 4 none ∈ lw_tb := tb2 (List.mem_of_getElem? (i := 30) rfl) rfl
set_option maxRecDepth 100000 in
theorem q341 : Cond.methodLink RX5 34 yX1_cells ∈ lw_tb := tb2 (List.mem_of_getElem? (i := 31) rfl) rfl
set_option maxRecDepth 100000 in
theorem q342 : Cond.instanceMethod yX1_cells ∈ lw_tb := tb2 (List.mem_of_getElem? (i := 32) rfl) rfl
set_option maxRecDepth 100000 in
theorem q343 : Cond.selects RX1 yX1_cells yX1_cells ∈ lw_tb := tb2 (List.mem_of_getElem? (i := 33) rfl) rfl
set_option maxRecDepth 100000 in
theorem q344 : Cond.code yX1_cells cX1_cells 1 (some .int) ∈ lw_tb := tb2 (List.mem_of_getElem? (i := 34) rfl) rfl
set_option maxRecDepth 100000 in
theorem q345 : Cond.methodLink RX5 38 yX5_bitsAsBuilt ∈ lw_tb := tb2 (List.mem_of_getElem? (i := 35) rfl) rfl
set_option maxRecDepth 100000 in
theorem q347 : Cond.instanceMethod yX5_bitsAsBuilt ∈ lw_tb := tb2 (List.mem_of_getElem? (i := 37) rfl) rfl
set_option maxRecDepth 100000 in
theorem q348 : Cond.code yX5_bitsAsBuilt cX5_bitsAsBuilt 5 (some .int) ∈ lw_tb := tb2 (List.mem_of_getElem? (i := 38) rfl) rfl
set_option maxRecDepth 100000 in
theorem q349 : Cond.methodLink RX5 51 yX5_darkHours ∈ lw_tb := tb2 (List.mem_of_getElem? (i := 39) rfl) rfl
set_option maxRecDepth 100000 in
theorem q351 : Cond.instanceMethod yX5_darkHours ∈ lw_tb := tb2 (List.mem_of_getElem? (i := 41) rfl) rfl
set_option maxRecDepth 100000 in
theorem q352 : Cond.code yX5_darkHours cX5_darkHours 9 (some .int) ∈ lw_tb := tb2 (List.mem_of_getElem? (i := 42) rfl) rfl
set_option maxRecDepth 100000 in
theorem q353 : Cond.methodLink RX5 55 yX5_reachOf ∈ lw_tb := tb2 (List.mem_of_getElem? (i := 43) rfl) rfl
set_option maxRecDepth 100000 in
theorem q355 : Cond.instanceMethod yX5_reachOf ∈ lw_tb := tb2 (List.mem_of_getElem? (i := 45) rfl) rfl
set_option maxRecDepth 100000 in
theorem q356 : Cond.code yX5_reachOf cX5_reachOf 4 (some .int) ∈ lw_tb := tb2 (List.mem_of_getElem? (i := 46) rfl) rfl
set_option maxRecDepth 100000 in
theorem q357 : Cond.methodLink RX5 58 yX5_rise ∈ lw_tb := tb2 (List.mem_of_getElem? (i := 47) rfl) rfl
set_option maxRecDepth 100000 in
theorem q359 : Cond.instanceMethod yX5_rise ∈ lw_tb := tb2 (List.mem_of_getElem? (i := 49) rfl) rfl
set_option maxRecDepth 100000 in
theorem q360 : Cond.code yX5_rise cX5_rise 4 (some .int) ∈ lw_tb := tb2 (List.mem_of_getElem? (i := 50) rfl) rfl
set_option maxRecDepth 100000 in
theorem q361 : Cond.methodLink RX5 42 yJ6_bitCount_0f7a4 ∈ lw_tb := tb2 (List.mem_of_getElem? (i := 51) rfl) rfl
set_option maxRecDepth 100000 in
theorem q362 : Cond.static yJ6_bitCount_0f7a4 ∈ lw_tb := tb2 (List.mem_of_getElem? (i := 52) rfl) rfl
set_option maxRecDepth 100000 in
theorem q363 : Cond.code yJ6_bitCount_0f7a4 cJ6_bitCount_0f7a4 1 (some .int) ∈ lw_tb := tb2 (List.mem_of_getElem? (i := 53) rfl) rfl
set_option maxRecDepth 100000 in
theorem q364 : Cond.constant RJ6 265 (1431655765) ∈ lw_tb := tb2 (List.mem_of_getElem? (i := 54) rfl) rfl
set_option maxRecDepth 100000 in
theorem q365 : Cond.constant RJ6 266 (858993459) ∈ lw_tb := tb2 (List.mem_of_getElem? (i := 55) rfl) rfl
set_option maxRecDepth 100000 in
theorem q366 : Cond.constant RJ6 267 (252645135) ∈ lw_tb := tb2 (List.mem_of_getElem? (i := 56) rfl) rfl
set_option maxRecDepth 100000 in
theorem q367 : Cond.methodLink RX5 48 yX5_yearAsBuilt ∈ lw_tb := tb2 (List.mem_of_getElem? (i := 57) rfl) rfl
set_option maxRecDepth 100000 in
theorem q368 : Cond.instanceMethod yX5_yearAsBuilt ∈ lw_tb := tb2 (List.mem_of_getElem? (i := 58) rfl) rfl
set_option maxRecDepth 100000 in
theorem q369 : Cond.selects RX5 yX5_yearAsBuilt yX5_yearAsBuilt ∈ lw_tb := tb2 (List.mem_of_getElem? (i := 59) rfl) rfl
set_option maxRecDepth 100000 in
theorem q370 : Cond.code yX5_yearAsBuilt cX5_yearAsBuilt 5 (some .int) ∈ lw_tb := tb2 (List.mem_of_getElem? (i := 60) rfl) rfl
set_option maxRecDepth 100000 in
theorem q371 : Cond.methodLink RX6 94 yX1_bytes ∈ lw_tb := tb2 (List.mem_of_getElem? (i := 61) rfl) rfl
set_option maxRecDepth 100000 in
theorem q372 : Cond.instanceMethod yX1_bytes ∈ lw_tb := tb2 (List.mem_of_getElem? (i := 62) rfl) rfl
set_option maxRecDepth 100000 in
theorem q373 : Cond.selects RX1 yX1_bytes yX1_bytes ∈ lw_tb := tb2 (List.mem_of_getElem? (i := 63) rfl) rfl
set_option maxRecDepth 100000 in
theorem q374 : Cond.code yX1_bytes cX1_bytes 1 (some .int) ∈ lw_tb := tb2 (List.mem_of_getElem? (i := 64) rfl) rfl
set_option maxRecDepth 100000 in
theorem q375 : Cond.methodLink RL 18 yX6_wipe ∈ lw_tb := tb2 (List.mem_of_getElem? (i := 65) rfl) rfl
set_option maxRecDepth 100000 in
theorem q376 : Cond.instanceMethod yX6_wipe ∈ lw_tb := tb2 (List.mem_of_getElem? (i := 66) rfl) rfl
set_option maxRecDepth 100000 in
theorem q377 : Cond.selects RX6 yX6_wipe yX6_wipe ∈ lw_tb := tb2 (List.mem_of_getElem? (i := 67) rfl) rfl
set_option maxRecDepth 100000 in
theorem q378 : Cond.code yX6_wipe cX6_wipe 2 (some .int) ∈ lw_tb := tb2 (List.mem_of_getElem? (i := 68) rfl) rfl
set_option maxRecDepth 100000 in
theorem q379 : Cond.methodLink RX6 98 yX1_empty ∈ lw_tb := tb2 (List.mem_of_getElem? (i := 69) rfl) rfl
set_option maxRecDepth 100000 in
theorem q380 : Cond.instanceMethod yX1_empty ∈ lw_tb := tb2 (List.mem_of_getElem? (i := 70) rfl) rfl
set_option maxRecDepth 100000 in
theorem q381 : Cond.selects RX1 yX1_empty yX1_empty ∈ lw_tb := tb2 (List.mem_of_getElem? (i := 71) rfl) rfl
set_option maxRecDepth 100000 in
theorem q382 : Cond.code yX1_empty cX1_empty 1 none ∈ lw_tb := tb2 (List.mem_of_getElem? (i := 72) rfl) rfl
set_option maxRecDepth 100000 in
theorem q383 : Cond.methodLink RL 23 yX6_fault ∈ lw_tb := tb2 (List.mem_of_getElem? (i := 73) rfl) rfl
set_option maxRecDepth 100000 in
theorem q384 : Cond.instanceMethod yX6_fault ∈ lw_tb := tb2 (List.mem_of_getElem? (i := 74) rfl) rfl
set_option maxRecDepth 100000 in
theorem q385 : Cond.selects RX6 yX6_fault yX6_fault ∈ lw_tb := tb2 (List.mem_of_getElem? (i := 75) rfl) rfl
set_option maxRecDepth 100000 in
theorem q386 : Cond.code yX6_fault cX6_fault 1 (some .int) ∈ lw_tb := tb2 (List.mem_of_getElem? (i := 76) rfl) rfl
set_option maxRecDepth 100000 in
theorem q387 : Cond.methodLink RX6 101 yX1_faultPlace ∈ lw_tb := tb2 (List.mem_of_getElem? (i := 77) rfl) rfl
set_option maxRecDepth 100000 in
theorem q388 : Cond.instanceMethod yX1_faultPlace ∈ lw_tb := tb2 (List.mem_of_getElem? (i := 78) rfl) rfl
set_option maxRecDepth 100000 in
theorem q389 : Cond.selects RX1 yX1_faultPlace yX1_faultPlace ∈ lw_tb := tb2 (List.mem_of_getElem? (i := 79) rfl) rfl
set_option maxRecDepth 100000 in
theorem q390 : Cond.code yX1_faultPlace cX1_faultPlace 1 (some .int) ∈ lw_tb := tb2 (List.mem_of_getElem? (i := 80) rfl) rfl
set_option maxRecDepth 100000 in
theorem q391 : Cond.methodLink RL 27 yX6_cell ∈ lw_tb := tb2 (List.mem_of_getElem? (i := 81) rfl) rfl
set_option maxRecDepth 100000 in
theorem q392 : Cond.instanceMethod yX6_cell ∈ lw_tb := tb2 (List.mem_of_getElem? (i := 82) rfl) rfl
set_option maxRecDepth 100000 in
theorem q393 : Cond.selects RX6 yX6_cell yX6_cell ∈ lw_tb := tb2 (List.mem_of_getElem? (i := 83) rfl) rfl
set_option maxRecDepth 100000 in
theorem q394 : Cond.code yX6_cell cX6_cell 3 (some .int) ∈ lw_tb := tb2 (List.mem_of_getElem? (i := 84) rfl) rfl
set_option maxRecDepth 100000 in
theorem q395 : Cond.methodLink RX6 104 yX6_isCell ∈ lw_tb := tb2 (List.mem_of_getElem? (i := 85) rfl) rfl
set_option maxRecDepth 100000 in
theorem q397 : Cond.instanceMethod yX6_isCell ∈ lw_tb := tb2 (List.mem_of_getElem? (i := 87) rfl) rfl
set_option maxRecDepth 100000 in
theorem q398 : Cond.code yX6_isCell cX6_isCell 2 (some .boolean) ∈ lw_tb := tb2 (List.mem_of_getElem? (i := 88) rfl) rfl
set_option maxRecDepth 100000 in
theorem q399 : Cond.methodLink RX6 155 yX1_cells ∈ lw_tb := tb2 (List.mem_of_getElem? (i := 89) rfl) rfl
set_option maxRecDepth 100000 in
theorem q400 : Cond.methodLink RX6 108 yX1_heightOf ∈ lw_tb := tb2 (List.mem_of_getElem? (i := 90) rfl) rfl
set_option maxRecDepth 100000 in
theorem q401 : Cond.instanceMethod yX1_heightOf ∈ lw_tb := tb2 (List.mem_of_getElem? (i := 91) rfl) rfl
set_option maxRecDepth 100000 in
theorem q402 : Cond.selects RX1 yX1_heightOf yX1_heightOf ∈ lw_tb := tb2 (List.mem_of_getElem? (i := 92) rfl) rfl
set_option maxRecDepth 100000 in
theorem q403 : Cond.code yX1_heightOf cX1_heightOf 2 (some .int) ∈ lw_tb := tb2 (List.mem_of_getElem? (i := 93) rfl) rfl
set_option maxRecDepth 100000 in
theorem q404 : Cond.methodLink RX6 112 yX5_standingOn ∈ lw_tb := tb2 (List.mem_of_getElem? (i := 94) rfl) rfl
set_option maxRecDepth 100000 in
theorem q405 : Cond.instanceMethod yX5_standingOn ∈ lw_tb := tb2 (List.mem_of_getElem? (i := 95) rfl) rfl
set_option maxRecDepth 100000 in
theorem q406 : Cond.selects RX5 yX5_standingOn yX5_standingOn ∈ lw_tb := tb2 (List.mem_of_getElem? (i := 96) rfl) rfl
set_option maxRecDepth 100000 in
theorem q407 : Cond.code yX5_standingOn cX5_standingOn 2 (some .int) ∈ lw_tb := tb2 (List.mem_of_getElem? (i := 97) rfl) rfl
set_option maxRecDepth 100000 in
theorem q408 : Cond.methodLink RL 32 yX6_stand ∈ lw_tb := tb2 (List.mem_of_getElem? (i := 98) rfl) rfl
set_option maxRecDepth 100000 in
theorem q409 : Cond.instanceMethod yX6_stand ∈ lw_tb := tb2 (List.mem_of_getElem? (i := 99) rfl) rfl
set_option maxRecDepth 100000 in
theorem q410 : Cond.selects RX6 yX6_stand yX6_stand ∈ lw_tb := tb2 (List.mem_of_getElem? (i := 100) rfl) rfl
set_option maxRecDepth 100000 in
theorem q411 : Cond.code yX6_stand cX6_stand 4 (some .int) ∈ lw_tb := tb2 (List.mem_of_getElem? (i := 101) rfl) rfl
set_option maxRecDepth 100000 in
theorem q412 : Cond.methodLink RX6 115 yX5_build ∈ lw_tb := tb2 (List.mem_of_getElem? (i := 102) rfl) rfl
set_option maxRecDepth 100000 in
theorem q413 : Cond.instanceMethod yX5_build ∈ lw_tb := tb2 (List.mem_of_getElem? (i := 103) rfl) rfl
set_option maxRecDepth 100000 in
theorem q414 : Cond.selects RX5 yX5_build yX5_build ∈ lw_tb := tb2 (List.mem_of_getElem? (i := 104) rfl) rfl
set_option maxRecDepth 100000 in
theorem q415 : Cond.code yX5_build cX5_build 4 (some .int) ∈ lw_tb := tb2 (List.mem_of_getElem? (i := 105) rfl) rfl
set_option maxRecDepth 100000 in
theorem q416 : Cond.methodLink RL 36 yX6_owner ∈ lw_tb := tb2 (List.mem_of_getElem? (i := 106) rfl) rfl
set_option maxRecDepth 100000 in
theorem q417 : Cond.instanceMethod yX6_owner ∈ lw_tb := tb2 (List.mem_of_getElem? (i := 107) rfl) rfl
set_option maxRecDepth 100000 in
theorem q418 : Cond.selects RX6 yX6_owner yX6_owner ∈ lw_tb := tb2 (List.mem_of_getElem? (i := 108) rfl) rfl
set_option maxRecDepth 100000 in
theorem q419 : Cond.code yX6_owner cX6_owner 4 (some .int) ∈ lw_tb := tb2 (List.mem_of_getElem? (i := 109) rfl) rfl
set_option maxRecDepth 100000 in
theorem q420 : Cond.methodLink RL 40 yX6_read ∈ lw_tb := tb2 (List.mem_of_getElem? (i := 110) rfl) rfl
set_option maxRecDepth 100000 in
theorem q421 : Cond.instanceMethod yX6_read ∈ lw_tb := tb2 (List.mem_of_getElem? (i := 111) rfl) rfl
set_option maxRecDepth 100000 in
theorem q422 : Cond.selects RX6 yX6_read yX6_read ∈ lw_tb := tb2 (List.mem_of_getElem? (i := 112) rfl) rfl
set_option maxRecDepth 100000 in
theorem q423 : Cond.code yX6_read cX6_read 4 (some .int) ∈ lw_tb := tb2 (List.mem_of_getElem? (i := 113) rfl) rfl
set_option maxRecDepth 100000 in
theorem q424 : Cond.methodLink RX6 119 yX4_isLost ∈ lw_tb := tb2 (List.mem_of_getElem? (i := 114) rfl) rfl
set_option maxRecDepth 100000 in
theorem q425 : Cond.instanceMethod yX4_isLost ∈ lw_tb := tb2 (List.mem_of_getElem? (i := 115) rfl) rfl
set_option maxRecDepth 100000 in
theorem q426 : Cond.selects RX4 yX4_isLost yX4_isLost ∈ lw_tb := tb2 (List.mem_of_getElem? (i := 116) rfl) rfl
set_option maxRecDepth 100000 in
theorem q427 : Cond.code yX4_isLost cX4_isLost 2 (some .boolean) ∈ lw_tb := tb2 (List.mem_of_getElem? (i := 117) rfl) rfl
set_option maxRecDepth 100000 in
theorem q428 : Cond.methodLink RX6 122 yX6_found ∈ lw_tb := tb2 (List.mem_of_getElem? (i := 118) rfl) rfl
set_option maxRecDepth 100000 in
theorem q430 : Cond.instanceMethod yX6_found ∈ lw_tb := tb2 (List.mem_of_getElem? (i := 120) rfl) rfl
set_option maxRecDepth 100000 in
theorem q431 : Cond.code yX6_found cX6_found 2 (some .int) ∈ lw_tb := tb2 (List.mem_of_getElem? (i := 121) rfl) rfl
set_option maxRecDepth 100000 in
theorem q432 : Cond.methodLink RX6 125 yX4_sizeOf ∈ lw_tb := tb2 (List.mem_of_getElem? (i := 122) rfl) rfl
set_option maxRecDepth 100000 in
theorem q433 : Cond.instanceMethod yX4_sizeOf ∈ lw_tb := tb2 (List.mem_of_getElem? (i := 123) rfl) rfl
set_option maxRecDepth 100000 in
theorem q434 : Cond.selects RX4 yX4_sizeOf yX4_sizeOf ∈ lw_tb := tb2 (List.mem_of_getElem? (i := 124) rfl) rfl
set_option maxRecDepth 100000 in
theorem q435 : Cond.code yX4_sizeOf cX4_sizeOf 2 (some .int) ∈ lw_tb := tb2 (List.mem_of_getElem? (i := 125) rfl) rfl
set_option maxRecDepth 100000 in
theorem q436 : Cond.methodLink RX6 128 yJ9_min_7cf53 ∈ lw_tb := tb2 (List.mem_of_getElem? (i := 126) rfl) rfl
set_option maxRecDepth 100000 in
theorem q437 : Cond.static yJ9_min_7cf53 ∈ lw_tb := tb2 (List.mem_of_getElem? (i := 127) rfl) rfl
set_option maxRecDepth 100000 in
theorem q438 : Cond.code yJ9_min_7cf53 cJ9_min_7cf53 2 (some .int) ∈ lw_tb := tb2 (List.mem_of_getElem? (i := 128) rfl) rfl
set_option maxRecDepth 100000 in
theorem q439 : Cond.methodLink RX6 133 yX4_itemAt ∈ lw_tb := tb2 (List.mem_of_getElem? (i := 129) rfl) rfl
set_option maxRecDepth 100000 in
theorem q440 : Cond.instanceMethod yX4_itemAt ∈ lw_tb := tb2 (List.mem_of_getElem? (i := 130) rfl) rfl
set_option maxRecDepth 100000 in
theorem q441 : Cond.selects RX4 yX4_itemAt yX4_itemAt ∈ lw_tb := tb2 (List.mem_of_getElem? (i := 131) rfl) rfl
set_option maxRecDepth 100000 in
theorem q442 : Cond.code yX4_itemAt cX4_itemAt 3 (some .int) ∈ lw_tb := tb2 (List.mem_of_getElem? (i := 132) rfl) rfl
set_option maxRecDepth 100000 in
theorem q443 : Cond.methodLink RL 44 yX6_days ∈ lw_tb := tb2 (List.mem_of_getElem? (i := 133) rfl) rfl
set_option maxRecDepth 100000 in
theorem q444 : Cond.instanceMethod yX6_days ∈ lw_tb := tb2 (List.mem_of_getElem? (i := 134) rfl) rfl
set_option maxRecDepth 100000 in
theorem q445 : Cond.selects RX6 yX6_days yX6_days ∈ lw_tb := tb2 (List.mem_of_getElem? (i := 135) rfl) rfl
set_option maxRecDepth 100000 in
theorem q446 : Cond.code yX6_days cX6_days 4 (some .int) ∈ lw_tb := tb2 (List.mem_of_getElem? (i := 136) rfl) rfl
set_option maxRecDepth 100000 in
theorem q447 : Cond.methodLink RX6 136 yX5_lengthen ∈ lw_tb := tb2 (List.mem_of_getElem? (i := 137) rfl) rfl
set_option maxRecDepth 100000 in
theorem q448 : Cond.instanceMethod yX5_lengthen ∈ lw_tb := tb2 (List.mem_of_getElem? (i := 138) rfl) rfl
set_option maxRecDepth 100000 in
theorem q449 : Cond.selects RX5 yX5_lengthen yX5_lengthen ∈ lw_tb := tb2 (List.mem_of_getElem? (i := 139) rfl) rfl
set_option maxRecDepth 100000 in
theorem q450 : Cond.code yX5_lengthen cX5_lengthen 4 (some .int) ∈ lw_tb := tb2 (List.mem_of_getElem? (i := 140) rfl) rfl
set_option maxRecDepth 100000 in
theorem q451 : Cond.methodLink RL 48 yX6_steep ∈ lw_tb := tb2 (List.mem_of_getElem? (i := 141) rfl) rfl
set_option maxRecDepth 100000 in
theorem q452 : Cond.instanceMethod yX6_steep ∈ lw_tb := tb2 (List.mem_of_getElem? (i := 142) rfl) rfl
set_option maxRecDepth 100000 in
theorem q453 : Cond.selects RX6 yX6_steep yX6_steep ∈ lw_tb := tb2 (List.mem_of_getElem? (i := 143) rfl) rfl
set_option maxRecDepth 100000 in
theorem q454 : Cond.code yX6_steep cX6_steep 3 (some .int) ∈ lw_tb := tb2 (List.mem_of_getElem? (i := 144) rfl) rfl
set_option maxRecDepth 100000 in
theorem q455 : Cond.methodLink RX6 139 yX5_steepness ∈ lw_tb := tb2 (List.mem_of_getElem? (i := 145) rfl) rfl
set_option maxRecDepth 100000 in
theorem q456 : Cond.static yX5_steepness ∈ lw_tb := tb2 (List.mem_of_getElem? (i := 146) rfl) rfl
set_option maxRecDepth 100000 in
theorem q457 : Cond.code yX5_steepness cX5_steepness 2 (some .int) ∈ lw_tb := tb2 (List.mem_of_getElem? (i := 147) rfl) rfl
set_option maxRecDepth 100000 in
theorem q458 : Cond.methodLink RL 52 yX6_shade ∈ lw_tb := tb2 (List.mem_of_getElem? (i := 148) rfl) rfl
set_option maxRecDepth 100000 in
theorem q459 : Cond.instanceMethod yX6_shade ∈ lw_tb := tb2 (List.mem_of_getElem? (i := 149) rfl) rfl
set_option maxRecDepth 100000 in
theorem q460 : Cond.selects RX6 yX6_shade yX6_shade ∈ lw_tb := tb2 (List.mem_of_getElem? (i := 150) rfl) rfl
set_option maxRecDepth 100000 in
theorem q461 : Cond.code yX6_shade cX6_shade 4 (some .int) ∈ lw_tb := tb2 (List.mem_of_getElem? (i := 151) rfl) rfl
set_option maxRecDepth 100000 in
theorem q462 : Cond.methodLink RX6 142 yX5_nearestShader ∈ lw_tb := tb2 (List.mem_of_getElem? (i := 152) rfl) rfl
set_option maxRecDepth 100000 in
theorem q463 : Cond.instanceMethod yX5_nearestShader ∈ lw_tb := tb2 (List.mem_of_getElem? (i := 153) rfl) rfl
set_option maxRecDepth 100000 in
theorem q464 : Cond.selects RX5 yX5_nearestShader yX5_nearestShader ∈ lw_tb := tb2 (List.mem_of_getElem? (i := 154) rfl) rfl
set_option maxRecDepth 100000 in
theorem q465 : Cond.code yX5_nearestShader cX5_nearestShader 7 (some .int) ∈ lw_tb := tb2 (List.mem_of_getElem? (i := 155) rfl) rfl
set_option maxRecDepth 100000 in
theorem q466 : Cond.methodLink RX5 61 yX5_steepness ∈ lw_tb := tb2 (List.mem_of_getElem? (i := 156) rfl) rfl
set_option maxRecDepth 100000 in
theorem q467 : Cond.methodLink RL 57 yX6_light ∈ lw_tb := tb2 (List.mem_of_getElem? (i := 157) rfl) rfl
set_option maxRecDepth 100000 in
theorem q468 : Cond.instanceMethod yX6_light ∈ lw_tb := tb2 (List.mem_of_getElem? (i := 158) rfl) rfl
set_option maxRecDepth 100000 in
theorem q469 : Cond.selects RX6 yX6_light yX6_light ∈ lw_tb := tb2 (List.mem_of_getElem? (i := 159) rfl) rfl
set_option maxRecDepth 100000 in
theorem q470 : Cond.code yX6_light cX6_light 3 (some .int) ∈ lw_tb := tb2 (List.mem_of_getElem? (i := 160) rfl) rfl
set_option maxRecDepth 100000 in
theorem q471 : Cond.methodLink RX6 146 yX5_bitsOf ∈ lw_tb := tb2 (List.mem_of_getElem? (i := 161) rfl) rfl
set_option maxRecDepth 100000 in
theorem q472 : Cond.instanceMethod yX5_bitsOf ∈ lw_tb := tb2 (List.mem_of_getElem? (i := 162) rfl) rfl
set_option maxRecDepth 100000 in
theorem q473 : Cond.selects RX5 yX5_bitsOf yX5_bitsOf ∈ lw_tb := tb2 (List.mem_of_getElem? (i := 163) rfl) rfl
set_option maxRecDepth 100000 in
theorem q474 : Cond.code yX5_bitsOf cX5_bitsOf 3 (some .int) ∈ lw_tb := tb2 (List.mem_of_getElem? (i := 164) rfl) rfl
set_option maxRecDepth 100000 in
theorem q475 : Cond.methodLink RL 61 yX6_hours ∈ lw_tb := tb2 (List.mem_of_getElem? (i := 165) rfl) rfl
set_option maxRecDepth 100000 in
theorem q476 : Cond.instanceMethod yX6_hours ∈ lw_tb := tb2 (List.mem_of_getElem? (i := 166) rfl) rfl
set_option maxRecDepth 100000 in
theorem q477 : Cond.selects RX6 yX6_hours yX6_hours ∈ lw_tb := tb2 (List.mem_of_getElem? (i := 167) rfl) rfl
set_option maxRecDepth 100000 in
theorem q478 : Cond.code yX6_hours cX6_hours 3 (some .int) ∈ lw_tb := tb2 (List.mem_of_getElem? (i := 168) rfl) rfl
set_option maxRecDepth 100000 in
theorem q479 : Cond.methodLink RX6 149 yX5_yearOf ∈ lw_tb := tb2 (List.mem_of_getElem? (i := 169) rfl) rfl
set_option maxRecDepth 100000 in
theorem q480 : Cond.instanceMethod yX5_yearOf ∈ lw_tb := tb2 (List.mem_of_getElem? (i := 170) rfl) rfl
set_option maxRecDepth 100000 in
theorem q481 : Cond.selects RX5 yX5_yearOf yX5_yearOf ∈ lw_tb := tb2 (List.mem_of_getElem? (i := 171) rfl) rfl
set_option maxRecDepth 100000 in
theorem q482 : Cond.code yX5_yearOf cX5_yearOf 2 (some .int) ∈ lw_tb := tb2 (List.mem_of_getElem? (i := 172) rfl) rfl
set_option maxRecDepth 100000 in
theorem q483 : Cond.methodLink RX6 152 yX5_hoursOf ∈ lw_tb := tb2 (List.mem_of_getElem? (i := 173) rfl) rfl
set_option maxRecDepth 100000 in
theorem q484 : Cond.instanceMethod yX5_hoursOf ∈ lw_tb := tb2 (List.mem_of_getElem? (i := 174) rfl) rfl
set_option maxRecDepth 100000 in
theorem q485 : Cond.selects RX5 yX5_hoursOf yX5_hoursOf ∈ lw_tb := tb2 (List.mem_of_getElem? (i := 175) rfl) rfl
set_option maxRecDepth 100000 in
theorem q486 : Cond.code yX5_hoursOf cX5_hoursOf 3 (some .int) ∈ lw_tb := tb2 (List.mem_of_getElem? (i := 176) rfl) rfl
set_option maxRecDepth 100000 in
theorem q487 : Cond.methodLink RL 65 yX6_has ∈ lw_tb := tb2 (List.mem_of_getElem? (i := 177) rfl) rfl
set_option maxRecDepth 100000 in
theorem q488 : Cond.instanceMethod yX6_has ∈ lw_tb := tb2 (List.mem_of_getElem? (i := 178) rfl) rfl
set_option maxRecDepth 100000 in
theorem q489 : Cond.selects RX6 yX6_has yX6_has ∈ lw_tb := tb2 (List.mem_of_getElem? (i := 179) rfl) rfl
set_option maxRecDepth 100000 in
theorem q490 : Cond.code yX6_has cX6_has 6 (some .int) ∈ lw_tb := tb2 (List.mem_of_getElem? (i := 180) rfl) rfl
set_option maxRecDepth 100000 in
theorem q491 : Cond.methodLink RL 69 yX6_parts ∈ lw_tb := tb2 (List.mem_of_getElem? (i := 181) rfl) rfl
set_option maxRecDepth 100000 in
theorem q492 : Cond.instanceMethod yX6_parts ∈ lw_tb := tb2 (List.mem_of_getElem? (i := 182) rfl) rfl
set_option maxRecDepth 100000 in
theorem q493 : Cond.selects RX6 yX6_parts yX6_parts ∈ lw_tb := tb2 (List.mem_of_getElem? (i := 183) rfl) rfl
set_option maxRecDepth 100000 in
theorem q494 : Cond.code yX6_parts cX6_parts 2 (some .int) ∈ lw_tb := tb2 (List.mem_of_getElem? (i := 184) rfl) rfl
set_option maxRecDepth 100000 in
theorem q495 : Cond.methodLink RX6 158 yX6_knowParts ∈ lw_tb := tb2 (List.mem_of_getElem? (i := 185) rfl) rfl
set_option maxRecDepth 100000 in
theorem q497 : Cond.instanceMethod yX6_knowParts ∈ lw_tb := tb2 (List.mem_of_getElem? (i := 187) rfl) rfl
set_option maxRecDepth 100000 in
theorem q498 : Cond.code yX6_knowParts cX6_knowParts 1 none ∈ lw_tb := tb2 (List.mem_of_getElem? (i := 188) rfl) rfl
set_option maxRecDepth 100000 in
theorem q499 : Cond.methodLink RX6 211 yX5_years ∈ lw_tb := tb2 (List.mem_of_getElem? (i := 189) rfl) rfl
set_option maxRecDepth 100000 in
theorem q500 : Cond.instanceMethod yX5_years ∈ lw_tb := tb2 (List.mem_of_getElem? (i := 190) rfl) rfl
set_option maxRecDepth 100000 in
theorem q501 : Cond.selects RX5 yX5_years yX5_years ∈ lw_tb := tb2 (List.mem_of_getElem? (i := 191) rfl) rfl
set_option maxRecDepth 100000 in
theorem q502 : Cond.code yX5_years cX5_years 1 (some (.array .int)) ∈ lw_tb := tb2 (List.mem_of_getElem? (i := 192) rfl) rfl
set_option maxRecDepth 100000 in
theorem q503 : Cond.methodLink RX6 361 yX2_part ∈ lw_tb := tb2 (List.mem_of_getElem? (i := 193) rfl) rfl
set_option maxRecDepth 100000 in
theorem q504 : Cond.instanceMethod yX2_part ∈ lw_tb := tb2 (List.mem_of_getElem? (i := 194) rfl) rfl
set_option maxRecDepth 100000 in
theorem q505 : Cond.selects RX2 yX2_part yX2_part ∈ lw_tb := tb2 (List.mem_of_getElem? (i := 195) rfl) rfl
set_option maxRecDepth 100000 in
theorem q506 : Cond.code yX2_part cX2_part 5 none ∈ lw_tb := tb2 (List.mem_of_getElem? (i := 196) rfl) rfl
set_option maxRecDepth 100000 in
theorem q507 : Cond.methodLink RX2 31 yX2_prepare ∈ lw_tb := tb2 (List.mem_of_getElem? (i := 197) rfl) rfl
set_option maxRecDepth 100000 in
theorem q509 : Cond.instanceMethod yX2_prepare ∈ lw_tb := tb2 (List.mem_of_getElem? (i := 199) rfl) rfl
set_option maxRecDepth 100000 in
theorem q510 : Cond.code yX2_prepare cX2_prepare 5 none ∈ lw_tb := tb2 (List.mem_of_getElem? (i := 200) rfl) rfl
set_option maxRecDepth 100000 in
theorem q511 : Cond.methodLink RX2 51 yX1_cells ∈ lw_tb := tb2 (List.mem_of_getElem? (i := 201) rfl) rfl
set_option maxRecDepth 100000 in
theorem q512 : Cond.methodLink RX2 59 yX1_columns ∈ lw_tb := tb2 (List.mem_of_getElem? (i := 202) rfl) rfl
set_option maxRecDepth 100000 in
theorem q513 : Cond.instanceMethod yX1_columns ∈ lw_tb := tb2 (List.mem_of_getElem? (i := 203) rfl) rfl
set_option maxRecDepth 100000 in
theorem q514 : Cond.selects RX1 yX1_columns yX1_columns ∈ lw_tb := tb2 (List.mem_of_getElem? (i := 204) rfl) rfl
set_option maxRecDepth 100000 in
theorem q515 : Cond.code yX1_columns cX1_columns 1 (some .int) ∈ lw_tb := tb2 (List.mem_of_getElem? (i := 205) rfl) rfl
set_option maxRecDepth 100000 in
theorem q516 : Cond.methodLink RX2 70 yX1_columnOf ∈ lw_tb := tb2 (List.mem_of_getElem? (i := 206) rfl) rfl
set_option maxRecDepth 100000 in
theorem q517 : Cond.instanceMethod yX1_columnOf ∈ lw_tb := tb2 (List.mem_of_getElem? (i := 207) rfl) rfl
set_option maxRecDepth 100000 in
theorem q518 : Cond.selects RX1 yX1_columnOf yX1_columnOf ∈ lw_tb := tb2 (List.mem_of_getElem? (i := 208) rfl) rfl
set_option maxRecDepth 100000 in
theorem q519 : Cond.code yX1_columnOf cX1_columnOf 2 (some .int) ∈ lw_tb := tb2 (List.mem_of_getElem? (i := 209) rfl) rfl
set_option maxRecDepth 100000 in
theorem q520 : Cond.methodLink RX2 73 yX2_fillSums ∈ lw_tb := tb2 (List.mem_of_getElem? (i := 210) rfl) rfl
set_option maxRecDepth 100000 in
theorem q522 : Cond.instanceMethod yX2_fillSums ∈ lw_tb := tb2 (List.mem_of_getElem? (i := 212) rfl) rfl
set_option maxRecDepth 100000 in
theorem q523 : Cond.code yX2_fillSums cX2_fillSums 8 none ∈ lw_tb := tb2 (List.mem_of_getElem? (i := 213) rfl) rfl
set_option maxRecDepth 100000 in
theorem q524 : Cond.methodLink RX2 38 yX2_differenceOf ∈ lw_tb := tb2 (List.mem_of_getElem? (i := 214) rfl) rfl
set_option maxRecDepth 100000 in
theorem q526 : Cond.instanceMethod yX2_differenceOf ∈ lw_tb := tb2 (List.mem_of_getElem? (i := 216) rfl) rfl
set_option maxRecDepth 100000 in
theorem q527 : Cond.code yX2_differenceOf cX2_differenceOf 2 (some .int) ∈ lw_tb := tb2 (List.mem_of_getElem? (i := 217) rfl) rfl
set_option maxRecDepth 100000 in
theorem q528 : Cond.methodLink RX2 77 yX2_sumOf ∈ lw_tb := tb2 (List.mem_of_getElem? (i := 218) rfl) rfl
set_option maxRecDepth 100000 in
theorem q530 : Cond.instanceMethod yX2_sumOf ∈ lw_tb := tb2 (List.mem_of_getElem? (i := 220) rfl) rfl
set_option maxRecDepth 100000 in
theorem q531 : Cond.code yX2_sumOf cX2_sumOf 2 (some .int) ∈ lw_tb := tb2 (List.mem_of_getElem? (i := 221) rfl) rfl
set_option maxRecDepth 100000 in
theorem q532 : Cond.methodLink RX2 80 yJ9_abs_0f7a4 ∈ lw_tb := tb2 (List.mem_of_getElem? (i := 222) rfl) rfl
set_option maxRecDepth 100000 in
theorem q533 : Cond.static yJ9_abs_0f7a4 ∈ lw_tb := tb2 (List.mem_of_getElem? (i := 223) rfl) rfl
set_option maxRecDepth 100000 in
theorem q534 : Cond.code yJ9_abs_0f7a4 cJ9_abs_0f7a4 1 (some .int) ∈ lw_tb := tb2 (List.mem_of_getElem? (i := 224) rfl) rfl
set_option maxRecDepth 100000 in
theorem q535 : Cond.methodLink RX2 42 yX2_bothHang ∈ lw_tb := tb2 (List.mem_of_getElem? (i := 225) rfl) rfl
set_option maxRecDepth 100000 in
theorem q537 : Cond.instanceMethod yX2_bothHang ∈ lw_tb := tb2 (List.mem_of_getElem? (i := 227) rfl) rfl
set_option maxRecDepth 100000 in
theorem q538 : Cond.code yX2_bothHang cX2_bothHang 2 (some .boolean) ∈ lw_tb := tb2 (List.mem_of_getElem? (i := 228) rfl) rfl
set_option maxRecDepth 100000 in
theorem q539 : Cond.methodLink RX2 85 yX2_hangs ∈ lw_tb := tb2 (List.mem_of_getElem? (i := 229) rfl) rfl
set_option maxRecDepth 100000 in
theorem q541 : Cond.instanceMethod yX2_hangs ∈ lw_tb := tb2 (List.mem_of_getElem? (i := 231) rfl) rfl
set_option maxRecDepth 100000 in
theorem q542 : Cond.code yX2_hangs cX2_hangs 5 (some .boolean) ∈ lw_tb := tb2 (List.mem_of_getElem? (i := 232) rfl) rfl
set_option maxRecDepth 100000 in
theorem q543 : Cond.methodLink RX2 88 yX2_nextTo ∈ lw_tb := tb2 (List.mem_of_getElem? (i := 233) rfl) rfl
set_option maxRecDepth 100000 in
theorem q545 : Cond.instanceMethod yX2_nextTo ∈ lw_tb := tb2 (List.mem_of_getElem? (i := 235) rfl) rfl
set_option maxRecDepth 100000 in
theorem q546 : Cond.code yX2_nextTo cX2_nextTo 4 (some .int) ∈ lw_tb := tb2 (List.mem_of_getElem? (i := 236) rfl) rfl
set_option maxRecDepth 100000 in
theorem q547 : Cond.methodLink RX6 161 yX2_leastDifference ∈ lw_tb := tb2 (List.mem_of_getElem? (i := 237) rfl) rfl
set_option maxRecDepth 100000 in
theorem q548 : Cond.instanceMethod yX2_leastDifference ∈ lw_tb := tb2 (List.mem_of_getElem? (i := 238) rfl) rfl
set_option maxRecDepth 100000 in
theorem q549 : Cond.selects RX2 yX2_leastDifference yX2_leastDifference ∈ lw_tb := tb2 (List.mem_of_getElem? (i := 239) rfl) rfl
set_option maxRecDepth 100000 in
theorem q550 : Cond.code yX2_leastDifference cX2_leastDifference 1 (some .int) ∈ lw_tb := tb3 (List.mem_of_getElem? (i := 0) rfl) rfl
set_option maxRecDepth 100000 in
theorem q551 : Cond.methodLink RX6 164 yX2_firstPart ∈ lw_tb := tb3 (List.mem_of_getElem? (i := 1) rfl) rfl
set_option maxRecDepth 100000 in
theorem q552 : Cond.instanceMethod yX2_firstPart ∈ lw_tb := tb3 (List.mem_of_getElem? (i := 2) rfl) rfl
set_option maxRecDepth 100000 in
theorem q553 : Cond.selects RX2 yX2_firstPart yX2_firstPart ∈ lw_tb := tb3 (List.mem_of_getElem? (i := 3) rfl) rfl
set_option maxRecDepth 100000 in
theorem q554 : Cond.code yX2_firstPart cX2_firstPart 1 (some .int) ∈ lw_tb := tb3 (List.mem_of_getElem? (i := 4) rfl) rfl
set_option maxRecDepth 100000 in
theorem q555 : Cond.methodLink RL 73 yX6_taken ∈ lw_tb := tb3 (List.mem_of_getElem? (i := 5) rfl) rfl
set_option maxRecDepth 100000 in
theorem q556 : Cond.instanceMethod yX6_taken ∈ lw_tb := tb3 (List.mem_of_getElem? (i := 6) rfl) rfl
set_option maxRecDepth 100000 in
theorem q557 : Cond.selects RX6 yX6_taken yX6_taken ∈ lw_tb := tb3 (List.mem_of_getElem? (i := 7) rfl) rfl
set_option maxRecDepth 100000 in
theorem q558 : Cond.code yX6_taken cX6_taken 4 (some .int) ∈ lw_tb := tb3 (List.mem_of_getElem? (i := 8) rfl) rfl
set_option maxRecDepth 100000 in
theorem q559 : Cond.constant RX6 167 (-1000002) ∈ lw_tb := tb3 (List.mem_of_getElem? (i := 9) rfl) rfl
set_option maxRecDepth 100000 in
theorem q560 : Cond.methodLink RX6 168 yX6_weighLosses ∈ lw_tb := tb3 (List.mem_of_getElem? (i := 10) rfl) rfl
set_option maxRecDepth 100000 in
theorem q562 : Cond.instanceMethod yX6_weighLosses ∈ lw_tb := tb3 (List.mem_of_getElem? (i := 12) rfl) rfl
set_option maxRecDepth 100000 in
theorem q563 : Cond.code yX6_weighLosses cX6_weighLosses 6 none ∈ lw_tb := tb3 (List.mem_of_getElem? (i := 13) rfl) rfl
set_option maxRecDepth 100000 in
theorem q564 : Cond.methodLink RX6 365 yX1_rowStart ∈ lw_tb := tb3 (List.mem_of_getElem? (i := 14) rfl) rfl
set_option maxRecDepth 100000 in
theorem q565 : Cond.instanceMethod yX1_rowStart ∈ lw_tb := tb3 (List.mem_of_getElem? (i := 15) rfl) rfl
set_option maxRecDepth 100000 in
theorem q566 : Cond.selects RX1 yX1_rowStart yX1_rowStart ∈ lw_tb := tb3 (List.mem_of_getElem? (i := 16) rfl) rfl
set_option maxRecDepth 100000 in
theorem q567 : Cond.code yX1_rowStart cX1_rowStart 2 (some .int) ∈ lw_tb := tb3 (List.mem_of_getElem? (i := 17) rfl) rfl
set_option maxRecDepth 100000 in
theorem q568 : Cond.methodLink RX6 368 yX1_columns ∈ lw_tb := tb3 (List.mem_of_getElem? (i := 18) rfl) rfl
set_option maxRecDepth 100000 in
theorem q569 : Cond.methodLink RX6 371 yX5_yearAsBuilt ∈ lw_tb := tb3 (List.mem_of_getElem? (i := 19) rfl) rfl
set_option maxRecDepth 100000 in
theorem q570 : Cond.methodLink RL 77 yX6_highest ∈ lw_tb := tb3 (List.mem_of_getElem? (i := 20) rfl) rfl
set_option maxRecDepth 100000 in
theorem q571 : Cond.instanceMethod yX6_highest ∈ lw_tb := tb3 (List.mem_of_getElem? (i := 21) rfl) rfl
set_option maxRecDepth 100000 in
theorem q572 : Cond.selects RX6 yX6_highest yX6_highest ∈ lw_tb := tb3 (List.mem_of_getElem? (i := 22) rfl) rfl
set_option maxRecDepth 100000 in
theorem q573 : Cond.code yX6_highest cX6_highest 5 (some .int) ∈ lw_tb := tb3 (List.mem_of_getElem? (i := 23) rfl) rfl
set_option maxRecDepth 100000 in
theorem q574 : Cond.constant RX6 172 (100000) ∈ lw_tb := tb3 (List.mem_of_getElem? (i := 24) rfl) rfl
set_option maxRecDepth 100000 in
theorem q575 : Cond.methodLink RX6 173 yX6_mostLost ∈ lw_tb := tb3 (List.mem_of_getElem? (i := 25) rfl) rfl
set_option maxRecDepth 100000 in
theorem q577 : Cond.instanceMethod yX6_mostLost ∈ lw_tb := tb3 (List.mem_of_getElem? (i := 27) rfl) rfl
set_option maxRecDepth 100000 in
theorem q578 : Cond.code yX6_mostLost cX6_mostLost 3 (some .int) ∈ lw_tb := tb3 (List.mem_of_getElem? (i := 28) rfl) rfl
set_option maxRecDepth 100000 in
theorem q579 : Cond.methodLink RX6 374 yJ9_max_7cf53 ∈ lw_tb := tb3 (List.mem_of_getElem? (i := 29) rfl) rfl
set_option maxRecDepth 100000 in
theorem q580 : Cond.static yJ9_max_7cf53 ∈ lw_tb := tb3 (List.mem_of_getElem? (i := 30) rfl) rfl
set_option maxRecDepth 100000 in
theorem q581 : Cond.code yJ9_max_7cf53 cJ9_max_7cf53 2 (some .int) ∈ lw_tb := tb3 (List.mem_of_getElem? (i := 31) rfl) rfl
set_option maxRecDepth 100000 in
theorem q582 : Cond.methodLink RL 81 yX6_again ∈ lw_tb := tb3 (List.mem_of_getElem? (i := 32) rfl) rfl
set_option maxRecDepth 100000 in
theorem q583 : Cond.instanceMethod yX6_again ∈ lw_tb := tb3 (List.mem_of_getElem? (i := 33) rfl) rfl
set_option maxRecDepth 100000 in
theorem q584 : Cond.selects RX6 yX6_again yX6_again ∈ lw_tb := tb3 (List.mem_of_getElem? (i := 34) rfl) rfl
set_option maxRecDepth 100000 in
theorem q585 : Cond.code yX6_again cX6_again 4 (some .int) ∈ lw_tb := tb3 (List.mem_of_getElem? (i := 35) rfl) rfl
set_option maxRecDepth 100000 in
theorem q586 : Cond.methodLink RX6 176 yX6_weighFall ∈ lw_tb := tb3 (List.mem_of_getElem? (i := 36) rfl) rfl
set_option maxRecDepth 100000 in
theorem q588 : Cond.instanceMethod yX6_weighFall ∈ lw_tb := tb3 (List.mem_of_getElem? (i := 38) rfl) rfl
set_option maxRecDepth 100000 in
theorem q589 : Cond.code yX6_weighFall cX6_weighFall 4 none ∈ lw_tb := tb3 (List.mem_of_getElem? (i := 39) rfl) rfl
set_option maxRecDepth 100000 in
theorem q590 : Cond.methodLink RX6 179 yX2_partAgain ∈ lw_tb := tb3 (List.mem_of_getElem? (i := 40) rfl) rfl
set_option maxRecDepth 100000 in
theorem q591 : Cond.instanceMethod yX2_partAgain ∈ lw_tb := tb3 (List.mem_of_getElem? (i := 41) rfl) rfl
set_option maxRecDepth 100000 in
theorem q592 : Cond.selects RX2 yX2_partAgain yX2_partAgain ∈ lw_tb := tb3 (List.mem_of_getElem? (i := 42) rfl) rfl
set_option maxRecDepth 100000 in
theorem q593 : Cond.code yX2_partAgain cX2_partAgain 6 none ∈ lw_tb := tb3 (List.mem_of_getElem? (i := 43) rfl) rfl
set_option maxRecDepth 100000 in
theorem q594 : Cond.methodLink RX2 46 yJ6_bitCount_0f7a4 ∈ lw_tb := tb3 (List.mem_of_getElem? (i := 44) rfl) rfl
set_option maxRecDepth 100000 in
theorem q595 : Cond.methodLink RX6 183 yX2_fewestMoved ∈ lw_tb := tb3 (List.mem_of_getElem? (i := 45) rfl) rfl
set_option maxRecDepth 100000 in
theorem q596 : Cond.instanceMethod yX2_fewestMoved ∈ lw_tb := tb3 (List.mem_of_getElem? (i := 46) rfl) rfl
set_option maxRecDepth 100000 in
theorem q597 : Cond.selects RX2 yX2_fewestMoved yX2_fewestMoved ∈ lw_tb := tb3 (List.mem_of_getElem? (i := 47) rfl) rfl
set_option maxRecDepth 100000 in
theorem q598 : Cond.code yX2_fewestMoved cX2_fewestMoved 1 (some .int) ∈ lw_tb := tb3 (List.mem_of_getElem? (i := 48) rfl) rfl
set_option maxRecDepth 100000 in
theorem q599 : Cond.methodLink RX6 186 yX2_partAfter ∈ lw_tb := tb3 (List.mem_of_getElem? (i := 49) rfl) rfl
set_option maxRecDepth 100000 in
theorem q600 : Cond.instanceMethod yX2_partAfter ∈ lw_tb := tb3 (List.mem_of_getElem? (i := 50) rfl) rfl
set_option maxRecDepth 100000 in
theorem q601 : Cond.selects RX2 yX2_partAfter yX2_partAfter ∈ lw_tb := tb3 (List.mem_of_getElem? (i := 51) rfl) rfl
set_option maxRecDepth 100000 in
theorem q602 : Cond.code yX2_partAfter cX2_partAfter 1 (some .int) ∈ lw_tb := tb3 (List.mem_of_getElem? (i := 52) rfl) rfl
set_option maxRecDepth 100000 in
theorem q603 : Cond.methodLink RL 85 yX6_worth ∈ lw_tb := tb3 (List.mem_of_getElem? (i := 53) rfl) rfl
set_option maxRecDepth 100000 in
theorem q604 : Cond.instanceMethod yX6_worth ∈ lw_tb := tb3 (List.mem_of_getElem? (i := 54) rfl) rfl
set_option maxRecDepth 100000 in
theorem q605 : Cond.selects RX6 yX6_worth yX6_worth ∈ lw_tb := tb3 (List.mem_of_getElem? (i := 55) rfl) rfl
set_option maxRecDepth 100000 in
theorem q606 : Cond.code yX6_worth cX6_worth 6 (some .int) ∈ lw_tb := tb3 (List.mem_of_getElem? (i := 56) rfl) rfl
set_option maxRecDepth 100000 in
theorem q607 : Cond.methodLink RL 89 yX6_value ∈ lw_tb := tb3 (List.mem_of_getElem? (i := 57) rfl) rfl
set_option maxRecDepth 100000 in
theorem q608 : Cond.instanceMethod yX6_value ∈ lw_tb := tb3 (List.mem_of_getElem? (i := 58) rfl) rfl
set_option maxRecDepth 100000 in
theorem q609 : Cond.selects RX6 yX6_value yX6_value ∈ lw_tb := tb3 (List.mem_of_getElem? (i := 59) rfl) rfl
set_option maxRecDepth 100000 in
theorem q610 : Cond.code yX6_value cX6_value 3 (some .int) ∈ lw_tb := tb3 (List.mem_of_getElem? (i := 60) rfl) rfl
set_option maxRecDepth 100000 in
theorem q611 : Cond.methodLink RX6 189 yX6_worthTo ∈ lw_tb := tb3 (List.mem_of_getElem? (i := 61) rfl) rfl
set_option maxRecDepth 100000 in
theorem q613 : Cond.instanceMethod yX6_worthTo ∈ lw_tb := tb3 (List.mem_of_getElem? (i := 63) rfl) rfl
set_option maxRecDepth 100000 in
theorem q614 : Cond.code yX6_worthTo cX6_worthTo 5 (some .int) ∈ lw_tb := tb3 (List.mem_of_getElem? (i := 64) rfl) rfl
set_option maxRecDepth 100000 in
theorem q615 : Cond.methodLink RX6 377 yX5_daysOf ∈ lw_tb := tb3 (List.mem_of_getElem? (i := 65) rfl) rfl
set_option maxRecDepth 100000 in
theorem q616 : Cond.instanceMethod yX5_daysOf ∈ lw_tb := tb3 (List.mem_of_getElem? (i := 66) rfl) rfl
set_option maxRecDepth 100000 in
theorem q617 : Cond.selects RX5 yX5_daysOf yX5_daysOf ∈ lw_tb := tb3 (List.mem_of_getElem? (i := 67) rfl) rfl
set_option maxRecDepth 100000 in
theorem q618 : Cond.code yX5_daysOf cX5_daysOf 2 (some .int) ∈ lw_tb := tb3 (List.mem_of_getElem? (i := 68) rfl) rfl
set_option maxRecDepth 100000 in
theorem q619 : Cond.methodLink RL 93 yX6_change ∈ lw_tb := tb3 (List.mem_of_getElem? (i := 69) rfl) rfl
set_option maxRecDepth 100000 in
theorem q620 : Cond.instanceMethod yX6_change ∈ lw_tb := tb3 (List.mem_of_getElem? (i := 70) rfl) rfl
set_option maxRecDepth 100000 in
theorem q621 : Cond.selects RX6 yX6_change yX6_change ∈ lw_tb := tb3 (List.mem_of_getElem? (i := 71) rfl) rfl
set_option maxRecDepth 100000 in
theorem q622 : Cond.code yX6_change cX6_change 3 (some .int) ∈ lw_tb := tb3 (List.mem_of_getElem? (i := 72) rfl) rfl
set_option maxRecDepth 100000 in
theorem q623 : Cond.methodLink RX6 192 yX6_wouldSwap ∈ lw_tb := tb3 (List.mem_of_getElem? (i := 73) rfl) rfl
set_option maxRecDepth 100000 in
theorem q625 : Cond.instanceMethod yX6_wouldSwap ∈ lw_tb := tb3 (List.mem_of_getElem? (i := 75) rfl) rfl
set_option maxRecDepth 100000 in
theorem q626 : Cond.code yX6_wouldSwap cX6_wouldSwap 3 (some .boolean) ∈ lw_tb := tb3 (List.mem_of_getElem? (i := 76) rfl) rfl
set_option maxRecDepth 100000 in
theorem q627 : Cond.methodLink RX6 380 yX6_wouldRather ∈ lw_tb := tb3 (List.mem_of_getElem? (i := 77) rfl) rfl
set_option maxRecDepth 100000 in
theorem q629 : Cond.instanceMethod yX6_wouldRather ∈ lw_tb := tb3 (List.mem_of_getElem? (i := 79) rfl) rfl
set_option maxRecDepth 100000 in
theorem q630 : Cond.code yX6_wouldRather cX6_wouldRather 3 (some .boolean) ∈ lw_tb := tb3 (List.mem_of_getElem? (i := 80) rfl) rfl
set_option maxRecDepth 100000 in
theorem q631 : Cond.methodLink RL 97 yX6_changes ∈ lw_tb := tb3 (List.mem_of_getElem? (i := 81) rfl) rfl
set_option maxRecDepth 100000 in
theorem q632 : Cond.instanceMethod yX6_changes ∈ lw_tb := tb3 (List.mem_of_getElem? (i := 82) rfl) rfl
set_option maxRecDepth 100000 in
theorem q633 : Cond.selects RX6 yX6_changes yX6_changes ∈ lw_tb := tb3 (List.mem_of_getElem? (i := 83) rfl) rfl
set_option maxRecDepth 100000 in
theorem q634 : Cond.code yX6_changes cX6_changes 2 (some .int) ∈ lw_tb := tb3 (List.mem_of_getElem? (i := 84) rfl) rfl
set_option maxRecDepth 100000 in
theorem q635 : Cond.methodLink RX6 195 yX6_countPairs ∈ lw_tb := tb3 (List.mem_of_getElem? (i := 85) rfl) rfl
set_option maxRecDepth 100000 in
theorem q637 : Cond.instanceMethod yX6_countPairs ∈ lw_tb := tb3 (List.mem_of_getElem? (i := 87) rfl) rfl
set_option maxRecDepth 100000 in
theorem q638 : Cond.code yX6_countPairs cX6_countPairs 4 (some .int) ∈ lw_tb := tb3 (List.mem_of_getElem? (i := 88) rfl) rfl
set_option maxRecDepth 100000 in
theorem q639 : Cond.methodLink RX6 198 yX6_countRings ∈ lw_tb := tb3 (List.mem_of_getElem? (i := 89) rfl) rfl
set_option maxRecDepth 100000 in
theorem q641 : Cond.instanceMethod yX6_countRings ∈ lw_tb := tb3 (List.mem_of_getElem? (i := 91) rfl) rfl
set_option maxRecDepth 100000 in
theorem q642 : Cond.code yX6_countRings cX6_countRings 5 (some .int) ∈ lw_tb := tb3 (List.mem_of_getElem? (i := 92) rfl) rfl
set_option maxRecDepth 100000 in
theorem q643 : Cond.methodLink RX6 383 yX6_isRing ∈ lw_tb := tb3 (List.mem_of_getElem? (i := 93) rfl) rfl
set_option maxRecDepth 100000 in
theorem q645 : Cond.instanceMethod yX6_isRing ∈ lw_tb := tb3 (List.mem_of_getElem? (i := 95) rfl) rfl
set_option maxRecDepth 100000 in
theorem q646 : Cond.code yX6_isRing cX6_isRing 5 (some .boolean) ∈ lw_tb := tb3 (List.mem_of_getElem? (i := 96) rfl) rfl
set_option maxRecDepth 100000 in
theorem q647 : Cond.methodLink RL 101 yX6_sort ∈ lw_tb := tb3 (List.mem_of_getElem? (i := 97) rfl) rfl
set_option maxRecDepth 100000 in
theorem q648 : Cond.instanceMethod yX6_sort ∈ lw_tb := tb3 (List.mem_of_getElem? (i := 98) rfl) rfl
set_option maxRecDepth 100000 in
theorem q649 : Cond.selects RX6 yX6_sort yX6_sort ∈ lw_tb := tb3 (List.mem_of_getElem? (i := 99) rfl) rfl
set_option maxRecDepth 100000 in
theorem q650 : Cond.code yX6_sort cX6_sort 4 (some .int) ∈ lw_tb := tb3 (List.mem_of_getElem? (i := 100) rfl) rfl
set_option maxRecDepth 100000 in
theorem q651 : Cond.methodLink RX6 205 yX3_changeNeed ∈ lw_tb := tb3 (List.mem_of_getElem? (i := 101) rfl) rfl
set_option maxRecDepth 100000 in
theorem q652 : Cond.instanceMethod yX3_changeNeed ∈ lw_tb := tb3 (List.mem_of_getElem? (i := 102) rfl) rfl
set_option maxRecDepth 100000 in
theorem q653 : Cond.selects RX3 yX3_changeNeed yX3_changeNeed ∈ lw_tb := tb3 (List.mem_of_getElem? (i := 103) rfl) rfl
set_option maxRecDepth 100000 in
theorem q654 : Cond.code yX3_changeNeed cX3_changeNeed 4 (some .int) ∈ lw_tb := tb3 (List.mem_of_getElem? (i := 104) rfl) rfl
set_option maxRecDepth 100000 in
theorem q655 : Cond.methodLink RX6 208 yX3_changePay ∈ lw_tb := tb3 (List.mem_of_getElem? (i := 105) rfl) rfl
set_option maxRecDepth 100000 in
theorem q656 : Cond.instanceMethod yX3_changePay ∈ lw_tb := tb3 (List.mem_of_getElem? (i := 106) rfl) rfl
set_option maxRecDepth 100000 in
theorem q657 : Cond.selects RX3 yX3_changePay yX3_changePay ∈ lw_tb := tb3 (List.mem_of_getElem? (i := 107) rfl) rfl
set_option maxRecDepth 100000 in
theorem q658 : Cond.code yX3_changePay cX3_changePay 4 (some .int) ∈ lw_tb := tb3 (List.mem_of_getElem? (i := 108) rfl) rfl
set_option maxRecDepth 100000 in
theorem q659 : Cond.methodLink RL 105 yX6_set ∈ lw_tb := tb3 (List.mem_of_getElem? (i := 109) rfl) rfl
set_option maxRecDepth 100000 in
theorem q660 : Cond.instanceMethod yX6_set ∈ lw_tb := tb3 (List.mem_of_getElem? (i := 110) rfl) rfl
set_option maxRecDepth 100000 in
theorem q661 : Cond.selects RX6 yX6_set yX6_set ∈ lw_tb := tb3 (List.mem_of_getElem? (i := 111) rfl) rfl
set_option maxRecDepth 100000 in
theorem q662 : Cond.code yX6_set cX6_set 2 (some .int) ∈ lw_tb := tb3 (List.mem_of_getElem? (i := 112) rfl) rfl
set_option maxRecDepth 100000 in
theorem q663 : Cond.methodLink RX6 215 yX3_plant ∈ lw_tb := tb3 (List.mem_of_getElem? (i := 113) rfl) rfl
set_option maxRecDepth 100000 in
theorem q664 : Cond.instanceMethod yX3_plant ∈ lw_tb := tb3 (List.mem_of_getElem? (i := 114) rfl) rfl
set_option maxRecDepth 100000 in
theorem q665 : Cond.selects RX3 yX3_plant yX3_plant ∈ lw_tb := tb3 (List.mem_of_getElem? (i := 115) rfl) rfl
set_option maxRecDepth 100000 in
theorem q666 : Cond.code yX3_plant cX3_plant 5 none ∈ lw_tb := tb3 (List.mem_of_getElem? (i := 116) rfl) rfl
set_option maxRecDepth 100000 in
theorem q667 : Cond.methodLink RX3 24 yX3_bestFrom ∈ lw_tb := tb3 (List.mem_of_getElem? (i := 117) rfl) rfl
set_option maxRecDepth 100000 in
theorem q669 : Cond.instanceMethod yX3_bestFrom ∈ lw_tb := tb3 (List.mem_of_getElem? (i := 119) rfl) rfl
set_option maxRecDepth 100000 in
theorem q670 : Cond.code yX3_bestFrom cX3_bestFrom 6 (some .int) ∈ lw_tb := tb3 (List.mem_of_getElem? (i := 120) rfl) rfl
set_option maxRecDepth 100000 in
theorem q671 : Cond.methodLink RX3 35 yX3_payFrom ∈ lw_tb := tb3 (List.mem_of_getElem? (i := 121) rfl) rfl
set_option maxRecDepth 100000 in
theorem q673 : Cond.instanceMethod yX3_payFrom ∈ lw_tb := tb3 (List.mem_of_getElem? (i := 123) rfl) rfl
set_option maxRecDepth 100000 in
theorem q674 : Cond.code yX3_payFrom cX3_payFrom 5 (some .int) ∈ lw_tb := tb3 (List.mem_of_getElem? (i := 124) rfl) rfl
set_option maxRecDepth 100000 in
theorem q675 : Cond.methodLink RX3 31 yX3_weightOf ∈ lw_tb := tb3 (List.mem_of_getElem? (i := 125) rfl) rfl
set_option maxRecDepth 100000 in
theorem q676 : Cond.static yX3_weightOf ∈ lw_tb := tb3 (List.mem_of_getElem? (i := 126) rfl) rfl
set_option maxRecDepth 100000 in
theorem q677 : Cond.code yX3_weightOf cX3_weightOf 1 (some .int) ∈ lw_tb := tb3 (List.mem_of_getElem? (i := 127) rfl) rfl
set_option maxRecDepth 100000 in
theorem q678 : Cond.methodLink RX3 38 yX3_mayStand ∈ lw_tb := tb3 (List.mem_of_getElem? (i := 128) rfl) rfl
set_option maxRecDepth 100000 in
theorem q680 : Cond.instanceMethod yX3_mayStand ∈ lw_tb := tb3 (List.mem_of_getElem? (i := 130) rfl) rfl
set_option maxRecDepth 100000 in
theorem q681 : Cond.code yX3_mayStand cX3_mayStand 4 (some .boolean) ∈ lw_tb := tb3 (List.mem_of_getElem? (i := 131) rfl) rfl
set_option maxRecDepth 100000 in
theorem q682 : Cond.methodLink RX3 48 yX3_standAhead ∈ lw_tb := tb3 (List.mem_of_getElem? (i := 132) rfl) rfl
set_option maxRecDepth 100000 in
theorem q683 : Cond.static yX3_standAhead ∈ lw_tb := tb3 (List.mem_of_getElem? (i := 133) rfl) rfl
set_option maxRecDepth 100000 in
theorem q684 : Cond.code yX3_standAhead cX3_standAhead 2 (some .int) ∈ lw_tb := tb3 (List.mem_of_getElem? (i := 134) rfl) rfl
set_option maxRecDepth 100000 in
theorem q685 : Cond.methodLink RX3 42 yJ9_max_7cf53 ∈ lw_tb := tb3 (List.mem_of_getElem? (i := 135) rfl) rfl
set_option maxRecDepth 100000 in
theorem q686 : Cond.methodLink RX3 28 yX3_leastSort ∈ lw_tb := tb3 (List.mem_of_getElem? (i := 136) rfl) rfl
set_option maxRecDepth 100000 in
theorem q688 : Cond.instanceMethod yX3_leastSort ∈ lw_tb := tb3 (List.mem_of_getElem? (i := 138) rfl) rfl
set_option maxRecDepth 100000 in
theorem q689 : Cond.code yX3_leastSort cX3_leastSort 6 (some .int) ∈ lw_tb := tb3 (List.mem_of_getElem? (i := 139) rfl) rfl
set_option maxRecDepth 100000 in
theorem q690 : Cond.methodLink RX6 218 yX3_mostPaid ∈ lw_tb := tb3 (List.mem_of_getElem? (i := 140) rfl) rfl
set_option maxRecDepth 100000 in
theorem q691 : Cond.instanceMethod yX3_mostPaid ∈ lw_tb := tb3 (List.mem_of_getElem? (i := 141) rfl) rfl
set_option maxRecDepth 100000 in
theorem q692 : Cond.selects RX3 yX3_mostPaid yX3_mostPaid ∈ lw_tb := tb3 (List.mem_of_getElem? (i := 142) rfl) rfl
set_option maxRecDepth 100000 in
theorem q693 : Cond.code yX3_mostPaid cX3_mostPaid 1 (some .int) ∈ lw_tb := tb3 (List.mem_of_getElem? (i := 143) rfl) rfl
set_option maxRecDepth 100000 in
theorem q694 : Cond.methodLink RX6 221 yX3_sortOn ∈ lw_tb := tb3 (List.mem_of_getElem? (i := 144) rfl) rfl
set_option maxRecDepth 100000 in
theorem q695 : Cond.instanceMethod yX3_sortOn ∈ lw_tb := tb3 (List.mem_of_getElem? (i := 145) rfl) rfl
set_option maxRecDepth 100000 in
theorem q696 : Cond.selects RX3 yX3_sortOn yX3_sortOn ∈ lw_tb := tb3 (List.mem_of_getElem? (i := 146) rfl) rfl
set_option maxRecDepth 100000 in
theorem q697 : Cond.code yX3_sortOn cX3_sortOn 2 (some .int) ∈ lw_tb := tb3 (List.mem_of_getElem? (i := 147) rfl) rfl
set_option maxRecDepth 100000 in
theorem q698 : Cond.methodLink RL 109 yX6_seen ∈ lw_tb := tb3 (List.mem_of_getElem? (i := 148) rfl) rfl
set_option maxRecDepth 100000 in
theorem q699 : Cond.instanceMethod yX6_seen ∈ lw_tb := tb3 (List.mem_of_getElem? (i := 149) rfl) rfl
set_option maxRecDepth 100000 in
theorem q700 : Cond.selects RX6 yX6_seen yX6_seen ∈ lw_tb := tb3 (List.mem_of_getElem? (i := 150) rfl) rfl
set_option maxRecDepth 100000 in
theorem q701 : Cond.code yX6_seen cX6_seen 3 (some .int) ∈ lw_tb := tb3 (List.mem_of_getElem? (i := 151) rfl) rfl
set_option maxRecDepth 100000 in
theorem q702 : Cond.methodLink RL 113 yX6_forget ∈ lw_tb := tb3 (List.mem_of_getElem? (i := 152) rfl) rfl
set_option maxRecDepth 100000 in
theorem q703 : Cond.instanceMethod yX6_forget ∈ lw_tb := tb3 (List.mem_of_getElem? (i := 153) rfl) rfl
set_option maxRecDepth 100000 in
theorem q704 : Cond.selects RX6 yX6_forget yX6_forget ∈ lw_tb := tb3 (List.mem_of_getElem? (i := 154) rfl) rfl
set_option maxRecDepth 100000 in
theorem q705 : Cond.code yX6_forget cX6_forget 2 (some .int) ∈ lw_tb := tb3 (List.mem_of_getElem? (i := 155) rfl) rfl
set_option maxRecDepth 100000 in
theorem q706 : Cond.methodLink RL 117 yX6_whose ∈ lw_tb := tb3 (List.mem_of_getElem? (i := 156) rfl) rfl
set_option maxRecDepth 100000 in
theorem q707 : Cond.instanceMethod yX6_whose ∈ lw_tb := tb3 (List.mem_of_getElem? (i := 157) rfl) rfl
set_option maxRecDepth 100000 in
theorem q708 : Cond.selects RX6 yX6_whose yX6_whose ∈ lw_tb := tb3 (List.mem_of_getElem? (i := 158) rfl) rfl
set_option maxRecDepth 100000 in
theorem q709 : Cond.code yX6_whose cX6_whose 5 (some .int) ∈ lw_tb := tb3 (List.mem_of_getElem? (i := 159) rfl) rfl
set_option maxRecDepth 100000 in
theorem q710 : Cond.methodLink RX6 228 yX6_fitsAllSeen ∈ lw_tb := tb3 (List.mem_of_getElem? (i := 160) rfl) rfl
set_option maxRecDepth 100000 in
theorem q712 : Cond.instanceMethod yX6_fitsAllSeen ∈ lw_tb := tb3 (List.mem_of_getElem? (i := 162) rfl) rfl
set_option maxRecDepth 100000 in
theorem q713 : Cond.code yX6_fitsAllSeen cX6_fitsAllSeen 3 (some .boolean) ∈ lw_tb := tb3 (List.mem_of_getElem? (i := 163) rfl) rfl
set_option maxRecDepth 100000 in
theorem q714 : Cond.methodLink RX6 231 yJ6_bitCount_0f7a4 ∈ lw_tb := tb3 (List.mem_of_getElem? (i := 164) rfl) rfl
set_option maxRecDepth 100000 in
theorem q715 : Cond.methodLink RL 121 yX6_clouds ∈ lw_tb := tb3 (List.mem_of_getElem? (i := 165) rfl) rfl
set_option maxRecDepth 100000 in
theorem q716 : Cond.instanceMethod yX6_clouds ∈ lw_tb := tb3 (List.mem_of_getElem? (i := 166) rfl) rfl
set_option maxRecDepth 100000 in
theorem q717 : Cond.selects RX6 yX6_clouds yX6_clouds ∈ lw_tb := tb3 (List.mem_of_getElem? (i := 167) rfl) rfl
set_option maxRecDepth 100000 in
theorem q718 : Cond.code yX6_clouds cX6_clouds 4 (some .int) ∈ lw_tb := tb3 (List.mem_of_getElem? (i := 168) rfl) rfl
set_option maxRecDepth 100000 in
theorem q719 : Cond.methodLink RL 125 yX6_clear ∈ lw_tb := tb3 (List.mem_of_getElem? (i := 169) rfl) rfl
set_option maxRecDepth 100000 in
theorem q720 : Cond.instanceMethod yX6_clear ∈ lw_tb := tb3 (List.mem_of_getElem? (i := 170) rfl) rfl
set_option maxRecDepth 100000 in
theorem q721 : Cond.selects RX6 yX6_clear yX6_clear ∈ lw_tb := tb3 (List.mem_of_getElem? (i := 171) rfl) rfl
set_option maxRecDepth 100000 in
theorem q722 : Cond.code yX6_clear cX6_clear 6 (some .long) ∈ lw_tb := tb3 (List.mem_of_getElem? (i := 172) rfl) rfl
set_option maxRecDepth 100000 in
theorem q723 : Cond.constantLong RX6 236 (-9223372036854775806) ∈ lw_tb := tb3 (List.mem_of_getElem? (i := 173) rfl) rfl
set_option maxRecDepth 100000 in
theorem q724 : Cond.methodLink RX6 238 yX0_takeMean ∈ lw_tb := tb3 (List.mem_of_getElem? (i := 174) rfl) rfl
set_option maxRecDepth 100000 in
theorem q725 : Cond.instanceMethod yX0_takeMean ∈ lw_tb := tb3 (List.mem_of_getElem? (i := 175) rfl) rfl
set_option maxRecDepth 100000 in
theorem q726 : Cond.selects RX0 yX0_takeMean yX0_takeMean ∈ lw_tb := tb3 (List.mem_of_getElem? (i := 176) rfl) rfl
set_option maxRecDepth 100000 in
theorem q727 : Cond.code yX0_takeMean cX0_takeMean 3 none ∈ lw_tb := tb3 (List.mem_of_getElem? (i := 177) rfl) rfl
set_option maxRecDepth 100000 in
theorem q728 : Cond.constantLong RX0 22 (16) ∈ lw_tb := tb3 (List.mem_of_getElem? (i := 178) rfl) rfl
set_option maxRecDepth 100000 in
theorem q729 : Cond.methodLink RX0 24 yX0_reduce ∈ lw_tb := tb3 (List.mem_of_getElem? (i := 179) rfl) rfl
set_option maxRecDepth 100000 in
theorem q731 : Cond.instanceMethod yX0_reduce ∈ lw_tb := tb3 (List.mem_of_getElem? (i := 181) rfl) rfl
set_option maxRecDepth 100000 in
theorem q732 : Cond.code yX0_reduce cX0_reduce 2 none ∈ lw_tb := tb3 (List.mem_of_getElem? (i := 182) rfl) rfl
set_option maxRecDepth 100000 in
theorem q733 : Cond.methodLink RX6 241 yX0_takeAtLeast ∈ lw_tb := tb3 (List.mem_of_getElem? (i := 183) rfl) rfl
set_option maxRecDepth 100000 in
theorem q734 : Cond.instanceMethod yX0_takeAtLeast ∈ lw_tb := tb3 (List.mem_of_getElem? (i := 184) rfl) rfl
set_option maxRecDepth 100000 in
theorem q735 : Cond.selects RX0 yX0_takeAtLeast yX0_takeAtLeast ∈ lw_tb := tb3 (List.mem_of_getElem? (i := 185) rfl) rfl
set_option maxRecDepth 100000 in
theorem q736 : Cond.code yX0_takeAtLeast cX0_takeAtLeast 5 none ∈ lw_tb := tb3 (List.mem_of_getElem? (i := 186) rfl) rfl
set_option maxRecDepth 100000 in
theorem q737 : Cond.methodLink RX0 27 yX0_countWays ∈ lw_tb := tb3 (List.mem_of_getElem? (i := 187) rfl) rfl
set_option maxRecDepth 100000 in
theorem q739 : Cond.instanceMethod yX0_countWays ∈ lw_tb := tb3 (List.mem_of_getElem? (i := 189) rfl) rfl
set_option maxRecDepth 100000 in
theorem q740 : Cond.code yX0_countWays cX0_countWays 5 none ∈ lw_tb := tb3 (List.mem_of_getElem? (i := 190) rfl) rfl
set_option maxRecDepth 100000 in
theorem q741 : Cond.methodLink RX0 31 yJ7_fill_d0a16 ∈ lw_tb := tb3 (List.mem_of_getElem? (i := 191) rfl) rfl
set_option maxRecDepth 100000 in
theorem q742 : Cond.static yJ7_fill_d0a16 ∈ lw_tb := tb3 (List.mem_of_getElem? (i := 192) rfl) rfl
set_option maxRecDepth 100000 in
theorem q743 : Cond.code yJ7_fill_d0a16 cJ7_fill_d0a16 5 none ∈ lw_tb := tb3 (List.mem_of_getElem? (i := 193) rfl) rfl
set_option maxRecDepth 100000 in
theorem q744 : Cond.methodLink RX6 245 yX0_above ∈ lw_tb := tb3 (List.mem_of_getElem? (i := 194) rfl) rfl
set_option maxRecDepth 100000 in
theorem q745 : Cond.instanceMethod yX0_above ∈ lw_tb := tb3 (List.mem_of_getElem? (i := 195) rfl) rfl
set_option maxRecDepth 100000 in
theorem q746 : Cond.selects RX0 yX0_above yX0_above ∈ lw_tb := tb3 (List.mem_of_getElem? (i := 196) rfl) rfl
set_option maxRecDepth 100000 in
theorem q747 : Cond.code yX0_above cX0_above 1 (some .long) ∈ lw_tb := tb3 (List.mem_of_getElem? (i := 197) rfl) rfl
set_option maxRecDepth 100000 in
theorem q748 : Cond.methodLink RX6 249 yX0_below ∈ lw_tb := tb3 (List.mem_of_getElem? (i := 198) rfl) rfl
set_option maxRecDepth 100000 in
theorem q749 : Cond.instanceMethod yX0_below ∈ lw_tb := tb3 (List.mem_of_getElem? (i := 199) rfl) rfl
set_option maxRecDepth 100000 in
theorem q750 : Cond.selects RX0 yX0_below yX0_below ∈ lw_tb := tb3 (List.mem_of_getElem? (i := 200) rfl) rfl
set_option maxRecDepth 100000 in
theorem q751 : Cond.code yX0_below cX0_below 1 (some .long) ∈ lw_tb := tb3 (List.mem_of_getElem? (i := 201) rfl) rfl
set_option maxRecDepth 100000 in
theorem q752 : Cond.methodLink RL 130 yX6_sheet ∈ lw_tb := tb3 (List.mem_of_getElem? (i := 202) rfl) rfl
set_option maxRecDepth 100000 in
theorem q753 : Cond.instanceMethod yX6_sheet ∈ lw_tb := tb3 (List.mem_of_getElem? (i := 203) rfl) rfl
set_option maxRecDepth 100000 in
theorem q754 : Cond.selects RX6 yX6_sheet yX6_sheet ∈ lw_tb := tb3 (List.mem_of_getElem? (i := 204) rfl) rfl
set_option maxRecDepth 100000 in
theorem q755 : Cond.code yX6_sheet cX6_sheet 4 (some .int) ∈ lw_tb := tb3 (List.mem_of_getElem? (i := 205) rfl) rfl
set_option maxRecDepth 100000 in
theorem q756 : Cond.methodLink RX6 252 yX4_lay ∈ lw_tb := tb3 (List.mem_of_getElem? (i := 206) rfl) rfl
set_option maxRecDepth 100000 in
theorem q757 : Cond.instanceMethod yX4_lay ∈ lw_tb := tb3 (List.mem_of_getElem? (i := 207) rfl) rfl
set_option maxRecDepth 100000 in
theorem q758 : Cond.selects RX4 yX4_lay yX4_lay ∈ lw_tb := tb3 (List.mem_of_getElem? (i := 208) rfl) rfl
set_option maxRecDepth 100000 in
theorem q759 : Cond.code yX4_lay cX4_lay 5 none ∈ lw_tb := tb3 (List.mem_of_getElem? (i := 209) rfl) rfl
set_option maxRecDepth 100000 in
theorem q760 : Cond.methodLink RL 134 yX6_lose ∈ lw_tb := tb3 (List.mem_of_getElem? (i := 210) rfl) rfl
set_option maxRecDepth 100000 in
theorem q761 : Cond.instanceMethod yX6_lose ∈ lw_tb := tb3 (List.mem_of_getElem? (i := 211) rfl) rfl
set_option maxRecDepth 100000 in
theorem q762 : Cond.selects RX6 yX6_lose yX6_lose ∈ lw_tb := tb3 (List.mem_of_getElem? (i := 212) rfl) rfl
set_option maxRecDepth 100000 in
theorem q763 : Cond.code yX6_lose cX6_lose 3 (some .int) ∈ lw_tb := tb3 (List.mem_of_getElem? (i := 213) rfl) rfl
set_option maxRecDepth 100000 in
theorem q764 : Cond.methodLink RX6 255 yX4_drop ∈ lw_tb := tb3 (List.mem_of_getElem? (i := 214) rfl) rfl
set_option maxRecDepth 100000 in
theorem q765 : Cond.instanceMethod yX4_drop ∈ lw_tb := tb3 (List.mem_of_getElem? (i := 215) rfl) rfl
set_option maxRecDepth 100000 in
theorem q766 : Cond.selects RX4 yX4_drop yX4_drop ∈ lw_tb := tb3 (List.mem_of_getElem? (i := 216) rfl) rfl
set_option maxRecDepth 100000 in
theorem q767 : Cond.code yX4_drop cX4_drop 2 none ∈ lw_tb := tb3 (List.mem_of_getElem? (i := 217) rfl) rfl
set_option maxRecDepth 100000 in
theorem q768 : Cond.methodLink RL 138 yX6_put ∈ lw_tb := tb3 (List.mem_of_getElem? (i := 218) rfl) rfl
set_option maxRecDepth 100000 in
theorem q769 : Cond.instanceMethod yX6_put ∈ lw_tb := tb3 (List.mem_of_getElem? (i := 219) rfl) rfl
set_option maxRecDepth 100000 in
theorem q770 : Cond.selects RX6 yX6_put yX6_put ∈ lw_tb := tb3 (List.mem_of_getElem? (i := 220) rfl) rfl
set_option maxRecDepth 100000 in
theorem q771 : Cond.code yX6_put cX6_put 6 (some .int) ∈ lw_tb := tb3 (List.mem_of_getElem? (i := 221) rfl) rfl
set_option maxRecDepth 100000 in
theorem q772 : Cond.methodLink RX6 258 yX6_refuseItem ∈ lw_tb := tb3 (List.mem_of_getElem? (i := 222) rfl) rfl
set_option maxRecDepth 100000 in
theorem q774 : Cond.instanceMethod yX6_refuseItem ∈ lw_tb := tb3 (List.mem_of_getElem? (i := 224) rfl) rfl
set_option maxRecDepth 100000 in
theorem q775 : Cond.code yX6_refuseItem cX6_refuseItem 4 (some .int) ∈ lw_tb := tb3 (List.mem_of_getElem? (i := 225) rfl) rfl
set_option maxRecDepth 100000 in
theorem q776 : Cond.methodLink RX6 265 yX4_formOf ∈ lw_tb := tb3 (List.mem_of_getElem? (i := 226) rfl) rfl
set_option maxRecDepth 100000 in
theorem q777 : Cond.instanceMethod yX4_formOf ∈ lw_tb := tb3 (List.mem_of_getElem? (i := 227) rfl) rfl
set_option maxRecDepth 100000 in
theorem q778 : Cond.selects RX4 yX4_formOf yX4_formOf ∈ lw_tb := tb3 (List.mem_of_getElem? (i := 228) rfl) rfl
set_option maxRecDepth 100000 in
theorem q779 : Cond.code yX4_formOf cX4_formOf 2 (some .int) ∈ lw_tb := tb3 (List.mem_of_getElem? (i := 229) rfl) rfl
set_option maxRecDepth 100000 in
theorem q780 : Cond.methodLink RX6 261 yX4_store ∈ lw_tb := tb3 (List.mem_of_getElem? (i := 230) rfl) rfl
set_option maxRecDepth 100000 in
theorem q781 : Cond.instanceMethod yX4_store ∈ lw_tb := tb3 (List.mem_of_getElem? (i := 231) rfl) rfl
set_option maxRecDepth 100000 in
theorem q782 : Cond.selects RX4 yX4_store yX4_store ∈ lw_tb := tb3 (List.mem_of_getElem? (i := 232) rfl) rfl
set_option maxRecDepth 100000 in
theorem q783 : Cond.code yX4_store cX4_store 4 none ∈ lw_tb := tb3 (List.mem_of_getElem? (i := 233) rfl) rfl
set_option maxRecDepth 100000 in
theorem q784 : Cond.methodLink RX4 21 yX4_narrow ∈ lw_tb := tb3 (List.mem_of_getElem? (i := 234) rfl) rfl
set_option maxRecDepth 100000 in
theorem q785 : Cond.static yX4_narrow ∈ lw_tb := tb3 (List.mem_of_getElem? (i := 235) rfl) rfl
set_option maxRecDepth 100000 in
theorem q786 : Cond.code yX4_narrow cX4_narrow 2 (some .int) ∈ lw_tb := tb3 (List.mem_of_getElem? (i := 236) rfl) rfl
set_option maxRecDepth 100000 in
theorem q787 : Cond.methodLink RL 143 yX6_get ∈ lw_tb := tb3 (List.mem_of_getElem? (i := 237) rfl) rfl
set_option maxRecDepth 100000 in
theorem q788 : Cond.instanceMethod yX6_get ∈ lw_tb := tb3 (List.mem_of_getElem? (i := 238) rfl) rfl
set_option maxRecDepth 100000 in
theorem q789 : Cond.selects RX6 yX6_get yX6_get ∈ lw_tb := tb3 (List.mem_of_getElem? (i := 239) rfl) rfl
set_option maxRecDepth 100000 in
theorem q790 : Cond.code yX6_get cX6_get 4 (some .int) ∈ lw_tb := tb4 (List.mem_of_getElem? (i := 0) rfl) rfl
set_option maxRecDepth 100000 in
theorem q791 : Cond.constant RX6 264 (-2147483648) ∈ lw_tb := tb4 (List.mem_of_getElem? (i := 1) rfl) rfl
set_option maxRecDepth 100000 in
theorem q792 : Cond.methodLink RL 147 yX6_copy ∈ lw_tb := tb4 (List.mem_of_getElem? (i := 2) rfl) rfl
set_option maxRecDepth 100000 in
theorem q793 : Cond.instanceMethod yX6_copy ∈ lw_tb := tb4 (List.mem_of_getElem? (i := 3) rfl) rfl
set_option maxRecDepth 100000 in
theorem q794 : Cond.selects RX6 yX6_copy yX6_copy ∈ lw_tb := tb4 (List.mem_of_getElem? (i := 4) rfl) rfl
set_option maxRecDepth 100000 in
theorem q795 : Cond.code yX6_copy cX6_copy 6 (some .int) ∈ lw_tb := tb4 (List.mem_of_getElem? (i := 5) rfl) rfl
set_option maxRecDepth 100000 in
theorem q796 : Cond.methodLink RX6 268 yX4_holds ∈ lw_tb := tb4 (List.mem_of_getElem? (i := 6) rfl) rfl
set_option maxRecDepth 100000 in
theorem q797 : Cond.instanceMethod yX4_holds ∈ lw_tb := tb4 (List.mem_of_getElem? (i := 7) rfl) rfl
set_option maxRecDepth 100000 in
theorem q798 : Cond.selects RX4 yX4_holds yX4_holds ∈ lw_tb := tb4 (List.mem_of_getElem? (i := 8) rfl) rfl
set_option maxRecDepth 100000 in
theorem q799 : Cond.code yX4_holds cX4_holds 4 (some .boolean) ∈ lw_tb := tb4 (List.mem_of_getElem? (i := 9) rfl) rfl
set_option maxRecDepth 100000 in
theorem q800 : Cond.methodLink RX6 272 yX4_carry ∈ lw_tb := tb4 (List.mem_of_getElem? (i := 10) rfl) rfl
set_option maxRecDepth 100000 in
theorem q801 : Cond.instanceMethod yX4_carry ∈ lw_tb := tb4 (List.mem_of_getElem? (i := 11) rfl) rfl
set_option maxRecDepth 100000 in
theorem q802 : Cond.selects RX4 yX4_carry yX4_carry ∈ lw_tb := tb4 (List.mem_of_getElem? (i := 12) rfl) rfl
set_option maxRecDepth 100000 in
theorem q803 : Cond.code yX4_carry cX4_carry 6 none ∈ lw_tb := tb4 (List.mem_of_getElem? (i := 13) rfl) rfl
set_option maxRecDepth 100000 in
theorem q804 : Cond.methodLink RX4 25 (⟨"java/lang/System", "arraycopy", "(Ljava/lang/Object;ILjava/lang/Object;II)V"⟩ : MethodName) ∈ lw_tb := tb4 (List.mem_of_getElem? (i := 14) rfl) rfl
set_option maxRecDepth 100000 in
theorem q805 : Cond.static (⟨"java/lang/System", "arraycopy", "(Ljava/lang/Object;ILjava/lang/Object;II)V"⟩ : MethodName) ∈ lw_tb := tb4 (List.mem_of_getElem? (i := 15) rfl) rfl
set_option maxRecDepth 100000 in
theorem q806 : Cond.native (⟨"java/lang/System", "arraycopy", "(Ljava/lang/Object;ILjava/lang/Object;II)V"⟩ : MethodName) ∈ lw_tb := tb4 (List.mem_of_getElem? (i := 16) rfl) rfl
set_option maxRecDepth 100000 in
theorem q807 : Cond.methodLink RL 152 yX6_write ∈ lw_tb := tb4 (List.mem_of_getElem? (i := 17) rfl) rfl
set_option maxRecDepth 100000 in
theorem q808 : Cond.instanceMethod yX6_write ∈ lw_tb := tb4 (List.mem_of_getElem? (i := 18) rfl) rfl
set_option maxRecDepth 100000 in
theorem q809 : Cond.selects RX6 yX6_write yX6_write ∈ lw_tb := tb4 (List.mem_of_getElem? (i := 19) rfl) rfl
set_option maxRecDepth 100000 in
theorem q810 : Cond.code yX6_write cX6_write 5 (some .int) ∈ lw_tb := tb4 (List.mem_of_getElem? (i := 20) rfl) rfl
set_option maxRecDepth 100000 in
theorem q811 : Cond.methodLink RL 156 yX6_count ∈ lw_tb := tb4 (List.mem_of_getElem? (i := 21) rfl) rfl
set_option maxRecDepth 100000 in
theorem q812 : Cond.instanceMethod yX6_count ∈ lw_tb := tb4 (List.mem_of_getElem? (i := 22) rfl) rfl
set_option maxRecDepth 100000 in
theorem q813 : Cond.selects RX6 yX6_count yX6_count ∈ lw_tb := tb4 (List.mem_of_getElem? (i := 23) rfl) rfl
set_option maxRecDepth 100000 in
theorem q814 : Cond.code yX6_count cX6_count 2 (some .int) ∈ lw_tb := tb4 (List.mem_of_getElem? (i := 24) rfl) rfl
set_option maxRecDepth 100000 in
theorem q815 : Cond.methodLink RX6 276 yX1_rows ∈ lw_tb := tb4 (List.mem_of_getElem? (i := 25) rfl) rfl
set_option maxRecDepth 100000 in
theorem q816 : Cond.instanceMethod yX1_rows ∈ lw_tb := tb4 (List.mem_of_getElem? (i := 26) rfl) rfl
set_option maxRecDepth 100000 in
theorem q817 : Cond.selects RX1 yX1_rows yX1_rows ∈ lw_tb := tb4 (List.mem_of_getElem? (i := 27) rfl) rfl
set_option maxRecDepth 100000 in
theorem q818 : Cond.code yX1_rows cX1_rows 1 (some .int) ∈ lw_tb := tb4 (List.mem_of_getElem? (i := 28) rfl) rfl
set_option maxRecDepth 100000 in
theorem q819 : Cond.methodLink RX6 279 yX6_countStanding ∈ lw_tb := tb4 (List.mem_of_getElem? (i := 29) rfl) rfl
set_option maxRecDepth 100000 in
theorem q821 : Cond.instanceMethod yX6_countStanding ∈ lw_tb := tb4 (List.mem_of_getElem? (i := 31) rfl) rfl
set_option maxRecDepth 100000 in
theorem q822 : Cond.code yX6_countStanding cX6_countStanding 3 (some .int) ∈ lw_tb := tb4 (List.mem_of_getElem? (i := 32) rfl) rfl
set_option maxRecDepth 100000 in
theorem q823 : Cond.methodLink RX6 282 yX6_countOwners ∈ lw_tb := tb4 (List.mem_of_getElem? (i := 33) rfl) rfl
set_option maxRecDepth 100000 in
theorem q825 : Cond.instanceMethod yX6_countOwners ∈ lw_tb := tb4 (List.mem_of_getElem? (i := 35) rfl) rfl
set_option maxRecDepth 100000 in
theorem q826 : Cond.code yX6_countOwners cX6_countOwners 3 (some .int) ∈ lw_tb := tb4 (List.mem_of_getElem? (i := 36) rfl) rfl
set_option maxRecDepth 100000 in
theorem q827 : Cond.methodLink RX6 285 yX5_allYears ∈ lw_tb := tb4 (List.mem_of_getElem? (i := 37) rfl) rfl
set_option maxRecDepth 100000 in
theorem q828 : Cond.instanceMethod yX5_allYears ∈ lw_tb := tb4 (List.mem_of_getElem? (i := 38) rfl) rfl
set_option maxRecDepth 100000 in
theorem q829 : Cond.selects RX5 yX5_allYears yX5_allYears ∈ lw_tb := tb4 (List.mem_of_getElem? (i := 39) rfl) rfl
set_option maxRecDepth 100000 in
theorem q830 : Cond.code yX5_allYears cX5_allYears 3 (some .int) ∈ lw_tb := tb4 (List.mem_of_getElem? (i := 40) rfl) rfl
set_option maxRecDepth 100000 in
theorem q831 : Cond.methodLink RX6 288 yX5_allDays ∈ lw_tb := tb4 (List.mem_of_getElem? (i := 41) rfl) rfl
set_option maxRecDepth 100000 in
theorem q832 : Cond.instanceMethod yX5_allDays ∈ lw_tb := tb4 (List.mem_of_getElem? (i := 42) rfl) rfl
set_option maxRecDepth 100000 in
theorem q833 : Cond.selects RX5 yX5_allDays yX5_allDays ∈ lw_tb := tb4 (List.mem_of_getElem? (i := 43) rfl) rfl
set_option maxRecDepth 100000 in
theorem q834 : Cond.code yX5_allDays cX5_allDays 3 (some .int) ∈ lw_tb := tb4 (List.mem_of_getElem? (i := 44) rfl) rfl
set_option maxRecDepth 100000 in
theorem q835 : Cond.methodLink RL 160 yX6_digest ∈ lw_tb := tb4 (List.mem_of_getElem? (i := 45) rfl) rfl
set_option maxRecDepth 100000 in
theorem q836 : Cond.instanceMethod yX6_digest ∈ lw_tb := tb4 (List.mem_of_getElem? (i := 46) rfl) rfl
set_option maxRecDepth 100000 in
theorem q837 : Cond.selects RX6 yX6_digest yX6_digest ∈ lw_tb := tb4 (List.mem_of_getElem? (i := 47) rfl) rfl
set_option maxRecDepth 100000 in
theorem q838 : Cond.code yX6_digest cX6_digest 4 (some .long) ∈ lw_tb := tb4 (List.mem_of_getElem? (i := 48) rfl) rfl
set_option maxRecDepth 100000 in
theorem q839 : Cond.constantLong RX6 294 (17) ∈ lw_tb := tb4 (List.mem_of_getElem? (i := 49) rfl) rfl
set_option maxRecDepth 100000 in
theorem q840 : Cond.methodLink RX6 296 yX6_count ∈ lw_tb := tb4 (List.mem_of_getElem? (i := 50) rfl) rfl
set_option maxRecDepth 100000 in
theorem q841 : Cond.methodLink RX6 299 yX6_mix ∈ lw_tb := tb4 (List.mem_of_getElem? (i := 51) rfl) rfl
set_option maxRecDepth 100000 in
theorem q842 : Cond.static yX6_mix ∈ lw_tb := tb4 (List.mem_of_getElem? (i := 52) rfl) rfl
set_option maxRecDepth 100000 in
theorem q843 : Cond.code yX6_mix cX6_mix 4 (some .long) ∈ lw_tb := tb4 (List.mem_of_getElem? (i := 53) rfl) rfl
set_option maxRecDepth 100000 in
theorem q844 : Cond.constantLong RX6 331 (31) ∈ lw_tb := tb4 (List.mem_of_getElem? (i := 54) rfl) rfl
set_option maxRecDepth 100000 in
theorem q845 : Cond.methodLink RX6 303 yX6_fault ∈ lw_tb := tb4 (List.mem_of_getElem? (i := 55) rfl) rfl
set_option maxRecDepth 100000 in
theorem q846 : Cond.methodLink RX6 306 yX6_mixCell ∈ lw_tb := tb4 (List.mem_of_getElem? (i := 56) rfl) rfl
set_option maxRecDepth 100000 in
theorem q848 : Cond.instanceMethod yX6_mixCell ∈ lw_tb := tb4 (List.mem_of_getElem? (i := 58) rfl) rfl
set_option maxRecDepth 100000 in
theorem q849 : Cond.code yX6_mixCell cX6_mixCell 7 (some .long) ∈ lw_tb := tb4 (List.mem_of_getElem? (i := 59) rfl) rfl
set_option maxRecDepth 100000 in
theorem q850 : Cond.methodLink RX6 333 yX6_cell ∈ lw_tb := tb4 (List.mem_of_getElem? (i := 60) rfl) rfl
set_option maxRecDepth 100000 in
theorem q851 : Cond.methodLink RX6 336 yX6_light ∈ lw_tb := tb4 (List.mem_of_getElem? (i := 61) rfl) rfl
set_option maxRecDepth 100000 in
theorem q852 : Cond.methodLink RX6 339 yX6_hours ∈ lw_tb := tb4 (List.mem_of_getElem? (i := 62) rfl) rfl
set_option maxRecDepth 100000 in
theorem q853 : Cond.methodLink RX6 342 yX6_shade ∈ lw_tb := tb4 (List.mem_of_getElem? (i := 63) rfl) rfl
set_option maxRecDepth 100000 in
theorem q854 : Cond.methodLink RX6 345 yX6_value ∈ lw_tb := tb4 (List.mem_of_getElem? (i := 64) rfl) rfl
set_option maxRecDepth 100000 in
theorem q855 : Cond.methodLink RX6 348 yX6_highest ∈ lw_tb := tb4 (List.mem_of_getElem? (i := 65) rfl) rfl
set_option maxRecDepth 100000 in
theorem q856 : Cond.methodLink RX6 325 yX6_set ∈ lw_tb := tb4 (List.mem_of_getElem? (i := 66) rfl) rfl
set_option maxRecDepth 100000 in
theorem q857 : Cond.methodLink RX6 310 yX6_mixChances ∈ lw_tb := tb4 (List.mem_of_getElem? (i := 67) rfl) rfl
set_option maxRecDepth 100000 in
theorem q859 : Cond.instanceMethod yX6_mixChances ∈ lw_tb := tb4 (List.mem_of_getElem? (i := 69) rfl) rfl
set_option maxRecDepth 100000 in
theorem q860 : Cond.code yX6_mixChances cX6_mixChances 6 (some .long) ∈ lw_tb := tb4 (List.mem_of_getElem? (i := 70) rfl) rfl
set_option maxRecDepth 100000 in
theorem q861 : Cond.methodLink RX6 351 yX6_clear ∈ lw_tb := tb4 (List.mem_of_getElem? (i := 71) rfl) rfl
set_option maxRecDepth 100000 in
theorem q862 : Cond.methodLink RX6 313 yX6_has ∈ lw_tb := tb4 (List.mem_of_getElem? (i := 72) rfl) rfl
set_option maxRecDepth 100000 in
theorem q863 : Cond.methodLink RX6 316 yX6_parts ∈ lw_tb := tb4 (List.mem_of_getElem? (i := 73) rfl) rfl
set_option maxRecDepth 100000 in
theorem q864 : Cond.methodLink RX6 319 yX6_again ∈ lw_tb := tb4 (List.mem_of_getElem? (i := 74) rfl) rfl
set_option maxRecDepth 100000 in
theorem q865 : Cond.methodLink RX6 322 yX6_changes ∈ lw_tb := tb4 (List.mem_of_getElem? (i := 75) rfl) rfl
set_option maxRecDepth 100000 in
theorem q866 : Cond.methodLink RX6 328 yX6_whose ∈ lw_tb := tb4 (List.mem_of_getElem? (i := 76) rfl) rfl
set_option maxRecDepth 100000 in
theorem q867 : Cond.classLink RL 10 RX7 ∈ lw_tb := tb4 (List.mem_of_getElem? (i := 77) rfl) rfl
set_option maxRecDepth 100000 in
theorem q868 : Cond.instantiable RX7 27 ∈ lw_tb := tb4 (List.mem_of_getElem? (i := 78) rfl) rfl
set_option maxRecDepth 100000 in
theorem q869 : Cond.methodLink RL 12 yX7_init ∈ lw_tb := tb4 (List.mem_of_getElem? (i := 79) rfl) rfl
set_option maxRecDepth 100000 in
theorem q870 : Cond.instanceMethod yX7_init ∈ lw_tb := tb4 (List.mem_of_getElem? (i := 80) rfl) rfl
set_option maxRecDepth 100000 in
theorem q871 : Cond.code yX7_init cX7_init 2 none ∈ lw_tb := tb4 (List.mem_of_getElem? (i := 81) rfl) rfl
set_option maxRecDepth 100000 in
theorem q872 : Cond.methodLink RX7 1 (⟨"java/lang/Object", "<init>", "()V"⟩ : MethodName) ∈ lw_tb := tb4 (List.mem_of_getElem? (i := 82) rfl) rfl
set_option maxRecDepth 100000 in
theorem q873 : Cond.fieldLink RX7 7 "HillHoursModel" "text" "[I" ∈ lw_tb := tb4 (List.mem_of_getElem? (i := 83) rfl) rfl
set_option maxRecDepth 100000 in
theorem q874 : Cond.fieldLink RX7 81 "HillHoursModel" "typed" "I" ∈ lw_tb := tb4 (List.mem_of_getElem? (i := 84) rfl) rfl
set_option maxRecDepth 100000 in
theorem q875 : Cond.fieldLink RX7 85 "HillHoursModel" "cells" "I" ∈ lw_tb := tb4 (List.mem_of_getElem? (i := 85) rfl) rfl
set_option maxRecDepth 100000 in
theorem q876 : Cond.fieldLink RX7 88 "HillHoursModel" "wide" "I" ∈ lw_tb := tb4 (List.mem_of_getElem? (i := 86) rfl) rfl
set_option maxRecDepth 100000 in
theorem q877 : Cond.fieldLink RX7 91 "HillHoursModel" "rowsMany" "I" ∈ lw_tb := tb4 (List.mem_of_getElem? (i := 87) rfl) rfl
set_option maxRecDepth 100000 in
theorem q878 : Cond.fieldLink RX7 13 "HillHoursModel" "heights" "[I" ∈ lw_tb := tb4 (List.mem_of_getElem? (i := 88) rfl) rfl
set_option maxRecDepth 100000 in
theorem q879 : Cond.fieldLink RX7 16 "HillHoursModel" "stands" "[I" ∈ lw_tb := tb4 (List.mem_of_getElem? (i := 89) rfl) rfl
set_option maxRecDepth 100000 in
theorem q880 : Cond.fieldLink RX7 19 "HillHoursModel" "owners" "[I" ∈ lw_tb := tb4 (List.mem_of_getElem? (i := 90) rfl) rfl
set_option maxRecDepth 100000 in
theorem q881 : Cond.fieldLink RX7 22 "HillHoursModel" "dayOf" "[I" ∈ lw_tb := tb4 (List.mem_of_getElem? (i := 91) rfl) rfl
set_option maxRecDepth 100000 in
theorem q882 : Cond.fieldLink RX7 25 "HillHoursModel" "cloudOf" "[I" ∈ lw_tb := tb4 (List.mem_of_getElem? (i := 92) rfl) rfl
set_option maxRecDepth 100000 in
theorem q883 : Cond.fieldLink RX7 28 "HillHoursModel" "worths" "[I" ∈ lw_tb := tb4 (List.mem_of_getElem? (i := 93) rfl) rfl
set_option maxRecDepth 100000 in
theorem q884 : Cond.fieldLink RX7 31 "HillHoursModel" "needs" "[I" ∈ lw_tb := tb4 (List.mem_of_getElem? (i := 94) rfl) rfl
set_option maxRecDepth 100000 in
theorem q885 : Cond.fieldLink RX7 34 "HillHoursModel" "pays" "[I" ∈ lw_tb := tb4 (List.mem_of_getElem? (i := 95) rfl) rfl
set_option maxRecDepth 100000 in
theorem q886 : Cond.fieldLink RX7 37 "HillHoursModel" "years" "[I" ∈ lw_tb := tb4 (List.mem_of_getElem? (i := 96) rfl) rfl
set_option maxRecDepth 100000 in
theorem q887 : Cond.fieldLink RX7 40 "HillHoursModel" "rathers" "[I" ∈ lw_tb := tb4 (List.mem_of_getElem? (i := 97) rfl) rfl
set_option maxRecDepth 100000 in
theorem q888 : Cond.fieldLink RX7 43 "HillHoursModel" "most" "[I" ∈ lw_tb := tb4 (List.mem_of_getElem? (i := 98) rfl) rfl
set_option maxRecDepth 100000 in
theorem q889 : Cond.fieldLink RX7 46 "HillHoursModel" "chosen" "[I" ∈ lw_tb := tb4 (List.mem_of_getElem? (i := 99) rfl) rfl
set_option maxRecDepth 100000 in
theorem q890 : Cond.fieldLink RX7 201 "HillHoursModel" "sights" "I" ∈ lw_tb := tb4 (List.mem_of_getElem? (i := 100) rfl) rfl
set_option maxRecDepth 100000 in
theorem q891 : Cond.fieldLink RX7 49 "HillHoursModel" "seenSeason" "[I" ∈ lw_tb := tb4 (List.mem_of_getElem? (i := 101) rfl) rfl
set_option maxRecDepth 100000 in
theorem q892 : Cond.fieldLink RX7 52 "HillHoursModel" "seenHour" "[I" ∈ lw_tb := tb4 (List.mem_of_getElem? (i := 102) rfl) rfl
set_option maxRecDepth 100000 in
theorem q893 : Cond.fieldLink RX7 55 "HillHoursModel" "parts" "[J" ∈ lw_tb := tb4 (List.mem_of_getElem? (i := 103) rfl) rfl
set_option maxRecDepth 100000 in
theorem q894 : Cond.fieldLink RX7 59 "HillHoursModel" "isThere" "[Z" ∈ lw_tb := tb4 (List.mem_of_getElem? (i := 104) rfl) rfl
set_option maxRecDepth 100000 in
theorem q895 : Cond.fieldLink RX7 63 "HillHoursModel" "forms" "[I" ∈ lw_tb := tb4 (List.mem_of_getElem? (i := 105) rfl) rfl
set_option maxRecDepth 100000 in
theorem q896 : Cond.fieldLink RX7 66 "HillHoursModel" "sizes" "[I" ∈ lw_tb := tb4 (List.mem_of_getElem? (i := 106) rfl) rfl
set_option maxRecDepth 100000 in
theorem q897 : Cond.fieldLink RX7 69 "HillHoursModel" "items" "[I" ∈ lw_tb := tb4 (List.mem_of_getElem? (i := 107) rfl) rfl
set_option maxRecDepth 100000 in
theorem q898 : Cond.fieldLink RX7 72 "HillHoursModel" "moved" "[I" ∈ lw_tb := tb4 (List.mem_of_getElem? (i := 108) rfl) rfl
set_option maxRecDepth 100000 in
theorem q899 : Cond.fieldLink RX7 221 "HillHoursModel" "finding" "I" ∈ lw_tb := tb4 (List.mem_of_getElem? (i := 109) rfl) rfl
set_option maxRecDepth 100000 in
theorem q955 : Cond.arrayClass .boolean ∈ lw_tb := tb4 (List.mem_of_getElem? (i := 165) rfl) rfl
set_option maxRecDepth 100000 in
theorem q956 : Cond.methodLink RL 17 yX7_type ∈ lw_tb := tb4 (List.mem_of_getElem? (i := 166) rfl) rfl
set_option maxRecDepth 100000 in
theorem q957 : Cond.instanceMethod yX7_type ∈ lw_tb := tb4 (List.mem_of_getElem? (i := 167) rfl) rfl
set_option maxRecDepth 100000 in
theorem q958 : Cond.selects RX7 yX7_type yX7_type ∈ lw_tb := tb4 (List.mem_of_getElem? (i := 168) rfl) rfl
set_option maxRecDepth 100000 in
theorem q959 : Cond.code yX7_type cX7_type 2 (some .int) ∈ lw_tb := tb4 (List.mem_of_getElem? (i := 169) rfl) rfl
set_option maxRecDepth 100000 in
theorem q960 : Cond.methodLink RX7 77 yX7_in ∈ lw_tb := tb4 (List.mem_of_getElem? (i := 170) rfl) rfl
set_option maxRecDepth 100000 in
theorem q961 : Cond.static yX7_in ∈ lw_tb := tb4 (List.mem_of_getElem? (i := 171) rfl) rfl
set_option maxRecDepth 100000 in
theorem q962 : Cond.code yX7_in cX7_in 3 (some .boolean) ∈ lw_tb := tb4 (List.mem_of_getElem? (i := 172) rfl) rfl
set_option maxRecDepth 100000 in
theorem q963 : Cond.methodLink RL 22 yX7_wipe ∈ lw_tb := tb4 (List.mem_of_getElem? (i := 173) rfl) rfl
set_option maxRecDepth 100000 in
theorem q964 : Cond.instanceMethod yX7_wipe ∈ lw_tb := tb4 (List.mem_of_getElem? (i := 174) rfl) rfl
set_option maxRecDepth 100000 in
theorem q965 : Cond.selects RX7 yX7_wipe yX7_wipe ∈ lw_tb := tb4 (List.mem_of_getElem? (i := 175) rfl) rfl
set_option maxRecDepth 100000 in
theorem q966 : Cond.code yX7_wipe cX7_wipe 2 (some .int) ∈ lw_tb := tb4 (List.mem_of_getElem? (i := 176) rfl) rfl
set_option maxRecDepth 100000 in
theorem q967 : Cond.methodLink RL 26 yX7_fault ∈ lw_tb := tb4 (List.mem_of_getElem? (i := 177) rfl) rfl
set_option maxRecDepth 100000 in
theorem q968 : Cond.instanceMethod yX7_fault ∈ lw_tb := tb4 (List.mem_of_getElem? (i := 178) rfl) rfl
set_option maxRecDepth 100000 in
theorem q969 : Cond.selects RX7 yX7_fault yX7_fault ∈ lw_tb := tb4 (List.mem_of_getElem? (i := 179) rfl) rfl
set_option maxRecDepth 100000 in
theorem q970 : Cond.code yX7_fault cX7_fault 1 (some .int) ∈ lw_tb := tb4 (List.mem_of_getElem? (i := 180) rfl) rfl
set_option maxRecDepth 100000 in
theorem q971 : Cond.methodLink RX7 98 yX7_faultNow ∈ lw_tb := tb4 (List.mem_of_getElem? (i := 181) rfl) rfl
set_option maxRecDepth 100000 in
theorem q973 : Cond.instanceMethod yX7_faultNow ∈ lw_tb := tb4 (List.mem_of_getElem? (i := 183) rfl) rfl
set_option maxRecDepth 100000 in
theorem q974 : Cond.code yX7_faultNow cX7_faultNow 6 (some .int) ∈ lw_tb := tb4 (List.mem_of_getElem? (i := 184) rfl) rfl
set_option maxRecDepth 100000 in
theorem q975 : Cond.methodLink RX7 94 yX7_figureAt ∈ lw_tb := tb4 (List.mem_of_getElem? (i := 185) rfl) rfl
set_option maxRecDepth 100000 in
theorem q977 : Cond.instanceMethod yX7_figureAt ∈ lw_tb := tb4 (List.mem_of_getElem? (i := 187) rfl) rfl
set_option maxRecDepth 100000 in
theorem q978 : Cond.code yX7_figureAt cX7_figureAt 3 (some .int) ∈ lw_tb := tb4 (List.mem_of_getElem? (i := 188) rfl) rfl
set_option maxRecDepth 100000 in
theorem q979 : Cond.methodLink RL 31 yX7_cell ∈ lw_tb := tb4 (List.mem_of_getElem? (i := 189) rfl) rfl
set_option maxRecDepth 100000 in
theorem q980 : Cond.instanceMethod yX7_cell ∈ lw_tb := tb4 (List.mem_of_getElem? (i := 190) rfl) rfl
set_option maxRecDepth 100000 in
theorem q981 : Cond.selects RX7 yX7_cell yX7_cell ∈ lw_tb := tb4 (List.mem_of_getElem? (i := 191) rfl) rfl
set_option maxRecDepth 100000 in
theorem q982 : Cond.code yX7_cell cX7_cell 3 (some .int) ∈ lw_tb := tb4 (List.mem_of_getElem? (i := 192) rfl) rfl
set_option maxRecDepth 100000 in
theorem q983 : Cond.methodLink RX7 102 yX7_isCell ∈ lw_tb := tb4 (List.mem_of_getElem? (i := 193) rfl) rfl
set_option maxRecDepth 100000 in
theorem q985 : Cond.instanceMethod yX7_isCell ∈ lw_tb := tb4 (List.mem_of_getElem? (i := 195) rfl) rfl
set_option maxRecDepth 100000 in
theorem q986 : Cond.code yX7_isCell cX7_isCell 3 (some .boolean) ∈ lw_tb := tb4 (List.mem_of_getElem? (i := 196) rfl) rfl
set_option maxRecDepth 100000 in
theorem q987 : Cond.methodLink RX7 106 yX7_cellOf ∈ lw_tb := tb4 (List.mem_of_getElem? (i := 197) rfl) rfl
set_option maxRecDepth 100000 in
theorem q989 : Cond.instanceMethod yX7_cellOf ∈ lw_tb := tb4 (List.mem_of_getElem? (i := 199) rfl) rfl
set_option maxRecDepth 100000 in
theorem q990 : Cond.code yX7_cellOf cX7_cellOf 3 (some .int) ∈ lw_tb := tb4 (List.mem_of_getElem? (i := 200) rfl) rfl
set_option maxRecDepth 100000 in
theorem q991 : Cond.methodLink RL 35 yX7_stand ∈ lw_tb := tb4 (List.mem_of_getElem? (i := 201) rfl) rfl
set_option maxRecDepth 100000 in
theorem q992 : Cond.instanceMethod yX7_stand ∈ lw_tb := tb4 (List.mem_of_getElem? (i := 202) rfl) rfl
set_option maxRecDepth 100000 in
theorem q993 : Cond.selects RX7 yX7_stand yX7_stand ∈ lw_tb := tb4 (List.mem_of_getElem? (i := 203) rfl) rfl
set_option maxRecDepth 100000 in
theorem q994 : Cond.code yX7_stand cX7_stand 4 (some .int) ∈ lw_tb := tb4 (List.mem_of_getElem? (i := 204) rfl) rfl
set_option maxRecDepth 100000 in
theorem q995 : Cond.methodLink RX7 110 yX7_isTwelve ∈ lw_tb := tb4 (List.mem_of_getElem? (i := 205) rfl) rfl
set_option maxRecDepth 100000 in
theorem q996 : Cond.static yX7_isTwelve ∈ lw_tb := tb4 (List.mem_of_getElem? (i := 206) rfl) rfl
set_option maxRecDepth 100000 in
theorem q997 : Cond.code yX7_isTwelve cX7_isTwelve 1 (some .boolean) ∈ lw_tb := tb4 (List.mem_of_getElem? (i := 207) rfl) rfl
set_option maxRecDepth 100000 in
theorem q998 : Cond.methodLink RL 39 yX7_owner ∈ lw_tb := tb4 (List.mem_of_getElem? (i := 208) rfl) rfl
set_option maxRecDepth 100000 in
theorem q999 : Cond.instanceMethod yX7_owner ∈ lw_tb := tb4 (List.mem_of_getElem? (i := 209) rfl) rfl
set_option maxRecDepth 100000 in
theorem q1000 : Cond.selects RX7 yX7_owner yX7_owner ∈ lw_tb := tb4 (List.mem_of_getElem? (i := 210) rfl) rfl
set_option maxRecDepth 100000 in
theorem q1001 : Cond.code yX7_owner cX7_owner 4 (some .int) ∈ lw_tb := tb4 (List.mem_of_getElem? (i := 211) rfl) rfl
set_option maxRecDepth 100000 in
theorem q1002 : Cond.methodLink RX7 113 yX7_isFour ∈ lw_tb := tb4 (List.mem_of_getElem? (i := 212) rfl) rfl
set_option maxRecDepth 100000 in
theorem q1003 : Cond.static yX7_isFour ∈ lw_tb := tb4 (List.mem_of_getElem? (i := 213) rfl) rfl
set_option maxRecDepth 100000 in
theorem q1004 : Cond.code yX7_isFour cX7_isFour 1 (some .boolean) ∈ lw_tb := tb4 (List.mem_of_getElem? (i := 214) rfl) rfl
set_option maxRecDepth 100000 in
theorem q1005 : Cond.methodLink RL 43 yX7_read ∈ lw_tb := tb4 (List.mem_of_getElem? (i := 215) rfl) rfl
set_option maxRecDepth 100000 in
theorem q1006 : Cond.instanceMethod yX7_read ∈ lw_tb := tb4 (List.mem_of_getElem? (i := 216) rfl) rfl
set_option maxRecDepth 100000 in
theorem q1007 : Cond.selects RX7 yX7_read yX7_read ∈ lw_tb := tb4 (List.mem_of_getElem? (i := 217) rfl) rfl
set_option maxRecDepth 100000 in
theorem q1008 : Cond.code yX7_read cX7_read 3 (some .int) ∈ lw_tb := tb4 (List.mem_of_getElem? (i := 218) rfl) rfl
set_option maxRecDepth 100000 in
theorem q1009 : Cond.methodLink RX7 116 yX7_isSheet ∈ lw_tb := tb4 (List.mem_of_getElem? (i := 219) rfl) rfl
set_option maxRecDepth 100000 in
theorem q1010 : Cond.static yX7_isSheet ∈ lw_tb := tb4 (List.mem_of_getElem? (i := 220) rfl) rfl
set_option maxRecDepth 100000 in
theorem q1011 : Cond.code yX7_isSheet cX7_isSheet 1 (some .boolean) ∈ lw_tb := tb4 (List.mem_of_getElem? (i := 221) rfl) rfl
set_option maxRecDepth 100000 in
theorem q1012 : Cond.methodLink RX7 119 yX7_meets ∈ lw_tb := tb4 (List.mem_of_getElem? (i := 222) rfl) rfl
set_option maxRecDepth 100000 in
theorem q1014 : Cond.instanceMethod yX7_meets ∈ lw_tb := tb4 (List.mem_of_getElem? (i := 224) rfl) rfl
set_option maxRecDepth 100000 in
theorem q1015 : Cond.code yX7_meets cX7_meets 2 (some .int) ∈ lw_tb := tb4 (List.mem_of_getElem? (i := 225) rfl) rfl
set_option maxRecDepth 100000 in
theorem q1016 : Cond.methodLink RL 47 yX7_days ∈ lw_tb := tb4 (List.mem_of_getElem? (i := 226) rfl) rfl
set_option maxRecDepth 100000 in
theorem q1017 : Cond.instanceMethod yX7_days ∈ lw_tb := tb4 (List.mem_of_getElem? (i := 227) rfl) rfl
set_option maxRecDepth 100000 in
theorem q1018 : Cond.selects RX7 yX7_days yX7_days ∈ lw_tb := tb4 (List.mem_of_getElem? (i := 228) rfl) rfl
set_option maxRecDepth 100000 in
theorem q1019 : Cond.code yX7_days cX7_days 4 (some .int) ∈ lw_tb := tb4 (List.mem_of_getElem? (i := 229) rfl) rfl
set_option maxRecDepth 100000 in
theorem q1020 : Cond.methodLink RL 51 yX7_steep ∈ lw_tb := tb4 (List.mem_of_getElem? (i := 230) rfl) rfl
set_option maxRecDepth 100000 in
theorem q1021 : Cond.instanceMethod yX7_steep ∈ lw_tb := tb4 (List.mem_of_getElem? (i := 231) rfl) rfl
set_option maxRecDepth 100000 in
theorem q1022 : Cond.selects RX7 yX7_steep yX7_steep ∈ lw_tb := tb4 (List.mem_of_getElem? (i := 232) rfl) rfl
set_option maxRecDepth 100000 in
theorem q1023 : Cond.code yX7_steep cX7_steep 3 (some .int) ∈ lw_tb := tb4 (List.mem_of_getElem? (i := 233) rfl) rfl
set_option maxRecDepth 100000 in
theorem q1024 : Cond.methodLink RX7 122 yX7_steepOf ∈ lw_tb := tb4 (List.mem_of_getElem? (i := 234) rfl) rfl
set_option maxRecDepth 100000 in
theorem q1025 : Cond.static yX7_steepOf ∈ lw_tb := tb4 (List.mem_of_getElem? (i := 235) rfl) rfl
set_option maxRecDepth 100000 in
theorem q1026 : Cond.code yX7_steepOf cX7_steepOf 2 (some .int) ∈ lw_tb := tb4 (List.mem_of_getElem? (i := 236) rfl) rfl
set_option maxRecDepth 100000 in
theorem q1027 : Cond.methodLink RL 56 yX7_shade ∈ lw_tb := tb4 (List.mem_of_getElem? (i := 237) rfl) rfl
set_option maxRecDepth 100000 in
theorem q1028 : Cond.instanceMethod yX7_shade ∈ lw_tb := tb4 (List.mem_of_getElem? (i := 238) rfl) rfl
set_option maxRecDepth 100000 in
theorem q1029 : Cond.selects RX7 yX7_shade yX7_shade ∈ lw_tb := tb4 (List.mem_of_getElem? (i := 239) rfl) rfl
set_option maxRecDepth 100000 in
theorem q1030 : Cond.code yX7_shade cX7_shade 4 (some .int) ∈ lw_tb := tb5 (List.mem_of_getElem? (i := 0) rfl) rfl
set_option maxRecDepth 100000 in
theorem q1031 : Cond.methodLink RX7 125 yX7_shadeOf ∈ lw_tb := tb5 (List.mem_of_getElem? (i := 1) rfl) rfl
set_option maxRecDepth 100000 in
theorem q1033 : Cond.instanceMethod yX7_shadeOf ∈ lw_tb := tb5 (List.mem_of_getElem? (i := 3) rfl) rfl
set_option maxRecDepth 100000 in
theorem q1034 : Cond.code yX7_shadeOf cX7_shadeOf 8 (some .int) ∈ lw_tb := tb5 (List.mem_of_getElem? (i := 4) rfl) rfl
set_option maxRecDepth 100000 in
theorem q1035 : Cond.methodLink RL 60 yX7_light ∈ lw_tb := tb5 (List.mem_of_getElem? (i := 5) rfl) rfl
set_option maxRecDepth 100000 in
theorem q1036 : Cond.instanceMethod yX7_light ∈ lw_tb := tb5 (List.mem_of_getElem? (i := 6) rfl) rfl
set_option maxRecDepth 100000 in
theorem q1037 : Cond.selects RX7 yX7_light yX7_light ∈ lw_tb := tb5 (List.mem_of_getElem? (i := 7) rfl) rfl
set_option maxRecDepth 100000 in
theorem q1038 : Cond.code yX7_light cX7_light 3 (some .int) ∈ lw_tb := tb5 (List.mem_of_getElem? (i := 8) rfl) rfl
set_option maxRecDepth 100000 in
theorem q1039 : Cond.methodLink RX7 129 yX7_lightOf ∈ lw_tb := tb5 (List.mem_of_getElem? (i := 9) rfl) rfl
set_option maxRecDepth 100000 in
theorem q1041 : Cond.instanceMethod yX7_lightOf ∈ lw_tb := tb5 (List.mem_of_getElem? (i := 11) rfl) rfl
set_option maxRecDepth 100000 in
theorem q1042 : Cond.code yX7_lightOf cX7_lightOf 5 (some .int) ∈ lw_tb := tb5 (List.mem_of_getElem? (i := 12) rfl) rfl
set_option maxRecDepth 100000 in
theorem q1043 : Cond.methodLink RL 64 yX7_hours ∈ lw_tb := tb5 (List.mem_of_getElem? (i := 13) rfl) rfl
set_option maxRecDepth 100000 in
theorem q1044 : Cond.instanceMethod yX7_hours ∈ lw_tb := tb5 (List.mem_of_getElem? (i := 14) rfl) rfl
set_option maxRecDepth 100000 in
theorem q1045 : Cond.selects RX7 yX7_hours yX7_hours ∈ lw_tb := tb5 (List.mem_of_getElem? (i := 15) rfl) rfl
set_option maxRecDepth 100000 in
theorem q1046 : Cond.code yX7_hours cX7_hours 3 (some .int) ∈ lw_tb := tb5 (List.mem_of_getElem? (i := 16) rfl) rfl
set_option maxRecDepth 100000 in
theorem q1047 : Cond.methodLink RX7 138 yX7_hoursOf ∈ lw_tb := tb5 (List.mem_of_getElem? (i := 17) rfl) rfl
set_option maxRecDepth 100000 in
theorem q1049 : Cond.instanceMethod yX7_hoursOf ∈ lw_tb := tb5 (List.mem_of_getElem? (i := 19) rfl) rfl
set_option maxRecDepth 100000 in
theorem q1050 : Cond.code yX7_hoursOf cX7_hoursOf 3 (some .int) ∈ lw_tb := tb5 (List.mem_of_getElem? (i := 20) rfl) rfl
set_option maxRecDepth 100000 in
theorem q1051 : Cond.methodLink RX7 135 yX7_yearOf ∈ lw_tb := tb5 (List.mem_of_getElem? (i := 21) rfl) rfl
set_option maxRecDepth 100000 in
theorem q1053 : Cond.instanceMethod yX7_yearOf ∈ lw_tb := tb5 (List.mem_of_getElem? (i := 23) rfl) rfl
set_option maxRecDepth 100000 in
theorem q1054 : Cond.code yX7_yearOf cX7_yearOf 4 (some .int) ∈ lw_tb := tb5 (List.mem_of_getElem? (i := 24) rfl) rfl
set_option maxRecDepth 100000 in
theorem q1055 : Cond.methodLink RX7 132 yX7_ones ∈ lw_tb := tb5 (List.mem_of_getElem? (i := 25) rfl) rfl
set_option maxRecDepth 100000 in
theorem q1056 : Cond.static yX7_ones ∈ lw_tb := tb5 (List.mem_of_getElem? (i := 26) rfl) rfl
set_option maxRecDepth 100000 in
theorem q1057 : Cond.code yX7_ones cX7_ones 3 (some .int) ∈ lw_tb := tb5 (List.mem_of_getElem? (i := 27) rfl) rfl
set_option maxRecDepth 100000 in
theorem q1058 : Cond.methodLink RL 68 yX7_has ∈ lw_tb := tb5 (List.mem_of_getElem? (i := 28) rfl) rfl
set_option maxRecDepth 100000 in
theorem q1059 : Cond.instanceMethod yX7_has ∈ lw_tb := tb5 (List.mem_of_getElem? (i := 29) rfl) rfl
set_option maxRecDepth 100000 in
theorem q1060 : Cond.selects RX7 yX7_has yX7_has ∈ lw_tb := tb5 (List.mem_of_getElem? (i := 30) rfl) rfl
set_option maxRecDepth 100000 in
theorem q1061 : Cond.code yX7_has cX7_has 3 (some .int) ∈ lw_tb := tb5 (List.mem_of_getElem? (i := 31) rfl) rfl
set_option maxRecDepth 100000 in
theorem q1062 : Cond.methodLink RX7 141 yX7_hasOf ∈ lw_tb := tb5 (List.mem_of_getElem? (i := 32) rfl) rfl
set_option maxRecDepth 100000 in
theorem q1064 : Cond.instanceMethod yX7_hasOf ∈ lw_tb := tb5 (List.mem_of_getElem? (i := 34) rfl) rfl
set_option maxRecDepth 100000 in
theorem q1065 : Cond.code yX7_hasOf cX7_hasOf 7 (some .int) ∈ lw_tb := tb5 (List.mem_of_getElem? (i := 35) rfl) rfl
set_option maxRecDepth 100000 in
theorem q1066 : Cond.methodLink RL 72 yX7_parts ∈ lw_tb := tb5 (List.mem_of_getElem? (i := 36) rfl) rfl
set_option maxRecDepth 100000 in
theorem q1067 : Cond.instanceMethod yX7_parts ∈ lw_tb := tb5 (List.mem_of_getElem? (i := 37) rfl) rfl
set_option maxRecDepth 100000 in
theorem q1068 : Cond.selects RX7 yX7_parts yX7_parts ∈ lw_tb := tb5 (List.mem_of_getElem? (i := 38) rfl) rfl
set_option maxRecDepth 100000 in
theorem q1069 : Cond.code yX7_parts cX7_parts 2 (some .int) ∈ lw_tb := tb5 (List.mem_of_getElem? (i := 39) rfl) rfl
set_option maxRecDepth 100000 in
theorem q1070 : Cond.methodLink RX7 169 yX7_partsOf ∈ lw_tb := tb5 (List.mem_of_getElem? (i := 40) rfl) rfl
set_option maxRecDepth 100000 in
theorem q1072 : Cond.instanceMethod yX7_partsOf ∈ lw_tb := tb5 (List.mem_of_getElem? (i := 42) rfl) rfl
set_option maxRecDepth 100000 in
theorem q1073 : Cond.code yX7_partsOf cX7_partsOf 3 (some .int) ∈ lw_tb := tb5 (List.mem_of_getElem? (i := 43) rfl) rfl
set_option maxRecDepth 100000 in
theorem q1074 : Cond.methodLink RX7 166 yX7_partsNow ∈ lw_tb := tb5 (List.mem_of_getElem? (i := 44) rfl) rfl
set_option maxRecDepth 100000 in
theorem q1076 : Cond.instanceMethod yX7_partsNow ∈ lw_tb := tb5 (List.mem_of_getElem? (i := 46) rfl) rfl
set_option maxRecDepth 100000 in
theorem q1077 : Cond.code yX7_partsNow cX7_partsNow 5 (some .int) ∈ lw_tb := tb5 (List.mem_of_getElem? (i := 47) rfl) rfl
set_option maxRecDepth 100000 in
theorem q1078 : Cond.methodLink RX7 157 yX7_laysYears ∈ lw_tb := tb5 (List.mem_of_getElem? (i := 48) rfl) rfl
set_option maxRecDepth 100000 in
theorem q1080 : Cond.instanceMethod yX7_laysYears ∈ lw_tb := tb5 (List.mem_of_getElem? (i := 50) rfl) rfl
set_option maxRecDepth 100000 in
theorem q1081 : Cond.code yX7_laysYears cX7_laysYears 2 none ∈ lw_tb := tb5 (List.mem_of_getElem? (i := 51) rfl) rfl
set_option maxRecDepth 100000 in
theorem q1082 : Cond.methodLink RX7 154 yX7_all ∈ lw_tb := tb5 (List.mem_of_getElem? (i := 52) rfl) rfl
set_option maxRecDepth 100000 in
theorem q1084 : Cond.instanceMethod yX7_all ∈ lw_tb := tb5 (List.mem_of_getElem? (i := 54) rfl) rfl
set_option maxRecDepth 100000 in
theorem q1085 : Cond.code yX7_all cX7_all 1 (some .int) ∈ lw_tb := tb5 (List.mem_of_getElem? (i := 55) rfl) rfl
set_option maxRecDepth 100000 in
theorem q1086 : Cond.methodLink RX7 160 yX7_differs ∈ lw_tb := tb5 (List.mem_of_getElem? (i := 56) rfl) rfl
set_option maxRecDepth 100000 in
theorem q1088 : Cond.instanceMethod yX7_differs ∈ lw_tb := tb5 (List.mem_of_getElem? (i := 58) rfl) rfl
set_option maxRecDepth 100000 in
theorem q1089 : Cond.code yX7_differs cX7_differs 4 (some .int) ∈ lw_tb := tb5 (List.mem_of_getElem? (i := 59) rfl) rfl
set_option maxRecDepth 100000 in
theorem q1090 : Cond.methodLink RX7 144 yX7_isIn ∈ lw_tb := tb5 (List.mem_of_getElem? (i := 60) rfl) rfl
set_option maxRecDepth 100000 in
theorem q1091 : Cond.static yX7_isIn ∈ lw_tb := tb5 (List.mem_of_getElem? (i := 61) rfl) rfl
set_option maxRecDepth 100000 in
theorem q1092 : Cond.code yX7_isIn cX7_isIn 2 (some .boolean) ∈ lw_tb := tb5 (List.mem_of_getElem? (i := 62) rfl) rfl
set_option maxRecDepth 100000 in
theorem q1093 : Cond.methodLink RX7 163 yX7_isParting ∈ lw_tb := tb5 (List.mem_of_getElem? (i := 63) rfl) rfl
set_option maxRecDepth 100000 in
theorem q1095 : Cond.instanceMethod yX7_isParting ∈ lw_tb := tb5 (List.mem_of_getElem? (i := 65) rfl) rfl
set_option maxRecDepth 100000 in
theorem q1096 : Cond.code yX7_isParting cX7_isParting 2 (some .boolean) ∈ lw_tb := tb5 (List.mem_of_getElem? (i := 66) rfl) rfl
set_option maxRecDepth 100000 in
theorem q1097 : Cond.methodLink RX7 151 yX7_hangs ∈ lw_tb := tb5 (List.mem_of_getElem? (i := 67) rfl) rfl
set_option maxRecDepth 100000 in
theorem q1099 : Cond.instanceMethod yX7_hangs ∈ lw_tb := tb5 (List.mem_of_getElem? (i := 69) rfl) rfl
set_option maxRecDepth 100000 in
theorem q1100 : Cond.code yX7_hangs cX7_hangs 6 (some .boolean) ∈ lw_tb := tb5 (List.mem_of_getElem? (i := 70) rfl) rfl
set_option maxRecDepth 100000 in
theorem q1101 : Cond.methodLink RX7 148 yX7_isNext ∈ lw_tb := tb5 (List.mem_of_getElem? (i := 71) rfl) rfl
set_option maxRecDepth 100000 in
theorem q1103 : Cond.instanceMethod yX7_isNext ∈ lw_tb := tb5 (List.mem_of_getElem? (i := 73) rfl) rfl
set_option maxRecDepth 100000 in
theorem q1104 : Cond.code yX7_isNext cX7_isNext 4 (some .boolean) ∈ lw_tb := tb5 (List.mem_of_getElem? (i := 74) rfl) rfl
set_option maxRecDepth 100000 in
theorem q1105 : Cond.methodLink RL 76 yX7_taken ∈ lw_tb := tb5 (List.mem_of_getElem? (i := 75) rfl) rfl
set_option maxRecDepth 100000 in
theorem q1106 : Cond.instanceMethod yX7_taken ∈ lw_tb := tb5 (List.mem_of_getElem? (i := 76) rfl) rfl
set_option maxRecDepth 100000 in
theorem q1107 : Cond.selects RX7 yX7_taken yX7_taken ∈ lw_tb := tb5 (List.mem_of_getElem? (i := 77) rfl) rfl
set_option maxRecDepth 100000 in
theorem q1108 : Cond.code yX7_taken cX7_taken 4 (some .int) ∈ lw_tb := tb5 (List.mem_of_getElem? (i := 78) rfl) rfl
set_option maxRecDepth 100000 in
theorem q1109 : Cond.methodLink RX7 172 yX7_takenOf ∈ lw_tb := tb5 (List.mem_of_getElem? (i := 79) rfl) rfl
set_option maxRecDepth 100000 in
theorem q1111 : Cond.instanceMethod yX7_takenOf ∈ lw_tb := tb5 (List.mem_of_getElem? (i := 81) rfl) rfl
set_option maxRecDepth 100000 in
theorem q1112 : Cond.code yX7_takenOf cX7_takenOf 7 (some .int) ∈ lw_tb := tb5 (List.mem_of_getElem? (i := 82) rfl) rfl
set_option maxRecDepth 100000 in
theorem q1113 : Cond.constant RX7 175 (-1000002) ∈ lw_tb := tb5 (List.mem_of_getElem? (i := 83) rfl) rfl
set_option maxRecDepth 100000 in
theorem q1114 : Cond.methodLink RL 80 yX7_highest ∈ lw_tb := tb5 (List.mem_of_getElem? (i := 84) rfl) rfl
set_option maxRecDepth 100000 in
theorem q1115 : Cond.instanceMethod yX7_highest ∈ lw_tb := tb5 (List.mem_of_getElem? (i := 85) rfl) rfl
set_option maxRecDepth 100000 in
theorem q1116 : Cond.selects RX7 yX7_highest yX7_highest ∈ lw_tb := tb5 (List.mem_of_getElem? (i := 86) rfl) rfl
set_option maxRecDepth 100000 in
theorem q1117 : Cond.code yX7_highest cX7_highest 3 (some .int) ∈ lw_tb := tb5 (List.mem_of_getElem? (i := 87) rfl) rfl
set_option maxRecDepth 100000 in
theorem q1118 : Cond.constant RX7 176 (99999) ∈ lw_tb := tb5 (List.mem_of_getElem? (i := 88) rfl) rfl
set_option maxRecDepth 100000 in
theorem q1119 : Cond.methodLink RX7 177 yX7_highestOf ∈ lw_tb := tb5 (List.mem_of_getElem? (i := 89) rfl) rfl
set_option maxRecDepth 100000 in
theorem q1121 : Cond.instanceMethod yX7_highestOf ∈ lw_tb := tb5 (List.mem_of_getElem? (i := 91) rfl) rfl
set_option maxRecDepth 100000 in
theorem q1122 : Cond.code yX7_highestOf cX7_highestOf 7 (some .int) ∈ lw_tb := tb5 (List.mem_of_getElem? (i := 92) rfl) rfl
set_option maxRecDepth 100000 in
theorem q1123 : Cond.methodLink RL 84 yX7_again ∈ lw_tb := tb5 (List.mem_of_getElem? (i := 93) rfl) rfl
set_option maxRecDepth 100000 in
theorem q1124 : Cond.instanceMethod yX7_again ∈ lw_tb := tb5 (List.mem_of_getElem? (i := 94) rfl) rfl
set_option maxRecDepth 100000 in
theorem q1125 : Cond.selects RX7 yX7_again yX7_again ∈ lw_tb := tb5 (List.mem_of_getElem? (i := 95) rfl) rfl
set_option maxRecDepth 100000 in
theorem q1126 : Cond.code yX7_again cX7_again 4 (some .int) ∈ lw_tb := tb5 (List.mem_of_getElem? (i := 96) rfl) rfl
set_option maxRecDepth 100000 in
theorem q1127 : Cond.methodLink RX7 180 yX7_againOf ∈ lw_tb := tb5 (List.mem_of_getElem? (i := 97) rfl) rfl
set_option maxRecDepth 100000 in
theorem q1129 : Cond.instanceMethod yX7_againOf ∈ lw_tb := tb5 (List.mem_of_getElem? (i := 99) rfl) rfl
set_option maxRecDepth 100000 in
theorem q1130 : Cond.code yX7_againOf cX7_againOf 9 (some .int) ∈ lw_tb := tb5 (List.mem_of_getElem? (i := 100) rfl) rfl
set_option maxRecDepth 100000 in
theorem q1131 : Cond.methodLink RL 88 yX7_worth ∈ lw_tb := tb5 (List.mem_of_getElem? (i := 101) rfl) rfl
set_option maxRecDepth 100000 in
theorem q1132 : Cond.instanceMethod yX7_worth ∈ lw_tb := tb5 (List.mem_of_getElem? (i := 102) rfl) rfl
set_option maxRecDepth 100000 in
theorem q1133 : Cond.selects RX7 yX7_worth yX7_worth ∈ lw_tb := tb5 (List.mem_of_getElem? (i := 103) rfl) rfl
set_option maxRecDepth 100000 in
theorem q1134 : Cond.code yX7_worth cX7_worth 5 (some .int) ∈ lw_tb := tb5 (List.mem_of_getElem? (i := 104) rfl) rfl
set_option maxRecDepth 100000 in
theorem q1135 : Cond.methodLink RL 92 yX7_value ∈ lw_tb := tb5 (List.mem_of_getElem? (i := 105) rfl) rfl
set_option maxRecDepth 100000 in
theorem q1136 : Cond.instanceMethod yX7_value ∈ lw_tb := tb5 (List.mem_of_getElem? (i := 106) rfl) rfl
set_option maxRecDepth 100000 in
theorem q1137 : Cond.selects RX7 yX7_value yX7_value ∈ lw_tb := tb5 (List.mem_of_getElem? (i := 107) rfl) rfl
set_option maxRecDepth 100000 in
theorem q1138 : Cond.code yX7_value cX7_value 3 (some .int) ∈ lw_tb := tb5 (List.mem_of_getElem? (i := 108) rfl) rfl
set_option maxRecDepth 100000 in
theorem q1139 : Cond.methodLink RX7 183 yX7_valueOf ∈ lw_tb := tb5 (List.mem_of_getElem? (i := 109) rfl) rfl
set_option maxRecDepth 100000 in
theorem q1141 : Cond.instanceMethod yX7_valueOf ∈ lw_tb := tb5 (List.mem_of_getElem? (i := 111) rfl) rfl
set_option maxRecDepth 100000 in
theorem q1142 : Cond.code yX7_valueOf cX7_valueOf 5 (some .int) ∈ lw_tb := tb5 (List.mem_of_getElem? (i := 112) rfl) rfl
set_option maxRecDepth 100000 in
theorem q1143 : Cond.methodLink RL 96 yX7_change ∈ lw_tb := tb5 (List.mem_of_getElem? (i := 113) rfl) rfl
set_option maxRecDepth 100000 in
theorem q1144 : Cond.instanceMethod yX7_change ∈ lw_tb := tb5 (List.mem_of_getElem? (i := 114) rfl) rfl
set_option maxRecDepth 100000 in
theorem q1145 : Cond.selects RX7 yX7_change yX7_change ∈ lw_tb := tb5 (List.mem_of_getElem? (i := 115) rfl) rfl
set_option maxRecDepth 100000 in
theorem q1146 : Cond.code yX7_change cX7_change 3 (some .int) ∈ lw_tb := tb5 (List.mem_of_getElem? (i := 116) rfl) rfl
set_option maxRecDepth 100000 in
theorem q1147 : Cond.methodLink RX7 189 yX7_isChange ∈ lw_tb := tb5 (List.mem_of_getElem? (i := 117) rfl) rfl
set_option maxRecDepth 100000 in
theorem q1149 : Cond.instanceMethod yX7_isChange ∈ lw_tb := tb5 (List.mem_of_getElem? (i := 119) rfl) rfl
set_option maxRecDepth 100000 in
theorem q1150 : Cond.code yX7_isChange cX7_isChange 3 (some .boolean) ∈ lw_tb := tb5 (List.mem_of_getElem? (i := 120) rfl) rfl
set_option maxRecDepth 100000 in
theorem q1151 : Cond.methodLink RX7 186 yX7_isRather ∈ lw_tb := tb5 (List.mem_of_getElem? (i := 121) rfl) rfl
set_option maxRecDepth 100000 in
theorem q1153 : Cond.instanceMethod yX7_isRather ∈ lw_tb := tb5 (List.mem_of_getElem? (i := 123) rfl) rfl
set_option maxRecDepth 100000 in
theorem q1154 : Cond.code yX7_isRather cX7_isRather 3 (some .boolean) ∈ lw_tb := tb5 (List.mem_of_getElem? (i := 124) rfl) rfl
set_option maxRecDepth 100000 in
theorem q1155 : Cond.methodLink RL 100 yX7_changes ∈ lw_tb := tb5 (List.mem_of_getElem? (i := 125) rfl) rfl
set_option maxRecDepth 100000 in
theorem q1156 : Cond.instanceMethod yX7_changes ∈ lw_tb := tb5 (List.mem_of_getElem? (i := 126) rfl) rfl
set_option maxRecDepth 100000 in
theorem q1157 : Cond.selects RX7 yX7_changes yX7_changes ∈ lw_tb := tb5 (List.mem_of_getElem? (i := 127) rfl) rfl
set_option maxRecDepth 100000 in
theorem q1158 : Cond.code yX7_changes cX7_changes 2 (some .int) ∈ lw_tb := tb5 (List.mem_of_getElem? (i := 128) rfl) rfl
set_option maxRecDepth 100000 in
theorem q1159 : Cond.methodLink RX7 192 yX7_changesOf ∈ lw_tb := tb5 (List.mem_of_getElem? (i := 129) rfl) rfl
set_option maxRecDepth 100000 in
theorem q1161 : Cond.instanceMethod yX7_changesOf ∈ lw_tb := tb5 (List.mem_of_getElem? (i := 131) rfl) rfl
set_option maxRecDepth 100000 in
theorem q1162 : Cond.code yX7_changesOf cX7_changesOf 9 (some .int) ∈ lw_tb := tb5 (List.mem_of_getElem? (i := 132) rfl) rfl
set_option maxRecDepth 100000 in
theorem q1163 : Cond.methodLink RL 104 yX7_sort ∈ lw_tb := tb5 (List.mem_of_getElem? (i := 133) rfl) rfl
set_option maxRecDepth 100000 in
theorem q1164 : Cond.instanceMethod yX7_sort ∈ lw_tb := tb5 (List.mem_of_getElem? (i := 134) rfl) rfl
set_option maxRecDepth 100000 in
theorem q1165 : Cond.selects RX7 yX7_sort yX7_sort ∈ lw_tb := tb5 (List.mem_of_getElem? (i := 135) rfl) rfl
set_option maxRecDepth 100000 in
theorem q1166 : Cond.code yX7_sort cX7_sort 5 (some .int) ∈ lw_tb := tb5 (List.mem_of_getElem? (i := 136) rfl) rfl
set_option maxRecDepth 100000 in
theorem q1167 : Cond.methodLink RL 108 yX7_set ∈ lw_tb := tb5 (List.mem_of_getElem? (i := 137) rfl) rfl
set_option maxRecDepth 100000 in
theorem q1168 : Cond.instanceMethod yX7_set ∈ lw_tb := tb5 (List.mem_of_getElem? (i := 138) rfl) rfl
set_option maxRecDepth 100000 in
theorem q1169 : Cond.selects RX7 yX7_set yX7_set ∈ lw_tb := tb5 (List.mem_of_getElem? (i := 139) rfl) rfl
set_option maxRecDepth 100000 in
theorem q1170 : Cond.code yX7_set cX7_set 2 (some .int) ∈ lw_tb := tb5 (List.mem_of_getElem? (i := 140) rfl) rfl
set_option maxRecDepth 100000 in
theorem q1171 : Cond.methodLink RX7 198 yX7_setOf ∈ lw_tb := tb5 (List.mem_of_getElem? (i := 141) rfl) rfl
set_option maxRecDepth 100000 in
theorem q1173 : Cond.instanceMethod yX7_setOf ∈ lw_tb := tb5 (List.mem_of_getElem? (i := 143) rfl) rfl
set_option maxRecDepth 100000 in
theorem q1174 : Cond.code yX7_setOf cX7_setOf 7 (some .int) ∈ lw_tb := tb5 (List.mem_of_getElem? (i := 144) rfl) rfl
set_option maxRecDepth 100000 in
theorem q1175 : Cond.methodLink RX7 195 yX7_fives ∈ lw_tb := tb5 (List.mem_of_getElem? (i := 145) rfl) rfl
set_option maxRecDepth 100000 in
theorem q1176 : Cond.static yX7_fives ∈ lw_tb := tb5 (List.mem_of_getElem? (i := 146) rfl) rfl
set_option maxRecDepth 100000 in
theorem q1177 : Cond.code yX7_fives cX7_fives 1 (some .int) ∈ lw_tb := tb5 (List.mem_of_getElem? (i := 147) rfl) rfl
set_option maxRecDepth 100000 in
theorem q1178 : Cond.methodLink RL 112 yX7_seen ∈ lw_tb := tb5 (List.mem_of_getElem? (i := 148) rfl) rfl
set_option maxRecDepth 100000 in
theorem q1179 : Cond.instanceMethod yX7_seen ∈ lw_tb := tb5 (List.mem_of_getElem? (i := 149) rfl) rfl
set_option maxRecDepth 100000 in
theorem q1180 : Cond.selects RX7 yX7_seen yX7_seen ∈ lw_tb := tb5 (List.mem_of_getElem? (i := 150) rfl) rfl
set_option maxRecDepth 100000 in
theorem q1181 : Cond.code yX7_seen cX7_seen 3 (some .int) ∈ lw_tb := tb5 (List.mem_of_getElem? (i := 151) rfl) rfl
set_option maxRecDepth 100000 in
theorem q1182 : Cond.methodLink RL 116 yX7_forget ∈ lw_tb := tb5 (List.mem_of_getElem? (i := 152) rfl) rfl
set_option maxRecDepth 100000 in
theorem q1183 : Cond.instanceMethod yX7_forget ∈ lw_tb := tb5 (List.mem_of_getElem? (i := 153) rfl) rfl
set_option maxRecDepth 100000 in
theorem q1184 : Cond.selects RX7 yX7_forget yX7_forget ∈ lw_tb := tb5 (List.mem_of_getElem? (i := 154) rfl) rfl
set_option maxRecDepth 100000 in
theorem q1185 : Cond.code yX7_forget cX7_forget 2 (some .int) ∈ lw_tb := tb5 (List.mem_of_getElem? (i := 155) rfl) rfl
set_option maxRecDepth 100000 in
theorem q1186 : Cond.methodLink RL 120 yX7_whose ∈ lw_tb := tb5 (List.mem_of_getElem? (i := 156) rfl) rfl
set_option maxRecDepth 100000 in
theorem q1187 : Cond.instanceMethod yX7_whose ∈ lw_tb := tb5 (List.mem_of_getElem? (i := 157) rfl) rfl
set_option maxRecDepth 100000 in
theorem q1188 : Cond.selects RX7 yX7_whose yX7_whose ∈ lw_tb := tb5 (List.mem_of_getElem? (i := 158) rfl) rfl
set_option maxRecDepth 100000 in
theorem q1189 : Cond.code yX7_whose cX7_whose 2 (some .int) ∈ lw_tb := tb5 (List.mem_of_getElem? (i := 159) rfl) rfl
set_option maxRecDepth 100000 in
theorem q1190 : Cond.methodLink RX7 204 yX7_whoseOf ∈ lw_tb := tb5 (List.mem_of_getElem? (i := 160) rfl) rfl
set_option maxRecDepth 100000 in
theorem q1192 : Cond.instanceMethod yX7_whoseOf ∈ lw_tb := tb5 (List.mem_of_getElem? (i := 162) rfl) rfl
set_option maxRecDepth 100000 in
theorem q1193 : Cond.code yX7_whoseOf cX7_whoseOf 8 (some .int) ∈ lw_tb := tb5 (List.mem_of_getElem? (i := 163) rfl) rfl
set_option maxRecDepth 100000 in
theorem q1194 : Cond.methodLink RL 124 yX7_clouds ∈ lw_tb := tb5 (List.mem_of_getElem? (i := 164) rfl) rfl
set_option maxRecDepth 100000 in
theorem q1195 : Cond.instanceMethod yX7_clouds ∈ lw_tb := tb5 (List.mem_of_getElem? (i := 165) rfl) rfl
set_option maxRecDepth 100000 in
theorem q1196 : Cond.selects RX7 yX7_clouds yX7_clouds ∈ lw_tb := tb5 (List.mem_of_getElem? (i := 166) rfl) rfl
set_option maxRecDepth 100000 in
theorem q1197 : Cond.code yX7_clouds cX7_clouds 4 (some .int) ∈ lw_tb := tb5 (List.mem_of_getElem? (i := 167) rfl) rfl
set_option maxRecDepth 100000 in
theorem q1198 : Cond.methodLink RL 129 yX7_clear ∈ lw_tb := tb5 (List.mem_of_getElem? (i := 168) rfl) rfl
set_option maxRecDepth 100000 in
theorem q1199 : Cond.instanceMethod yX7_clear ∈ lw_tb := tb5 (List.mem_of_getElem? (i := 169) rfl) rfl
set_option maxRecDepth 100000 in
theorem q1200 : Cond.selects RX7 yX7_clear yX7_clear ∈ lw_tb := tb5 (List.mem_of_getElem? (i := 170) rfl) rfl
set_option maxRecDepth 100000 in
theorem q1201 : Cond.code yX7_clear cX7_clear 5 (some .long) ∈ lw_tb := tb5 (List.mem_of_getElem? (i := 171) rfl) rfl
set_option maxRecDepth 100000 in
theorem q1202 : Cond.methodLink RX7 213 yX7_clearOf ∈ lw_tb := tb5 (List.mem_of_getElem? (i := 172) rfl) rfl
set_option maxRecDepth 100000 in
theorem q1204 : Cond.instanceMethod yX7_clearOf ∈ lw_tb := tb5 (List.mem_of_getElem? (i := 174) rfl) rfl
set_option maxRecDepth 100000 in
theorem q1205 : Cond.code yX7_clearOf cX7_clearOf 12 (some .long) ∈ lw_tb := tb5 (List.mem_of_getElem? (i := 175) rfl) rfl
set_option maxRecDepth 100000 in
theorem q1206 : Cond.constantLong RX7 207 (16) ∈ lw_tb := tb5 (List.mem_of_getElem? (i := 176) rfl) rfl
set_option maxRecDepth 100000 in
theorem q1207 : Cond.methodLink RX7 209 yX7_lowest ∈ lw_tb := tb5 (List.mem_of_getElem? (i := 177) rfl) rfl
set_option maxRecDepth 100000 in
theorem q1208 : Cond.static yX7_lowest ∈ lw_tb := tb5 (List.mem_of_getElem? (i := 178) rfl) rfl
set_option maxRecDepth 100000 in
theorem q1209 : Cond.code yX7_lowest cX7_lowest 11 (some .long) ∈ lw_tb := tb5 (List.mem_of_getElem? (i := 179) rfl) rfl
set_option maxRecDepth 100000 in
theorem q1210 : Cond.methodLink RX7 217 yX7_no ∈ lw_tb := tb5 (List.mem_of_getElem? (i := 180) rfl) rfl
set_option maxRecDepth 100000 in
theorem q1211 : Cond.static yX7_no ∈ lw_tb := tb5 (List.mem_of_getElem? (i := 181) rfl) rfl
set_option maxRecDepth 100000 in
theorem q1212 : Cond.code yX7_no cX7_no 1 (some .long) ∈ lw_tb := tb5 (List.mem_of_getElem? (i := 182) rfl) rfl
set_option maxRecDepth 100000 in
theorem q1213 : Cond.constantLong RX7 75 (-9223372036854775808) ∈ lw_tb := tb5 (List.mem_of_getElem? (i := 183) rfl) rfl
set_option maxRecDepth 100000 in
theorem q1214 : Cond.methodLink RL 133 yX7_sheet ∈ lw_tb := tb5 (List.mem_of_getElem? (i := 184) rfl) rfl
set_option maxRecDepth 100000 in
theorem q1215 : Cond.instanceMethod yX7_sheet ∈ lw_tb := tb5 (List.mem_of_getElem? (i := 185) rfl) rfl
set_option maxRecDepth 100000 in
theorem q1216 : Cond.selects RX7 yX7_sheet yX7_sheet ∈ lw_tb := tb5 (List.mem_of_getElem? (i := 186) rfl) rfl
set_option maxRecDepth 100000 in
theorem q1217 : Cond.code yX7_sheet cX7_sheet 5 (some .int) ∈ lw_tb := tb5 (List.mem_of_getElem? (i := 187) rfl) rfl
set_option maxRecDepth 100000 in
theorem q1218 : Cond.methodLink RL 137 yX7_lose ∈ lw_tb := tb5 (List.mem_of_getElem? (i := 188) rfl) rfl
set_option maxRecDepth 100000 in
theorem q1219 : Cond.instanceMethod yX7_lose ∈ lw_tb := tb5 (List.mem_of_getElem? (i := 189) rfl) rfl
set_option maxRecDepth 100000 in
theorem q1220 : Cond.selects RX7 yX7_lose yX7_lose ∈ lw_tb := tb5 (List.mem_of_getElem? (i := 190) rfl) rfl
set_option maxRecDepth 100000 in
theorem q1221 : Cond.code yX7_lose cX7_lose 2 (some .int) ∈ lw_tb := tb5 (List.mem_of_getElem? (i := 191) rfl) rfl
set_option maxRecDepth 100000 in
theorem q1222 : Cond.methodLink RL 142 yX7_put ∈ lw_tb := tb5 (List.mem_of_getElem? (i := 192) rfl) rfl
set_option maxRecDepth 100000 in
theorem q1223 : Cond.instanceMethod yX7_put ∈ lw_tb := tb5 (List.mem_of_getElem? (i := 193) rfl) rfl
set_option maxRecDepth 100000 in
theorem q1224 : Cond.selects RX7 yX7_put yX7_put ∈ lw_tb := tb5 (List.mem_of_getElem? (i := 194) rfl) rfl
set_option maxRecDepth 100000 in
theorem q1225 : Cond.code yX7_put cX7_put 6 (some .int) ∈ lw_tb := tb5 (List.mem_of_getElem? (i := 195) rfl) rfl
set_option maxRecDepth 100000 in
theorem q1226 : Cond.methodLink RX7 224 yX7_lacks ∈ lw_tb := tb5 (List.mem_of_getElem? (i := 196) rfl) rfl
set_option maxRecDepth 100000 in
theorem q1228 : Cond.instanceMethod yX7_lacks ∈ lw_tb := tb5 (List.mem_of_getElem? (i := 198) rfl) rfl
set_option maxRecDepth 100000 in
theorem q1229 : Cond.code yX7_lacks cX7_lacks 4 (some .int) ∈ lw_tb := tb5 (List.mem_of_getElem? (i := 199) rfl) rfl
set_option maxRecDepth 100000 in
theorem q1230 : Cond.methodLink RX7 227 yX7_keep ∈ lw_tb := tb5 (List.mem_of_getElem? (i := 200) rfl) rfl
set_option maxRecDepth 100000 in
theorem q1232 : Cond.instanceMethod yX7_keep ∈ lw_tb := tb5 (List.mem_of_getElem? (i := 202) rfl) rfl
set_option maxRecDepth 100000 in
theorem q1233 : Cond.code yX7_keep cX7_keep 4 none ∈ lw_tb := tb5 (List.mem_of_getElem? (i := 203) rfl) rfl
set_option maxRecDepth 100000 in
theorem q1234 : Cond.methodLink RL 146 yX7_get ∈ lw_tb := tb5 (List.mem_of_getElem? (i := 204) rfl) rfl
set_option maxRecDepth 100000 in
theorem q1235 : Cond.instanceMethod yX7_get ∈ lw_tb := tb5 (List.mem_of_getElem? (i := 205) rfl) rfl
set_option maxRecDepth 100000 in
theorem q1236 : Cond.selects RX7 yX7_get yX7_get ∈ lw_tb := tb5 (List.mem_of_getElem? (i := 206) rfl) rfl
set_option maxRecDepth 100000 in
theorem q1237 : Cond.code yX7_get cX7_get 5 (some .int) ∈ lw_tb := tb5 (List.mem_of_getElem? (i := 207) rfl) rfl
set_option maxRecDepth 100000 in
theorem q1238 : Cond.constant RX7 231 (-2147483648) ∈ lw_tb := tb5 (List.mem_of_getElem? (i := 208) rfl) rfl
set_option maxRecDepth 100000 in
theorem q1239 : Cond.methodLink RL 151 yX7_copy ∈ lw_tb := tb5 (List.mem_of_getElem? (i := 209) rfl) rfl
set_option maxRecDepth 100000 in
theorem q1240 : Cond.instanceMethod yX7_copy ∈ lw_tb := tb5 (List.mem_of_getElem? (i := 210) rfl) rfl
set_option maxRecDepth 100000 in
theorem q1241 : Cond.selects RX7 yX7_copy yX7_copy ∈ lw_tb := tb5 (List.mem_of_getElem? (i := 211) rfl) rfl
set_option maxRecDepth 100000 in
theorem q1242 : Cond.code yX7_copy cX7_copy 7 (some .int) ∈ lw_tb := tb5 (List.mem_of_getElem? (i := 212) rfl) rfl
set_option maxRecDepth 100000 in
theorem q1243 : Cond.methodLink RL 155 yX7_write ∈ lw_tb := tb5 (List.mem_of_getElem? (i := 213) rfl) rfl
set_option maxRecDepth 100000 in
theorem q1244 : Cond.instanceMethod yX7_write ∈ lw_tb := tb5 (List.mem_of_getElem? (i := 214) rfl) rfl
set_option maxRecDepth 100000 in
theorem q1245 : Cond.selects RX7 yX7_write yX7_write ∈ lw_tb := tb5 (List.mem_of_getElem? (i := 215) rfl) rfl
set_option maxRecDepth 100000 in
theorem q1246 : Cond.code yX7_write cX7_write 5 (some .int) ∈ lw_tb := tb5 (List.mem_of_getElem? (i := 216) rfl) rfl
set_option maxRecDepth 100000 in
theorem q1247 : Cond.methodLink RL 159 yX7_count ∈ lw_tb := tb5 (List.mem_of_getElem? (i := 217) rfl) rfl
set_option maxRecDepth 100000 in
theorem q1248 : Cond.instanceMethod yX7_count ∈ lw_tb := tb5 (List.mem_of_getElem? (i := 218) rfl) rfl
set_option maxRecDepth 100000 in
theorem q1249 : Cond.selects RX7 yX7_count yX7_count ∈ lw_tb := tb5 (List.mem_of_getElem? (i := 219) rfl) rfl
set_option maxRecDepth 100000 in
theorem q1250 : Cond.code yX7_count cX7_count 2 (some .int) ∈ lw_tb := tb5 (List.mem_of_getElem? (i := 220) rfl) rfl
set_option maxRecDepth 100000 in
theorem q1251 : Cond.methodLink RX7 232 yX7_sumOf ∈ lw_tb := tb5 (List.mem_of_getElem? (i := 221) rfl) rfl
set_option maxRecDepth 100000 in
theorem q1253 : Cond.instanceMethod yX7_sumOf ∈ lw_tb := tb5 (List.mem_of_getElem? (i := 223) rfl) rfl
set_option maxRecDepth 100000 in
theorem q1254 : Cond.code yX7_sumOf cX7_sumOf 6 (some .int) ∈ lw_tb := tb5 (List.mem_of_getElem? (i := 224) rfl) rfl
set_option maxRecDepth 100000 in
theorem q1255 : Cond.methodLink RL 164 yX7_digest ∈ lw_tb := tb5 (List.mem_of_getElem? (i := 225) rfl) rfl
set_option maxRecDepth 100000 in
theorem q1256 : Cond.instanceMethod yX7_digest ∈ lw_tb := tb5 (List.mem_of_getElem? (i := 226) rfl) rfl
set_option maxRecDepth 100000 in
theorem q1257 : Cond.selects RX7 yX7_digest yX7_digest ∈ lw_tb := tb5 (List.mem_of_getElem? (i := 227) rfl) rfl
set_option maxRecDepth 100000 in
theorem q1258 : Cond.code yX7_digest cX7_digest 5 (some .long) ∈ lw_tb := tb5 (List.mem_of_getElem? (i := 228) rfl) rfl
set_option maxRecDepth 100000 in
theorem q1259 : Cond.constantLong RX7 235 (17) ∈ lw_tb := tb5 (List.mem_of_getElem? (i := 229) rfl) rfl
set_option maxRecDepth 100000 in
theorem q1260 : Cond.constantLong RX7 237 (31) ∈ lw_tb := tb5 (List.mem_of_getElem? (i := 230) rfl) rfl
set_option maxRecDepth 100000 in
theorem q1261 : Cond.methodLink RX7 239 yX7_count ∈ lw_tb := tb5 (List.mem_of_getElem? (i := 231) rfl) rfl
set_option maxRecDepth 100000 in
theorem q1262 : Cond.methodLink RX7 242 yX7_again ∈ lw_tb := tb5 (List.mem_of_getElem? (i := 232) rfl) rfl
set_option maxRecDepth 100000 in
theorem inX0_0 : u_lay RX0 TX0 0 ∈ lw_tb := tb1 (List.mem_of_getElem? (i := 150) rfl) rfl
set_option maxRecDepth 100000 in
theorem inX0_1 : u_lay RX0 TX0 1 ∈ lw_tb := tb1 (List.mem_of_getElem? (i := 152) rfl) rfl
set_option maxRecDepth 100000 in
theorem inX0_2 : u_lay RX0 TX0 2 ∈ lw_tb := tb1 (List.mem_of_getElem? (i := 154) rfl) rfl
theorem inX0 : ∀ w ∈ u_ws RX0 TX0 3, w ∈ lw_tb := by
  intro w hw
  obtain ⟨k, hk, rfl⟩ := List.mem_map.mp hw
  have hk := List.mem_range.mp hk
  rcases (show k = 0 ∨ k = 1 ∨ k = 2 by omega) with rfl | rfl | rfl
  · exact inX0_0
  · exact inX0_1
  · exact inX0_2
set_option maxRecDepth 100000 in
theorem inX1_0 : u_lay RX1 TX1 0 ∈ lw_tb := tb1 (List.mem_of_getElem? (i := 44) rfl) rfl
set_option maxRecDepth 100000 in
theorem inX1_1 : u_lay RX1 TX1 1 ∈ lw_tb := tb1 (List.mem_of_getElem? (i := 46) rfl) rfl
set_option maxRecDepth 100000 in
theorem inX1_2 : u_lay RX1 TX1 2 ∈ lw_tb := tb1 (List.mem_of_getElem? (i := 48) rfl) rfl
set_option maxRecDepth 100000 in
theorem inX1_3 : u_lay RX1 TX1 3 ∈ lw_tb := tb1 (List.mem_of_getElem? (i := 50) rfl) rfl
set_option maxRecDepth 100000 in
theorem inX1_4 : u_lay RX1 TX1 4 ∈ lw_tb := tb1 (List.mem_of_getElem? (i := 52) rfl) rfl
set_option maxRecDepth 100000 in
theorem inX1_5 : u_lay RX1 TX1 5 ∈ lw_tb := tb1 (List.mem_of_getElem? (i := 54) rfl) rfl
set_option maxRecDepth 100000 in
theorem inX1_6 : u_lay RX1 TX1 6 ∈ lw_tb := tb1 (List.mem_of_getElem? (i := 56) rfl) rfl
set_option maxRecDepth 100000 in
theorem inX1_7 : u_lay RX1 TX1 7 ∈ lw_tb := tb1 (List.mem_of_getElem? (i := 58) rfl) rfl
theorem inX1 : ∀ w ∈ u_ws RX1 TX1 8, w ∈ lw_tb := by
  intro w hw
  obtain ⟨k, hk, rfl⟩ := List.mem_map.mp hw
  have hk := List.mem_range.mp hk
  rcases (show k = 0 ∨ k = 1 ∨ k = 2 ∨ k = 3 ∨ k = 4 ∨ k = 5 ∨ k = 6 ∨ k = 7 by omega) with rfl | rfl | rfl | rfl | rfl | rfl | rfl | rfl
  · exact inX1_0
  · exact inX1_1
  · exact inX1_2
  · exact inX1_3
  · exact inX1_4
  · exact inX1_5
  · exact inX1_6
  · exact inX1_7
set_option maxRecDepth 100000 in
theorem inX2_0 : u_lay RX2 TX2 0 ∈ lw_tb := tb1 (List.mem_of_getElem? (i := 99) rfl) rfl
set_option maxRecDepth 100000 in
theorem inX2_1 : u_lay RX2 TX2 1 ∈ lw_tb := tb1 (List.mem_of_getElem? (i := 101) rfl) rfl
set_option maxRecDepth 100000 in
theorem inX2_2 : u_lay RX2 TX2 2 ∈ lw_tb := tb1 (List.mem_of_getElem? (i := 103) rfl) rfl
set_option maxRecDepth 100000 in
theorem inX2_3 : u_lay RX2 TX2 3 ∈ lw_tb := tb1 (List.mem_of_getElem? (i := 105) rfl) rfl
set_option maxRecDepth 100000 in
theorem inX2_4 : u_lay RX2 TX2 4 ∈ lw_tb := tb1 (List.mem_of_getElem? (i := 107) rfl) rfl
set_option maxRecDepth 100000 in
theorem inX2_5 : u_lay RX2 TX2 5 ∈ lw_tb := tb1 (List.mem_of_getElem? (i := 109) rfl) rfl
set_option maxRecDepth 100000 in
theorem inX2_6 : u_lay RX2 TX2 6 ∈ lw_tb := tb1 (List.mem_of_getElem? (i := 111) rfl) rfl
set_option maxRecDepth 100000 in
theorem inX2_7 : u_lay RX2 TX2 7 ∈ lw_tb := tb1 (List.mem_of_getElem? (i := 113) rfl) rfl
set_option maxRecDepth 100000 in
theorem inX2_8 : u_lay RX2 TX2 8 ∈ lw_tb := tb1 (List.mem_of_getElem? (i := 115) rfl) rfl
set_option maxRecDepth 100000 in
theorem inX2_9 : u_lay RX2 TX2 9 ∈ lw_tb := tb1 (List.mem_of_getElem? (i := 117) rfl) rfl
set_option maxRecDepth 100000 in
theorem inX2_10 : u_lay RX2 TX2 10 ∈ lw_tb := tb1 (List.mem_of_getElem? (i := 119) rfl) rfl
theorem inX2 : ∀ w ∈ u_ws RX2 TX2 11, w ∈ lw_tb := by
  intro w hw
  obtain ⟨k, hk, rfl⟩ := List.mem_map.mp hw
  have hk := List.mem_range.mp hk
  rcases (show k = 0 ∨ k = 1 ∨ k = 2 ∨ k = 3 ∨ k = 4 ∨ k = 5 ∨ k = 6 ∨ k = 7 ∨ k = 8 ∨ k = 9 ∨ k = 10 by omega) with rfl | rfl | rfl | rfl | rfl | rfl | rfl | rfl | rfl | rfl | rfl
  · exact inX2_0
  · exact inX2_1
  · exact inX2_2
  · exact inX2_3
  · exact inX2_4
  · exact inX2_5
  · exact inX2_6
  · exact inX2_7
  · exact inX2_8
  · exact inX2_9
  · exact inX2_10
set_option maxRecDepth 100000 in
theorem inX3_0 : u_lay RX3 TX3 0 ∈ lw_tb := tb1 (List.mem_of_getElem? (i := 132) rfl) rfl
set_option maxRecDepth 100000 in
theorem inX3_1 : u_lay RX3 TX3 1 ∈ lw_tb := tb1 (List.mem_of_getElem? (i := 134) rfl) rfl
set_option maxRecDepth 100000 in
theorem inX3_2 : u_lay RX3 TX3 2 ∈ lw_tb := tb1 (List.mem_of_getElem? (i := 136) rfl) rfl
set_option maxRecDepth 100000 in
theorem inX3_3 : u_lay RX3 TX3 3 ∈ lw_tb := tb1 (List.mem_of_getElem? (i := 138) rfl) rfl
theorem inX3 : ∀ w ∈ u_ws RX3 TX3 4, w ∈ lw_tb := by
  intro w hw
  obtain ⟨k, hk, rfl⟩ := List.mem_map.mp hw
  have hk := List.mem_range.mp hk
  rcases (show k = 0 ∨ k = 1 ∨ k = 2 ∨ k = 3 by omega) with rfl | rfl | rfl | rfl
  · exact inX3_0
  · exact inX3_1
  · exact inX3_2
  · exact inX3_3
set_option maxRecDepth 100000 in
theorem inX4_0 : u_lay RX4 TX4 0 ∈ lw_tb := tb1 (List.mem_of_getElem? (i := 167) rfl) rfl
set_option maxRecDepth 100000 in
theorem inX4_1 : u_lay RX4 TX4 1 ∈ lw_tb := tb1 (List.mem_of_getElem? (i := 169) rfl) rfl
set_option maxRecDepth 100000 in
theorem inX4_2 : u_lay RX4 TX4 2 ∈ lw_tb := tb1 (List.mem_of_getElem? (i := 171) rfl) rfl
theorem inX4 : ∀ w ∈ u_ws RX4 TX4 3, w ∈ lw_tb := by
  intro w hw
  obtain ⟨k, hk, rfl⟩ := List.mem_map.mp hw
  have hk := List.mem_range.mp hk
  rcases (show k = 0 ∨ k = 1 ∨ k = 2 by omega) with rfl | rfl | rfl
  · exact inX4_0
  · exact inX4_1
  · exact inX4_2
set_option maxRecDepth 100000 in
theorem inX5_0 : u_lay RX5 TX5 0 ∈ lw_tb := tb1 (List.mem_of_getElem? (i := 69) rfl) rfl
set_option maxRecDepth 100000 in
theorem inX5_1 : u_lay RX5 TX5 1 ∈ lw_tb := tb1 (List.mem_of_getElem? (i := 71) rfl) rfl
set_option maxRecDepth 100000 in
theorem inX5_2 : u_lay RX5 TX5 2 ∈ lw_tb := tb1 (List.mem_of_getElem? (i := 73) rfl) rfl
set_option maxRecDepth 100000 in
theorem inX5_3 : u_lay RX5 TX5 3 ∈ lw_tb := tb1 (List.mem_of_getElem? (i := 75) rfl) rfl
set_option maxRecDepth 100000 in
theorem inX5_4 : u_lay RX5 TX5 4 ∈ lw_tb := tb1 (List.mem_of_getElem? (i := 77) rfl) rfl
set_option maxRecDepth 100000 in
theorem inX5_5 : u_lay RX5 TX5 5 ∈ lw_tb := tb1 (List.mem_of_getElem? (i := 79) rfl) rfl
theorem inX5 : ∀ w ∈ u_ws RX5 TX5 6, w ∈ lw_tb := by
  intro w hw
  obtain ⟨k, hk, rfl⟩ := List.mem_map.mp hw
  have hk := List.mem_range.mp hk
  rcases (show k = 0 ∨ k = 1 ∨ k = 2 ∨ k = 3 ∨ k = 4 ∨ k = 5 by omega) with rfl | rfl | rfl | rfl | rfl | rfl
  · exact inX5_0
  · exact inX5_1
  · exact inX5_2
  · exact inX5_3
  · exact inX5_4
  · exact inX5_5
set_option maxRecDepth 100000 in
theorem inX6_0 : u_lay RX6 TX6 0 ∈ lw_tb := tb1 (List.mem_of_getElem? (i := 194) rfl) rfl
set_option maxRecDepth 100000 in
theorem inX6_1 : u_lay RX6 TX6 1 ∈ lw_tb := tb1 (List.mem_of_getElem? (i := 196) rfl) rfl
set_option maxRecDepth 100000 in
theorem inX6_2 : u_lay RX6 TX6 2 ∈ lw_tb := tb1 (List.mem_of_getElem? (i := 198) rfl) rfl
set_option maxRecDepth 100000 in
theorem inX6_3 : u_lay RX6 TX6 3 ∈ lw_tb := tb1 (List.mem_of_getElem? (i := 200) rfl) rfl
set_option maxRecDepth 100000 in
theorem inX6_4 : u_lay RX6 TX6 4 ∈ lw_tb := tb1 (List.mem_of_getElem? (i := 202) rfl) rfl
set_option maxRecDepth 100000 in
theorem inX6_5 : u_lay RX6 TX6 5 ∈ lw_tb := tb1 (List.mem_of_getElem? (i := 204) rfl) rfl
set_option maxRecDepth 100000 in
theorem inX6_6 : u_lay RX6 TX6 6 ∈ lw_tb := tb1 (List.mem_of_getElem? (i := 206) rfl) rfl
set_option maxRecDepth 100000 in
theorem inX6_7 : u_lay RX6 TX6 7 ∈ lw_tb := tb1 (List.mem_of_getElem? (i := 208) rfl) rfl
set_option maxRecDepth 100000 in
theorem inX6_8 : u_lay RX6 TX6 8 ∈ lw_tb := tb1 (List.mem_of_getElem? (i := 210) rfl) rfl
set_option maxRecDepth 100000 in
theorem inX6_9 : u_lay RX6 TX6 9 ∈ lw_tb := tb1 (List.mem_of_getElem? (i := 212) rfl) rfl
set_option maxRecDepth 100000 in
theorem inX6_10 : u_lay RX6 TX6 10 ∈ lw_tb := tb1 (List.mem_of_getElem? (i := 214) rfl) rfl
set_option maxRecDepth 100000 in
theorem inX6_11 : u_lay RX6 TX6 11 ∈ lw_tb := tb1 (List.mem_of_getElem? (i := 216) rfl) rfl
set_option maxRecDepth 100000 in
theorem inX6_12 : u_lay RX6 TX6 12 ∈ lw_tb := tb1 (List.mem_of_getElem? (i := 218) rfl) rfl
set_option maxRecDepth 100000 in
theorem inX6_13 : u_lay RX6 TX6 13 ∈ lw_tb := tb1 (List.mem_of_getElem? (i := 220) rfl) rfl
set_option maxRecDepth 100000 in
theorem inX6_14 : u_lay RX6 TX6 14 ∈ lw_tb := tb1 (List.mem_of_getElem? (i := 222) rfl) rfl
set_option maxRecDepth 100000 in
theorem inX6_15 : u_lay RX6 TX6 15 ∈ lw_tb := tb1 (List.mem_of_getElem? (i := 224) rfl) rfl
set_option maxRecDepth 100000 in
theorem inX6_16 : u_lay RX6 TX6 16 ∈ lw_tb := tb1 (List.mem_of_getElem? (i := 226) rfl) rfl
theorem inX6 : ∀ w ∈ u_ws RX6 TX6 17, w ∈ lw_tb := by
  intro w hw
  obtain ⟨k, hk, rfl⟩ := List.mem_map.mp hw
  have hk := List.mem_range.mp hk
  rcases (show k = 0 ∨ k = 1 ∨ k = 2 ∨ k = 3 ∨ k = 4 ∨ k = 5 ∨ k = 6 ∨ k = 7 ∨ k = 8 ∨ k = 9 ∨ k = 10 ∨ k = 11 ∨ k = 12 ∨ k = 13 ∨ k = 14 ∨ k = 15 ∨ k = 16 by omega) with rfl | rfl | rfl | rfl | rfl | rfl | rfl | rfl | rfl | rfl | rfl | rfl | rfl | rfl | rfl | rfl | rfl
  · exact inX6_0
  · exact inX6_1
  · exact inX6_2
  · exact inX6_3
  · exact inX6_4
  · exact inX6_5
  · exact inX6_6
  · exact inX6_7
  · exact inX6_8
  · exact inX6_9
  · exact inX6_10
  · exact inX6_11
  · exact inX6_12
  · exact inX6_13
  · exact inX6_14
  · exact inX6_15
  · exact inX6_16
set_option maxRecDepth 100000 in
theorem inX7_0 : u_lay RX7 TX7 0 ∈ lw_tb := tb4 (List.mem_of_getElem? (i := 110) rfl) rfl
set_option maxRecDepth 100000 in
theorem inX7_1 : u_lay RX7 TX7 1 ∈ lw_tb := tb4 (List.mem_of_getElem? (i := 112) rfl) rfl
set_option maxRecDepth 100000 in
theorem inX7_2 : u_lay RX7 TX7 2 ∈ lw_tb := tb4 (List.mem_of_getElem? (i := 114) rfl) rfl
set_option maxRecDepth 100000 in
theorem inX7_3 : u_lay RX7 TX7 3 ∈ lw_tb := tb4 (List.mem_of_getElem? (i := 116) rfl) rfl
set_option maxRecDepth 100000 in
theorem inX7_4 : u_lay RX7 TX7 4 ∈ lw_tb := tb4 (List.mem_of_getElem? (i := 118) rfl) rfl
set_option maxRecDepth 100000 in
theorem inX7_5 : u_lay RX7 TX7 5 ∈ lw_tb := tb4 (List.mem_of_getElem? (i := 120) rfl) rfl
set_option maxRecDepth 100000 in
theorem inX7_6 : u_lay RX7 TX7 6 ∈ lw_tb := tb4 (List.mem_of_getElem? (i := 122) rfl) rfl
set_option maxRecDepth 100000 in
theorem inX7_7 : u_lay RX7 TX7 7 ∈ lw_tb := tb4 (List.mem_of_getElem? (i := 124) rfl) rfl
set_option maxRecDepth 100000 in
theorem inX7_8 : u_lay RX7 TX7 8 ∈ lw_tb := tb4 (List.mem_of_getElem? (i := 126) rfl) rfl
set_option maxRecDepth 100000 in
theorem inX7_9 : u_lay RX7 TX7 9 ∈ lw_tb := tb4 (List.mem_of_getElem? (i := 128) rfl) rfl
set_option maxRecDepth 100000 in
theorem inX7_10 : u_lay RX7 TX7 10 ∈ lw_tb := tb4 (List.mem_of_getElem? (i := 130) rfl) rfl
set_option maxRecDepth 100000 in
theorem inX7_11 : u_lay RX7 TX7 11 ∈ lw_tb := tb4 (List.mem_of_getElem? (i := 132) rfl) rfl
set_option maxRecDepth 100000 in
theorem inX7_12 : u_lay RX7 TX7 12 ∈ lw_tb := tb4 (List.mem_of_getElem? (i := 134) rfl) rfl
set_option maxRecDepth 100000 in
theorem inX7_13 : u_lay RX7 TX7 13 ∈ lw_tb := tb4 (List.mem_of_getElem? (i := 136) rfl) rfl
set_option maxRecDepth 100000 in
theorem inX7_14 : u_lay RX7 TX7 14 ∈ lw_tb := tb4 (List.mem_of_getElem? (i := 138) rfl) rfl
set_option maxRecDepth 100000 in
theorem inX7_15 : u_lay RX7 TX7 15 ∈ lw_tb := tb4 (List.mem_of_getElem? (i := 140) rfl) rfl
set_option maxRecDepth 100000 in
theorem inX7_16 : u_lay RX7 TX7 16 ∈ lw_tb := tb4 (List.mem_of_getElem? (i := 142) rfl) rfl
set_option maxRecDepth 100000 in
theorem inX7_17 : u_lay RX7 TX7 17 ∈ lw_tb := tb4 (List.mem_of_getElem? (i := 144) rfl) rfl
set_option maxRecDepth 100000 in
theorem inX7_18 : u_lay RX7 TX7 18 ∈ lw_tb := tb4 (List.mem_of_getElem? (i := 146) rfl) rfl
set_option maxRecDepth 100000 in
theorem inX7_19 : u_lay RX7 TX7 19 ∈ lw_tb := tb4 (List.mem_of_getElem? (i := 148) rfl) rfl
set_option maxRecDepth 100000 in
theorem inX7_20 : u_lay RX7 TX7 20 ∈ lw_tb := tb4 (List.mem_of_getElem? (i := 150) rfl) rfl
set_option maxRecDepth 100000 in
theorem inX7_21 : u_lay RX7 TX7 21 ∈ lw_tb := tb4 (List.mem_of_getElem? (i := 152) rfl) rfl
set_option maxRecDepth 100000 in
theorem inX7_22 : u_lay RX7 TX7 22 ∈ lw_tb := tb4 (List.mem_of_getElem? (i := 154) rfl) rfl
set_option maxRecDepth 100000 in
theorem inX7_23 : u_lay RX7 TX7 23 ∈ lw_tb := tb4 (List.mem_of_getElem? (i := 156) rfl) rfl
set_option maxRecDepth 100000 in
theorem inX7_24 : u_lay RX7 TX7 24 ∈ lw_tb := tb4 (List.mem_of_getElem? (i := 158) rfl) rfl
set_option maxRecDepth 100000 in
theorem inX7_25 : u_lay RX7 TX7 25 ∈ lw_tb := tb4 (List.mem_of_getElem? (i := 160) rfl) rfl
set_option maxRecDepth 100000 in
theorem inX7_26 : u_lay RX7 TX7 26 ∈ lw_tb := tb4 (List.mem_of_getElem? (i := 162) rfl) rfl
theorem inX7 : ∀ w ∈ u_ws RX7 TX7 27, w ∈ lw_tb := by
  intro w hw
  obtain ⟨k, hk, rfl⟩ := List.mem_map.mp hw
  have hk := List.mem_range.mp hk
  rcases (show k = 0 ∨ k = 1 ∨ k = 2 ∨ k = 3 ∨ k = 4 ∨ k = 5 ∨ k = 6 ∨ k = 7 ∨ k = 8 ∨ k = 9 ∨ k = 10 ∨ k = 11 ∨ k = 12 ∨ k = 13 ∨ k = 14 ∨ k = 15 ∨ k = 16 ∨ k = 17 ∨ k = 18 ∨ k = 19 ∨ k = 20 ∨ k = 21 ∨ k = 22 ∨ k = 23 ∨ k = 24 ∨ k = 25 ∨ k = 26 by omega) with rfl | rfl | rfl | rfl | rfl | rfl | rfl | rfl | rfl | rfl | rfl | rfl | rfl | rfl | rfl | rfl | rfl | rfl | rfl | rfl | rfl | rfl | rfl | rfl | rfl | rfl | rfl
  · exact inX7_0
  · exact inX7_1
  · exact inX7_2
  · exact inX7_3
  · exact inX7_4
  · exact inX7_5
  · exact inX7_6
  · exact inX7_7
  · exact inX7_8
  · exact inX7_9
  · exact inX7_10
  · exact inX7_11
  · exact inX7_12
  · exact inX7_13
  · exact inX7_14
  · exact inX7_15
  · exact inX7_16
  · exact inX7_17
  · exact inX7_18
  · exact inX7_19
  · exact inX7_20
  · exact inX7_21
  · exact inX7_22
  · exact inX7_23
  · exact inX7_24
  · exact inX7_25
  · exact inX7_26
theorem mw_X0_above : MwV RX0 yX0_above cX0_above 1 (some .long) 0 := ⟨by decide +kernel, q745, q746, q76, q747⟩
theorem mw_X0_below : MwV RX0 yX0_below cX0_below 1 (some .long) 0 := ⟨by decide +kernel, q749, q750, q76, q751⟩
theorem mw_X0_takeMean : MwV RX0 yX0_takeMean cX0_takeMean 3 none 2 := ⟨by decide +kernel, q725, q726, q76, q727⟩
theorem mw_X0_takeAtLeast : MwV RX0 yX0_takeAtLeast cX0_takeAtLeast 5 none 3 := ⟨by decide +kernel, q734, q735, q76, q736⟩
theorem mw_X0_countWays : MwV RX0 yX0_countWays cX0_countWays 5 none 2 := ⟨by decide +kernel, q739, q33, q76, q740⟩
theorem mw_X0_reduce : MwV RX0 yX0_reduce cX0_reduce 2 none 0 := ⟨by decide +kernel, q731, q32, q76, q732⟩
theorem mw_X1_bytes : MwV RX1 yX1_bytes cX1_bytes 1 (some .int) 0 := ⟨by decide +kernel, q372, q373, q73, q374⟩
theorem mw_X1_rows : MwV RX1 yX1_rows cX1_rows 1 (some .int) 0 := ⟨by decide +kernel, q816, q817, q73, q818⟩
theorem mw_X1_columns : MwV RX1 yX1_columns cX1_columns 1 (some .int) 0 := ⟨by decide +kernel, q513, q514, q73, q515⟩
theorem mw_X1_cells : MwV RX1 yX1_cells cX1_cells 1 (some .int) 0 := ⟨by decide +kernel, q342, q343, q73, q344⟩
theorem mw_X1_faultPlace : MwV RX1 yX1_faultPlace cX1_faultPlace 1 (some .int) 0 := ⟨by decide +kernel, q388, q389, q73, q390⟩
theorem mw_X1_heightOf : MwV RX1 yX1_heightOf cX1_heightOf 2 (some .int) 1 := ⟨by decide +kernel, q401, q402, q73, q403⟩
theorem mw_X1_columnOf : MwV RX1 yX1_columnOf cX1_columnOf 2 (some .int) 1 := ⟨by decide +kernel, q517, q518, q73, q519⟩
theorem mw_X1_rowStart : MwV RX1 yX1_rowStart cX1_rowStart 2 (some .int) 1 := ⟨by decide +kernel, q565, q566, q73, q567⟩
theorem mw_X1_isFull : MwV RX1 yX1_isFull cX1_isFull 1 (some .boolean) 0 := ⟨by decide +kernel, q307, q308, q73, q309⟩
theorem mw_X1_append : MwV RX1 yX1_append cX1_append 2 none 1 := ⟨by decide +kernel, q311, q312, q73, q313⟩
theorem mw_X1_empty : MwV RX1 yX1_empty cX1_empty 1 none 0 := ⟨by decide +kernel, q380, q381, q73, q382⟩
theorem mw_X1_survey : MwV RX1 yX1_survey cX1_survey 1 none 0 := ⟨by decide +kernel, q317, q0, q73, q318⟩
theorem mw_X1_findFault : MwV RX1 yX1_findFault cX1_findFault 5 (some .int) 0 := ⟨by decide +kernel, q321, q1, q73, q322⟩
theorem mw_X1_endsRow : MwS yX1_endsRow cX1_endsRow 3 (some .boolean) 3 := ⟨by decide +kernel, q327, q73, q328⟩
theorem mw_X1_layCells : MwV RX1 yX1_layCells cX1_layCells 3 none 0 := ⟨by decide +kernel, q331, q2, q73, q332⟩
theorem mw_X1_isFigure : MwS yX1_isFigure cX1_isFigure 1 (some .boolean) 1 := ⟨by decide +kernel, q324, q73, q325⟩
theorem mw_X2_firstPart : MwV RX2 yX2_firstPart cX2_firstPart 1 (some .int) 0 := ⟨by decide +kernel, q552, q553, q74, q554⟩
theorem mw_X2_leastDifference : MwV RX2 yX2_leastDifference cX2_leastDifference 1 (some .int) 0 := ⟨by decide +kernel, q548, q549, q74, q550⟩
theorem mw_X2_partAfter : MwV RX2 yX2_partAfter cX2_partAfter 1 (some .int) 0 := ⟨by decide +kernel, q600, q601, q74, q602⟩
theorem mw_X2_fewestMoved : MwV RX2 yX2_fewestMoved cX2_fewestMoved 1 (some .int) 0 := ⟨by decide +kernel, q596, q597, q74, q598⟩
theorem mw_X2_part : MwV RX2 yX2_part cX2_part 5 none 2 := ⟨by decide +kernel, q504, q505, q74, q506⟩
theorem mw_X2_partAgain : MwV RX2 yX2_partAgain cX2_partAgain 6 none 3 := ⟨by decide +kernel, q591, q592, q74, q593⟩
theorem mw_X2_prepare : MwV RX2 yX2_prepare cX2_prepare 5 none 2 := ⟨by decide +kernel, q509, q11, q74, q510⟩
theorem mw_X2_fillSums : MwV RX2 yX2_fillSums cX2_fillSums 8 none 3 := ⟨by decide +kernel, q522, q12, q74, q523⟩
theorem mw_X2_sumOf : MwV RX2 yX2_sumOf cX2_sumOf 2 (some .int) 1 := ⟨by decide +kernel, q530, q14, q74, q531⟩
theorem mw_X2_differenceOf : MwV RX2 yX2_differenceOf cX2_differenceOf 2 (some .int) 1 := ⟨by decide +kernel, q526, q13, q74, q527⟩
theorem mw_X2_bothHang : MwV RX2 yX2_bothHang cX2_bothHang 2 (some .boolean) 1 := ⟨by decide +kernel, q537, q15, q74, q538⟩
theorem mw_X2_hangs : MwV RX2 yX2_hangs cX2_hangs 5 (some .boolean) 1 := ⟨by decide +kernel, q541, q16, q74, q542⟩
theorem mw_X2_nextTo : MwV RX2 yX2_nextTo cX2_nextTo 4 (some .int) 1 := ⟨by decide +kernel, q545, q17, q74, q546⟩
theorem mw_X3_changeNeed : MwV RX3 yX3_changeNeed cX3_changeNeed 4 (some .int) 2 := ⟨by decide +kernel, q652, q653, q75, q654⟩
theorem mw_X3_changePay : MwV RX3 yX3_changePay cX3_changePay 4 (some .int) 2 := ⟨by decide +kernel, q656, q657, q75, q658⟩
theorem mw_X3_mostPaid : MwV RX3 yX3_mostPaid cX3_mostPaid 1 (some .int) 0 := ⟨by decide +kernel, q691, q692, q75, q693⟩
theorem mw_X3_sortOn : MwV RX3 yX3_sortOn cX3_sortOn 2 (some .int) 1 := ⟨by decide +kernel, q695, q696, q75, q697⟩
theorem mw_X3_plant : MwV RX3 yX3_plant cX3_plant 5 none 2 := ⟨by decide +kernel, q664, q665, q75, q666⟩
theorem mw_X3_bestFrom : MwV RX3 yX3_bestFrom cX3_bestFrom 6 (some .int) 3 := ⟨by decide +kernel, q669, q27, q75, q670⟩
theorem mw_X3_leastSort : MwV RX3 yX3_leastSort cX3_leastSort 6 (some .int) 3 := ⟨by decide +kernel, q688, q30, q75, q689⟩
theorem mw_X3_mayStand : MwV RX3 yX3_mayStand cX3_mayStand 4 (some .boolean) 3 := ⟨by decide +kernel, q680, q29, q75, q681⟩
theorem mw_X3_payFrom : MwV RX3 yX3_payFrom cX3_payFrom 5 (some .int) 3 := ⟨by decide +kernel, q673, q28, q75, q674⟩
theorem mw_X3_standAhead : MwS yX3_standAhead cX3_standAhead 2 (some .int) 2 := ⟨by decide +kernel, q683, q75, q684⟩
theorem mw_X3_weightOf : MwS yX3_weightOf cX3_weightOf 1 (some .int) 1 := ⟨by decide +kernel, q676, q75, q677⟩
theorem mw_X4_isLost : MwV RX4 yX4_isLost cX4_isLost 2 (some .boolean) 1 := ⟨by decide +kernel, q425, q426, q77, q427⟩
theorem mw_X4_sizeOf : MwV RX4 yX4_sizeOf cX4_sizeOf 2 (some .int) 1 := ⟨by decide +kernel, q433, q434, q77, q435⟩
theorem mw_X4_formOf : MwV RX4 yX4_formOf cX4_formOf 2 (some .int) 1 := ⟨by decide +kernel, q777, q778, q77, q779⟩
theorem mw_X4_lay : MwV RX4 yX4_lay cX4_lay 5 none 3 := ⟨by decide +kernel, q757, q758, q77, q759⟩
theorem mw_X4_drop : MwV RX4 yX4_drop cX4_drop 2 none 1 := ⟨by decide +kernel, q765, q766, q77, q767⟩
theorem mw_X4_itemAt : MwV RX4 yX4_itemAt cX4_itemAt 3 (some .int) 2 := ⟨by decide +kernel, q440, q441, q77, q442⟩
theorem mw_X4_store : MwV RX4 yX4_store cX4_store 4 none 3 := ⟨by decide +kernel, q781, q782, q77, q783⟩
theorem mw_X4_holds : MwV RX4 yX4_holds cX4_holds 4 (some .boolean) 3 := ⟨by decide +kernel, q797, q798, q77, q799⟩
theorem mw_X4_carry : MwV RX4 yX4_carry cX4_carry 6 none 5 := ⟨by decide +kernel, q801, q802, q77, q803⟩
theorem mw_X4_narrow : MwS yX4_narrow cX4_narrow 2 (some .int) 2 := ⟨by decide +kernel, q785, q77, q786⟩
theorem mw_X5_steepness : MwS yX5_steepness cX5_steepness 2 (some .int) 2 := ⟨by decide +kernel, q456, q72, q457⟩
theorem mw_X5_standingOn : MwV RX5 yX5_standingOn cX5_standingOn 2 (some .int) 1 := ⟨by decide +kernel, q405, q406, q72, q407⟩
theorem mw_X5_build : MwV RX5 yX5_build cX5_build 4 (some .int) 2 := ⟨by decide +kernel, q413, q414, q72, q415⟩
theorem mw_X5_daysOf : MwV RX5 yX5_daysOf cX5_daysOf 2 (some .int) 1 := ⟨by decide +kernel, q616, q617, q72, q618⟩
theorem mw_X5_lengthen : MwV RX5 yX5_lengthen cX5_lengthen 4 (some .int) 2 := ⟨by decide +kernel, q448, q449, q72, q450⟩
theorem mw_X5_allDays : MwV RX5 yX5_allDays cX5_allDays 3 (some .int) 0 := ⟨by decide +kernel, q832, q833, q72, q834⟩
theorem mw_X5_years : MwV RX5 yX5_years cX5_years 1 (some (.array .int)) 0 := ⟨by decide +kernel, q500, q501, q72, q502⟩
theorem mw_X5_yearOf : MwV RX5 yX5_yearOf cX5_yearOf 2 (some .int) 1 := ⟨by decide +kernel, q480, q481, q72, q482⟩
theorem mw_X5_allYears : MwV RX5 yX5_allYears cX5_allYears 3 (some .int) 0 := ⟨by decide +kernel, q828, q829, q72, q830⟩
theorem mw_X5_bitsOf : MwV RX5 yX5_bitsOf cX5_bitsOf 3 (some .int) 2 := ⟨by decide +kernel, q472, q473, q72, q474⟩
theorem mw_X5_hoursOf : MwV RX5 yX5_hoursOf cX5_hoursOf 3 (some .int) 2 := ⟨by decide +kernel, q484, q485, q72, q486⟩
theorem mw_X5_measure : MwV RX5 yX5_measure cX5_measure 4 none 0 := ⟨by decide +kernel, q338, q339, q72, q340⟩
theorem mw_X5_yearAsBuilt : MwV RX5 yX5_yearAsBuilt cX5_yearAsBuilt 5 (some .int) 1 := ⟨by decide +kernel, q368, q369, q72, q370⟩
theorem mw_X5_nearestShader : MwV RX5 yX5_nearestShader cX5_nearestShader 7 (some .int) 3 := ⟨by decide +kernel, q463, q464, q72, q465⟩
theorem mw_X5_bitsAsBuilt : MwV RX5 yX5_bitsAsBuilt cX5_bitsAsBuilt 5 (some .int) 2 := ⟨by decide +kernel, q347, q4, q72, q348⟩
theorem mw_X5_darkHours : MwV RX5 yX5_darkHours cX5_darkHours 9 (some .int) 3 := ⟨by decide +kernel, q351, q5, q72, q352⟩
theorem mw_X5_reachOf : MwV RX5 yX5_reachOf cX5_reachOf 4 (some .int) 2 := ⟨by decide +kernel, q355, q6, q72, q356⟩
theorem mw_X5_rise : MwV RX5 yX5_rise cX5_rise 4 (some .int) 2 := ⟨by decide +kernel, q359, q7, q72, q360⟩
theorem mw_X6_type : MwV RX6 yX6_type cX6_type 2 (some .int) 1 := ⟨by decide +kernel, q300, q301, q71, q302⟩
theorem mw_X6_wipe : MwV RX6 yX6_wipe cX6_wipe 2 (some .int) 0 := ⟨by decide +kernel, q376, q377, q71, q378⟩
theorem mw_X6_fault : MwV RX6 yX6_fault cX6_fault 1 (some .int) 0 := ⟨by decide +kernel, q384, q385, q71, q386⟩
theorem mw_X6_cell : MwV RX6 yX6_cell cX6_cell 3 (some .int) 2 := ⟨by decide +kernel, q392, q393, q71, q394⟩
theorem mw_X6_stand : MwV RX6 yX6_stand cX6_stand 4 (some .int) 2 := ⟨by decide +kernel, q409, q410, q71, q411⟩
theorem mw_X6_owner : MwV RX6 yX6_owner cX6_owner 4 (some .int) 2 := ⟨by decide +kernel, q417, q418, q71, q419⟩
theorem mw_X6_read : MwV RX6 yX6_read cX6_read 4 (some .int) 1 := ⟨by decide +kernel, q421, q422, q71, q423⟩
theorem mw_X6_days : MwV RX6 yX6_days cX6_days 4 (some .int) 2 := ⟨by decide +kernel, q444, q445, q71, q446⟩
theorem mw_X6_steep : MwV RX6 yX6_steep cX6_steep 3 (some .int) 2 := ⟨by decide +kernel, q452, q453, q71, q454⟩
theorem mw_X6_shade : MwV RX6 yX6_shade cX6_shade 4 (some .int) 3 := ⟨by decide +kernel, q459, q460, q71, q461⟩
theorem mw_X6_light : MwV RX6 yX6_light cX6_light 3 (some .int) 2 := ⟨by decide +kernel, q468, q469, q71, q470⟩
theorem mw_X6_hours : MwV RX6 yX6_hours cX6_hours 3 (some .int) 2 := ⟨by decide +kernel, q476, q477, q71, q478⟩
theorem mw_X6_has : MwV RX6 yX6_has cX6_has 6 (some .int) 2 := ⟨by decide +kernel, q488, q489, q71, q490⟩
theorem mw_X6_parts : MwV RX6 yX6_parts cX6_parts 2 (some .int) 1 := ⟨by decide +kernel, q492, q493, q71, q494⟩
theorem mw_X6_taken : MwV RX6 yX6_taken cX6_taken 4 (some .int) 3 := ⟨by decide +kernel, q556, q557, q71, q558⟩
theorem mw_X6_highest : MwV RX6 yX6_highest cX6_highest 5 (some .int) 2 := ⟨by decide +kernel, q571, q572, q71, q573⟩
theorem mw_X6_again : MwV RX6 yX6_again cX6_again 4 (some .int) 3 := ⟨by decide +kernel, q583, q584, q71, q585⟩
theorem mw_X6_worth : MwV RX6 yX6_worth cX6_worth 6 (some .int) 3 := ⟨by decide +kernel, q604, q605, q71, q606⟩
theorem mw_X6_value : MwV RX6 yX6_value cX6_value 3 (some .int) 2 := ⟨by decide +kernel, q608, q609, q71, q610⟩
theorem mw_X6_change : MwV RX6 yX6_change cX6_change 3 (some .int) 2 := ⟨by decide +kernel, q620, q621, q71, q622⟩
theorem mw_X6_changes : MwV RX6 yX6_changes cX6_changes 2 (some .int) 1 := ⟨by decide +kernel, q632, q633, q71, q634⟩
theorem mw_X6_sort : MwV RX6 yX6_sort cX6_sort 4 (some .int) 3 := ⟨by decide +kernel, q648, q649, q71, q650⟩
theorem mw_X6_set : MwV RX6 yX6_set cX6_set 2 (some .int) 1 := ⟨by decide +kernel, q660, q661, q71, q662⟩
theorem mw_X6_seen : MwV RX6 yX6_seen cX6_seen 3 (some .int) 2 := ⟨by decide +kernel, q699, q700, q71, q701⟩
theorem mw_X6_forget : MwV RX6 yX6_forget cX6_forget 2 (some .int) 0 := ⟨by decide +kernel, q703, q704, q71, q705⟩
theorem mw_X6_whose : MwV RX6 yX6_whose cX6_whose 5 (some .int) 1 := ⟨by decide +kernel, q707, q708, q71, q709⟩
theorem mw_X6_clouds : MwV RX6 yX6_clouds cX6_clouds 4 (some .int) 2 := ⟨by decide +kernel, q716, q717, q71, q718⟩
theorem mw_X6_clear : MwV RX6 yX6_clear cX6_clear 6 (some .long) 4 := ⟨by decide +kernel, q720, q721, q71, q722⟩
theorem mw_X6_sheet : MwV RX6 yX6_sheet cX6_sheet 4 (some .int) 3 := ⟨by decide +kernel, q753, q754, q71, q755⟩
theorem mw_X6_lose : MwV RX6 yX6_lose cX6_lose 3 (some .int) 1 := ⟨by decide +kernel, q761, q762, q71, q763⟩
theorem mw_X6_put : MwV RX6 yX6_put cX6_put 6 (some .int) 4 := ⟨by decide +kernel, q769, q770, q71, q771⟩
theorem mw_X6_get : MwV RX6 yX6_get cX6_get 4 (some .int) 3 := ⟨by decide +kernel, q788, q789, q71, q790⟩
theorem mw_X6_copy : MwV RX6 yX6_copy cX6_copy 6 (some .int) 5 := ⟨by decide +kernel, q793, q794, q71, q795⟩
theorem mw_X6_write : MwV RX6 yX6_write cX6_write 5 (some .int) 2 := ⟨by decide +kernel, q808, q809, q71, q810⟩
theorem mw_X6_count : MwV RX6 yX6_count cX6_count 2 (some .int) 1 := ⟨by decide +kernel, q812, q813, q71, q814⟩
theorem mw_X6_digest : MwV RX6 yX6_digest cX6_digest 4 (some .long) 0 := ⟨by decide +kernel, q836, q837, q71, q838⟩
theorem mw_X6_mix : MwS yX6_mix cX6_mix 4 (some .long) 2 := ⟨by decide +kernel, q842, q71, q843⟩
theorem mw_X6_mixCell : MwV RX6 yX6_mixCell cX6_mixCell 7 (some .long) 2 := ⟨by decide +kernel, q848, q37, q71, q849⟩
theorem mw_X6_mixChances : MwV RX6 yX6_mixChances cX6_mixChances 6 (some .long) 2 := ⟨by decide +kernel, q859, q38, q71, q860⟩
theorem mw_X6_isBelow : MwS yX6_isBelow cX6_isBelow 2 (some .boolean) 2 := ⟨by decide +kernel, q304, q71, q305⟩
theorem mw_X6_isCell : MwV RX6 yX6_isCell cX6_isCell 2 (some .boolean) 1 := ⟨by decide +kernel, q397, q8, q71, q398⟩
theorem mw_X6_found : MwV RX6 yX6_found cX6_found 2 (some .int) 1 := ⟨by decide +kernel, q430, q9, q71, q431⟩
theorem mw_X6_refuseItem : MwV RX6 yX6_refuseItem cX6_refuseItem 4 (some .int) 3 := ⟨by decide +kernel, q774, q34, q71, q775⟩
theorem mw_X6_measureAnew : MwV RX6 yX6_measureAnew cX6_measureAnew 1 none 0 := ⟨by decide +kernel, q335, q3, q71, q336⟩
theorem mw_X6_knowParts : MwV RX6 yX6_knowParts cX6_knowParts 1 none 0 := ⟨by decide +kernel, q497, q10, q71, q498⟩
theorem mw_X6_weighLosses : MwV RX6 yX6_weighLosses cX6_weighLosses 6 none 2 := ⟨by decide +kernel, q562, q18, q71, q563⟩
theorem mw_X6_mostLost : MwV RX6 yX6_mostLost cX6_mostLost 3 (some .int) 0 := ⟨by decide +kernel, q577, q19, q71, q578⟩
theorem mw_X6_weighFall : MwV RX6 yX6_weighFall cX6_weighFall 4 none 1 := ⟨by decide +kernel, q588, q20, q71, q589⟩
theorem mw_X6_worthTo : MwV RX6 yX6_worthTo cX6_worthTo 5 (some .int) 2 := ⟨by decide +kernel, q613, q21, q71, q614⟩
theorem mw_X6_wouldRather : MwV RX6 yX6_wouldRather cX6_wouldRather 3 (some .boolean) 2 := ⟨by decide +kernel, q629, q23, q71, q630⟩
theorem mw_X6_wouldSwap : MwV RX6 yX6_wouldSwap cX6_wouldSwap 3 (some .boolean) 2 := ⟨by decide +kernel, q625, q22, q71, q626⟩
theorem mw_X6_countPairs : MwV RX6 yX6_countPairs cX6_countPairs 4 (some .int) 0 := ⟨by decide +kernel, q637, q24, q71, q638⟩
theorem mw_X6_countRings : MwV RX6 yX6_countRings cX6_countRings 5 (some .int) 0 := ⟨by decide +kernel, q641, q25, q71, q642⟩
theorem mw_X6_isRing : MwV RX6 yX6_isRing cX6_isRing 5 (some .boolean) 3 := ⟨by decide +kernel, q645, q26, q71, q646⟩
theorem mw_X6_fitsAllSeen : MwV RX6 yX6_fitsAllSeen cX6_fitsAllSeen 3 (some .boolean) 1 := ⟨by decide +kernel, q712, q31, q71, q713⟩
theorem mw_X6_countStanding : MwV RX6 yX6_countStanding cX6_countStanding 3 (some .int) 0 := ⟨by decide +kernel, q821, q35, q71, q822⟩
theorem mw_X6_countOwners : MwV RX6 yX6_countOwners cX6_countOwners 3 (some .int) 0 := ⟨by decide +kernel, q825, q36, q71, q826⟩
theorem mw_X7_in : MwS yX7_in cX7_in 3 (some .boolean) 3 := ⟨by decide +kernel, q961, q79, q962⟩
theorem mw_X7_isIn : MwS yX7_isIn cX7_isIn 2 (some .boolean) 2 := ⟨by decide +kernel, q1091, q79, q1092⟩
theorem mw_X7_ones : MwS yX7_ones cX7_ones 3 (some .int) 1 := ⟨by decide +kernel, q1056, q79, q1057⟩
theorem mw_X7_no : MwS yX7_no cX7_no 1 (some .long) 1 := ⟨by decide +kernel, q1211, q79, q1212⟩
theorem mw_X7_lowest : MwS yX7_lowest cX7_lowest 11 (some .long) 3 := ⟨by decide +kernel, q1208, q79, q1209⟩
theorem mw_X7_type : MwV RX7 yX7_type cX7_type 2 (some .int) 1 := ⟨by decide +kernel, q957, q958, q79, q959⟩
theorem mw_X7_wipe : MwV RX7 yX7_wipe cX7_wipe 2 (some .int) 0 := ⟨by decide +kernel, q964, q965, q79, q966⟩
theorem mw_X7_figureAt : MwV RX7 yX7_figureAt cX7_figureAt 3 (some .int) 1 := ⟨by decide +kernel, q977, q40, q79, q978⟩
theorem mw_X7_faultNow : MwV RX7 yX7_faultNow cX7_faultNow 6 (some .int) 0 := ⟨by decide +kernel, q973, q39, q79, q974⟩
theorem mw_X7_fault : MwV RX7 yX7_fault cX7_fault 1 (some .int) 0 := ⟨by decide +kernel, q968, q969, q79, q970⟩
theorem mw_X7_isCell : MwV RX7 yX7_isCell cX7_isCell 3 (some .boolean) 1 := ⟨by decide +kernel, q985, q41, q79, q986⟩
theorem mw_X7_isTwelve : MwS yX7_isTwelve cX7_isTwelve 1 (some .boolean) 1 := ⟨by decide +kernel, q996, q79, q997⟩
theorem mw_X7_isFour : MwS yX7_isFour cX7_isFour 1 (some .boolean) 1 := ⟨by decide +kernel, q1003, q79, q1004⟩
theorem mw_X7_cellOf : MwV RX7 yX7_cellOf cX7_cellOf 3 (some .int) 2 := ⟨by decide +kernel, q989, q42, q79, q990⟩
theorem mw_X7_cell : MwV RX7 yX7_cell cX7_cell 3 (some .int) 2 := ⟨by decide +kernel, q980, q981, q79, q982⟩
theorem mw_X7_stand : MwV RX7 yX7_stand cX7_stand 4 (some .int) 2 := ⟨by decide +kernel, q992, q993, q79, q994⟩
theorem mw_X7_owner : MwV RX7 yX7_owner cX7_owner 4 (some .int) 2 := ⟨by decide +kernel, q999, q1000, q79, q1001⟩
theorem mw_X7_read : MwV RX7 yX7_read cX7_read 3 (some .int) 1 := ⟨by decide +kernel, q1006, q1007, q79, q1008⟩
theorem mw_X7_days : MwV RX7 yX7_days cX7_days 4 (some .int) 2 := ⟨by decide +kernel, q1017, q1018, q79, q1019⟩
theorem mw_X7_steepOf : MwS yX7_steepOf cX7_steepOf 2 (some .int) 2 := ⟨by decide +kernel, q1025, q79, q1026⟩
theorem mw_X7_steep : MwV RX7 yX7_steep cX7_steep 3 (some .int) 2 := ⟨by decide +kernel, q1021, q1022, q79, q1023⟩
theorem mw_X7_shadeOf : MwV RX7 yX7_shadeOf cX7_shadeOf 8 (some .int) 3 := ⟨by decide +kernel, q1033, q44, q79, q1034⟩
theorem mw_X7_shade : MwV RX7 yX7_shade cX7_shade 4 (some .int) 3 := ⟨by decide +kernel, q1028, q1029, q79, q1030⟩
theorem mw_X7_lightOf : MwV RX7 yX7_lightOf cX7_lightOf 5 (some .int) 2 := ⟨by decide +kernel, q1041, q45, q79, q1042⟩
theorem mw_X7_light : MwV RX7 yX7_light cX7_light 3 (some .int) 2 := ⟨by decide +kernel, q1036, q1037, q79, q1038⟩
theorem mw_X7_yearOf : MwV RX7 yX7_yearOf cX7_yearOf 4 (some .int) 1 := ⟨by decide +kernel, q1053, q47, q79, q1054⟩
theorem mw_X7_hoursOf : MwV RX7 yX7_hoursOf cX7_hoursOf 3 (some .int) 2 := ⟨by decide +kernel, q1049, q46, q79, q1050⟩
theorem mw_X7_hours : MwV RX7 yX7_hours cX7_hours 3 (some .int) 2 := ⟨by decide +kernel, q1044, q1045, q79, q1046⟩
theorem mw_X7_hasOf : MwV RX7 yX7_hasOf cX7_hasOf 7 (some .int) 2 := ⟨by decide +kernel, q1064, q48, q79, q1065⟩
theorem mw_X7_has : MwV RX7 yX7_has cX7_has 3 (some .int) 2 := ⟨by decide +kernel, q1059, q1060, q79, q1061⟩
theorem mw_X7_laysYears : MwV RX7 yX7_laysYears cX7_laysYears 2 none 0 := ⟨by decide +kernel, q1080, q51, q79, q1081⟩
theorem mw_X7_isNext : MwV RX7 yX7_isNext cX7_isNext 4 (some .boolean) 2 := ⟨by decide +kernel, q1103, q56, q79, q1104⟩
theorem mw_X7_hangs : MwV RX7 yX7_hangs cX7_hangs 6 (some .boolean) 1 := ⟨by decide +kernel, q1099, q55, q79, q1100⟩
theorem mw_X7_all : MwV RX7 yX7_all cX7_all 1 (some .int) 0 := ⟨by decide +kernel, q1084, q52, q79, q1085⟩
theorem mw_X7_isParting : MwV RX7 yX7_isParting cX7_isParting 2 (some .boolean) 1 := ⟨by decide +kernel, q1095, q54, q79, q1096⟩
theorem mw_X7_differs : MwV RX7 yX7_differs cX7_differs 4 (some .int) 1 := ⟨by decide +kernel, q1088, q53, q79, q1089⟩
theorem mw_X7_partsNow : MwV RX7 yX7_partsNow cX7_partsNow 5 (some .int) 0 := ⟨by decide +kernel, q1076, q50, q79, q1077⟩
theorem mw_X7_partsOf : MwV RX7 yX7_partsOf cX7_partsOf 3 (some .int) 1 := ⟨by decide +kernel, q1072, q49, q79, q1073⟩
theorem mw_X7_parts : MwV RX7 yX7_parts cX7_parts 2 (some .int) 1 := ⟨by decide +kernel, q1067, q1068, q79, q1069⟩
theorem mw_X7_takenOf : MwV RX7 yX7_takenOf cX7_takenOf 7 (some .int) 3 := ⟨by decide +kernel, q1111, q57, q79, q1112⟩
theorem mw_X7_taken : MwV RX7 yX7_taken cX7_taken 4 (some .int) 3 := ⟨by decide +kernel, q1106, q1107, q79, q1108⟩
theorem mw_X7_highestOf : MwV RX7 yX7_highestOf cX7_highestOf 7 (some .int) 2 := ⟨by decide +kernel, q1121, q58, q79, q1122⟩
theorem mw_X7_highest : MwV RX7 yX7_highest cX7_highest 3 (some .int) 2 := ⟨by decide +kernel, q1115, q1116, q79, q1117⟩
theorem mw_X7_againOf : MwV RX7 yX7_againOf cX7_againOf 9 (some .int) 3 := ⟨by decide +kernel, q1129, q59, q79, q1130⟩
theorem mw_X7_again : MwV RX7 yX7_again cX7_again 4 (some .int) 3 := ⟨by decide +kernel, q1124, q1125, q79, q1126⟩
theorem mw_X7_worth : MwV RX7 yX7_worth cX7_worth 5 (some .int) 3 := ⟨by decide +kernel, q1132, q1133, q79, q1134⟩
theorem mw_X7_valueOf : MwV RX7 yX7_valueOf cX7_valueOf 5 (some .int) 2 := ⟨by decide +kernel, q1141, q60, q79, q1142⟩
theorem mw_X7_value : MwV RX7 yX7_value cX7_value 3 (some .int) 2 := ⟨by decide +kernel, q1136, q1137, q79, q1138⟩
theorem mw_X7_isRather : MwV RX7 yX7_isRather cX7_isRather 3 (some .boolean) 2 := ⟨by decide +kernel, q1153, q62, q79, q1154⟩
theorem mw_X7_isChange : MwV RX7 yX7_isChange cX7_isChange 3 (some .boolean) 2 := ⟨by decide +kernel, q1149, q61, q79, q1150⟩
theorem mw_X7_change : MwV RX7 yX7_change cX7_change 3 (some .int) 2 := ⟨by decide +kernel, q1144, q1145, q79, q1146⟩
theorem mw_X7_changesOf : MwV RX7 yX7_changesOf cX7_changesOf 9 (some .int) 1 := ⟨by decide +kernel, q1161, q63, q79, q1162⟩
theorem mw_X7_changes : MwV RX7 yX7_changes cX7_changes 2 (some .int) 1 := ⟨by decide +kernel, q1156, q1157, q79, q1158⟩
theorem mw_X7_sort : MwV RX7 yX7_sort cX7_sort 5 (some .int) 3 := ⟨by decide +kernel, q1164, q1165, q79, q1166⟩
theorem mw_X7_fives : MwS yX7_fives cX7_fives 1 (some .int) 1 := ⟨by decide +kernel, q1176, q79, q1177⟩
theorem mw_X7_setOf : MwV RX7 yX7_setOf cX7_setOf 7 (some .int) 1 := ⟨by decide +kernel, q1173, q64, q79, q1174⟩
theorem mw_X7_set : MwV RX7 yX7_set cX7_set 2 (some .int) 1 := ⟨by decide +kernel, q1168, q1169, q79, q1170⟩
theorem mw_X7_seen : MwV RX7 yX7_seen cX7_seen 3 (some .int) 2 := ⟨by decide +kernel, q1179, q1180, q79, q1181⟩
theorem mw_X7_forget : MwV RX7 yX7_forget cX7_forget 2 (some .int) 0 := ⟨by decide +kernel, q1183, q1184, q79, q1185⟩
theorem mw_X7_whoseOf : MwV RX7 yX7_whoseOf cX7_whoseOf 8 (some .int) 1 := ⟨by decide +kernel, q1192, q65, q79, q1193⟩
theorem mw_X7_whose : MwV RX7 yX7_whose cX7_whose 2 (some .int) 1 := ⟨by decide +kernel, q1187, q1188, q79, q1189⟩
theorem mw_X7_clouds : MwV RX7 yX7_clouds cX7_clouds 4 (some .int) 2 := ⟨by decide +kernel, q1195, q1196, q79, q1197⟩
theorem mw_X7_clearOf : MwV RX7 yX7_clearOf cX7_clearOf 12 (some .long) 4 := ⟨by decide +kernel, q1204, q66, q79, q1205⟩
theorem mw_X7_clear : MwV RX7 yX7_clear cX7_clear 5 (some .long) 4 := ⟨by decide +kernel, q1199, q1200, q79, q1201⟩
theorem mw_X7_meets : MwV RX7 yX7_meets cX7_meets 2 (some .int) 1 := ⟨by decide +kernel, q1014, q43, q79, q1015⟩
theorem mw_X7_isSheet : MwS yX7_isSheet cX7_isSheet 1 (some .boolean) 1 := ⟨by decide +kernel, q1010, q79, q1011⟩
theorem mw_X7_sheet : MwV RX7 yX7_sheet cX7_sheet 5 (some .int) 3 := ⟨by decide +kernel, q1215, q1216, q79, q1217⟩
theorem mw_X7_lose : MwV RX7 yX7_lose cX7_lose 2 (some .int) 1 := ⟨by decide +kernel, q1219, q1220, q79, q1221⟩
theorem mw_X7_lacks : MwV RX7 yX7_lacks cX7_lacks 4 (some .int) 3 := ⟨by decide +kernel, q1228, q67, q79, q1229⟩
theorem mw_X7_keep : MwV RX7 yX7_keep cX7_keep 4 none 3 := ⟨by decide +kernel, q1232, q68, q79, q1233⟩
theorem mw_X7_put : MwV RX7 yX7_put cX7_put 6 (some .int) 4 := ⟨by decide +kernel, q1223, q1224, q79, q1225⟩
theorem mw_X7_get : MwV RX7 yX7_get cX7_get 5 (some .int) 3 := ⟨by decide +kernel, q1235, q1236, q79, q1237⟩
theorem mw_X7_copy : MwV RX7 yX7_copy cX7_copy 7 (some .int) 5 := ⟨by decide +kernel, q1240, q1241, q79, q1242⟩
theorem mw_X7_write : MwV RX7 yX7_write cX7_write 5 (some .int) 2 := ⟨by decide +kernel, q1244, q1245, q79, q1246⟩
theorem mw_X7_sumOf : MwV RX7 yX7_sumOf cX7_sumOf 6 (some .int) 1 := ⟨by decide +kernel, q1253, q69, q79, q1254⟩
theorem mw_X7_count : MwV RX7 yX7_count cX7_count 2 (some .int) 1 := ⟨by decide +kernel, q1248, q1249, q79, q1250⟩
theorem mw_X7_digest : MwV RX7 yX7_digest cX7_digest 5 (some .long) 0 := ⟨by decide +kernel, q1256, q1257, q79, q1258⟩
theorem mw_J6_bitCount_0f7a4 : MwS yJ6_bitCount_0f7a4 cJ6_bitCount_0f7a4 1 (some .int) 1 := ⟨by decide +kernel, q362, q80, q363⟩
theorem mw_J9_abs_0f7a4 : MwS yJ9_abs_0f7a4 cJ9_abs_0f7a4 1 (some .int) 1 := ⟨by decide +kernel, q533, q81, q534⟩
theorem mw_J9_max_7cf53 : MwS yJ9_max_7cf53 cJ9_max_7cf53 2 (some .int) 2 := ⟨by decide +kernel, q580, q81, q581⟩
theorem mw_J9_min_7cf53 : MwS yJ9_min_7cf53 cJ9_min_7cf53 2 (some .int) 2 := ⟨by decide +kernel, q437, q81, q438⟩
theorem mw_J7_fill_d0a16 : MwS yJ7_fill_d0a16 cJ7_fill_d0a16 5 none 2 := ⟨by decide +kernel, q742, q78, q743⟩
theorem mw_J7_fill_53178 : MwS yJ7_fill_53178 cJ7_fill_53178 4 none 2 := ⟨by decide +kernel, q245, q78, q246⟩
end
